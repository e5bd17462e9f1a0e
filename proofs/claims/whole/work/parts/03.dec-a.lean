theorem dX4_init_0 : decode cX4_init 0 = .ok (.aload_n 0, 1) := by decide +kernel
theorem dX4_init_1 : decode cX4_init 1 = .ok (.invokespecial 3, 3) := by decide +kernel
theorem dX4_init_4 : decode cX4_init 4 = .ok (.aload_n 0, 1) := by decide +kernel
theorem dX4_init_5 : decode cX4_init 5 = .ok (.iload_n 2, 1) := by decide +kernel
theorem dX4_init_6 : decode cX4_init 6 = .ok (.putfield 9, 3) := by decide +kernel
theorem dX4_init_9 : decode cX4_init 9 = .ok (.aload_n 0, 1) := by decide +kernel
theorem dX4_init_10 : decode cX4_init 10 = .ok (.iload_n 1, 1) := by decide +kernel
theorem dX4_init_11 : decode cX4_init 11 = .ok (.iload_n 2, 1) := by decide +kernel
theorem dX4_init_12 : decode cX4_init 12 = .ok (.multianewarray 15 2, 4) := by decide +kernel
theorem dX4_init_16 : decode cX4_init 16 = .ok (.putfield 17, 3) := by decide +kernel
theorem dX4_init_19 : decode cX4_init 19 = .ok (.aload_n 0, 1) := by decide +kernel
theorem dX4_init_20 : decode cX4_init 20 = .ok (.iload_n 1, 1) := by decide +kernel
theorem dX4_init_21 : decode cX4_init 21 = .ok (.newarray .int, 2) := by decide +kernel
theorem dX4_init_23 : decode cX4_init 23 = .ok (.putfield 20, 3) := by decide +kernel
theorem dX4_init_26 : decode cX4_init 26 = .ok (.iconst 0, 1) := by decide +kernel
theorem dX4_init_27 : decode cX4_init 27 = .ok (.istore_n 3, 1) := by decide +kernel
theorem dX4_init_28 : decode cX4_init 28 = .ok (.iload_n 3, 1) := by decide +kernel
theorem dX4_init_29 : decode cX4_init 29 = .ok (.iload_n 1, 1) := by decide +kernel
theorem dX4_init_30 : decode cX4_init 30 = .ok (.if_icmp .ge 16, 3) := by decide +kernel
theorem dX4_init_33 : decode cX4_init 33 = .ok (.aload_n 0, 1) := by decide +kernel
theorem dX4_init_34 : decode cX4_init 34 = .ok (.getfield 20, 3) := by decide +kernel
theorem dX4_init_37 : decode cX4_init 37 = .ok (.iload_n 3, 1) := by decide +kernel
theorem dX4_init_38 : decode cX4_init 38 = .ok (.iconst (-1), 1) := by decide +kernel
theorem dX4_init_39 : decode cX4_init 39 = .ok (.iastore, 1) := by decide +kernel
theorem dX4_init_40 : decode cX4_init 40 = .ok (.iinc 3 1, 3) := by decide +kernel
theorem dX4_init_43 : decode cX4_init 43 = .ok (.goto (-15), 3) := by decide +kernel
theorem dX4_init_46 : decode cX4_init 46 = .ok (.return_, 1) := by decide +kernel
theorem dX4_names_0 : decode cX4_names 0 = .ok (.iload_n 1, 1) := by decide +kernel
theorem dX4_names_1 : decode cX4_names 1 = .ok (.ifCond .lt 16, 3) := by decide +kernel
theorem dX4_names_4 : decode cX4_names 4 = .ok (.iload_n 1, 1) := by decide +kernel
theorem dX4_names_5 : decode cX4_names 5 = .ok (.aload_n 0, 1) := by decide +kernel
theorem dX4_names_6 : decode cX4_names 6 = .ok (.getfield 20, 3) := by decide +kernel
theorem dX4_names_9 : decode cX4_names 9 = .ok (.arraylength, 1) := by decide +kernel
theorem dX4_names_10 : decode cX4_names 10 = .ok (.if_icmp .ge 7, 3) := by decide +kernel
theorem dX4_names_13 : decode cX4_names 13 = .ok (.iconst 1, 1) := by decide +kernel
theorem dX4_names_14 : decode cX4_names 14 = .ok (.goto 4, 3) := by decide +kernel
theorem dX4_names_17 : decode cX4_names 17 = .ok (.iconst 0, 1) := by decide +kernel
theorem dX4_names_18 : decode cX4_names 18 = .ok (.ireturn, 1) := by decide +kernel
theorem dX4_holds_0 : decode cX4_holds 0 = .ok (.aload_n 0, 1) := by decide +kernel
theorem dX4_holds_1 : decode cX4_holds 1 = .ok (.iload_n 1, 1) := by decide +kernel
theorem dX4_holds_2 : decode cX4_holds 2 = .ok (.invokevirtual 24, 3) := by decide +kernel
theorem dX4_holds_5 : decode cX4_holds 5 = .ok (.ifCond .lt 7, 3) := by decide +kernel
theorem dX4_holds_8 : decode cX4_holds 8 = .ok (.iconst 1, 1) := by decide +kernel
theorem dX4_holds_9 : decode cX4_holds 9 = .ok (.goto 4, 3) := by decide +kernel
theorem dX4_holds_12 : decode cX4_holds 12 = .ok (.iconst 0, 1) := by decide +kernel
theorem dX4_holds_13 : decode cX4_holds 13 = .ok (.ireturn, 1) := by decide +kernel
theorem dX4_sizeOf_0 : decode cX4_sizeOf 0 = .ok (.iload_n 1, 1) := by decide +kernel
theorem dX4_sizeOf_1 : decode cX4_sizeOf 1 = .ok (.ifCond .lt 21, 3) := by decide +kernel
theorem dX4_sizeOf_4 : decode cX4_sizeOf 4 = .ok (.iload_n 1, 1) := by decide +kernel
theorem dX4_sizeOf_5 : decode cX4_sizeOf 5 = .ok (.aload_n 0, 1) := by decide +kernel
theorem dX4_sizeOf_6 : decode cX4_sizeOf 6 = .ok (.getfield 20, 3) := by decide +kernel
theorem dX4_sizeOf_9 : decode cX4_sizeOf 9 = .ok (.arraylength, 1) := by decide +kernel
theorem dX4_sizeOf_10 : decode cX4_sizeOf 10 = .ok (.if_icmp .ge 12, 3) := by decide +kernel
theorem dX4_sizeOf_13 : decode cX4_sizeOf 13 = .ok (.aload_n 0, 1) := by decide +kernel
theorem dX4_sizeOf_14 : decode cX4_sizeOf 14 = .ok (.getfield 20, 3) := by decide +kernel
theorem dX4_sizeOf_17 : decode cX4_sizeOf 17 = .ok (.iload_n 1, 1) := by decide +kernel
theorem dX4_sizeOf_18 : decode cX4_sizeOf 18 = .ok (.iaload, 1) := by decide +kernel
theorem dX4_sizeOf_19 : decode cX4_sizeOf 19 = .ok (.goto 4, 3) := by decide +kernel
theorem dX4_sizeOf_22 : decode cX4_sizeOf 22 = .ok (.iconst (-1), 1) := by decide +kernel
theorem dX4_sizeOf_23 : decode cX4_sizeOf 23 = .ok (.ireturn, 1) := by decide +kernel
theorem dX4_reaches_0 : decode cX4_reaches 0 = .ok (.iload_n 2, 1) := by decide +kernel
theorem dX4_reaches_1 : decode cX4_reaches 1 = .ok (.ifCond .lt 16, 3) := by decide +kernel
theorem dX4_reaches_4 : decode cX4_reaches 4 = .ok (.iload_n 2, 1) := by decide +kernel
theorem dX4_reaches_5 : decode cX4_reaches 5 = .ok (.aload_n 0, 1) := by decide +kernel
theorem dX4_reaches_6 : decode cX4_reaches 6 = .ok (.iload_n 1, 1) := by decide +kernel
theorem dX4_reaches_7 : decode cX4_reaches 7 = .ok (.invokevirtual 24, 3) := by decide +kernel
theorem dX4_reaches_10 : decode cX4_reaches 10 = .ok (.if_icmp .ge 7, 3) := by decide +kernel
theorem dX4_reaches_13 : decode cX4_reaches 13 = .ok (.iconst 1, 1) := by decide +kernel
theorem dX4_reaches_14 : decode cX4_reaches 14 = .ok (.goto 4, 3) := by decide +kernel
theorem dX4_reaches_17 : decode cX4_reaches 17 = .ok (.iconst 0, 1) := by decide +kernel
theorem dX4_reaches_18 : decode cX4_reaches 18 = .ok (.ireturn, 1) := by decide +kernel
theorem dX4_spans_0 : decode cX4_spans 0 = .ok (.aload_n 0, 1) := by decide +kernel
theorem dX4_spans_1 : decode cX4_spans 1 = .ok (.iload_n 1, 1) := by decide +kernel
theorem dX4_spans_2 : decode cX4_spans 2 = .ok (.invokevirtual 24, 3) := by decide +kernel
theorem dX4_spans_5 : decode cX4_spans 5 = .ok (.istore 4, 2) := by decide +kernel
theorem dX4_spans_7 : decode cX4_spans 7 = .ok (.iload_n 2, 1) := by decide +kernel
theorem dX4_spans_8 : decode cX4_spans 8 = .ok (.ifCond .lt 25, 3) := by decide +kernel
theorem dX4_spans_11 : decode cX4_spans 11 = .ok (.iload_n 3, 1) := by decide +kernel
theorem dX4_spans_12 : decode cX4_spans 12 = .ok (.ifCond .lt 21, 3) := by decide +kernel
theorem dX4_spans_15 : decode cX4_spans 15 = .ok (.iload_n 3, 1) := by decide +kernel
theorem dX4_spans_16 : decode cX4_spans 16 = .ok (.iload 4, 2) := by decide +kernel
theorem dX4_spans_18 : decode cX4_spans 18 = .ok (.if_icmp .gt 15, 3) := by decide +kernel
theorem dX4_spans_21 : decode cX4_spans 21 = .ok (.iload_n 2, 1) := by decide +kernel
theorem dX4_spans_22 : decode cX4_spans 22 = .ok (.iload 4, 2) := by decide +kernel
theorem dX4_spans_24 : decode cX4_spans 24 = .ok (.iload_n 3, 1) := by decide +kernel
theorem dX4_spans_25 : decode cX4_spans 25 = .ok (.isub, 1) := by decide +kernel
theorem dX4_spans_26 : decode cX4_spans 26 = .ok (.if_icmp .gt 7, 3) := by decide +kernel
theorem dX4_spans_29 : decode cX4_spans 29 = .ok (.iconst 1, 1) := by decide +kernel
theorem dX4_spans_30 : decode cX4_spans 30 = .ok (.goto 4, 3) := by decide +kernel
theorem dX4_spans_33 : decode cX4_spans 33 = .ok (.iconst 0, 1) := by decide +kernel
theorem dX4_spans_34 : decode cX4_spans 34 = .ok (.ireturn, 1) := by decide +kernel
theorem dX4_get_0 : decode cX4_get 0 = .ok (.aload_n 0, 1) := by decide +kernel
theorem dX4_get_1 : decode cX4_get 1 = .ok (.iload_n 1, 1) := by decide +kernel
theorem dX4_get_2 : decode cX4_get 2 = .ok (.iload_n 2, 1) := by decide +kernel
theorem dX4_get_3 : decode cX4_get 3 = .ok (.invokevirtual 28, 3) := by decide +kernel
theorem dX4_get_6 : decode cX4_get 6 = .ok (.ifCond .eq 14, 3) := by decide +kernel
theorem dX4_get_9 : decode cX4_get 9 = .ok (.aload_n 0, 1) := by decide +kernel
theorem dX4_get_10 : decode cX4_get 10 = .ok (.getfield 17, 3) := by decide +kernel
theorem dX4_get_13 : decode cX4_get 13 = .ok (.iload_n 1, 1) := by decide +kernel
theorem dX4_get_14 : decode cX4_get 14 = .ok (.aaload, 1) := by decide +kernel
theorem dX4_get_15 : decode cX4_get 15 = .ok (.iload_n 2, 1) := by decide +kernel
theorem dX4_get_16 : decode cX4_get 16 = .ok (.iaload, 1) := by decide +kernel
theorem dX4_get_17 : decode cX4_get 17 = .ok (.goto 4, 3) := by decide +kernel
theorem dX4_get_20 : decode cX4_get 20 = .ok (.iconst 0, 1) := by decide +kernel
theorem dX4_get_21 : decode cX4_get 21 = .ok (.ireturn, 1) := by decide +kernel
theorem dX4_set_0 : decode cX4_set 0 = .ok (.aload_n 0, 1) := by decide +kernel
theorem dX4_set_1 : decode cX4_set 1 = .ok (.iload_n 1, 1) := by decide +kernel
theorem dX4_set_2 : decode cX4_set 2 = .ok (.iload_n 2, 1) := by decide +kernel
theorem dX4_set_3 : decode cX4_set 3 = .ok (.invokevirtual 28, 3) := by decide +kernel
theorem dX4_set_6 : decode cX4_set 6 = .ok (.ifCond .eq 12, 3) := by decide +kernel
theorem dX4_set_9 : decode cX4_set 9 = .ok (.aload_n 0, 1) := by decide +kernel
theorem dX4_set_10 : decode cX4_set 10 = .ok (.getfield 17, 3) := by decide +kernel
theorem dX4_set_13 : decode cX4_set 13 = .ok (.iload_n 1, 1) := by decide +kernel
theorem dX4_set_14 : decode cX4_set 14 = .ok (.aaload, 1) := by decide +kernel
theorem dX4_set_15 : decode cX4_set 15 = .ok (.iload_n 2, 1) := by decide +kernel
theorem dX4_set_16 : decode cX4_set 16 = .ok (.iload_n 3, 1) := by decide +kernel
theorem dX4_set_17 : decode cX4_set 17 = .ok (.iastore, 1) := by decide +kernel
theorem dX4_set_18 : decode cX4_set 18 = .ok (.return_, 1) := by decide +kernel
theorem dX4_open_0 : decode cX4_open 0 = .ok (.aload_n 0, 1) := by decide +kernel
theorem dX4_open_1 : decode cX4_open 1 = .ok (.iload_n 1, 1) := by decide +kernel
theorem dX4_open_2 : decode cX4_open 2 = .ok (.invokevirtual 32, 3) := by decide +kernel
theorem dX4_open_5 : decode cX4_open 5 = .ok (.ifCond .eq 15, 3) := by decide +kernel
theorem dX4_open_8 : decode cX4_open 8 = .ok (.iload_n 2, 1) := by decide +kernel
theorem dX4_open_9 : decode cX4_open 9 = .ok (.ifCond .lt 11, 3) := by decide +kernel
theorem dX4_open_12 : decode cX4_open 12 = .ok (.iload_n 2, 1) := by decide +kernel
theorem dX4_open_13 : decode cX4_open 13 = .ok (.aload_n 0, 1) := by decide +kernel
theorem dX4_open_14 : decode cX4_open 14 = .ok (.getfield 9, 3) := by decide +kernel
theorem dX4_open_17 : decode cX4_open 17 = .ok (.if_icmp .le 4, 3) := by decide +kernel
theorem dX4_open_20 : decode cX4_open 20 = .ok (.return_, 1) := by decide +kernel
theorem dX4_open_21 : decode cX4_open 21 = .ok (.aload_n 0, 1) := by decide +kernel
theorem dX4_open_22 : decode cX4_open 22 = .ok (.getfield 20, 3) := by decide +kernel
theorem dX4_open_25 : decode cX4_open 25 = .ok (.iload_n 1, 1) := by decide +kernel
theorem dX4_open_26 : decode cX4_open 26 = .ok (.iload_n 2, 1) := by decide +kernel
theorem dX4_open_27 : decode cX4_open 27 = .ok (.iastore, 1) := by decide +kernel
theorem dX4_open_28 : decode cX4_open 28 = .ok (.iconst 0, 1) := by decide +kernel
theorem dX4_open_29 : decode cX4_open 29 = .ok (.istore 4, 2) := by decide +kernel
theorem dX4_open_31 : decode cX4_open 31 = .ok (.iload 4, 2) := by decide +kernel
theorem dX4_open_33 : decode cX4_open 33 = .ok (.iload_n 2, 1) := by decide +kernel
theorem dX4_open_34 : decode cX4_open 34 = .ok (.if_icmp .ge 19, 3) := by decide +kernel
theorem dX4_open_37 : decode cX4_open 37 = .ok (.aload_n 0, 1) := by decide +kernel
theorem dX4_open_38 : decode cX4_open 38 = .ok (.getfield 17, 3) := by decide +kernel
theorem dX4_open_41 : decode cX4_open 41 = .ok (.iload_n 1, 1) := by decide +kernel
theorem dX4_open_42 : decode cX4_open 42 = .ok (.aaload, 1) := by decide +kernel
theorem dX4_open_43 : decode cX4_open 43 = .ok (.iload 4, 2) := by decide +kernel
theorem dX4_open_45 : decode cX4_open 45 = .ok (.iload_n 3, 1) := by decide +kernel
theorem dX4_open_46 : decode cX4_open 46 = .ok (.iastore, 1) := by decide +kernel
theorem dX4_open_47 : decode cX4_open 47 = .ok (.iinc 4 1, 3) := by decide +kernel
theorem dX4_open_50 : decode cX4_open 50 = .ok (.goto (-19), 3) := by decide +kernel
theorem dX4_open_53 : decode cX4_open 53 = .ok (.return_, 1) := by decide +kernel
theorem dX4_close_0 : decode cX4_close 0 = .ok (.aload_n 0, 1) := by decide +kernel
theorem dX4_close_1 : decode cX4_close 1 = .ok (.iload_n 1, 1) := by decide +kernel
theorem dX4_close_2 : decode cX4_close 2 = .ok (.invokevirtual 32, 3) := by decide +kernel
theorem dX4_close_5 : decode cX4_close 5 = .ok (.ifCond .eq 10, 3) := by decide +kernel
theorem dX4_close_8 : decode cX4_close 8 = .ok (.aload_n 0, 1) := by decide +kernel
theorem dX4_close_9 : decode cX4_close 9 = .ok (.getfield 20, 3) := by decide +kernel
theorem dX4_close_12 : decode cX4_close 12 = .ok (.iload_n 1, 1) := by decide +kernel
theorem dX4_close_13 : decode cX4_close 13 = .ok (.iconst (-1), 1) := by decide +kernel
theorem dX4_close_14 : decode cX4_close 14 = .ok (.iastore, 1) := by decide +kernel
theorem dX4_close_15 : decode cX4_close 15 = .ok (.return_, 1) := by decide +kernel
theorem dX4_transfer_0 : decode cX4_transfer 0 = .ok (.aload_n 0, 1) := by decide +kernel
theorem dX4_transfer_1 : decode cX4_transfer 1 = .ok (.iload_n 1, 1) := by decide +kernel
theorem dX4_transfer_2 : decode cX4_transfer 2 = .ok (.iload_n 2, 1) := by decide +kernel
theorem dX4_transfer_3 : decode cX4_transfer 3 = .ok (.iload 5, 2) := by decide +kernel
theorem dX4_transfer_5 : decode cX4_transfer 5 = .ok (.invokevirtual 36, 3) := by decide +kernel
theorem dX4_transfer_8 : decode cX4_transfer 8 = .ok (.ifCond .eq 35, 3) := by decide +kernel
theorem dX4_transfer_11 : decode cX4_transfer 11 = .ok (.aload_n 0, 1) := by decide +kernel
theorem dX4_transfer_12 : decode cX4_transfer 12 = .ok (.iload_n 3, 1) := by decide +kernel
theorem dX4_transfer_13 : decode cX4_transfer 13 = .ok (.iload 4, 2) := by decide +kernel
theorem dX4_transfer_15 : decode cX4_transfer 15 = .ok (.iload 5, 2) := by decide +kernel
theorem dX4_transfer_17 : decode cX4_transfer 17 = .ok (.invokevirtual 36, 3) := by decide +kernel
theorem dX4_transfer_20 : decode cX4_transfer 20 = .ok (.ifCond .eq 23, 3) := by decide +kernel
theorem dX4_transfer_23 : decode cX4_transfer 23 = .ok (.aload_n 0, 1) := by decide +kernel
theorem dX4_transfer_24 : decode cX4_transfer 24 = .ok (.getfield 17, 3) := by decide +kernel
theorem dX4_transfer_27 : decode cX4_transfer 27 = .ok (.iload_n 1, 1) := by decide +kernel
theorem dX4_transfer_28 : decode cX4_transfer 28 = .ok (.aaload, 1) := by decide +kernel
theorem dX4_transfer_29 : decode cX4_transfer 29 = .ok (.iload_n 2, 1) := by decide +kernel
theorem dX4_transfer_30 : decode cX4_transfer 30 = .ok (.aload_n 0, 1) := by decide +kernel
theorem dX4_transfer_31 : decode cX4_transfer 31 = .ok (.getfield 17, 3) := by decide +kernel
theorem dX4_transfer_34 : decode cX4_transfer 34 = .ok (.iload_n 3, 1) := by decide +kernel
theorem dX4_transfer_35 : decode cX4_transfer 35 = .ok (.aaload, 1) := by decide +kernel
theorem dX4_transfer_36 : decode cX4_transfer 36 = .ok (.iload 4, 2) := by decide +kernel
theorem dX4_transfer_38 : decode cX4_transfer 38 = .ok (.iload 5, 2) := by decide +kernel
theorem dX4_transfer_40 : decode cX4_transfer 40 = .ok (.invokestatic 40, 3) := by decide +kernel
theorem dX4_transfer_43 : decode cX4_transfer 43 = .ok (.return_, 1) := by decide +kernel
theorem dX4_sumOf_0 : decode cX4_sumOf 0 = .ok (.lconst 0, 1) := by decide +kernel
theorem dX4_sumOf_1 : decode cX4_sumOf 1 = .ok (.lstore_n 2, 1) := by decide +kernel
theorem dX4_sumOf_2 : decode cX4_sumOf 2 = .ok (.aload_n 0, 1) := by decide +kernel
theorem dX4_sumOf_3 : decode cX4_sumOf 3 = .ok (.iload_n 1, 1) := by decide +kernel
theorem dX4_sumOf_4 : decode cX4_sumOf 4 = .ok (.invokevirtual 24, 3) := by decide +kernel
theorem dX4_sumOf_7 : decode cX4_sumOf 7 = .ok (.istore 4, 2) := by decide +kernel
theorem dX4_sumOf_9 : decode cX4_sumOf 9 = .ok (.iconst 0, 1) := by decide +kernel
theorem dX4_sumOf_10 : decode cX4_sumOf 10 = .ok (.istore 5, 2) := by decide +kernel
theorem dX4_sumOf_12 : decode cX4_sumOf 12 = .ok (.iload 5, 2) := by decide +kernel
theorem dX4_sumOf_14 : decode cX4_sumOf 14 = .ok (.iload 4, 2) := by decide +kernel
theorem dX4_sumOf_16 : decode cX4_sumOf 16 = .ok (.if_icmp .ge 22, 3) := by decide +kernel
theorem dX4_sumOf_19 : decode cX4_sumOf 19 = .ok (.lload_n 2, 1) := by decide +kernel
theorem dX4_sumOf_20 : decode cX4_sumOf 20 = .ok (.aload_n 0, 1) := by decide +kernel
theorem dX4_sumOf_21 : decode cX4_sumOf 21 = .ok (.getfield 17, 3) := by decide +kernel
theorem dX4_sumOf_24 : decode cX4_sumOf 24 = .ok (.iload_n 1, 1) := by decide +kernel
theorem dX4_sumOf_25 : decode cX4_sumOf 25 = .ok (.aaload, 1) := by decide +kernel
theorem dX4_sumOf_26 : decode cX4_sumOf 26 = .ok (.iload 5, 2) := by decide +kernel
theorem dX4_sumOf_28 : decode cX4_sumOf 28 = .ok (.iaload, 1) := by decide +kernel
theorem dX4_sumOf_29 : decode cX4_sumOf 29 = .ok (.i2l, 1) := by decide +kernel
theorem dX4_sumOf_30 : decode cX4_sumOf 30 = .ok (.ladd, 1) := by decide +kernel
theorem dX4_sumOf_31 : decode cX4_sumOf 31 = .ok (.lstore_n 2, 1) := by decide +kernel
theorem dX4_sumOf_32 : decode cX4_sumOf 32 = .ok (.iinc 5 1, 3) := by decide +kernel
theorem dX4_sumOf_35 : decode cX4_sumOf 35 = .ok (.goto (-23), 3) := by decide +kernel
theorem dX4_sumOf_38 : decode cX4_sumOf 38 = .ok (.lload_n 2, 1) := by decide +kernel
theorem dX4_sumOf_39 : decode cX4_sumOf 39 = .ok (.lreturn, 1) := by decide +kernel
theorem dX4_held_0 : decode cX4_held 0 = .ok (.iconst 0, 1) := by decide +kernel
theorem dX4_held_1 : decode cX4_held 1 = .ok (.istore_n 1, 1) := by decide +kernel
theorem dX4_held_2 : decode cX4_held 2 = .ok (.iconst 0, 1) := by decide +kernel
theorem dX4_held_3 : decode cX4_held 3 = .ok (.istore_n 2, 1) := by decide +kernel
theorem dX4_held_4 : decode cX4_held 4 = .ok (.iload_n 2, 1) := by decide +kernel
theorem dX4_held_5 : decode cX4_held 5 = .ok (.aload_n 0, 1) := by decide +kernel
theorem dX4_held_6 : decode cX4_held 6 = .ok (.getfield 20, 3) := by decide +kernel
theorem dX4_held_9 : decode cX4_held 9 = .ok (.arraylength, 1) := by decide +kernel
theorem dX4_held_10 : decode cX4_held 10 = .ok (.if_icmp .ge 21, 3) := by decide +kernel
theorem dX4_held_13 : decode cX4_held 13 = .ok (.aload_n 0, 1) := by decide +kernel
theorem dX4_held_14 : decode cX4_held 14 = .ok (.getfield 20, 3) := by decide +kernel
theorem dX4_held_17 : decode cX4_held 17 = .ok (.iload_n 2, 1) := by decide +kernel
theorem dX4_held_18 : decode cX4_held 18 = .ok (.iaload, 1) := by decide +kernel
theorem dX4_held_19 : decode cX4_held 19 = .ok (.ifCond .lt 6, 3) := by decide +kernel
theorem dX4_held_22 : decode cX4_held 22 = .ok (.iinc 1 1, 3) := by decide +kernel
theorem dX4_held_25 : decode cX4_held 25 = .ok (.iinc 2 1, 3) := by decide +kernel
theorem dX4_held_28 : decode cX4_held 28 = .ok (.goto (-24), 3) := by decide +kernel
theorem dX4_held_31 : decode cX4_held 31 = .ok (.iload_n 1, 1) := by decide +kernel
theorem dX4_held_32 : decode cX4_held 32 = .ok (.ireturn, 1) := by decide +kernel
theorem dX4_mixedInto_0 : decode cX4_mixedInto 0 = .ok (.lload_n 1, 1) := by decide +kernel
theorem dX4_mixedInto_1 : decode cX4_mixedInto 1 = .ok (.lstore_n 3, 1) := by decide +kernel
theorem dX4_mixedInto_2 : decode cX4_mixedInto 2 = .ok (.iconst 0, 1) := by decide +kernel
theorem dX4_mixedInto_3 : decode cX4_mixedInto 3 = .ok (.istore 5, 2) := by decide +kernel
theorem dX4_mixedInto_5 : decode cX4_mixedInto 5 = .ok (.iload 5, 2) := by decide +kernel
theorem dX4_mixedInto_7 : decode cX4_mixedInto 7 = .ok (.aload_n 0, 1) := by decide +kernel
theorem dX4_mixedInto_8 : decode cX4_mixedInto 8 = .ok (.getfield 20, 3) := by decide +kernel
theorem dX4_mixedInto_11 : decode cX4_mixedInto 11 = .ok (.arraylength, 1) := by decide +kernel
theorem dX4_mixedInto_12 : decode cX4_mixedInto 12 = .ok (.if_icmp .ge 63, 3) := by decide +kernel
theorem dX4_mixedInto_15 : decode cX4_mixedInto 15 = .ok (.ldc2_w 46, 3) := by decide +kernel
theorem dX4_mixedInto_18 : decode cX4_mixedInto 18 = .ok (.lload_n 3, 1) := by decide +kernel
theorem dX4_mixedInto_19 : decode cX4_mixedInto 19 = .ok (.lmul, 1) := by decide +kernel
theorem dX4_mixedInto_20 : decode cX4_mixedInto 20 = .ok (.aload_n 0, 1) := by decide +kernel
theorem dX4_mixedInto_21 : decode cX4_mixedInto 21 = .ok (.getfield 20, 3) := by decide +kernel
theorem dX4_mixedInto_24 : decode cX4_mixedInto 24 = .ok (.iload 5, 2) := by decide +kernel
theorem dX4_mixedInto_26 : decode cX4_mixedInto 26 = .ok (.iaload, 1) := by decide +kernel
theorem dX4_mixedInto_27 : decode cX4_mixedInto 27 = .ok (.i2l, 1) := by decide +kernel
theorem dX4_mixedInto_28 : decode cX4_mixedInto 28 = .ok (.ladd, 1) := by decide +kernel
theorem dX4_mixedInto_29 : decode cX4_mixedInto 29 = .ok (.lstore_n 3, 1) := by decide +kernel
theorem dX4_mixedInto_30 : decode cX4_mixedInto 30 = .ok (.iconst 0, 1) := by decide +kernel
theorem dX4_mixedInto_31 : decode cX4_mixedInto 31 = .ok (.istore 6, 2) := by decide +kernel
theorem dX4_mixedInto_33 : decode cX4_mixedInto 33 = .ok (.iload 6, 2) := by decide +kernel
theorem dX4_mixedInto_35 : decode cX4_mixedInto 35 = .ok (.aload_n 0, 1) := by decide +kernel
theorem dX4_mixedInto_36 : decode cX4_mixedInto 36 = .ok (.getfield 20, 3) := by decide +kernel
theorem dX4_mixedInto_39 : decode cX4_mixedInto 39 = .ok (.iload 5, 2) := by decide +kernel
theorem dX4_mixedInto_41 : decode cX4_mixedInto 41 = .ok (.iaload, 1) := by decide +kernel
theorem dX4_mixedInto_42 : decode cX4_mixedInto 42 = .ok (.if_icmp .ge 27, 3) := by decide +kernel
theorem dX4_mixedInto_45 : decode cX4_mixedInto 45 = .ok (.ldc2_w 46, 3) := by decide +kernel
theorem dX4_mixedInto_48 : decode cX4_mixedInto 48 = .ok (.lload_n 3, 1) := by decide +kernel
theorem dX4_mixedInto_49 : decode cX4_mixedInto 49 = .ok (.lmul, 1) := by decide +kernel
theorem dX4_mixedInto_50 : decode cX4_mixedInto 50 = .ok (.aload_n 0, 1) := by decide +kernel
theorem dX4_mixedInto_51 : decode cX4_mixedInto 51 = .ok (.getfield 17, 3) := by decide +kernel
theorem dX4_mixedInto_54 : decode cX4_mixedInto 54 = .ok (.iload 5, 2) := by decide +kernel
theorem dX4_mixedInto_56 : decode cX4_mixedInto 56 = .ok (.aaload, 1) := by decide +kernel
theorem dX4_mixedInto_57 : decode cX4_mixedInto 57 = .ok (.iload 6, 2) := by decide +kernel
theorem dX4_mixedInto_59 : decode cX4_mixedInto 59 = .ok (.iaload, 1) := by decide +kernel
theorem dX4_mixedInto_60 : decode cX4_mixedInto 60 = .ok (.i2l, 1) := by decide +kernel
theorem dX4_mixedInto_61 : decode cX4_mixedInto 61 = .ok (.ladd, 1) := by decide +kernel
theorem dX4_mixedInto_62 : decode cX4_mixedInto 62 = .ok (.lstore_n 3, 1) := by decide +kernel
theorem dX4_mixedInto_63 : decode cX4_mixedInto 63 = .ok (.iinc 6 1, 3) := by decide +kernel
theorem dX4_mixedInto_66 : decode cX4_mixedInto 66 = .ok (.goto (-33), 3) := by decide +kernel
theorem dX4_mixedInto_69 : decode cX4_mixedInto 69 = .ok (.iinc 5 1, 3) := by decide +kernel
theorem dX4_mixedInto_72 : decode cX4_mixedInto 72 = .ok (.goto (-67), 3) := by decide +kernel
theorem dX4_mixedInto_75 : decode cX4_mixedInto 75 = .ok (.lload_n 3, 1) := by decide +kernel
theorem dX4_mixedInto_76 : decode cX4_mixedInto 76 = .ok (.lreturn, 1) := by decide +kernel
theorem dX3_init_0 : decode cX3_init 0 = .ok (.aload_n 0, 1) := by decide +kernel
theorem dX3_init_1 : decode cX3_init 1 = .ok (.invokespecial 3, 3) := by decide +kernel
theorem dX3_init_4 : decode cX3_init 4 = .ok (.aload_n 0, 1) := by decide +kernel
theorem dX3_init_5 : decode cX3_init 5 = .ok (.bipush 10, 2) := by decide +kernel
theorem dX3_init_7 : decode cX3_init 7 = .ok (.newarray .int, 2) := by decide +kernel
theorem dX3_init_9 : decode cX3_init 9 = .ok (.putfield 9, 3) := by decide +kernel
theorem dX3_init_12 : decode cX3_init 12 = .ok (.aload_n 0, 1) := by decide +kernel
theorem dX3_init_13 : decode cX3_init 13 = .ok (.iconst 3, 1) := by decide +kernel
theorem dX3_init_14 : decode cX3_init 14 = .ok (.newarray .int, 2) := by decide +kernel
theorem dX3_init_16 : decode cX3_init 16 = .ok (.putfield 15, 3) := by decide +kernel
theorem dX3_init_19 : decode cX3_init 19 = .ok (.aload_n 0, 1) := by decide +kernel
theorem dX3_init_20 : decode cX3_init 20 = .ok (.iconst 3, 1) := by decide +kernel
theorem dX3_init_21 : decode cX3_init 21 = .ok (.newarray .int, 2) := by decide +kernel
theorem dX3_init_23 : decode cX3_init 23 = .ok (.putfield 18, 3) := by decide +kernel
theorem dX3_init_26 : decode cX3_init 26 = .ok (.aload_n 0, 1) := by decide +kernel
theorem dX3_init_27 : decode cX3_init 27 = .ok (.iconst 3, 1) := by decide +kernel
theorem dX3_init_28 : decode cX3_init 28 = .ok (.newarray .int, 2) := by decide +kernel
theorem dX3_init_30 : decode cX3_init 30 = .ok (.putfield 21, 3) := by decide +kernel
theorem dX3_init_33 : decode cX3_init 33 = .ok (.aload_n 0, 1) := by decide +kernel
theorem dX3_init_34 : decode cX3_init 34 = .ok (.iconst 0, 1) := by decide +kernel
theorem dX3_init_35 : decode cX3_init 35 = .ok (.putfield 24, 3) := by decide +kernel
theorem dX3_init_38 : decode cX3_init 38 = .ok (.aload_n 0, 1) := by decide +kernel
theorem dX3_init_39 : decode cX3_init 39 = .ok (.iconst 0, 1) := by decide +kernel
theorem dX3_init_40 : decode cX3_init 40 = .ok (.putfield 28, 3) := by decide +kernel
theorem dX3_init_43 : decode cX3_init 43 = .ok (.return_, 1) := by decide +kernel
theorem dX3_read_0 : decode cX3_read 0 = .ok (.aload_n 0, 1) := by decide +kernel
theorem dX3_read_1 : decode cX3_read 1 = .ok (.iconst 0, 1) := by decide +kernel
theorem dX3_read_2 : decode cX3_read 2 = .ok (.putfield 24, 3) := by decide +kernel
theorem dX3_read_5 : decode cX3_read 5 = .ok (.aload_n 0, 1) := by decide +kernel
theorem dX3_read_6 : decode cX3_read 6 = .ok (.iconst 0, 1) := by decide +kernel
theorem dX3_read_7 : decode cX3_read 7 = .ok (.putfield 28, 3) := by decide +kernel
theorem dX3_read_10 : decode cX3_read 10 = .ok (.aload_n 1, 1) := by decide +kernel
theorem dX3_read_11 : decode cX3_read 11 = .ok (.iload_n 2, 1) := by decide +kernel
theorem dX3_read_12 : decode cX3_read 12 = .ok (.invokevirtual 31, 3) := by decide +kernel
theorem dX3_read_15 : decode cX3_read 15 = .ok (.istore_n 3, 1) := by decide +kernel
theorem dX3_read_16 : decode cX3_read 16 = .ok (.aload_n 0, 1) := by decide +kernel
theorem dX3_read_17 : decode cX3_read 17 = .ok (.aload_n 1, 1) := by decide +kernel
theorem dX3_read_18 : decode cX3_read 18 = .ok (.iload_n 2, 1) := by decide +kernel
theorem dX3_read_19 : decode cX3_read 19 = .ok (.iconst 0, 1) := by decide +kernel
theorem dX3_read_20 : decode cX3_read 20 = .ok (.invokevirtual 37, 3) := by decide +kernel
theorem dX3_read_23 : decode cX3_read 23 = .ok (.istore 4, 2) := by decide +kernel
theorem dX3_read_25 : decode cX3_read 25 = .ok (.iload 4, 2) := by decide +kernel
theorem dX3_read_27 : decode cX3_read 27 = .ok (.iload_n 3, 1) := by decide +kernel
theorem dX3_read_28 : decode cX3_read 28 = .ok (.if_icmp .ge 15, 3) := by decide +kernel
theorem dX3_read_31 : decode cX3_read 31 = .ok (.aload_n 1, 1) := by decide +kernel
theorem dX3_read_32 : decode cX3_read 32 = .ok (.iload_n 2, 1) := by decide +kernel
theorem dX3_read_33 : decode cX3_read 33 = .ok (.iload 4, 2) := by decide +kernel
theorem dX3_read_35 : decode cX3_read 35 = .ok (.invokevirtual 41, 3) := by decide +kernel
theorem dX3_read_38 : decode cX3_read 38 = .ok (.bipush 103, 2) := by decide +kernel
theorem dX3_read_40 : decode cX3_read 40 = .ok (.if_icmp .eq 6, 3) := by decide +kernel
theorem dX3_read_43 : decode cX3_read 43 = .ok (.iload 4, 2) := by decide +kernel
theorem dX3_read_45 : decode cX3_read 45 = .ok (.ireturn, 1) := by decide +kernel
theorem dX3_read_46 : decode cX3_read 46 = .ok (.aload_n 0, 1) := by decide +kernel
theorem dX3_read_47 : decode cX3_read 47 = .ok (.aload_n 1, 1) := by decide +kernel
theorem dX3_read_48 : decode cX3_read 48 = .ok (.iload_n 2, 1) := by decide +kernel
theorem dX3_read_49 : decode cX3_read 49 = .ok (.iload 4, 2) := by decide +kernel
theorem dX3_read_51 : decode cX3_read 51 = .ok (.iconst 1, 1) := by decide +kernel
theorem dX3_read_52 : decode cX3_read 52 = .ok (.iadd, 1) := by decide +kernel
theorem dX3_read_53 : decode cX3_read 53 = .ok (.invokevirtual 45, 3) := by decide +kernel
theorem dX3_read_56 : decode cX3_read 56 = .ok (.istore 4, 2) := by decide +kernel
theorem dX3_read_58 : decode cX3_read 58 = .ok (.aload_n 0, 1) := by decide +kernel
theorem dX3_read_59 : decode cX3_read 59 = .ok (.getfield 24, 3) := by decide +kernel
theorem dX3_read_62 : decode cX3_read 62 = .ok (.iconst 2, 1) := by decide +kernel
theorem dX3_read_63 : decode cX3_read 63 = .ok (.if_icmp .ge 6, 3) := by decide +kernel
theorem dX3_read_66 : decode cX3_read 66 = .ok (.iload 4, 2) := by decide +kernel
theorem dX3_read_68 : decode cX3_read 68 = .ok (.ireturn, 1) := by decide +kernel
theorem dX3_read_69 : decode cX3_read 69 = .ok (.iconst 0, 1) := by decide +kernel
theorem dX3_read_70 : decode cX3_read 70 = .ok (.istore 5, 2) := by decide +kernel
theorem dX3_read_72 : decode cX3_read 72 = .ok (.iload 5, 2) := by decide +kernel
theorem dX3_read_74 : decode cX3_read 74 = .ok (.iconst 3, 1) := by decide +kernel
theorem dX3_read_75 : decode cX3_read 75 = .ok (.if_icmp .gt 51, 3) := by decide +kernel
theorem dX3_read_78 : decode cX3_read 78 = .ok (.aload_n 0, 1) := by decide +kernel
theorem dX3_read_79 : decode cX3_read 79 = .ok (.aload_n 1, 1) := by decide +kernel
theorem dX3_read_80 : decode cX3_read 80 = .ok (.iload_n 2, 1) := by decide +kernel
theorem dX3_read_81 : decode cX3_read 81 = .ok (.iload 4, 2) := by decide +kernel
theorem dX3_read_83 : decode cX3_read 83 = .ok (.invokevirtual 37, 3) := by decide +kernel
theorem dX3_read_86 : decode cX3_read 86 = .ok (.istore 4, 2) := by decide +kernel
theorem dX3_read_88 : decode cX3_read 88 = .ok (.iload 4, 2) := by decide +kernel
theorem dX3_read_90 : decode cX3_read 90 = .ok (.iload_n 3, 1) := by decide +kernel
theorem dX3_read_91 : decode cX3_read 91 = .ok (.if_icmp .lt 6, 3) := by decide +kernel
theorem dX3_read_94 : decode cX3_read 94 = .ok (.bipush (-9), 2) := by decide +kernel
theorem dX3_read_96 : decode cX3_read 96 = .ok (.ireturn, 1) := by decide +kernel
theorem dX3_read_97 : decode cX3_read 97 = .ok (.aload_n 0, 1) := by decide +kernel
theorem dX3_read_98 : decode cX3_read 98 = .ok (.aload_n 1, 1) := by decide +kernel
theorem dX3_read_99 : decode cX3_read 99 = .ok (.iload_n 2, 1) := by decide +kernel
theorem dX3_read_100 : decode cX3_read 100 = .ok (.iload 4, 2) := by decide +kernel
theorem dX3_read_102 : decode cX3_read 102 = .ok (.invokevirtual 48, 3) := by decide +kernel
theorem dX3_read_105 : decode cX3_read 105 = .ok (.istore 6, 2) := by decide +kernel
theorem dX3_read_107 : decode cX3_read 107 = .ok (.iload 6, 2) := by decide +kernel
theorem dX3_read_109 : decode cX3_read 109 = .ok (.bipush (-9), 2) := by decide +kernel
theorem dX3_read_111 : decode cX3_read 111 = .ok (.if_icmp .eq 6, 3) := by decide +kernel
theorem dX3_read_114 : decode cX3_read 114 = .ok (.iload 6, 2) := by decide +kernel
theorem dX3_read_116 : decode cX3_read 116 = .ok (.ireturn, 1) := by decide +kernel
theorem dX3_read_117 : decode cX3_read 117 = .ok (.iinc 4 3, 3) := by decide +kernel
theorem dX3_read_120 : decode cX3_read 120 = .ok (.iinc 5 1, 3) := by decide +kernel
theorem dX3_read_123 : decode cX3_read 123 = .ok (.goto (-51), 3) := by decide +kernel
theorem dX3_read_126 : decode cX3_read 126 = .ok (.iload 4, 2) := by decide +kernel
theorem dX3_read_128 : decode cX3_read 128 = .ok (.ireturn, 1) := by decide +kernel
theorem dX3_behindBlanks_0 : decode cX3_behindBlanks 0 = .ok (.iload_n 3, 1) := by decide +kernel
theorem dX3_behindBlanks_1 : decode cX3_behindBlanks 1 = .ok (.istore 4, 2) := by decide +kernel
theorem dX3_behindBlanks_3 : decode cX3_behindBlanks 3 = .ok (.iload 4, 2) := by decide +kernel
theorem dX3_behindBlanks_5 : decode cX3_behindBlanks 5 = .ok (.aload_n 1, 1) := by decide +kernel
theorem dX3_behindBlanks_6 : decode cX3_behindBlanks 6 = .ok (.iload_n 2, 1) := by decide +kernel
theorem dX3_behindBlanks_7 : decode cX3_behindBlanks 7 = .ok (.invokevirtual 31, 3) := by decide +kernel
theorem dX3_behindBlanks_10 : decode cX3_behindBlanks 10 = .ok (.if_icmp .ge 21, 3) := by decide +kernel
theorem dX3_behindBlanks_13 : decode cX3_behindBlanks 13 = .ok (.aload_n 1, 1) := by decide +kernel
theorem dX3_behindBlanks_14 : decode cX3_behindBlanks 14 = .ok (.iload_n 2, 1) := by decide +kernel
theorem dX3_behindBlanks_15 : decode cX3_behindBlanks 15 = .ok (.iload 4, 2) := by decide +kernel
theorem dX3_behindBlanks_17 : decode cX3_behindBlanks 17 = .ok (.invokevirtual 41, 3) := by decide +kernel
theorem dX3_behindBlanks_20 : decode cX3_behindBlanks 20 = .ok (.bipush 32, 2) := by decide +kernel
theorem dX3_behindBlanks_22 : decode cX3_behindBlanks 22 = .ok (.if_icmp .ne 9, 3) := by decide +kernel
theorem dX3_behindBlanks_25 : decode cX3_behindBlanks 25 = .ok (.iinc 4 1, 3) := by decide +kernel
theorem dX3_behindBlanks_28 : decode cX3_behindBlanks 28 = .ok (.goto (-25), 3) := by decide +kernel
theorem dX3_behindBlanks_31 : decode cX3_behindBlanks 31 = .ok (.iload 4, 2) := by decide +kernel
theorem dX3_behindBlanks_33 : decode cX3_behindBlanks 33 = .ok (.ireturn, 1) := by decide +kernel
theorem dX3_behindHeights_0 : decode cX3_behindHeights 0 = .ok (.iload_n 3, 1) := by decide +kernel
theorem dX3_behindHeights_1 : decode cX3_behindHeights 1 = .ok (.istore 4, 2) := by decide +kernel
theorem dX3_behindHeights_3 : decode cX3_behindHeights 3 = .ok (.aload_n 0, 1) := by decide +kernel
theorem dX3_behindHeights_4 : decode cX3_behindHeights 4 = .ok (.getfield 24, 3) := by decide +kernel
theorem dX3_behindHeights_7 : decode cX3_behindHeights 7 = .ok (.bipush 10, 2) := by decide +kernel
theorem dX3_behindHeights_9 : decode cX3_behindHeights 9 = .ok (.if_icmp .ge 45, 3) := by decide +kernel
theorem dX3_behindHeights_12 : decode cX3_behindHeights 12 = .ok (.aload_n 1, 1) := by decide +kernel
theorem dX3_behindHeights_13 : decode cX3_behindHeights 13 = .ok (.iload_n 2, 1) := by decide +kernel
theorem dX3_behindHeights_14 : decode cX3_behindHeights 14 = .ok (.iload 4, 2) := by decide +kernel
theorem dX3_behindHeights_16 : decode cX3_behindHeights 16 = .ok (.invokestatic 51, 3) := by decide +kernel
theorem dX3_behindHeights_19 : decode cX3_behindHeights 19 = .ok (.ifCond .lt 35, 3) := by decide +kernel
theorem dX3_behindHeights_22 : decode cX3_behindHeights 22 = .ok (.aload_n 0, 1) := by decide +kernel
theorem dX3_behindHeights_23 : decode cX3_behindHeights 23 = .ok (.getfield 9, 3) := by decide +kernel
theorem dX3_behindHeights_26 : decode cX3_behindHeights 26 = .ok (.aload_n 0, 1) := by decide +kernel
theorem dX3_behindHeights_27 : decode cX3_behindHeights 27 = .ok (.getfield 24, 3) := by decide +kernel
theorem dX3_behindHeights_30 : decode cX3_behindHeights 30 = .ok (.aload_n 1, 1) := by decide +kernel
theorem dX3_behindHeights_31 : decode cX3_behindHeights 31 = .ok (.iload_n 2, 1) := by decide +kernel
theorem dX3_behindHeights_32 : decode cX3_behindHeights 32 = .ok (.iload 4, 2) := by decide +kernel
theorem dX3_behindHeights_34 : decode cX3_behindHeights 34 = .ok (.invokestatic 51, 3) := by decide +kernel
theorem dX3_behindHeights_37 : decode cX3_behindHeights 37 = .ok (.iastore, 1) := by decide +kernel
theorem dX3_behindHeights_38 : decode cX3_behindHeights 38 = .ok (.aload_n 0, 1) := by decide +kernel
theorem dX3_behindHeights_39 : decode cX3_behindHeights 39 = .ok (.dup, 1) := by decide +kernel
theorem dX3_behindHeights_40 : decode cX3_behindHeights 40 = .ok (.getfield 24, 3) := by decide +kernel
theorem dX3_behindHeights_43 : decode cX3_behindHeights 43 = .ok (.iconst 1, 1) := by decide +kernel
theorem dX3_behindHeights_44 : decode cX3_behindHeights 44 = .ok (.iadd, 1) := by decide +kernel
theorem dX3_behindHeights_45 : decode cX3_behindHeights 45 = .ok (.putfield 24, 3) := by decide +kernel
theorem dX3_behindHeights_48 : decode cX3_behindHeights 48 = .ok (.iinc 4 1, 3) := by decide +kernel
theorem dX3_behindHeights_51 : decode cX3_behindHeights 51 = .ok (.goto (-48), 3) := by decide +kernel
theorem dX3_behindHeights_54 : decode cX3_behindHeights 54 = .ok (.iload 4, 2) := by decide +kernel
theorem dX3_behindHeights_56 : decode cX3_behindHeights 56 = .ok (.ireturn, 1) := by decide +kernel
theorem dX3_bandFault_0 : decode cX3_bandFault 0 = .ok (.aload_n 1, 1) := by decide +kernel
theorem dX3_bandFault_1 : decode cX3_bandFault 1 = .ok (.iload_n 2, 1) := by decide +kernel
theorem dX3_bandFault_2 : decode cX3_bandFault 2 = .ok (.iload_n 3, 1) := by decide +kernel
theorem dX3_bandFault_3 : decode cX3_bandFault 3 = .ok (.invokevirtual 41, 3) := by decide +kernel
theorem dX3_bandFault_6 : decode cX3_bandFault 6 = .ok (.invokestatic 54, 3) := by decide +kernel
theorem dX3_bandFault_9 : decode cX3_bandFault 9 = .ok (.istore 4, 2) := by decide +kernel
theorem dX3_bandFault_11 : decode cX3_bandFault 11 = .ok (.iload 4, 2) := by decide +kernel
theorem dX3_bandFault_13 : decode cX3_bandFault 13 = .ok (.ifCond .lt 11, 3) := by decide +kernel
theorem dX3_bandFault_16 : decode cX3_bandFault 16 = .ok (.aload_n 0, 1) := by decide +kernel
theorem dX3_bandFault_17 : decode cX3_bandFault 17 = .ok (.getfield 28, 3) := by decide +kernel
theorem dX3_bandFault_20 : decode cX3_bandFault 20 = .ok (.iconst 3, 1) := by decide +kernel
theorem dX3_bandFault_21 : decode cX3_bandFault 21 = .ok (.if_icmp .lt 5, 3) := by decide +kernel
theorem dX3_bandFault_24 : decode cX3_bandFault 24 = .ok (.iload_n 3, 1) := by decide +kernel
theorem dX3_bandFault_25 : decode cX3_bandFault 25 = .ok (.ireturn, 1) := by decide +kernel
theorem dX3_bandFault_26 : decode cX3_bandFault 26 = .ok (.aload_n 1, 1) := by decide +kernel
theorem dX3_bandFault_27 : decode cX3_bandFault 27 = .ok (.iload_n 2, 1) := by decide +kernel
theorem dX3_bandFault_28 : decode cX3_bandFault 28 = .ok (.iload_n 3, 1) := by decide +kernel
theorem dX3_bandFault_29 : decode cX3_bandFault 29 = .ok (.iconst 1, 1) := by decide +kernel
theorem dX3_bandFault_30 : decode cX3_bandFault 30 = .ok (.iadd, 1) := by decide +kernel
theorem dX3_bandFault_31 : decode cX3_bandFault 31 = .ok (.invokestatic 51, 3) := by decide +kernel
theorem dX3_bandFault_34 : decode cX3_bandFault 34 = .ok (.istore 5, 2) := by decide +kernel
theorem dX3_bandFault_36 : decode cX3_bandFault 36 = .ok (.iload 5, 2) := by decide +kernel
theorem dX3_bandFault_38 : decode cX3_bandFault 38 = .ok (.ifCond .lt 12, 3) := by decide +kernel
theorem dX3_bandFault_41 : decode cX3_bandFault 41 = .ok (.iload 5, 2) := by decide +kernel
theorem dX3_bandFault_43 : decode cX3_bandFault 43 = .ok (.aload_n 0, 1) := by decide +kernel
theorem dX3_bandFault_44 : decode cX3_bandFault 44 = .ok (.getfield 24, 3) := by decide +kernel
theorem dX3_bandFault_47 : decode cX3_bandFault 47 = .ok (.if_icmp .lt 7, 3) := by decide +kernel
theorem dX3_bandFault_50 : decode cX3_bandFault 50 = .ok (.iload_n 3, 1) := by decide +kernel
theorem dX3_bandFault_51 : decode cX3_bandFault 51 = .ok (.iconst 1, 1) := by decide +kernel
theorem dX3_bandFault_52 : decode cX3_bandFault 52 = .ok (.iadd, 1) := by decide +kernel
theorem dX3_bandFault_53 : decode cX3_bandFault 53 = .ok (.ireturn, 1) := by decide +kernel
theorem dX3_bandFault_54 : decode cX3_bandFault 54 = .ok (.aload_n 1, 1) := by decide +kernel
theorem dX3_bandFault_55 : decode cX3_bandFault 55 = .ok (.iload_n 2, 1) := by decide +kernel
theorem dX3_bandFault_56 : decode cX3_bandFault 56 = .ok (.iload_n 3, 1) := by decide +kernel
theorem dX3_bandFault_57 : decode cX3_bandFault 57 = .ok (.iconst 2, 1) := by decide +kernel
theorem dX3_bandFault_58 : decode cX3_bandFault 58 = .ok (.iadd, 1) := by decide +kernel
theorem dX3_bandFault_59 : decode cX3_bandFault 59 = .ok (.invokestatic 51, 3) := by decide +kernel
theorem dX3_bandFault_62 : decode cX3_bandFault 62 = .ok (.istore 6, 2) := by decide +kernel
theorem dX3_bandFault_64 : decode cX3_bandFault 64 = .ok (.iload 6, 2) := by decide +kernel
theorem dX3_bandFault_66 : decode cX3_bandFault 66 = .ok (.iconst 1, 1) := by decide +kernel
theorem dX3_bandFault_67 : decode cX3_bandFault 67 = .ok (.if_icmp .ge 7, 3) := by decide +kernel
theorem dX3_bandFault_70 : decode cX3_bandFault 70 = .ok (.iload_n 3, 1) := by decide +kernel
theorem dX3_bandFault_71 : decode cX3_bandFault 71 = .ok (.iconst 2, 1) := by decide +kernel
theorem dX3_bandFault_72 : decode cX3_bandFault 72 = .ok (.iadd, 1) := by decide +kernel
theorem dX3_bandFault_73 : decode cX3_bandFault 73 = .ok (.ireturn, 1) := by decide +kernel
theorem dX3_bandFault_74 : decode cX3_bandFault 74 = .ok (.aload_n 0, 1) := by decide +kernel
theorem dX3_bandFault_75 : decode cX3_bandFault 75 = .ok (.getfield 15, 3) := by decide +kernel
theorem dX3_bandFault_78 : decode cX3_bandFault 78 = .ok (.aload_n 0, 1) := by decide +kernel
theorem dX3_bandFault_79 : decode cX3_bandFault 79 = .ok (.getfield 28, 3) := by decide +kernel
theorem dX3_bandFault_82 : decode cX3_bandFault 82 = .ok (.iload 4, 2) := by decide +kernel
theorem dX3_bandFault_84 : decode cX3_bandFault 84 = .ok (.iastore, 1) := by decide +kernel
theorem dX3_bandFault_85 : decode cX3_bandFault 85 = .ok (.aload_n 0, 1) := by decide +kernel
theorem dX3_bandFault_86 : decode cX3_bandFault 86 = .ok (.getfield 18, 3) := by decide +kernel
theorem dX3_bandFault_89 : decode cX3_bandFault 89 = .ok (.aload_n 0, 1) := by decide +kernel
theorem dX3_bandFault_90 : decode cX3_bandFault 90 = .ok (.getfield 28, 3) := by decide +kernel
theorem dX3_bandFault_93 : decode cX3_bandFault 93 = .ok (.iload 5, 2) := by decide +kernel
theorem dX3_bandFault_95 : decode cX3_bandFault 95 = .ok (.iastore, 1) := by decide +kernel
theorem dX3_bandFault_96 : decode cX3_bandFault 96 = .ok (.aload_n 0, 1) := by decide +kernel
theorem dX3_bandFault_97 : decode cX3_bandFault 97 = .ok (.getfield 21, 3) := by decide +kernel
theorem dX3_bandFault_100 : decode cX3_bandFault 100 = .ok (.aload_n 0, 1) := by decide +kernel
theorem dX3_bandFault_101 : decode cX3_bandFault 101 = .ok (.getfield 28, 3) := by decide +kernel
theorem dX3_bandFault_104 : decode cX3_bandFault 104 = .ok (.iload 6, 2) := by decide +kernel
theorem dX3_bandFault_106 : decode cX3_bandFault 106 = .ok (.iastore, 1) := by decide +kernel
theorem dX3_bandFault_107 : decode cX3_bandFault 107 = .ok (.aload_n 0, 1) := by decide +kernel
theorem dX3_bandFault_108 : decode cX3_bandFault 108 = .ok (.dup, 1) := by decide +kernel
theorem dX3_bandFault_109 : decode cX3_bandFault 109 = .ok (.getfield 28, 3) := by decide +kernel
theorem dX3_bandFault_112 : decode cX3_bandFault 112 = .ok (.iconst 1, 1) := by decide +kernel
theorem dX3_bandFault_113 : decode cX3_bandFault 113 = .ok (.iadd, 1) := by decide +kernel
theorem dX3_bandFault_114 : decode cX3_bandFault 114 = .ok (.putfield 28, 3) := by decide +kernel
theorem dX3_bandFault_117 : decode cX3_bandFault 117 = .ok (.bipush (-9), 2) := by decide +kernel
theorem dX3_bandFault_119 : decode cX3_bandFault 119 = .ok (.ireturn, 1) := by decide +kernel
theorem dX3_figureAt_0 : decode cX3_figureAt 0 = .ok (.aload_n 0, 1) := by decide +kernel
theorem dX3_figureAt_1 : decode cX3_figureAt 1 = .ok (.iload_n 1, 1) := by decide +kernel
theorem dX3_figureAt_2 : decode cX3_figureAt 2 = .ok (.iload_n 2, 1) := by decide +kernel
theorem dX3_figureAt_3 : decode cX3_figureAt 3 = .ok (.invokevirtual 57, 3) := by decide +kernel
theorem dX3_figureAt_6 : decode cX3_figureAt 6 = .ok (.ifCond .eq 15, 3) := by decide +kernel
theorem dX3_figureAt_9 : decode cX3_figureAt 9 = .ok (.aload_n 0, 1) := by decide +kernel
theorem dX3_figureAt_10 : decode cX3_figureAt 10 = .ok (.iload_n 1, 1) := by decide +kernel
theorem dX3_figureAt_11 : decode cX3_figureAt 11 = .ok (.iload_n 2, 1) := by decide +kernel
theorem dX3_figureAt_12 : decode cX3_figureAt 12 = .ok (.invokevirtual 41, 3) := by decide +kernel
theorem dX3_figureAt_15 : decode cX3_figureAt 15 = .ok (.bipush 48, 2) := by decide +kernel
theorem dX3_figureAt_17 : decode cX3_figureAt 17 = .ok (.isub, 1) := by decide +kernel
theorem dX3_figureAt_18 : decode cX3_figureAt 18 = .ok (.goto 4, 3) := by decide +kernel
theorem dX3_figureAt_21 : decode cX3_figureAt 21 = .ok (.iconst (-1), 1) := by decide +kernel
theorem dX3_figureAt_22 : decode cX3_figureAt 22 = .ok (.istore_n 3, 1) := by decide +kernel
theorem dX3_figureAt_23 : decode cX3_figureAt 23 = .ok (.iload_n 3, 1) := by decide +kernel
theorem dX3_figureAt_24 : decode cX3_figureAt 24 = .ok (.ifCond .lt 13, 3) := by decide +kernel
theorem dX3_figureAt_27 : decode cX3_figureAt 27 = .ok (.iload_n 3, 1) := by decide +kernel
theorem dX3_figureAt_28 : decode cX3_figureAt 28 = .ok (.bipush 9, 2) := by decide +kernel
theorem dX3_figureAt_30 : decode cX3_figureAt 30 = .ok (.if_icmp .gt 7, 3) := by decide +kernel
theorem dX3_figureAt_33 : decode cX3_figureAt 33 = .ok (.iload_n 3, 1) := by decide +kernel
theorem dX3_figureAt_34 : decode cX3_figureAt 34 = .ok (.goto 4, 3) := by decide +kernel
theorem dX3_figureAt_37 : decode cX3_figureAt 37 = .ok (.iconst (-1), 1) := by decide +kernel
theorem dX3_figureAt_38 : decode cX3_figureAt 38 = .ok (.ireturn, 1) := by decide +kernel
theorem dX3_kindOf_0 : decode cX3_kindOf 0 = .ok (.iconst 0, 1) := by decide +kernel
theorem dX3_kindOf_1 : decode cX3_kindOf 1 = .ok (.istore_n 1, 1) := by decide +kernel
theorem dX3_kindOf_2 : decode cX3_kindOf 2 = .ok (.iload_n 1, 1) := by decide +kernel
theorem dX3_kindOf_3 : decode cX3_kindOf 3 = .ok (.bipush 6, 2) := by decide +kernel
theorem dX3_kindOf_5 : decode cX3_kindOf 5 = .ok (.if_icmp .ge 20, 3) := by decide +kernel
theorem dX3_kindOf_8 : decode cX3_kindOf 8 = .ok (.getstatic 61, 3) := by decide +kernel
theorem dX3_kindOf_11 : decode cX3_kindOf 11 = .ok (.iload_n 1, 1) := by decide +kernel
theorem dX3_kindOf_12 : decode cX3_kindOf 12 = .ok (.iaload, 1) := by decide +kernel
theorem dX3_kindOf_13 : decode cX3_kindOf 13 = .ok (.iload_n 0, 1) := by decide +kernel
theorem dX3_kindOf_14 : decode cX3_kindOf 14 = .ok (.if_icmp .ne 5, 3) := by decide +kernel
theorem dX3_kindOf_17 : decode cX3_kindOf 17 = .ok (.iload_n 1, 1) := by decide +kernel
theorem dX3_kindOf_18 : decode cX3_kindOf 18 = .ok (.ireturn, 1) := by decide +kernel
theorem dX3_kindOf_19 : decode cX3_kindOf 19 = .ok (.iinc 1 1, 3) := by decide +kernel
theorem dX3_kindOf_22 : decode cX3_kindOf 22 = .ok (.goto (-20), 3) := by decide +kernel
theorem dX3_kindOf_25 : decode cX3_kindOf 25 = .ok (.iconst (-1), 1) := by decide +kernel
theorem dX3_kindOf_26 : decode cX3_kindOf 26 = .ok (.ireturn, 1) := by decide +kernel
theorem dX1_init_0 : decode cX1_init 0 = .ok (.aload_n 0, 1) := by decide +kernel
theorem dX1_init_1 : decode cX1_init 1 = .ok (.invokespecial 3, 3) := by decide +kernel
theorem dX1_init_4 : decode cX1_init 4 = .ok (.aload_n 0, 1) := by decide +kernel
theorem dX1_init_5 : decode cX1_init 5 = .ok (.iconst 0, 1) := by decide +kernel
theorem dX1_init_6 : decode cX1_init 6 = .ok (.putfield 9, 3) := by decide +kernel
theorem dX1_init_9 : decode cX1_init 9 = .ok (.aload_n 0, 1) := by decide +kernel
theorem dX1_init_10 : decode cX1_init 10 = .ok (.iconst 0, 1) := by decide +kernel
theorem dX1_init_11 : decode cX1_init 11 = .ok (.putfield 15, 3) := by decide +kernel
theorem dX1_init_14 : decode cX1_init 14 = .ok (.aload_n 0, 1) := by decide +kernel
theorem dX1_init_15 : decode cX1_init 15 = .ok (.iconst 0, 1) := by decide +kernel
theorem dX1_init_16 : decode cX1_init 16 = .ok (.putfield 18, 3) := by decide +kernel
theorem dX1_init_19 : decode cX1_init 19 = .ok (.aload_n 0, 1) := by decide +kernel
theorem dX1_init_20 : decode cX1_init 20 = .ok (.iconst 0, 1) := by decide +kernel
theorem dX1_init_21 : decode cX1_init 21 = .ok (.putfield 21, 3) := by decide +kernel
theorem dX1_init_24 : decode cX1_init 24 = .ok (.aload_n 0, 1) := by decide +kernel
theorem dX1_init_25 : decode cX1_init 25 = .ok (.bipush 10, 2) := by decide +kernel
theorem dX1_init_27 : decode cX1_init 27 = .ok (.newarray .int, 2) := by decide +kernel
theorem dX1_init_29 : decode cX1_init 29 = .ok (.putfield 24, 3) := by decide +kernel
theorem dX1_init_32 : decode cX1_init 32 = .ok (.aload_n 0, 1) := by decide +kernel
theorem dX1_init_33 : decode cX1_init 33 = .ok (.iconst 3, 1) := by decide +kernel
theorem dX1_init_34 : decode cX1_init 34 = .ok (.newarray .int, 2) := by decide +kernel
theorem dX1_init_36 : decode cX1_init 36 = .ok (.putfield 28, 3) := by decide +kernel
theorem dX1_init_39 : decode cX1_init 39 = .ok (.aload_n 0, 1) := by decide +kernel
theorem dX1_init_40 : decode cX1_init 40 = .ok (.iconst 3, 1) := by decide +kernel
theorem dX1_init_41 : decode cX1_init 41 = .ok (.newarray .int, 2) := by decide +kernel
theorem dX1_init_43 : decode cX1_init 43 = .ok (.putfield 31, 3) := by decide +kernel
theorem dX1_init_46 : decode cX1_init 46 = .ok (.aload_n 0, 1) := by decide +kernel
theorem dX1_init_47 : decode cX1_init 47 = .ok (.iconst 3, 1) := by decide +kernel
theorem dX1_init_48 : decode cX1_init 48 = .ok (.newarray .int, 2) := by decide +kernel
theorem dX1_init_50 : decode cX1_init 50 = .ok (.putfield 34, 3) := by decide +kernel
theorem dX1_init_53 : decode cX1_init 53 = .ok (.aload_n 0, 1) := by decide +kernel
theorem dX1_init_54 : decode cX1_init 54 = .ok (.iconst 3, 1) := by decide +kernel
theorem dX1_init_55 : decode cX1_init 55 = .ok (.newarray .int, 2) := by decide +kernel
theorem dX1_init_57 : decode cX1_init 57 = .ok (.putfield 37, 3) := by decide +kernel
theorem dX1_init_60 : decode cX1_init 60 = .ok (.aload_n 0, 1) := by decide +kernel
theorem dX1_init_61 : decode cX1_init 61 = .ok (.bipush 60, 2) := by decide +kernel
theorem dX1_init_63 : decode cX1_init 63 = .ok (.newarray .int, 2) := by decide +kernel
theorem dX1_init_65 : decode cX1_init 65 = .ok (.putfield 40, 3) := by decide +kernel
theorem dX1_init_68 : decode cX1_init 68 = .ok (.aload_n 0, 1) := by decide +kernel
theorem dX1_init_69 : decode cX1_init 69 = .ok (.sipush 600, 3) := by decide +kernel
theorem dX1_init_72 : decode cX1_init 72 = .ok (.newarray .int, 2) := by decide +kernel
theorem dX1_init_74 : decode cX1_init 74 = .ok (.putfield 43, 3) := by decide +kernel
theorem dX1_init_77 : decode cX1_init 77 = .ok (.aload_n 0, 1) := by decide +kernel
theorem dX1_init_78 : decode cX1_init 78 = .ok (.sipush 180, 3) := by decide +kernel
theorem dX1_init_81 : decode cX1_init 81 = .ok (.newarray .int, 2) := by decide +kernel
theorem dX1_init_83 : decode cX1_init 83 = .ok (.putfield 46, 3) := by decide +kernel
theorem dX1_init_86 : decode cX1_init 86 = .ok (.return_, 1) := by decide +kernel
theorem dX1_begin_0 : decode cX1_begin 0 = .ok (.aload_n 0, 1) := by decide +kernel
theorem dX1_begin_1 : decode cX1_begin 1 = .ok (.aload_n 1, 1) := by decide +kernel
theorem dX1_begin_2 : decode cX1_begin 2 = .ok (.getfield 49, 3) := by decide +kernel
theorem dX1_begin_5 : decode cX1_begin 5 = .ok (.putfield 9, 3) := by decide +kernel
theorem dX1_begin_8 : decode cX1_begin 8 = .ok (.aload_n 0, 1) := by decide +kernel
theorem dX1_begin_9 : decode cX1_begin 9 = .ok (.aload_n 1, 1) := by decide +kernel
theorem dX1_begin_10 : decode cX1_begin 10 = .ok (.getfield 52, 3) := by decide +kernel
theorem dX1_begin_13 : decode cX1_begin 13 = .ok (.putfield 15, 3) := by decide +kernel
theorem dX1_begin_16 : decode cX1_begin 16 = .ok (.aload_n 0, 1) := by decide +kernel
theorem dX1_begin_17 : decode cX1_begin 17 = .ok (.iconst 0, 1) := by decide +kernel
theorem dX1_begin_18 : decode cX1_begin 18 = .ok (.putfield 18, 3) := by decide +kernel
theorem dX1_begin_21 : decode cX1_begin 21 = .ok (.aload_n 0, 1) := by decide +kernel
theorem dX1_begin_22 : decode cX1_begin 22 = .ok (.iconst 0, 1) := by decide +kernel
theorem dX1_begin_23 : decode cX1_begin 23 = .ok (.putfield 21, 3) := by decide +kernel
theorem dX1_begin_26 : decode cX1_begin 26 = .ok (.aload_n 1, 1) := by decide +kernel
theorem dX1_begin_27 : decode cX1_begin 27 = .ok (.getfield 53, 3) := by decide +kernel
theorem dX1_begin_30 : decode cX1_begin 30 = .ok (.iconst 0, 1) := by decide +kernel
theorem dX1_begin_31 : decode cX1_begin 31 = .ok (.aload_n 0, 1) := by decide +kernel
theorem dX1_begin_32 : decode cX1_begin 32 = .ok (.getfield 24, 3) := by decide +kernel
theorem dX1_begin_35 : decode cX1_begin 35 = .ok (.iconst 0, 1) := by decide +kernel
theorem dX1_begin_36 : decode cX1_begin 36 = .ok (.bipush 10, 2) := by decide +kernel
theorem dX1_begin_38 : decode cX1_begin 38 = .ok (.invokestatic 54, 3) := by decide +kernel
theorem dX1_begin_41 : decode cX1_begin 41 = .ok (.aload_n 1, 1) := by decide +kernel
theorem dX1_begin_42 : decode cX1_begin 42 = .ok (.getfield 60, 3) := by decide +kernel
theorem dX1_begin_45 : decode cX1_begin 45 = .ok (.iconst 0, 1) := by decide +kernel
theorem dX1_begin_46 : decode cX1_begin 46 = .ok (.aload_n 0, 1) := by decide +kernel
theorem dX1_begin_47 : decode cX1_begin 47 = .ok (.getfield 34, 3) := by decide +kernel
theorem dX1_begin_50 : decode cX1_begin 50 = .ok (.iconst 0, 1) := by decide +kernel
theorem dX1_begin_51 : decode cX1_begin 51 = .ok (.iconst 3, 1) := by decide +kernel
theorem dX1_begin_52 : decode cX1_begin 52 = .ok (.invokestatic 54, 3) := by decide +kernel
theorem dX1_begin_55 : decode cX1_begin 55 = .ok (.aload_n 1, 1) := by decide +kernel
theorem dX1_begin_56 : decode cX1_begin 56 = .ok (.getfield 61, 3) := by decide +kernel
theorem dX1_begin_59 : decode cX1_begin 59 = .ok (.iconst 0, 1) := by decide +kernel
theorem dX1_begin_60 : decode cX1_begin 60 = .ok (.aload_n 0, 1) := by decide +kernel
theorem dX1_begin_61 : decode cX1_begin 61 = .ok (.getfield 28, 3) := by decide +kernel
theorem dX1_begin_64 : decode cX1_begin 64 = .ok (.iconst 0, 1) := by decide +kernel
theorem dX1_begin_65 : decode cX1_begin 65 = .ok (.iconst 3, 1) := by decide +kernel
theorem dX1_begin_66 : decode cX1_begin 66 = .ok (.invokestatic 54, 3) := by decide +kernel
theorem dX1_begin_69 : decode cX1_begin 69 = .ok (.aload_n 1, 1) := by decide +kernel
theorem dX1_begin_70 : decode cX1_begin 70 = .ok (.getfield 62, 3) := by decide +kernel
theorem dX1_begin_73 : decode cX1_begin 73 = .ok (.iconst 0, 1) := by decide +kernel
theorem dX1_begin_74 : decode cX1_begin 74 = .ok (.aload_n 0, 1) := by decide +kernel
theorem dX1_begin_75 : decode cX1_begin 75 = .ok (.getfield 31, 3) := by decide +kernel
theorem dX1_begin_78 : decode cX1_begin 78 = .ok (.iconst 0, 1) := by decide +kernel
theorem dX1_begin_79 : decode cX1_begin 79 = .ok (.iconst 3, 1) := by decide +kernel
theorem dX1_begin_80 : decode cX1_begin 80 = .ok (.invokestatic 54, 3) := by decide +kernel
theorem dX1_begin_83 : decode cX1_begin 83 = .ok (.iconst 0, 1) := by decide +kernel
theorem dX1_begin_84 : decode cX1_begin 84 = .ok (.istore_n 2, 1) := by decide +kernel
theorem dX1_begin_85 : decode cX1_begin 85 = .ok (.iload_n 2, 1) := by decide +kernel
theorem dX1_begin_86 : decode cX1_begin 86 = .ok (.iconst 3, 1) := by decide +kernel
theorem dX1_begin_87 : decode cX1_begin 87 = .ok (.if_icmp .ge 16, 3) := by decide +kernel
theorem dX1_begin_90 : decode cX1_begin 90 = .ok (.aload_n 0, 1) := by decide +kernel
theorem dX1_begin_91 : decode cX1_begin 91 = .ok (.getfield 37, 3) := by decide +kernel
theorem dX1_begin_94 : decode cX1_begin 94 = .ok (.iload_n 2, 1) := by decide +kernel
theorem dX1_begin_95 : decode cX1_begin 95 = .ok (.iconst 0, 1) := by decide +kernel
theorem dX1_begin_96 : decode cX1_begin 96 = .ok (.iastore, 1) := by decide +kernel
theorem dX1_begin_97 : decode cX1_begin 97 = .ok (.iinc 2 1, 3) := by decide +kernel
theorem dX1_begin_100 : decode cX1_begin 100 = .ok (.goto (-15), 3) := by decide +kernel
theorem dX1_begin_103 : decode cX1_begin 103 = .ok (.return_, 1) := by decide +kernel
theorem dX1_becomeLike_0 : decode cX1_becomeLike 0 = .ok (.aload_n 0, 1) := by decide +kernel
theorem dX1_becomeLike_1 : decode cX1_becomeLike 1 = .ok (.aload_n 1, 1) := by decide +kernel
theorem dX1_becomeLike_2 : decode cX1_becomeLike 2 = .ok (.getfield 9, 3) := by decide +kernel
theorem dX1_becomeLike_5 : decode cX1_becomeLike 5 = .ok (.putfield 9, 3) := by decide +kernel
theorem dX1_becomeLike_8 : decode cX1_becomeLike 8 = .ok (.aload_n 0, 1) := by decide +kernel
theorem dX1_becomeLike_9 : decode cX1_becomeLike 9 = .ok (.aload_n 1, 1) := by decide +kernel
theorem dX1_becomeLike_10 : decode cX1_becomeLike 10 = .ok (.getfield 15, 3) := by decide +kernel
theorem dX1_becomeLike_13 : decode cX1_becomeLike 13 = .ok (.putfield 15, 3) := by decide +kernel
theorem dX1_becomeLike_16 : decode cX1_becomeLike 16 = .ok (.aload_n 0, 1) := by decide +kernel
theorem dX1_becomeLike_17 : decode cX1_becomeLike 17 = .ok (.aload_n 1, 1) := by decide +kernel
theorem dX1_becomeLike_18 : decode cX1_becomeLike 18 = .ok (.getfield 18, 3) := by decide +kernel
theorem dX1_becomeLike_21 : decode cX1_becomeLike 21 = .ok (.putfield 18, 3) := by decide +kernel
theorem dX1_becomeLike_24 : decode cX1_becomeLike 24 = .ok (.aload_n 0, 1) := by decide +kernel
theorem dX1_becomeLike_25 : decode cX1_becomeLike 25 = .ok (.aload_n 1, 1) := by decide +kernel
theorem dX1_becomeLike_26 : decode cX1_becomeLike 26 = .ok (.getfield 21, 3) := by decide +kernel
theorem dX1_becomeLike_29 : decode cX1_becomeLike 29 = .ok (.putfield 21, 3) := by decide +kernel
theorem dX1_becomeLike_32 : decode cX1_becomeLike 32 = .ok (.aload_n 1, 1) := by decide +kernel
theorem dX1_becomeLike_33 : decode cX1_becomeLike 33 = .ok (.getfield 24, 3) := by decide +kernel
theorem dX1_becomeLike_36 : decode cX1_becomeLike 36 = .ok (.iconst 0, 1) := by decide +kernel
theorem dX1_becomeLike_37 : decode cX1_becomeLike 37 = .ok (.aload_n 0, 1) := by decide +kernel
theorem dX1_becomeLike_38 : decode cX1_becomeLike 38 = .ok (.getfield 24, 3) := by decide +kernel
theorem dX1_becomeLike_41 : decode cX1_becomeLike 41 = .ok (.iconst 0, 1) := by decide +kernel
theorem dX1_becomeLike_42 : decode cX1_becomeLike 42 = .ok (.bipush 10, 2) := by decide +kernel
theorem dX1_becomeLike_44 : decode cX1_becomeLike 44 = .ok (.invokestatic 54, 3) := by decide +kernel
theorem dX1_becomeLike_47 : decode cX1_becomeLike 47 = .ok (.aload_n 1, 1) := by decide +kernel
theorem dX1_becomeLike_48 : decode cX1_becomeLike 48 = .ok (.getfield 34, 3) := by decide +kernel
theorem dX1_becomeLike_51 : decode cX1_becomeLike 51 = .ok (.iconst 0, 1) := by decide +kernel
theorem dX1_becomeLike_52 : decode cX1_becomeLike 52 = .ok (.aload_n 0, 1) := by decide +kernel
theorem dX1_becomeLike_53 : decode cX1_becomeLike 53 = .ok (.getfield 34, 3) := by decide +kernel
theorem dX1_becomeLike_56 : decode cX1_becomeLike 56 = .ok (.iconst 0, 1) := by decide +kernel
theorem dX1_becomeLike_57 : decode cX1_becomeLike 57 = .ok (.iconst 3, 1) := by decide +kernel
theorem dX1_becomeLike_58 : decode cX1_becomeLike 58 = .ok (.invokestatic 54, 3) := by decide +kernel
theorem dX1_becomeLike_61 : decode cX1_becomeLike 61 = .ok (.aload_n 1, 1) := by decide +kernel
theorem dX1_becomeLike_62 : decode cX1_becomeLike 62 = .ok (.getfield 28, 3) := by decide +kernel
theorem dX1_becomeLike_65 : decode cX1_becomeLike 65 = .ok (.iconst 0, 1) := by decide +kernel
theorem dX1_becomeLike_66 : decode cX1_becomeLike 66 = .ok (.aload_n 0, 1) := by decide +kernel
theorem dX1_becomeLike_67 : decode cX1_becomeLike 67 = .ok (.getfield 28, 3) := by decide +kernel
theorem dX1_becomeLike_70 : decode cX1_becomeLike 70 = .ok (.iconst 0, 1) := by decide +kernel
theorem dX1_becomeLike_71 : decode cX1_becomeLike 71 = .ok (.iconst 3, 1) := by decide +kernel
theorem dX1_becomeLike_72 : decode cX1_becomeLike 72 = .ok (.invokestatic 54, 3) := by decide +kernel
theorem dX1_becomeLike_75 : decode cX1_becomeLike 75 = .ok (.aload_n 1, 1) := by decide +kernel
theorem dX1_becomeLike_76 : decode cX1_becomeLike 76 = .ok (.getfield 31, 3) := by decide +kernel
theorem dX1_becomeLike_79 : decode cX1_becomeLike 79 = .ok (.iconst 0, 1) := by decide +kernel
theorem dX1_becomeLike_80 : decode cX1_becomeLike 80 = .ok (.aload_n 0, 1) := by decide +kernel
theorem dX1_becomeLike_81 : decode cX1_becomeLike 81 = .ok (.getfield 31, 3) := by decide +kernel
theorem dX1_becomeLike_84 : decode cX1_becomeLike 84 = .ok (.iconst 0, 1) := by decide +kernel
theorem dX1_becomeLike_85 : decode cX1_becomeLike 85 = .ok (.iconst 3, 1) := by decide +kernel
theorem dX1_becomeLike_86 : decode cX1_becomeLike 86 = .ok (.invokestatic 54, 3) := by decide +kernel
theorem dX1_becomeLike_89 : decode cX1_becomeLike 89 = .ok (.aload_n 1, 1) := by decide +kernel
theorem dX1_becomeLike_90 : decode cX1_becomeLike 90 = .ok (.getfield 37, 3) := by decide +kernel
theorem dX1_becomeLike_93 : decode cX1_becomeLike 93 = .ok (.iconst 0, 1) := by decide +kernel
theorem dX1_becomeLike_94 : decode cX1_becomeLike 94 = .ok (.aload_n 0, 1) := by decide +kernel
theorem dX1_becomeLike_95 : decode cX1_becomeLike 95 = .ok (.getfield 37, 3) := by decide +kernel
theorem dX1_becomeLike_98 : decode cX1_becomeLike 98 = .ok (.iconst 0, 1) := by decide +kernel
theorem dX1_becomeLike_99 : decode cX1_becomeLike 99 = .ok (.iconst 3, 1) := by decide +kernel
theorem dX1_becomeLike_100 : decode cX1_becomeLike 100 = .ok (.invokestatic 54, 3) := by decide +kernel
theorem dX1_becomeLike_103 : decode cX1_becomeLike 103 = .ok (.aload_n 1, 1) := by decide +kernel
theorem dX1_becomeLike_104 : decode cX1_becomeLike 104 = .ok (.getfield 40, 3) := by decide +kernel
theorem dX1_becomeLike_107 : decode cX1_becomeLike 107 = .ok (.iconst 0, 1) := by decide +kernel
theorem dX1_becomeLike_108 : decode cX1_becomeLike 108 = .ok (.aload_n 0, 1) := by decide +kernel
theorem dX1_becomeLike_109 : decode cX1_becomeLike 109 = .ok (.getfield 40, 3) := by decide +kernel
theorem dX1_becomeLike_112 : decode cX1_becomeLike 112 = .ok (.iconst 0, 1) := by decide +kernel
theorem dX1_becomeLike_113 : decode cX1_becomeLike 113 = .ok (.bipush 60, 2) := by decide +kernel
theorem dX1_becomeLike_115 : decode cX1_becomeLike 115 = .ok (.invokestatic 54, 3) := by decide +kernel
theorem dX1_becomeLike_118 : decode cX1_becomeLike 118 = .ok (.aload_n 1, 1) := by decide +kernel
theorem dX1_becomeLike_119 : decode cX1_becomeLike 119 = .ok (.getfield 43, 3) := by decide +kernel
theorem dX1_becomeLike_122 : decode cX1_becomeLike 122 = .ok (.iconst 0, 1) := by decide +kernel
theorem dX1_becomeLike_123 : decode cX1_becomeLike 123 = .ok (.aload_n 0, 1) := by decide +kernel
theorem dX1_becomeLike_124 : decode cX1_becomeLike 124 = .ok (.getfield 43, 3) := by decide +kernel
theorem dX1_becomeLike_127 : decode cX1_becomeLike 127 = .ok (.iconst 0, 1) := by decide +kernel
theorem dX1_becomeLike_128 : decode cX1_becomeLike 128 = .ok (.sipush 600, 3) := by decide +kernel
theorem dX1_becomeLike_131 : decode cX1_becomeLike 131 = .ok (.invokestatic 54, 3) := by decide +kernel
theorem dX1_becomeLike_134 : decode cX1_becomeLike 134 = .ok (.aload_n 1, 1) := by decide +kernel
theorem dX1_becomeLike_135 : decode cX1_becomeLike 135 = .ok (.getfield 46, 3) := by decide +kernel
theorem dX1_becomeLike_138 : decode cX1_becomeLike 138 = .ok (.iconst 0, 1) := by decide +kernel
theorem dX1_becomeLike_139 : decode cX1_becomeLike 139 = .ok (.aload_n 0, 1) := by decide +kernel
theorem dX1_becomeLike_140 : decode cX1_becomeLike 140 = .ok (.getfield 46, 3) := by decide +kernel
theorem dX1_becomeLike_143 : decode cX1_becomeLike 143 = .ok (.iconst 0, 1) := by decide +kernel
theorem dX1_becomeLike_144 : decode cX1_becomeLike 144 = .ok (.sipush 180, 3) := by decide +kernel
theorem dX1_becomeLike_147 : decode cX1_becomeLike 147 = .ok (.invokestatic 54, 3) := by decide +kernel
theorem dX1_becomeLike_150 : decode cX1_becomeLike 150 = .ok (.return_, 1) := by decide +kernel
theorem dX1_isSpot_0 : decode cX1_isSpot 0 = .ok (.iload_n 1, 1) := by decide +kernel
theorem dX1_isSpot_1 : decode cX1_isSpot 1 = .ok (.ifCond .lt 15, 3) := by decide +kernel
theorem dX1_isSpot_4 : decode cX1_isSpot 4 = .ok (.iload_n 1, 1) := by decide +kernel
theorem dX1_isSpot_5 : decode cX1_isSpot 5 = .ok (.aload_n 0, 1) := by decide +kernel
theorem dX1_isSpot_6 : decode cX1_isSpot 6 = .ok (.getfield 9, 3) := by decide +kernel
theorem dX1_isSpot_9 : decode cX1_isSpot 9 = .ok (.if_icmp .ge 7, 3) := by decide +kernel
theorem dX1_isSpot_12 : decode cX1_isSpot 12 = .ok (.iconst 1, 1) := by decide +kernel
theorem dX1_isSpot_13 : decode cX1_isSpot 13 = .ok (.goto 4, 3) := by decide +kernel
theorem dX1_isSpot_16 : decode cX1_isSpot 16 = .ok (.iconst 0, 1) := by decide +kernel
theorem dX1_isSpot_17 : decode cX1_isSpot 17 = .ok (.ireturn, 1) := by decide +kernel
theorem dX1_isBand_0 : decode cX1_isBand 0 = .ok (.iload_n 1, 1) := by decide +kernel
theorem dX1_isBand_1 : decode cX1_isBand 1 = .ok (.ifCond .lt 15, 3) := by decide +kernel
theorem dX1_isBand_4 : decode cX1_isBand 4 = .ok (.iload_n 1, 1) := by decide +kernel
theorem dX1_isBand_5 : decode cX1_isBand 5 = .ok (.aload_n 0, 1) := by decide +kernel
theorem dX1_isBand_6 : decode cX1_isBand 6 = .ok (.getfield 15, 3) := by decide +kernel
theorem dX1_isBand_9 : decode cX1_isBand 9 = .ok (.if_icmp .ge 7, 3) := by decide +kernel
theorem dX1_isBand_12 : decode cX1_isBand 12 = .ok (.iconst 1, 1) := by decide +kernel
theorem dX1_isBand_13 : decode cX1_isBand 13 = .ok (.goto 4, 3) := by decide +kernel
theorem dX1_isBand_16 : decode cX1_isBand 16 = .ok (.iconst 0, 1) := by decide +kernel
theorem dX1_isBand_17 : decode cX1_isBand 17 = .ok (.ireturn, 1) := by decide +kernel
theorem dX1_isProgram_0 : decode cX1_isProgram 0 = .ok (.iload_n 1, 1) := by decide +kernel
theorem dX1_isProgram_1 : decode cX1_isProgram 1 = .ok (.ifCond .lt 15, 3) := by decide +kernel
theorem dX1_isProgram_4 : decode cX1_isProgram 4 = .ok (.iload_n 1, 1) := by decide +kernel
theorem dX1_isProgram_5 : decode cX1_isProgram 5 = .ok (.aload_n 0, 1) := by decide +kernel
theorem dX1_isProgram_6 : decode cX1_isProgram 6 = .ok (.invokevirtual 63, 3) := by decide +kernel
theorem dX1_isProgram_9 : decode cX1_isProgram 9 = .ok (.if_icmp .ge 7, 3) := by decide +kernel
theorem dX1_isProgram_12 : decode cX1_isProgram 12 = .ok (.iconst 1, 1) := by decide +kernel
theorem dX1_isProgram_13 : decode cX1_isProgram 13 = .ok (.goto 4, 3) := by decide +kernel
theorem dX1_isProgram_16 : decode cX1_isProgram 16 = .ok (.iconst 0, 1) := by decide +kernel
theorem dX1_isProgram_17 : decode cX1_isProgram 17 = .ok (.ireturn, 1) := by decide +kernel
theorem dX1_isSpotSet_0 : decode cX1_isSpotSet 0 = .ok (.iload_n 1, 1) := by decide +kernel
theorem dX1_isSpotSet_1 : decode cX1_isSpotSet 1 = .ok (.ifCond .lt 17, 3) := by decide +kernel
theorem dX1_isSpotSet_4 : decode cX1_isSpotSet 4 = .ok (.iload_n 1, 1) := by decide +kernel
theorem dX1_isSpotSet_5 : decode cX1_isSpotSet 5 = .ok (.iconst 1, 1) := by decide +kernel
theorem dX1_isSpotSet_6 : decode cX1_isSpotSet 6 = .ok (.aload_n 0, 1) := by decide +kernel
theorem dX1_isSpotSet_7 : decode cX1_isSpotSet 7 = .ok (.getfield 9, 3) := by decide +kernel
theorem dX1_isSpotSet_10 : decode cX1_isSpotSet 10 = .ok (.ishl, 1) := by decide +kernel
theorem dX1_isSpotSet_11 : decode cX1_isSpotSet 11 = .ok (.if_icmp .ge 7, 3) := by decide +kernel
theorem dX1_isSpotSet_14 : decode cX1_isSpotSet 14 = .ok (.iconst 1, 1) := by decide +kernel
theorem dX1_isSpotSet_15 : decode cX1_isSpotSet 15 = .ok (.goto 4, 3) := by decide +kernel
theorem dX1_isSpotSet_18 : decode cX1_isSpotSet 18 = .ok (.iconst 0, 1) := by decide +kernel
theorem dX1_isSpotSet_19 : decode cX1_isSpotSet 19 = .ok (.ireturn, 1) := by decide +kernel
theorem dX1_isFrozen_0 : decode cX1_isFrozen 0 = .ok (.aload_n 0, 1) := by decide +kernel
theorem dX1_isFrozen_1 : decode cX1_isFrozen 1 = .ok (.getfield 18, 3) := by decide +kernel
theorem dX1_isFrozen_4 : decode cX1_isFrozen 4 = .ok (.iload_n 1, 1) := by decide +kernel
theorem dX1_isFrozen_5 : decode cX1_isFrozen 5 = .ok (.ishr, 1) := by decide +kernel
theorem dX1_isFrozen_6 : decode cX1_isFrozen 6 = .ok (.iconst 1, 1) := by decide +kernel
theorem dX1_isFrozen_7 : decode cX1_isFrozen 7 = .ok (.iand, 1) := by decide +kernel
theorem dX1_isFrozen_8 : decode cX1_isFrozen 8 = .ok (.iconst 1, 1) := by decide +kernel
theorem dX1_isFrozen_9 : decode cX1_isFrozen 9 = .ok (.if_icmp .ne 7, 3) := by decide +kernel
theorem dX1_isFrozen_12 : decode cX1_isFrozen 12 = .ok (.iconst 1, 1) := by decide +kernel
theorem dX1_isFrozen_13 : decode cX1_isFrozen 13 = .ok (.goto 4, 3) := by decide +kernel
theorem dX1_isFrozen_16 : decode cX1_isFrozen 16 = .ok (.iconst 0, 1) := by decide +kernel
theorem dX1_isFrozen_17 : decode cX1_isFrozen 17 = .ok (.ireturn, 1) := by decide +kernel
theorem dX1_isOf_0 : decode cX1_isOf 0 = .ok (.aload_n 0, 1) := by decide +kernel
theorem dX1_isOf_1 : decode cX1_isOf 1 = .ok (.iload_n 1, 1) := by decide +kernel
theorem dX1_isOf_2 : decode cX1_isOf 2 = .ok (.invokevirtual 67, 3) := by decide +kernel
theorem dX1_isOf_5 : decode cX1_isOf 5 = .ok (.ifCond .eq 25, 3) := by decide +kernel
theorem dX1_isOf_8 : decode cX1_isOf 8 = .ok (.getstatic 71, 3) := by decide +kernel
theorem dX1_isOf_11 : decode cX1_isOf 11 = .ok (.aload_n 0, 1) := by decide +kernel
theorem dX1_isOf_12 : decode cX1_isOf 12 = .ok (.getfield 34, 3) := by decide +kernel
theorem dX1_isOf_15 : decode cX1_isOf 15 = .ok (.iload_n 1, 1) := by decide +kernel
theorem dX1_isOf_16 : decode cX1_isOf 16 = .ok (.iaload, 1) := by decide +kernel
theorem dX1_isOf_17 : decode cX1_isOf 17 = .ok (.iaload, 1) := by decide +kernel
theorem dX1_isOf_18 : decode cX1_isOf 18 = .ok (.iload_n 2, 1) := by decide +kernel
theorem dX1_isOf_19 : decode cX1_isOf 19 = .ok (.ishr, 1) := by decide +kernel
theorem dX1_isOf_20 : decode cX1_isOf 20 = .ok (.iconst 1, 1) := by decide +kernel
theorem dX1_isOf_21 : decode cX1_isOf 21 = .ok (.iand, 1) := by decide +kernel
theorem dX1_isOf_22 : decode cX1_isOf 22 = .ok (.iconst 1, 1) := by decide +kernel
theorem dX1_isOf_23 : decode cX1_isOf 23 = .ok (.if_icmp .ne 7, 3) := by decide +kernel
theorem dX1_isOf_26 : decode cX1_isOf 26 = .ok (.iconst 1, 1) := by decide +kernel
theorem dX1_isOf_27 : decode cX1_isOf 27 = .ok (.goto 4, 3) := by decide +kernel
theorem dX1_isOf_30 : decode cX1_isOf 30 = .ok (.iconst 0, 1) := by decide +kernel
theorem dX1_isOf_31 : decode cX1_isOf 31 = .ok (.ireturn, 1) := by decide +kernel
theorem dX1_programs_0 : decode cX1_programs 0 = .ok (.iconst 1, 1) := by decide +kernel
theorem dX1_programs_1 : decode cX1_programs 1 = .ok (.istore_n 1, 1) := by decide +kernel
theorem dX1_programs_2 : decode cX1_programs 2 = .ok (.iconst 0, 1) := by decide +kernel
theorem dX1_programs_3 : decode cX1_programs 3 = .ok (.istore_n 2, 1) := by decide +kernel
theorem dX1_programs_4 : decode cX1_programs 4 = .ok (.iload_n 2, 1) := by decide +kernel
theorem dX1_programs_5 : decode cX1_programs 5 = .ok (.aload_n 0, 1) := by decide +kernel
theorem dX1_programs_6 : decode cX1_programs 6 = .ok (.getfield 15, 3) := by decide +kernel
theorem dX1_programs_9 : decode cX1_programs 9 = .ok (.if_icmp .ge 13, 3) := by decide +kernel
theorem dX1_programs_12 : decode cX1_programs 12 = .ok (.iload_n 1, 1) := by decide +kernel
theorem dX1_programs_13 : decode cX1_programs 13 = .ok (.iconst 3, 1) := by decide +kernel
theorem dX1_programs_14 : decode cX1_programs 14 = .ok (.imul, 1) := by decide +kernel
theorem dX1_programs_15 : decode cX1_programs 15 = .ok (.istore_n 1, 1) := by decide +kernel
theorem dX1_programs_16 : decode cX1_programs 16 = .ok (.iinc 2 1, 3) := by decide +kernel
theorem dX1_programs_19 : decode cX1_programs 19 = .ok (.goto (-15), 3) := by decide +kernel
theorem dX1_programs_22 : decode cX1_programs 22 = .ok (.iload_n 1, 1) := by decide +kernel
theorem dX1_programs_23 : decode cX1_programs 23 = .ok (.ireturn, 1) := by decide +kernel
theorem dX1_tuneOf_0 : decode cX1_tuneOf 0 = .ok (.iload_n 1, 1) := by decide +kernel
theorem dX1_tuneOf_1 : decode cX1_tuneOf 1 = .ok (.istore_n 3, 1) := by decide +kernel
theorem dX1_tuneOf_2 : decode cX1_tuneOf 2 = .ok (.iconst 0, 1) := by decide +kernel
theorem dX1_tuneOf_3 : decode cX1_tuneOf 3 = .ok (.istore 4, 2) := by decide +kernel
theorem dX1_tuneOf_5 : decode cX1_tuneOf 5 = .ok (.iload 4, 2) := by decide +kernel
theorem dX1_tuneOf_7 : decode cX1_tuneOf 7 = .ok (.iload_n 2, 1) := by decide +kernel
theorem dX1_tuneOf_8 : decode cX1_tuneOf 8 = .ok (.if_icmp .ge 13, 3) := by decide +kernel
theorem dX1_tuneOf_11 : decode cX1_tuneOf 11 = .ok (.iload_n 3, 1) := by decide +kernel
theorem dX1_tuneOf_12 : decode cX1_tuneOf 12 = .ok (.iconst 3, 1) := by decide +kernel
theorem dX1_tuneOf_13 : decode cX1_tuneOf 13 = .ok (.idiv, 1) := by decide +kernel
theorem dX1_tuneOf_14 : decode cX1_tuneOf 14 = .ok (.istore_n 3, 1) := by decide +kernel
theorem dX1_tuneOf_15 : decode cX1_tuneOf 15 = .ok (.iinc 4 1, 3) := by decide +kernel
theorem dX1_tuneOf_18 : decode cX1_tuneOf 18 = .ok (.goto (-13), 3) := by decide +kernel
theorem dX1_tuneOf_21 : decode cX1_tuneOf 21 = .ok (.iload_n 3, 1) := by decide +kernel
theorem dX1_tuneOf_22 : decode cX1_tuneOf 22 = .ok (.iconst 3, 1) := by decide +kernel
theorem dX1_tuneOf_23 : decode cX1_tuneOf 23 = .ok (.irem, 1) := by decide +kernel
theorem dX1_tuneOf_24 : decode cX1_tuneOf 24 = .ok (.ireturn, 1) := by decide +kernel
theorem dX1_breathOf_0 : decode cX1_breathOf 0 = .ok (.iconst 0, 1) := by decide +kernel
theorem dX1_breathOf_1 : decode cX1_breathOf 1 = .ok (.istore_n 2, 1) := by decide +kernel
theorem dX1_breathOf_2 : decode cX1_breathOf 2 = .ok (.iconst 0, 1) := by decide +kernel
theorem dX1_breathOf_3 : decode cX1_breathOf 3 = .ok (.istore_n 3, 1) := by decide +kernel
theorem dX1_breathOf_4 : decode cX1_breathOf 4 = .ok (.iload_n 3, 1) := by decide +kernel
theorem dX1_breathOf_5 : decode cX1_breathOf 5 = .ok (.aload_n 0, 1) := by decide +kernel
theorem dX1_breathOf_6 : decode cX1_breathOf 6 = .ok (.getfield 15, 3) := by decide +kernel
theorem dX1_breathOf_9 : decode cX1_breathOf 9 = .ok (.if_icmp .ge 27, 3) := by decide +kernel
theorem dX1_breathOf_12 : decode cX1_breathOf 12 = .ok (.aload_n 0, 1) := by decide +kernel
theorem dX1_breathOf_13 : decode cX1_breathOf 13 = .ok (.iload_n 1, 1) := by decide +kernel
theorem dX1_breathOf_14 : decode cX1_breathOf 14 = .ok (.iload_n 3, 1) := by decide +kernel
theorem dX1_breathOf_15 : decode cX1_breathOf 15 = .ok (.invokevirtual 74, 3) := by decide +kernel
theorem dX1_breathOf_18 : decode cX1_breathOf 18 = .ok (.ifCond .eq 12, 3) := by decide +kernel
theorem dX1_breathOf_21 : decode cX1_breathOf 21 = .ok (.iload_n 2, 1) := by decide +kernel
theorem dX1_breathOf_22 : decode cX1_breathOf 22 = .ok (.aload_n 0, 1) := by decide +kernel
theorem dX1_breathOf_23 : decode cX1_breathOf 23 = .ok (.getfield 31, 3) := by decide +kernel
theorem dX1_breathOf_26 : decode cX1_breathOf 26 = .ok (.iload_n 3, 1) := by decide +kernel
theorem dX1_breathOf_27 : decode cX1_breathOf 27 = .ok (.iaload, 1) := by decide +kernel
theorem dX1_breathOf_28 : decode cX1_breathOf 28 = .ok (.iadd, 1) := by decide +kernel
theorem dX1_breathOf_29 : decode cX1_breathOf 29 = .ok (.istore_n 2, 1) := by decide +kernel
theorem dX1_breathOf_30 : decode cX1_breathOf 30 = .ok (.iinc 3 1, 3) := by decide +kernel
theorem dX1_breathOf_33 : decode cX1_breathOf 33 = .ok (.goto (-29), 3) := by decide +kernel
theorem dX1_breathOf_36 : decode cX1_breathOf 36 = .ok (.iload_n 2, 1) := by decide +kernel
theorem dX1_breathOf_37 : decode cX1_breathOf 37 = .ok (.ireturn, 1) := by decide +kernel
theorem dX1_drums_0 : decode cX1_drums 0 = .ok (.iconst 0, 1) := by decide +kernel
theorem dX1_drums_1 : decode cX1_drums 1 = .ok (.istore_n 1, 1) := by decide +kernel
theorem dX1_drums_2 : decode cX1_drums 2 = .ok (.iconst 0, 1) := by decide +kernel
theorem dX1_drums_3 : decode cX1_drums 3 = .ok (.istore_n 2, 1) := by decide +kernel
theorem dX1_drums_4 : decode cX1_drums 4 = .ok (.iload_n 2, 1) := by decide +kernel
theorem dX1_drums_5 : decode cX1_drums 5 = .ok (.aload_n 0, 1) := by decide +kernel
theorem dX1_drums_6 : decode cX1_drums 6 = .ok (.getfield 15, 3) := by decide +kernel
theorem dX1_drums_9 : decode cX1_drums 9 = .ok (.if_icmp .ge 21, 3) := by decide +kernel
theorem dX1_drums_12 : decode cX1_drums 12 = .ok (.aload_n 0, 1) := by decide +kernel
theorem dX1_drums_13 : decode cX1_drums 13 = .ok (.iload_n 2, 1) := by decide +kernel
theorem dX1_drums_14 : decode cX1_drums 14 = .ok (.iconst 1, 1) := by decide +kernel
theorem dX1_drums_15 : decode cX1_drums 15 = .ok (.invokevirtual 78, 3) := by decide +kernel
theorem dX1_drums_18 : decode cX1_drums 18 = .ok (.ifCond .eq 6, 3) := by decide +kernel
theorem dX1_drums_21 : decode cX1_drums 21 = .ok (.iinc 1 1, 3) := by decide +kernel
theorem dX1_drums_24 : decode cX1_drums 24 = .ok (.iinc 2 1, 3) := by decide +kernel
theorem dX1_drums_27 : decode cX1_drums 27 = .ok (.goto (-23), 3) := by decide +kernel
theorem dX1_drums_30 : decode cX1_drums 30 = .ok (.iload_n 1, 1) := by decide +kernel
theorem dX1_drums_31 : decode cX1_drums 31 = .ok (.ireturn, 1) := by decide +kernel
theorem dX1_reach_0 : decode cX1_reach 0 = .ok (.aload_n 0, 1) := by decide +kernel
theorem dX1_reach_1 : decode cX1_reach 1 = .ok (.iload_n 1, 1) := by decide +kernel
theorem dX1_reach_2 : decode cX1_reach 2 = .ok (.invokevirtual 67, 3) := by decide +kernel
theorem dX1_reach_5 : decode cX1_reach 5 = .ok (.ifCond .ne 5, 3) := by decide +kernel
theorem dX1_reach_8 : decode cX1_reach 8 = .ok (.iconst 0, 1) := by decide +kernel
theorem dX1_reach_9 : decode cX1_reach 9 = .ok (.ireturn, 1) := by decide +kernel
theorem dX1_reach_10 : decode cX1_reach 10 = .ok (.aload_n 0, 1) := by decide +kernel
theorem dX1_reach_11 : decode cX1_reach 11 = .ok (.getfield 34, 3) := by decide +kernel
theorem dX1_reach_14 : decode cX1_reach 14 = .ok (.iload_n 1, 1) := by decide +kernel
theorem dX1_reach_15 : decode cX1_reach 15 = .ok (.iaload, 1) := by decide +kernel
theorem dX1_reach_16 : decode cX1_reach 16 = .ok (.iconst 4, 1) := by decide +kernel
theorem dX1_reach_17 : decode cX1_reach 17 = .ok (.if_icmp .ne 14, 3) := by decide +kernel
theorem dX1_reach_20 : decode cX1_reach 20 = .ok (.iconst 2, 1) := by decide +kernel
theorem dX1_reach_21 : decode cX1_reach 21 = .ok (.aload_n 0, 1) := by decide +kernel
theorem dX1_reach_22 : decode cX1_reach 22 = .ok (.getfield 31, 3) := by decide +kernel
theorem dX1_reach_25 : decode cX1_reach 25 = .ok (.iload_n 1, 1) := by decide +kernel
theorem dX1_reach_26 : decode cX1_reach 26 = .ok (.iaload, 1) := by decide +kernel
theorem dX1_reach_27 : decode cX1_reach 27 = .ok (.imul, 1) := by decide +kernel
theorem dX1_reach_28 : decode cX1_reach 28 = .ok (.goto 9, 3) := by decide +kernel
theorem dX1_reach_31 : decode cX1_reach 31 = .ok (.aload_n 0, 1) := by decide +kernel
theorem dX1_reach_32 : decode cX1_reach 32 = .ok (.getfield 31, 3) := by decide +kernel
theorem dX1_reach_35 : decode cX1_reach 35 = .ok (.iload_n 1, 1) := by decide +kernel
theorem dX1_reach_36 : decode cX1_reach 36 = .ok (.iaload, 1) := by decide +kernel
theorem dX1_reach_37 : decode cX1_reach 37 = .ok (.ireturn, 1) := by decide +kernel
theorem dX1_isHeard_0 : decode cX1_isHeard 0 = .ok (.aload_n 0, 1) := by decide +kernel
theorem dX1_isHeard_1 : decode cX1_isHeard 1 = .ok (.iload_n 1, 1) := by decide +kernel
theorem dX1_isHeard_2 : decode cX1_isHeard 2 = .ok (.invokevirtual 67, 3) := by decide +kernel
theorem dX1_isHeard_5 : decode cX1_isHeard 5 = .ok (.ifCond .eq 36, 3) := by decide +kernel
theorem dX1_isHeard_8 : decode cX1_isHeard 8 = .ok (.iload_n 2, 1) := by decide +kernel
theorem dX1_isHeard_9 : decode cX1_isHeard 9 = .ok (.aload_n 0, 1) := by decide +kernel
theorem dX1_isHeard_10 : decode cX1_isHeard 10 = .ok (.getfield 28, 3) := by decide +kernel
theorem dX1_isHeard_13 : decode cX1_isHeard 13 = .ok (.iload_n 1, 1) := by decide +kernel
theorem dX1_isHeard_14 : decode cX1_isHeard 14 = .ok (.iaload, 1) := by decide +kernel
theorem dX1_isHeard_15 : decode cX1_isHeard 15 = .ok (.if_icmp .eq 26, 3) := by decide +kernel
theorem dX1_isHeard_18 : decode cX1_isHeard 18 = .ok (.iload_n 2, 1) := by decide +kernel
theorem dX1_isHeard_19 : decode cX1_isHeard 19 = .ok (.aload_n 0, 1) := by decide +kernel
theorem dX1_isHeard_20 : decode cX1_isHeard 20 = .ok (.getfield 28, 3) := by decide +kernel
theorem dX1_isHeard_23 : decode cX1_isHeard 23 = .ok (.iload_n 1, 1) := by decide +kernel
theorem dX1_isHeard_24 : decode cX1_isHeard 24 = .ok (.iaload, 1) := by decide +kernel
theorem dX1_isHeard_25 : decode cX1_isHeard 25 = .ok (.isub, 1) := by decide +kernel
theorem dX1_isHeard_26 : decode cX1_isHeard 26 = .ok (.invokestatic 82, 3) := by decide +kernel
theorem dX1_isHeard_29 : decode cX1_isHeard 29 = .ok (.aload_n 0, 1) := by decide +kernel
theorem dX1_isHeard_30 : decode cX1_isHeard 30 = .ok (.iload_n 1, 1) := by decide +kernel
theorem dX1_isHeard_31 : decode cX1_isHeard 31 = .ok (.invokevirtual 88, 3) := by decide +kernel
theorem dX1_isHeard_34 : decode cX1_isHeard 34 = .ok (.if_icmp .gt 7, 3) := by decide +kernel
theorem dX1_isHeard_37 : decode cX1_isHeard 37 = .ok (.iconst 1, 1) := by decide +kernel
theorem dX1_isHeard_38 : decode cX1_isHeard 38 = .ok (.goto 4, 3) := by decide +kernel
theorem dX1_isHeard_41 : decode cX1_isHeard 41 = .ok (.iconst 0, 1) := by decide +kernel
theorem dX1_isHeard_42 : decode cX1_isHeard 42 = .ok (.ireturn, 1) := by decide +kernel
theorem dX1_heardOn_0 : decode cX1_heardOn 0 = .ok (.iconst 0, 1) := by decide +kernel
theorem dX1_heardOn_1 : decode cX1_heardOn 1 = .ok (.istore_n 2, 1) := by decide +kernel
theorem dX1_heardOn_2 : decode cX1_heardOn 2 = .ok (.iconst 0, 1) := by decide +kernel
theorem dX1_heardOn_3 : decode cX1_heardOn 3 = .ok (.istore_n 3, 1) := by decide +kernel
theorem dX1_heardOn_4 : decode cX1_heardOn 4 = .ok (.iload_n 3, 1) := by decide +kernel
theorem dX1_heardOn_5 : decode cX1_heardOn 5 = .ok (.aload_n 0, 1) := by decide +kernel
theorem dX1_heardOn_6 : decode cX1_heardOn 6 = .ok (.getfield 9, 3) := by decide +kernel
theorem dX1_heardOn_9 : decode cX1_heardOn 9 = .ok (.if_icmp .ge 24, 3) := by decide +kernel
theorem dX1_heardOn_12 : decode cX1_heardOn 12 = .ok (.aload_n 0, 1) := by decide +kernel
theorem dX1_heardOn_13 : decode cX1_heardOn 13 = .ok (.iload_n 1, 1) := by decide +kernel
theorem dX1_heardOn_14 : decode cX1_heardOn 14 = .ok (.iload_n 3, 1) := by decide +kernel
theorem dX1_heardOn_15 : decode cX1_heardOn 15 = .ok (.invokevirtual 91, 3) := by decide +kernel
theorem dX1_heardOn_18 : decode cX1_heardOn 18 = .ok (.ifCond .eq 9, 3) := by decide +kernel
theorem dX1_heardOn_21 : decode cX1_heardOn 21 = .ok (.iload_n 2, 1) := by decide +kernel
theorem dX1_heardOn_22 : decode cX1_heardOn 22 = .ok (.iconst 1, 1) := by decide +kernel
theorem dX1_heardOn_23 : decode cX1_heardOn 23 = .ok (.iload_n 3, 1) := by decide +kernel
theorem dX1_heardOn_24 : decode cX1_heardOn 24 = .ok (.ishl, 1) := by decide +kernel
theorem dX1_heardOn_25 : decode cX1_heardOn 25 = .ok (.ior, 1) := by decide +kernel
theorem dX1_heardOn_26 : decode cX1_heardOn 26 = .ok (.istore_n 2, 1) := by decide +kernel
theorem dX1_heardOn_27 : decode cX1_heardOn 27 = .ok (.iinc 3 1, 3) := by decide +kernel
theorem dX1_heardOn_30 : decode cX1_heardOn 30 = .ok (.goto (-26), 3) := by decide +kernel
theorem dX1_heardOn_33 : decode cX1_heardOn 33 = .ok (.iload_n 2, 1) := by decide +kernel
theorem dX1_heardOn_34 : decode cX1_heardOn 34 = .ok (.ireturn, 1) := by decide +kernel
theorem dX1_lowHeard_0 : decode cX1_lowHeard 0 = .ok (.iconst 0, 1) := by decide +kernel
theorem dX1_lowHeard_1 : decode cX1_lowHeard 1 = .ok (.istore_n 2, 1) := by decide +kernel
theorem dX1_lowHeard_2 : decode cX1_lowHeard 2 = .ok (.iconst 0, 1) := by decide +kernel
theorem dX1_lowHeard_3 : decode cX1_lowHeard 3 = .ok (.istore_n 3, 1) := by decide +kernel
theorem dX1_lowHeard_4 : decode cX1_lowHeard 4 = .ok (.iload_n 3, 1) := by decide +kernel
theorem dX1_lowHeard_5 : decode cX1_lowHeard 5 = .ok (.aload_n 0, 1) := by decide +kernel
theorem dX1_lowHeard_6 : decode cX1_lowHeard 6 = .ok (.getfield 9, 3) := by decide +kernel
theorem dX1_lowHeard_9 : decode cX1_lowHeard 9 = .ok (.if_icmp .ge 35, 3) := by decide +kernel
theorem dX1_lowHeard_12 : decode cX1_lowHeard 12 = .ok (.aload_n 0, 1) := by decide +kernel
theorem dX1_lowHeard_13 : decode cX1_lowHeard 13 = .ok (.iload_n 1, 1) := by decide +kernel
theorem dX1_lowHeard_14 : decode cX1_lowHeard 14 = .ok (.iload_n 3, 1) := by decide +kernel
theorem dX1_lowHeard_15 : decode cX1_lowHeard 15 = .ok (.invokevirtual 91, 3) := by decide +kernel
theorem dX1_lowHeard_18 : decode cX1_lowHeard 18 = .ok (.ifCond .eq 20, 3) := by decide +kernel
theorem dX1_lowHeard_21 : decode cX1_lowHeard 21 = .ok (.aload_n 0, 1) := by decide +kernel
theorem dX1_lowHeard_22 : decode cX1_lowHeard 22 = .ok (.getfield 24, 3) := by decide +kernel
theorem dX1_lowHeard_25 : decode cX1_lowHeard 25 = .ok (.iload_n 3, 1) := by decide +kernel
theorem dX1_lowHeard_26 : decode cX1_lowHeard 26 = .ok (.iaload, 1) := by decide +kernel
theorem dX1_lowHeard_27 : decode cX1_lowHeard 27 = .ok (.getstatic 94, 3) := by decide +kernel
theorem dX1_lowHeard_30 : decode cX1_lowHeard 30 = .ok (.iconst 2, 1) := by decide +kernel
theorem dX1_lowHeard_31 : decode cX1_lowHeard 31 = .ok (.iaload, 1) := by decide +kernel
theorem dX1_lowHeard_32 : decode cX1_lowHeard 32 = .ok (.if_icmp .ge 6, 3) := by decide +kernel
theorem dX1_lowHeard_35 : decode cX1_lowHeard 35 = .ok (.iinc 2 1, 3) := by decide +kernel
theorem dX1_lowHeard_38 : decode cX1_lowHeard 38 = .ok (.iinc 3 1, 3) := by decide +kernel
theorem dX1_lowHeard_41 : decode cX1_lowHeard 41 = .ok (.goto (-37), 3) := by decide +kernel
theorem dX1_lowHeard_44 : decode cX1_lowHeard 44 = .ok (.iload_n 2, 1) := by decide +kernel
theorem dX1_lowHeard_45 : decode cX1_lowHeard 45 = .ok (.ireturn, 1) := by decide +kernel
theorem dX1_bandTells_0 : decode cX1_bandTells 0 = .ok (.aload_n 0, 1) := by decide +kernel
theorem dX1_bandTells_1 : decode cX1_bandTells 1 = .ok (.iload_n 1, 1) := by decide +kernel
theorem dX1_bandTells_2 : decode cX1_bandTells 2 = .ok (.invokevirtual 67, 3) := by decide +kernel
theorem dX1_bandTells_5 : decode cX1_bandTells 5 = .ok (.ifCond .ne 5, 3) := by decide +kernel
theorem dX1_bandTells_8 : decode cX1_bandTells 8 = .ok (.iconst 0, 1) := by decide +kernel
theorem dX1_bandTells_9 : decode cX1_bandTells 9 = .ok (.ireturn, 1) := by decide +kernel
theorem dX1_bandTells_10 : decode cX1_bandTells 10 = .ok (.iload_n 2, 1) := by decide +kernel
theorem dX1_bandTells_11 : decode cX1_bandTells 11 = .ok (.tableswitch 56 0 3 #[29, 36, 43, 50], 29) := by decide +kernel
theorem dX1_bandTells_40 : decode cX1_bandTells 40 = .ok (.aload_n 0, 1) := by decide +kernel
theorem dX1_bandTells_41 : decode cX1_bandTells 41 = .ok (.getfield 34, 3) := by decide +kernel
theorem dX1_bandTells_44 : decode cX1_bandTells 44 = .ok (.iload_n 1, 1) := by decide +kernel
theorem dX1_bandTells_45 : decode cX1_bandTells 45 = .ok (.iaload, 1) := by decide +kernel
theorem dX1_bandTells_46 : decode cX1_bandTells 46 = .ok (.ireturn, 1) := by decide +kernel
theorem dX1_bandTells_47 : decode cX1_bandTells 47 = .ok (.aload_n 0, 1) := by decide +kernel
theorem dX1_bandTells_48 : decode cX1_bandTells 48 = .ok (.getfield 28, 3) := by decide +kernel
theorem dX1_bandTells_51 : decode cX1_bandTells 51 = .ok (.iload_n 1, 1) := by decide +kernel
theorem dX1_bandTells_52 : decode cX1_bandTells 52 = .ok (.iaload, 1) := by decide +kernel
theorem dX1_bandTells_53 : decode cX1_bandTells 53 = .ok (.ireturn, 1) := by decide +kernel
theorem dX1_bandTells_54 : decode cX1_bandTells 54 = .ok (.aload_n 0, 1) := by decide +kernel
theorem dX1_bandTells_55 : decode cX1_bandTells 55 = .ok (.getfield 31, 3) := by decide +kernel
theorem dX1_bandTells_58 : decode cX1_bandTells 58 = .ok (.iload_n 1, 1) := by decide +kernel
theorem dX1_bandTells_59 : decode cX1_bandTells 59 = .ok (.iaload, 1) := by decide +kernel
theorem dX1_bandTells_60 : decode cX1_bandTells 60 = .ok (.ireturn, 1) := by decide +kernel
theorem dX1_bandTells_61 : decode cX1_bandTells 61 = .ok (.aload_n 0, 1) := by decide +kernel
theorem dX1_bandTells_62 : decode cX1_bandTells 62 = .ok (.iload_n 1, 1) := by decide +kernel
theorem dX1_bandTells_63 : decode cX1_bandTells 63 = .ok (.invokevirtual 97, 3) := by decide +kernel
theorem dX1_bandTells_66 : decode cX1_bandTells 66 = .ok (.ireturn, 1) := by decide +kernel
theorem dX1_bandTells_67 : decode cX1_bandTells 67 = .ok (.aload_n 0, 1) := by decide +kernel
theorem dX1_bandTells_68 : decode cX1_bandTells 68 = .ok (.getfield 37, 3) := by decide +kernel
theorem dX1_bandTells_71 : decode cX1_bandTells 71 = .ok (.iload_n 1, 1) := by decide +kernel
theorem dX1_bandTells_72 : decode cX1_bandTells 72 = .ok (.iaload, 1) := by decide +kernel
theorem dX1_bandTells_73 : decode cX1_bandTells 73 = .ok (.ireturn, 1) := by decide +kernel
theorem dX1_allInches_0 : decode cX1_allInches 0 = .ok (.iconst 0, 1) := by decide +kernel
theorem dX1_allInches_1 : decode cX1_allInches 1 = .ok (.istore_n 1, 1) := by decide +kernel
theorem dX1_allInches_2 : decode cX1_allInches 2 = .ok (.iconst 0, 1) := by decide +kernel
theorem dX1_allInches_3 : decode cX1_allInches 3 = .ok (.istore_n 2, 1) := by decide +kernel
theorem dX1_allInches_4 : decode cX1_allInches 4 = .ok (.iload_n 2, 1) := by decide +kernel
theorem dX1_allInches_5 : decode cX1_allInches 5 = .ok (.aload_n 0, 1) := by decide +kernel
theorem dX1_allInches_6 : decode cX1_allInches 6 = .ok (.getfield 9, 3) := by decide +kernel
theorem dX1_allInches_9 : decode cX1_allInches 9 = .ok (.if_icmp .ge 18, 3) := by decide +kernel
theorem dX1_allInches_12 : decode cX1_allInches 12 = .ok (.iload_n 1, 1) := by decide +kernel
theorem dX1_allInches_13 : decode cX1_allInches 13 = .ok (.aload_n 0, 1) := by decide +kernel
theorem dX1_allInches_14 : decode cX1_allInches 14 = .ok (.getfield 24, 3) := by decide +kernel
theorem dX1_allInches_17 : decode cX1_allInches 17 = .ok (.iload_n 2, 1) := by decide +kernel
theorem dX1_allInches_18 : decode cX1_allInches 18 = .ok (.iaload, 1) := by decide +kernel
theorem dX1_allInches_19 : decode cX1_allInches 19 = .ok (.iadd, 1) := by decide +kernel
theorem dX1_allInches_20 : decode cX1_allInches 20 = .ok (.istore_n 1, 1) := by decide +kernel
theorem dX1_allInches_21 : decode cX1_allInches 21 = .ok (.iinc 2 1, 3) := by decide +kernel
theorem dX1_allInches_24 : decode cX1_allInches 24 = .ok (.goto (-20), 3) := by decide +kernel
theorem dX1_allInches_27 : decode cX1_allInches 27 = .ok (.iload_n 1, 1) := by decide +kernel
theorem dX1_allInches_28 : decode cX1_allInches 28 = .ok (.ireturn, 1) := by decide +kernel
theorem dX1_firstHighest_0 : decode cX1_firstHighest 0 = .ok (.iload_n 2, 1) := by decide +kernel
theorem dX1_firstHighest_1 : decode cX1_firstHighest 1 = .ok (.istore 4, 2) := by decide +kernel
theorem dX1_firstHighest_3 : decode cX1_firstHighest 3 = .ok (.iload_n 2, 1) := by decide +kernel
theorem dX1_firstHighest_4 : decode cX1_firstHighest 4 = .ok (.iconst 1, 1) := by decide +kernel
theorem dX1_firstHighest_5 : decode cX1_firstHighest 5 = .ok (.iadd, 1) := by decide +kernel
theorem dX1_firstHighest_6 : decode cX1_firstHighest 6 = .ok (.istore 5, 2) := by decide +kernel
theorem dX1_firstHighest_8 : decode cX1_firstHighest 8 = .ok (.iload 5, 2) := by decide +kernel
theorem dX1_firstHighest_10 : decode cX1_firstHighest 10 = .ok (.iload_n 3, 1) := by decide +kernel
theorem dX1_firstHighest_11 : decode cX1_firstHighest 11 = .ok (.if_icmp .gt 33, 3) := by decide +kernel
theorem dX1_firstHighest_14 : decode cX1_firstHighest 14 = .ok (.aload_n 0, 1) := by decide +kernel
theorem dX1_firstHighest_15 : decode cX1_firstHighest 15 = .ok (.iload 5, 2) := by decide +kernel
theorem dX1_firstHighest_17 : decode cX1_firstHighest 17 = .ok (.invokevirtual 100, 3) := by decide +kernel
theorem dX1_firstHighest_20 : decode cX1_firstHighest 20 = .ok (.ifCond .eq 24, 3) := by decide +kernel
theorem dX1_firstHighest_23 : decode cX1_firstHighest 23 = .ok (.aload_n 1, 1) := by decide +kernel
theorem dX1_firstHighest_24 : decode cX1_firstHighest 24 = .ok (.iload 5, 2) := by decide +kernel
theorem dX1_firstHighest_26 : decode cX1_firstHighest 26 = .ok (.iaload, 1) := by decide +kernel
theorem dX1_firstHighest_27 : decode cX1_firstHighest 27 = .ok (.aload_n 1, 1) := by decide +kernel
theorem dX1_firstHighest_28 : decode cX1_firstHighest 28 = .ok (.iload 4, 2) := by decide +kernel
theorem dX1_firstHighest_30 : decode cX1_firstHighest 30 = .ok (.iaload, 1) := by decide +kernel
theorem dX1_firstHighest_31 : decode cX1_firstHighest 31 = .ok (.if_icmp .le 7, 3) := by decide +kernel
theorem dX1_firstHighest_34 : decode cX1_firstHighest 34 = .ok (.iload 5, 2) := by decide +kernel
theorem dX1_firstHighest_36 : decode cX1_firstHighest 36 = .ok (.istore 4, 2) := by decide +kernel
theorem dX1_firstHighest_38 : decode cX1_firstHighest 38 = .ok (.iinc 5 1, 3) := by decide +kernel
theorem dX1_firstHighest_41 : decode cX1_firstHighest 41 = .ok (.goto (-33), 3) := by decide +kernel
theorem dX1_firstHighest_44 : decode cX1_firstHighest 44 = .ok (.iload 4, 2) := by decide +kernel
theorem dX1_firstHighest_46 : decode cX1_firstHighest 46 = .ok (.ireturn, 1) := by decide +kernel
theorem dX1_highestOf_0 : decode cX1_highestOf 0 = .ok (.aload_n 0, 1) := by decide +kernel
theorem dX1_highestOf_1 : decode cX1_highestOf 1 = .ok (.getfield 9, 3) := by decide +kernel
theorem dX1_highestOf_4 : decode cX1_highestOf 4 = .ok (.ifCond .ne 7, 3) := by decide +kernel
theorem dX1_highestOf_7 : decode cX1_highestOf 7 = .ok (.iconst 0, 1) := by decide +kernel
theorem dX1_highestOf_8 : decode cX1_highestOf 8 = .ok (.goto 17, 3) := by decide +kernel
theorem dX1_highestOf_11 : decode cX1_highestOf 11 = .ok (.aload_n 1, 1) := by decide +kernel
theorem dX1_highestOf_12 : decode cX1_highestOf 12 = .ok (.aload_n 0, 1) := by decide +kernel
theorem dX1_highestOf_13 : decode cX1_highestOf 13 = .ok (.aload_n 1, 1) := by decide +kernel
theorem dX1_highestOf_14 : decode cX1_highestOf 14 = .ok (.iconst 0, 1) := by decide +kernel
theorem dX1_highestOf_15 : decode cX1_highestOf 15 = .ok (.aload_n 0, 1) := by decide +kernel
theorem dX1_highestOf_16 : decode cX1_highestOf 16 = .ok (.getfield 9, 3) := by decide +kernel
theorem dX1_highestOf_19 : decode cX1_highestOf 19 = .ok (.iconst 1, 1) := by decide +kernel
theorem dX1_highestOf_20 : decode cX1_highestOf 20 = .ok (.isub, 1) := by decide +kernel
theorem dX1_highestOf_21 : decode cX1_highestOf 21 = .ok (.invokevirtual 103, 3) := by decide +kernel
theorem dX1_highestOf_24 : decode cX1_highestOf 24 = .ok (.iaload, 1) := by decide +kernel
theorem dX1_highestOf_25 : decode cX1_highestOf 25 = .ok (.ireturn, 1) := by decide +kernel
theorem dX1_inchesFrom_0 : decode cX1_inchesFrom 0 = .ok (.aload_n 0, 1) := by decide +kernel
theorem dX1_inchesFrom_1 : decode cX1_inchesFrom 1 = .ok (.getfield 34, 3) := by decide +kernel
theorem dX1_inchesFrom_4 : decode cX1_inchesFrom 4 = .ok (.iload_n 1, 1) := by decide +kernel
theorem dX1_inchesFrom_5 : decode cX1_inchesFrom 5 = .ok (.iaload, 1) := by decide +kernel
theorem dX1_inchesFrom_6 : decode cX1_inchesFrom 6 = .ok (.istore 4, 2) := by decide +kernel
theorem dX1_inchesFrom_8 : decode cX1_inchesFrom 8 = .ok (.aload_n 0, 1) := by decide +kernel
theorem dX1_inchesFrom_9 : decode cX1_inchesFrom 9 = .ok (.getfield 18, 3) := by decide +kernel
theorem dX1_inchesFrom_12 : decode cX1_inchesFrom 12 = .ok (.iload_n 2, 1) := by decide +kernel
theorem dX1_inchesFrom_13 : decode cX1_inchesFrom 13 = .ok (.ishr, 1) := by decide +kernel
theorem dX1_inchesFrom_14 : decode cX1_inchesFrom 14 = .ok (.iconst 1, 1) := by decide +kernel
theorem dX1_inchesFrom_15 : decode cX1_inchesFrom 15 = .ok (.iand, 1) := by decide +kernel
theorem dX1_inchesFrom_16 : decode cX1_inchesFrom 16 = .ok (.iconst 1, 1) := by decide +kernel
theorem dX1_inchesFrom_17 : decode cX1_inchesFrom 17 = .ok (.if_icmp .eq 19, 3) := by decide +kernel
theorem dX1_inchesFrom_20 : decode cX1_inchesFrom 20 = .ok (.iload 4, 2) := by decide +kernel
theorem dX1_inchesFrom_22 : decode cX1_inchesFrom 22 = .ok (.iconst 3, 1) := by decide +kernel
theorem dX1_inchesFrom_23 : decode cX1_inchesFrom 23 = .ok (.if_icmp .ne 15, 3) := by decide +kernel
theorem dX1_inchesFrom_26 : decode cX1_inchesFrom 26 = .ok (.iload_n 2, 1) := by decide +kernel
theorem dX1_inchesFrom_27 : decode cX1_inchesFrom 27 = .ok (.aload_n 0, 1) := by decide +kernel
theorem dX1_inchesFrom_28 : decode cX1_inchesFrom 28 = .ok (.getfield 28, 3) := by decide +kernel
theorem dX1_inchesFrom_31 : decode cX1_inchesFrom 31 = .ok (.iload_n 1, 1) := by decide +kernel
theorem dX1_inchesFrom_32 : decode cX1_inchesFrom 32 = .ok (.iaload, 1) := by decide +kernel
theorem dX1_inchesFrom_33 : decode cX1_inchesFrom 33 = .ok (.if_icmp .ge 5, 3) := by decide +kernel
theorem dX1_inchesFrom_36 : decode cX1_inchesFrom 36 = .ok (.iconst 0, 1) := by decide +kernel
theorem dX1_inchesFrom_37 : decode cX1_inchesFrom 37 = .ok (.ireturn, 1) := by decide +kernel
theorem dX1_inchesFrom_38 : decode cX1_inchesFrom 38 = .ok (.iload_n 3, 1) := by decide +kernel
theorem dX1_inchesFrom_39 : decode cX1_inchesFrom 39 = .ok (.getstatic 94, 3) := by decide +kernel
theorem dX1_inchesFrom_42 : decode cX1_inchesFrom 42 = .ok (.iload 4, 2) := by decide +kernel
theorem dX1_inchesFrom_44 : decode cX1_inchesFrom 44 = .ok (.iaload, 1) := by decide +kernel
theorem dX1_inchesFrom_45 : decode cX1_inchesFrom 45 = .ok (.if_icmp .ge 5, 3) := by decide +kernel
theorem dX1_inchesFrom_48 : decode cX1_inchesFrom 48 = .ok (.iconst 0, 1) := by decide +kernel
theorem dX1_inchesFrom_49 : decode cX1_inchesFrom 49 = .ok (.ireturn, 1) := by decide +kernel
theorem dX1_inchesFrom_50 : decode cX1_inchesFrom 50 = .ok (.iload_n 3, 1) := by decide +kernel
theorem dX1_inchesFrom_51 : decode cX1_inchesFrom 51 = .ok (.getstatic 107, 3) := by decide +kernel
theorem dX1_inchesFrom_54 : decode cX1_inchesFrom 54 = .ok (.iload 4, 2) := by decide +kernel
theorem dX1_inchesFrom_56 : decode cX1_inchesFrom 56 = .ok (.iaload, 1) := by decide +kernel
theorem dX1_inchesFrom_57 : decode cX1_inchesFrom 57 = .ok (.if_icmp .ge 7, 3) := by decide +kernel
theorem dX1_inchesFrom_60 : decode cX1_inchesFrom 60 = .ok (.iload_n 3, 1) := by decide +kernel
theorem dX1_inchesFrom_61 : decode cX1_inchesFrom 61 = .ok (.goto 9, 3) := by decide +kernel
theorem dX1_inchesFrom_64 : decode cX1_inchesFrom 64 = .ok (.getstatic 107, 3) := by decide +kernel
theorem dX1_inchesFrom_67 : decode cX1_inchesFrom 67 = .ok (.iload 4, 2) := by decide +kernel
theorem dX1_inchesFrom_69 : decode cX1_inchesFrom 69 = .ok (.iaload, 1) := by decide +kernel
theorem dX1_inchesFrom_70 : decode cX1_inchesFrom 70 = .ok (.ireturn, 1) := by decide +kernel
theorem dX1_shift_0 : decode cX1_shift 0 = .ok (.iload_n 3, 1) := by decide +kernel
theorem dX1_shift_1 : decode cX1_shift 1 = .ok (.iload 4, 2) := by decide +kernel
theorem dX1_shift_3 : decode cX1_shift 3 = .ok (.iadd, 1) := by decide +kernel
theorem dX1_shift_4 : decode cX1_shift 4 = .ok (.istore 5, 2) := by decide +kernel
theorem dX1_shift_6 : decode cX1_shift 6 = .ok (.aload_n 0, 1) := by decide +kernel
theorem dX1_shift_7 : decode cX1_shift 7 = .ok (.iload_n 3, 1) := by decide +kernel
theorem dX1_shift_8 : decode cX1_shift 8 = .ok (.invokevirtual 100, 3) := by decide +kernel
theorem dX1_shift_11 : decode cX1_shift 11 = .ok (.ifCond .eq 12, 3) := by decide +kernel
theorem dX1_shift_14 : decode cX1_shift 14 = .ok (.aload_n 0, 1) := by decide +kernel
theorem dX1_shift_15 : decode cX1_shift 15 = .ok (.iload 5, 2) := by decide +kernel
theorem dX1_shift_17 : decode cX1_shift 17 = .ok (.invokevirtual 100, 3) := by decide +kernel
theorem dX1_shift_20 : decode cX1_shift 20 = .ok (.ifCond .ne 5, 3) := by decide +kernel
theorem dX1_shift_23 : decode cX1_shift 23 = .ok (.iconst 0, 1) := by decide +kernel
theorem dX1_shift_24 : decode cX1_shift 24 = .ok (.ireturn, 1) := by decide +kernel
theorem dX1_shift_25 : decode cX1_shift 25 = .ok (.aload_n 0, 1) := by decide +kernel
theorem dX1_shift_26 : decode cX1_shift 26 = .ok (.iload_n 2, 1) := by decide +kernel
theorem dX1_shift_27 : decode cX1_shift 27 = .ok (.iload_n 3, 1) := by decide +kernel
theorem dX1_shift_28 : decode cX1_shift 28 = .ok (.aload_n 1, 1) := by decide +kernel
theorem dX1_shift_29 : decode cX1_shift 29 = .ok (.iload_n 3, 1) := by decide +kernel
theorem dX1_shift_30 : decode cX1_shift 30 = .ok (.iaload, 1) := by decide +kernel
theorem dX1_shift_31 : decode cX1_shift 31 = .ok (.invokevirtual 110, 3) := by decide +kernel
theorem dX1_shift_34 : decode cX1_shift 34 = .ok (.istore 6, 2) := by decide +kernel
theorem dX1_shift_36 : decode cX1_shift 36 = .ok (.aload_n 1, 1) := by decide +kernel
theorem dX1_shift_37 : decode cX1_shift 37 = .ok (.iload_n 3, 1) := by decide +kernel
theorem dX1_shift_38 : decode cX1_shift 38 = .ok (.dup2, 1) := by decide +kernel
theorem dX1_shift_39 : decode cX1_shift 39 = .ok (.iaload, 1) := by decide +kernel
theorem dX1_shift_40 : decode cX1_shift 40 = .ok (.iload 6, 2) := by decide +kernel
theorem dX1_shift_42 : decode cX1_shift 42 = .ok (.isub, 1) := by decide +kernel
theorem dX1_shift_43 : decode cX1_shift 43 = .ok (.iastore, 1) := by decide +kernel
theorem dX1_shift_44 : decode cX1_shift 44 = .ok (.aload_n 1, 1) := by decide +kernel
theorem dX1_shift_45 : decode cX1_shift 45 = .ok (.iload 5, 2) := by decide +kernel
theorem dX1_shift_47 : decode cX1_shift 47 = .ok (.dup2, 1) := by decide +kernel
theorem dX1_shift_48 : decode cX1_shift 48 = .ok (.iaload, 1) := by decide +kernel
theorem dX1_shift_49 : decode cX1_shift 49 = .ok (.iload 6, 2) := by decide +kernel
theorem dX1_shift_51 : decode cX1_shift 51 = .ok (.iadd, 1) := by decide +kernel
theorem dX1_shift_52 : decode cX1_shift 52 = .ok (.iastore, 1) := by decide +kernel
theorem dX1_shift_53 : decode cX1_shift 53 = .ok (.iload 6, 2) := by decide +kernel
theorem dX1_shift_55 : decode cX1_shift 55 = .ok (.ireturn, 1) := by decide +kernel
theorem dX1_playTune_0 : decode cX1_playTune 0 = .ok (.aload_n 0, 1) := by decide +kernel
theorem dX1_playTune_1 : decode cX1_playTune 1 = .ok (.iload_n 2, 1) := by decide +kernel
theorem dX1_playTune_2 : decode cX1_playTune 2 = .ok (.invokevirtual 67, 3) := by decide +kernel
theorem dX1_playTune_5 : decode cX1_playTune 5 = .ok (.ifCond .eq 7, 3) := by decide +kernel
theorem dX1_playTune_8 : decode cX1_playTune 8 = .ok (.iload_n 3, 1) := by decide +kernel
theorem dX1_playTune_9 : decode cX1_playTune 9 = .ok (.ifCond .ne 5, 3) := by decide +kernel
theorem dX1_playTune_12 : decode cX1_playTune 12 = .ok (.iconst 0, 1) := by decide +kernel
theorem dX1_playTune_13 : decode cX1_playTune 13 = .ok (.ireturn, 1) := by decide +kernel
theorem dX1_playTune_14 : decode cX1_playTune 14 = .ok (.aload_n 0, 1) := by decide +kernel
theorem dX1_playTune_15 : decode cX1_playTune 15 = .ok (.iload_n 2, 1) := by decide +kernel
theorem dX1_playTune_16 : decode cX1_playTune 16 = .ok (.invokevirtual 88, 3) := by decide +kernel
theorem dX1_playTune_19 : decode cX1_playTune 19 = .ok (.aload_n 0, 1) := by decide +kernel
theorem dX1_playTune_20 : decode cX1_playTune 20 = .ok (.getfield 9, 3) := by decide +kernel
theorem dX1_playTune_23 : decode cX1_playTune 23 = .ok (.iconst 1, 1) := by decide +kernel
theorem dX1_playTune_24 : decode cX1_playTune 24 = .ok (.isub, 1) := by decide +kernel
theorem dX1_playTune_25 : decode cX1_playTune 25 = .ok (.invokestatic 114, 3) := by decide +kernel
theorem dX1_playTune_28 : decode cX1_playTune 28 = .ok (.istore 4, 2) := by decide +kernel
theorem dX1_playTune_30 : decode cX1_playTune 30 = .ok (.iconst 0, 1) := by decide +kernel
theorem dX1_playTune_31 : decode cX1_playTune 31 = .ok (.istore 5, 2) := by decide +kernel
theorem dX1_playTune_33 : decode cX1_playTune 33 = .ok (.iload_n 3, 1) := by decide +kernel
theorem dX1_playTune_34 : decode cX1_playTune 34 = .ok (.iconst 1, 1) := by decide +kernel
theorem dX1_playTune_35 : decode cX1_playTune 35 = .ok (.if_icmp .ne 7, 3) := by decide +kernel
theorem dX1_playTune_38 : decode cX1_playTune 38 = .ok (.iconst 1, 1) := by decide +kernel
theorem dX1_playTune_39 : decode cX1_playTune 39 = .ok (.goto 4, 3) := by decide +kernel
theorem dX1_playTune_42 : decode cX1_playTune 42 = .ok (.iconst 0, 1) := by decide +kernel
theorem dX1_playTune_43 : decode cX1_playTune 43 = .ok (.aload_n 0, 1) := by decide +kernel
theorem dX1_playTune_44 : decode cX1_playTune 44 = .ok (.getfield 34, 3) := by decide +kernel
theorem dX1_playTune_47 : decode cX1_playTune 47 = .ok (.iload_n 2, 1) := by decide +kernel
theorem dX1_playTune_48 : decode cX1_playTune 48 = .ok (.iaload, 1) := by decide +kernel
theorem dX1_playTune_49 : decode cX1_playTune 49 = .ok (.iconst 5, 1) := by decide +kernel
theorem dX1_playTune_50 : decode cX1_playTune 50 = .ok (.if_icmp .ne 7, 3) := by decide +kernel
theorem dX1_playTune_53 : decode cX1_playTune 53 = .ok (.iconst 1, 1) := by decide +kernel
theorem dX1_playTune_54 : decode cX1_playTune 54 = .ok (.goto 4, 3) := by decide +kernel
theorem dX1_playTune_57 : decode cX1_playTune 57 = .ok (.iconst 0, 1) := by decide +kernel
theorem dX1_playTune_58 : decode cX1_playTune 58 = .ok (.if_icmp .eq 60, 3) := by decide +kernel
theorem dX1_playTune_61 : decode cX1_playTune 61 = .ok (.iconst 1, 1) := by decide +kernel
theorem dX1_playTune_62 : decode cX1_playTune 62 = .ok (.istore 6, 2) := by decide +kernel
theorem dX1_playTune_64 : decode cX1_playTune 64 = .ok (.iload 6, 2) := by decide +kernel
theorem dX1_playTune_66 : decode cX1_playTune 66 = .ok (.iload 4, 2) := by decide +kernel
theorem dX1_playTune_68 : decode cX1_playTune 68 = .ok (.if_icmp .gt 47, 3) := by decide +kernel
theorem dX1_playTune_71 : decode cX1_playTune 71 = .ok (.iload 5, 2) := by decide +kernel
theorem dX1_playTune_73 : decode cX1_playTune 73 = .ok (.aload_n 0, 1) := by decide +kernel
theorem dX1_playTune_74 : decode cX1_playTune 74 = .ok (.aload_n 1, 1) := by decide +kernel
theorem dX1_playTune_75 : decode cX1_playTune 75 = .ok (.iload_n 2, 1) := by decide +kernel
theorem dX1_playTune_76 : decode cX1_playTune 76 = .ok (.aload_n 0, 1) := by decide +kernel
theorem dX1_playTune_77 : decode cX1_playTune 77 = .ok (.getfield 28, 3) := by decide +kernel
theorem dX1_playTune_80 : decode cX1_playTune 80 = .ok (.iload_n 2, 1) := by decide +kernel
theorem dX1_playTune_81 : decode cX1_playTune 81 = .ok (.iaload, 1) := by decide +kernel
theorem dX1_playTune_82 : decode cX1_playTune 82 = .ok (.iload 6, 2) := by decide +kernel
theorem dX1_playTune_84 : decode cX1_playTune 84 = .ok (.isub, 1) := by decide +kernel
theorem dX1_playTune_85 : decode cX1_playTune 85 = .ok (.iconst 1, 1) := by decide +kernel
theorem dX1_playTune_86 : decode cX1_playTune 86 = .ok (.invokevirtual 117, 3) := by decide +kernel
theorem dX1_playTune_89 : decode cX1_playTune 89 = .ok (.aload_n 0, 1) := by decide +kernel
theorem dX1_playTune_90 : decode cX1_playTune 90 = .ok (.aload_n 1, 1) := by decide +kernel
theorem dX1_playTune_91 : decode cX1_playTune 91 = .ok (.iload_n 2, 1) := by decide +kernel
theorem dX1_playTune_92 : decode cX1_playTune 92 = .ok (.aload_n 0, 1) := by decide +kernel
theorem dX1_playTune_93 : decode cX1_playTune 93 = .ok (.getfield 28, 3) := by decide +kernel
theorem dX1_playTune_96 : decode cX1_playTune 96 = .ok (.iload_n 2, 1) := by decide +kernel
theorem dX1_playTune_97 : decode cX1_playTune 97 = .ok (.iaload, 1) := by decide +kernel
theorem dX1_playTune_98 : decode cX1_playTune 98 = .ok (.iload 6, 2) := by decide +kernel
theorem dX1_playTune_100 : decode cX1_playTune 100 = .ok (.iadd, 1) := by decide +kernel
theorem dX1_playTune_101 : decode cX1_playTune 101 = .ok (.iconst (-1), 1) := by decide +kernel
theorem dX1_playTune_102 : decode cX1_playTune 102 = .ok (.invokevirtual 117, 3) := by decide +kernel
theorem dX1_playTune_105 : decode cX1_playTune 105 = .ok (.iadd, 1) := by decide +kernel
theorem dX1_playTune_106 : decode cX1_playTune 106 = .ok (.iadd, 1) := by decide +kernel
theorem dX1_playTune_107 : decode cX1_playTune 107 = .ok (.istore 5, 2) := by decide +kernel
theorem dX1_playTune_109 : decode cX1_playTune 109 = .ok (.iinc 6 1, 3) := by decide +kernel
theorem dX1_playTune_112 : decode cX1_playTune 112 = .ok (.goto (-48), 3) := by decide +kernel
theorem dX1_playTune_115 : decode cX1_playTune 115 = .ok (.goto 57, 3) := by decide +kernel
theorem dX1_playTune_118 : decode cX1_playTune 118 = .ok (.iload 4, 2) := by decide +kernel
theorem dX1_playTune_120 : decode cX1_playTune 120 = .ok (.istore 6, 2) := by decide +kernel
theorem dX1_playTune_122 : decode cX1_playTune 122 = .ok (.iload 6, 2) := by decide +kernel
theorem dX1_playTune_124 : decode cX1_playTune 124 = .ok (.iconst 1, 1) := by decide +kernel
theorem dX1_playTune_125 : decode cX1_playTune 125 = .ok (.if_icmp .lt 47, 3) := by decide +kernel
theorem dX1_playTune_128 : decode cX1_playTune 128 = .ok (.iload 5, 2) := by decide +kernel
theorem dX1_playTune_130 : decode cX1_playTune 130 = .ok (.aload_n 0, 1) := by decide +kernel
theorem dX1_playTune_131 : decode cX1_playTune 131 = .ok (.aload_n 1, 1) := by decide +kernel
theorem dX1_playTune_132 : decode cX1_playTune 132 = .ok (.iload_n 2, 1) := by decide +kernel
theorem dX1_playTune_133 : decode cX1_playTune 133 = .ok (.aload_n 0, 1) := by decide +kernel
theorem dX1_playTune_134 : decode cX1_playTune 134 = .ok (.getfield 28, 3) := by decide +kernel
theorem dX1_playTune_137 : decode cX1_playTune 137 = .ok (.iload_n 2, 1) := by decide +kernel
theorem dX1_playTune_138 : decode cX1_playTune 138 = .ok (.iaload, 1) := by decide +kernel
theorem dX1_playTune_139 : decode cX1_playTune 139 = .ok (.iload 6, 2) := by decide +kernel
theorem dX1_playTune_141 : decode cX1_playTune 141 = .ok (.isub, 1) := by decide +kernel
theorem dX1_playTune_142 : decode cX1_playTune 142 = .ok (.iconst (-1), 1) := by decide +kernel
theorem dX1_playTune_143 : decode cX1_playTune 143 = .ok (.invokevirtual 117, 3) := by decide +kernel
theorem dX1_playTune_146 : decode cX1_playTune 146 = .ok (.aload_n 0, 1) := by decide +kernel
theorem dX1_playTune_147 : decode cX1_playTune 147 = .ok (.aload_n 1, 1) := by decide +kernel
theorem dX1_playTune_148 : decode cX1_playTune 148 = .ok (.iload_n 2, 1) := by decide +kernel
theorem dX1_playTune_149 : decode cX1_playTune 149 = .ok (.aload_n 0, 1) := by decide +kernel
theorem dX1_playTune_150 : decode cX1_playTune 150 = .ok (.getfield 28, 3) := by decide +kernel
theorem dX1_playTune_153 : decode cX1_playTune 153 = .ok (.iload_n 2, 1) := by decide +kernel
theorem dX1_playTune_154 : decode cX1_playTune 154 = .ok (.iaload, 1) := by decide +kernel
theorem dX1_playTune_155 : decode cX1_playTune 155 = .ok (.iload 6, 2) := by decide +kernel
theorem dX1_playTune_157 : decode cX1_playTune 157 = .ok (.iadd, 1) := by decide +kernel
theorem dX1_playTune_158 : decode cX1_playTune 158 = .ok (.iconst 1, 1) := by decide +kernel
theorem dX1_playTune_159 : decode cX1_playTune 159 = .ok (.invokevirtual 117, 3) := by decide +kernel
theorem dX1_playTune_162 : decode cX1_playTune 162 = .ok (.iadd, 1) := by decide +kernel
theorem dX1_playTune_163 : decode cX1_playTune 163 = .ok (.iadd, 1) := by decide +kernel
theorem dX1_playTune_164 : decode cX1_playTune 164 = .ok (.istore 5, 2) := by decide +kernel
theorem dX1_playTune_166 : decode cX1_playTune 166 = .ok (.iinc 6 (-1), 3) := by decide +kernel
theorem dX1_playTune_169 : decode cX1_playTune 169 = .ok (.goto (-47), 3) := by decide +kernel
theorem dX1_playTune_172 : decode cX1_playTune 172 = .ok (.iload 5, 2) := by decide +kernel
theorem dX1_playTune_174 : decode cX1_playTune 174 = .ok (.ireturn, 1) := by decide +kernel
theorem dX1_playAside_0 : decode cX1_playAside 0 = .ok (.iconst 0, 1) := by decide +kernel
theorem dX1_playAside_1 : decode cX1_playAside 1 = .ok (.istore_n 3, 1) := by decide +kernel
theorem dX1_playAside_2 : decode cX1_playAside 2 = .ok (.iload_n 2, 1) := by decide +kernel
theorem dX1_playAside_3 : decode cX1_playAside 3 = .ok (.istore 4, 2) := by decide +kernel
theorem dX1_playAside_5 : decode cX1_playAside 5 = .ok (.iconst 0, 1) := by decide +kernel
theorem dX1_playAside_6 : decode cX1_playAside 6 = .ok (.istore 5, 2) := by decide +kernel
theorem dX1_playAside_8 : decode cX1_playAside 8 = .ok (.iload 5, 2) := by decide +kernel
theorem dX1_playAside_10 : decode cX1_playAside 10 = .ok (.aload_n 0, 1) := by decide +kernel
theorem dX1_playAside_11 : decode cX1_playAside 11 = .ok (.getfield 15, 3) := by decide +kernel
theorem dX1_playAside_14 : decode cX1_playAside 14 = .ok (.if_icmp .ge 29, 3) := by decide +kernel
theorem dX1_playAside_17 : decode cX1_playAside 17 = .ok (.iload_n 3, 1) := by decide +kernel
theorem dX1_playAside_18 : decode cX1_playAside 18 = .ok (.aload_n 0, 1) := by decide +kernel
theorem dX1_playAside_19 : decode cX1_playAside 19 = .ok (.aload_n 1, 1) := by decide +kernel
theorem dX1_playAside_20 : decode cX1_playAside 20 = .ok (.iload 5, 2) := by decide +kernel
theorem dX1_playAside_22 : decode cX1_playAside 22 = .ok (.iload 4, 2) := by decide +kernel
theorem dX1_playAside_24 : decode cX1_playAside 24 = .ok (.iconst 3, 1) := by decide +kernel
theorem dX1_playAside_25 : decode cX1_playAside 25 = .ok (.irem, 1) := by decide +kernel
theorem dX1_playAside_26 : decode cX1_playAside 26 = .ok (.invokevirtual 121, 3) := by decide +kernel
theorem dX1_playAside_29 : decode cX1_playAside 29 = .ok (.iadd, 1) := by decide +kernel
theorem dX1_playAside_30 : decode cX1_playAside 30 = .ok (.istore_n 3, 1) := by decide +kernel
theorem dX1_playAside_31 : decode cX1_playAside 31 = .ok (.iload 4, 2) := by decide +kernel
theorem dX1_playAside_33 : decode cX1_playAside 33 = .ok (.iconst 3, 1) := by decide +kernel
theorem dX1_playAside_34 : decode cX1_playAside 34 = .ok (.idiv, 1) := by decide +kernel
theorem dX1_playAside_35 : decode cX1_playAside 35 = .ok (.istore 4, 2) := by decide +kernel
theorem dX1_playAside_37 : decode cX1_playAside 37 = .ok (.iinc 5 1, 3) := by decide +kernel
theorem dX1_playAside_40 : decode cX1_playAside 40 = .ok (.goto (-32), 3) := by decide +kernel
theorem dX1_playAside_43 : decode cX1_playAside 43 = .ok (.iload_n 3, 1) := by decide +kernel
theorem dX1_playAside_44 : decode cX1_playAside 44 = .ok (.ireturn, 1) := by decide +kernel
theorem dX1_playTruly_0 : decode cX1_playTruly 0 = .ok (.aload_n 0, 1) := by decide +kernel
theorem dX1_playTruly_1 : decode cX1_playTruly 1 = .ok (.getfield 21, 3) := by decide +kernel
theorem dX1_playTruly_4 : decode cX1_playTruly 4 = .ok (.bipush 60, 2) := by decide +kernel
theorem dX1_playTruly_6 : decode cX1_playTruly 6 = .ok (.if_icmp .lt 5, 3) := by decide +kernel
theorem dX1_playTruly_9 : decode cX1_playTruly 9 = .ok (.iconst 0, 1) := by decide +kernel
theorem dX1_playTruly_10 : decode cX1_playTruly 10 = .ok (.ireturn, 1) := by decide +kernel
theorem dX1_playTruly_11 : decode cX1_playTruly 11 = .ok (.aload_n 0, 1) := by decide +kernel
theorem dX1_playTruly_12 : decode cX1_playTruly 12 = .ok (.getfield 24, 3) := by decide +kernel
theorem dX1_playTruly_15 : decode cX1_playTruly 15 = .ok (.iconst 0, 1) := by decide +kernel
theorem dX1_playTruly_16 : decode cX1_playTruly 16 = .ok (.aload_n 0, 1) := by decide +kernel
theorem dX1_playTruly_17 : decode cX1_playTruly 17 = .ok (.getfield 43, 3) := by decide +kernel
theorem dX1_playTruly_20 : decode cX1_playTruly 20 = .ok (.aload_n 0, 1) := by decide +kernel
theorem dX1_playTruly_21 : decode cX1_playTruly 21 = .ok (.getfield 21, 3) := by decide +kernel
theorem dX1_playTruly_24 : decode cX1_playTruly 24 = .ok (.bipush 10, 2) := by decide +kernel
theorem dX1_playTruly_26 : decode cX1_playTruly 26 = .ok (.imul, 1) := by decide +kernel
theorem dX1_playTruly_27 : decode cX1_playTruly 27 = .ok (.bipush 10, 2) := by decide +kernel
theorem dX1_playTruly_29 : decode cX1_playTruly 29 = .ok (.invokestatic 54, 3) := by decide +kernel
theorem dX1_playTruly_32 : decode cX1_playTruly 32 = .ok (.aload_n 0, 1) := by decide +kernel
theorem dX1_playTruly_33 : decode cX1_playTruly 33 = .ok (.getfield 37, 3) := by decide +kernel
theorem dX1_playTruly_36 : decode cX1_playTruly 36 = .ok (.iconst 0, 1) := by decide +kernel
theorem dX1_playTruly_37 : decode cX1_playTruly 37 = .ok (.aload_n 0, 1) := by decide +kernel
theorem dX1_playTruly_38 : decode cX1_playTruly 38 = .ok (.getfield 46, 3) := by decide +kernel
theorem dX1_playTruly_41 : decode cX1_playTruly 41 = .ok (.aload_n 0, 1) := by decide +kernel
theorem dX1_playTruly_42 : decode cX1_playTruly 42 = .ok (.getfield 21, 3) := by decide +kernel
theorem dX1_playTruly_45 : decode cX1_playTruly 45 = .ok (.iconst 3, 1) := by decide +kernel
theorem dX1_playTruly_46 : decode cX1_playTruly 46 = .ok (.imul, 1) := by decide +kernel
theorem dX1_playTruly_47 : decode cX1_playTruly 47 = .ok (.iconst 3, 1) := by decide +kernel
theorem dX1_playTruly_48 : decode cX1_playTruly 48 = .ok (.invokestatic 54, 3) := by decide +kernel
theorem dX1_playTruly_51 : decode cX1_playTruly 51 = .ok (.aload_n 0, 1) := by decide +kernel
theorem dX1_playTruly_52 : decode cX1_playTruly 52 = .ok (.getfield 40, 3) := by decide +kernel
theorem dX1_playTruly_55 : decode cX1_playTruly 55 = .ok (.aload_n 0, 1) := by decide +kernel
theorem dX1_playTruly_56 : decode cX1_playTruly 56 = .ok (.getfield 21, 3) := by decide +kernel
theorem dX1_playTruly_59 : decode cX1_playTruly 59 = .ok (.iload_n 1, 1) := by decide +kernel
theorem dX1_playTruly_60 : decode cX1_playTruly 60 = .ok (.iastore, 1) := by decide +kernel
theorem dX1_playTruly_61 : decode cX1_playTruly 61 = .ok (.aload_n 0, 1) := by decide +kernel
theorem dX1_playTruly_62 : decode cX1_playTruly 62 = .ok (.dup, 1) := by decide +kernel
theorem dX1_playTruly_63 : decode cX1_playTruly 63 = .ok (.getfield 21, 3) := by decide +kernel
theorem dX1_playTruly_66 : decode cX1_playTruly 66 = .ok (.iconst 1, 1) := by decide +kernel
theorem dX1_playTruly_67 : decode cX1_playTruly 67 = .ok (.iadd, 1) := by decide +kernel
theorem dX1_playTruly_68 : decode cX1_playTruly 68 = .ok (.putfield 21, 3) := by decide +kernel
theorem dX1_playTruly_71 : decode cX1_playTruly 71 = .ok (.iconst 0, 1) := by decide +kernel
theorem dX1_playTruly_72 : decode cX1_playTruly 72 = .ok (.istore_n 2, 1) := by decide +kernel
theorem dX1_playTruly_73 : decode cX1_playTruly 73 = .ok (.iconst 0, 1) := by decide +kernel
theorem dX1_playTruly_74 : decode cX1_playTruly 74 = .ok (.istore_n 3, 1) := by decide +kernel
theorem dX1_playTruly_75 : decode cX1_playTruly 75 = .ok (.iload_n 3, 1) := by decide +kernel
theorem dX1_playTruly_76 : decode cX1_playTruly 76 = .ok (.aload_n 0, 1) := by decide +kernel
theorem dX1_playTruly_77 : decode cX1_playTruly 77 = .ok (.getfield 15, 3) := by decide +kernel
theorem dX1_playTruly_80 : decode cX1_playTruly 80 = .ok (.if_icmp .ge 42, 3) := by decide +kernel
theorem dX1_playTruly_83 : decode cX1_playTruly 83 = .ok (.aload_n 0, 1) := by decide +kernel
theorem dX1_playTruly_84 : decode cX1_playTruly 84 = .ok (.aload_n 0, 1) := by decide +kernel
theorem dX1_playTruly_85 : decode cX1_playTruly 85 = .ok (.getfield 24, 3) := by decide +kernel
theorem dX1_playTruly_88 : decode cX1_playTruly 88 = .ok (.iload_n 3, 1) := by decide +kernel
theorem dX1_playTruly_89 : decode cX1_playTruly 89 = .ok (.aload_n 0, 1) := by decide +kernel
theorem dX1_playTruly_90 : decode cX1_playTruly 90 = .ok (.iload_n 1, 1) := by decide +kernel
theorem dX1_playTruly_91 : decode cX1_playTruly 91 = .ok (.iload_n 3, 1) := by decide +kernel
theorem dX1_playTruly_92 : decode cX1_playTruly 92 = .ok (.invokevirtual 74, 3) := by decide +kernel
theorem dX1_playTruly_95 : decode cX1_playTruly 95 = .ok (.invokevirtual 121, 3) := by decide +kernel
theorem dX1_playTruly_98 : decode cX1_playTruly 98 = .ok (.istore 4, 2) := by decide +kernel
theorem dX1_playTruly_100 : decode cX1_playTruly 100 = .ok (.aload_n 0, 1) := by decide +kernel
theorem dX1_playTruly_101 : decode cX1_playTruly 101 = .ok (.getfield 37, 3) := by decide +kernel
theorem dX1_playTruly_104 : decode cX1_playTruly 104 = .ok (.iload_n 3, 1) := by decide +kernel
theorem dX1_playTruly_105 : decode cX1_playTruly 105 = .ok (.dup2, 1) := by decide +kernel
theorem dX1_playTruly_106 : decode cX1_playTruly 106 = .ok (.iaload, 1) := by decide +kernel
theorem dX1_playTruly_107 : decode cX1_playTruly 107 = .ok (.iload 4, 2) := by decide +kernel
theorem dX1_playTruly_109 : decode cX1_playTruly 109 = .ok (.iadd, 1) := by decide +kernel
theorem dX1_playTruly_110 : decode cX1_playTruly 110 = .ok (.iastore, 1) := by decide +kernel
theorem dX1_playTruly_111 : decode cX1_playTruly 111 = .ok (.iload_n 2, 1) := by decide +kernel
theorem dX1_playTruly_112 : decode cX1_playTruly 112 = .ok (.iload 4, 2) := by decide +kernel
theorem dX1_playTruly_114 : decode cX1_playTruly 114 = .ok (.iadd, 1) := by decide +kernel
theorem dX1_playTruly_115 : decode cX1_playTruly 115 = .ok (.istore_n 2, 1) := by decide +kernel
theorem dX1_playTruly_116 : decode cX1_playTruly 116 = .ok (.iinc 3 1, 3) := by decide +kernel
theorem dX1_playTruly_119 : decode cX1_playTruly 119 = .ok (.goto (-44), 3) := by decide +kernel
theorem dX1_playTruly_122 : decode cX1_playTruly 122 = .ok (.iload_n 2, 1) := by decide +kernel
theorem dX1_playTruly_123 : decode cX1_playTruly 123 = .ok (.ireturn, 1) := by decide +kernel
theorem dX1_takeBack_0 : decode cX1_takeBack 0 = .ok (.iload_n 1, 1) := by decide +kernel
theorem dX1_takeBack_1 : decode cX1_takeBack 1 = .ok (.ifCond .lt 17, 3) := by decide +kernel
theorem dX1_takeBack_4 : decode cX1_takeBack 4 = .ok (.iload_n 1, 1) := by decide +kernel
theorem dX1_takeBack_5 : decode cX1_takeBack 5 = .ok (.aload_n 0, 1) := by decide +kernel
theorem dX1_takeBack_6 : decode cX1_takeBack 6 = .ok (.getfield 21, 3) := by decide +kernel
theorem dX1_takeBack_9 : decode cX1_takeBack 9 = .ok (.if_icmp .ge 9, 3) := by decide +kernel
theorem dX1_takeBack_12 : decode cX1_takeBack 12 = .ok (.iload_n 1, 1) := by decide +kernel
theorem dX1_takeBack_13 : decode cX1_takeBack 13 = .ok (.bipush 60, 2) := by decide +kernel
theorem dX1_takeBack_15 : decode cX1_takeBack 15 = .ok (.if_icmp .lt 5, 3) := by decide +kernel
theorem dX1_takeBack_18 : decode cX1_takeBack 18 = .ok (.iconst 0, 1) := by decide +kernel
theorem dX1_takeBack_19 : decode cX1_takeBack 19 = .ok (.ireturn, 1) := by decide +kernel
theorem dX1_takeBack_20 : decode cX1_takeBack 20 = .ok (.aload_n 0, 1) := by decide +kernel
theorem dX1_takeBack_21 : decode cX1_takeBack 21 = .ok (.getfield 43, 3) := by decide +kernel
theorem dX1_takeBack_24 : decode cX1_takeBack 24 = .ok (.iload_n 1, 1) := by decide +kernel
theorem dX1_takeBack_25 : decode cX1_takeBack 25 = .ok (.bipush 10, 2) := by decide +kernel
theorem dX1_takeBack_27 : decode cX1_takeBack 27 = .ok (.imul, 1) := by decide +kernel
theorem dX1_takeBack_28 : decode cX1_takeBack 28 = .ok (.aload_n 0, 1) := by decide +kernel
theorem dX1_takeBack_29 : decode cX1_takeBack 29 = .ok (.getfield 24, 3) := by decide +kernel
theorem dX1_takeBack_32 : decode cX1_takeBack 32 = .ok (.iconst 0, 1) := by decide +kernel
theorem dX1_takeBack_33 : decode cX1_takeBack 33 = .ok (.bipush 10, 2) := by decide +kernel
theorem dX1_takeBack_35 : decode cX1_takeBack 35 = .ok (.invokestatic 54, 3) := by decide +kernel
theorem dX1_takeBack_38 : decode cX1_takeBack 38 = .ok (.aload_n 0, 1) := by decide +kernel
theorem dX1_takeBack_39 : decode cX1_takeBack 39 = .ok (.getfield 46, 3) := by decide +kernel
theorem dX1_takeBack_42 : decode cX1_takeBack 42 = .ok (.iload_n 1, 1) := by decide +kernel
theorem dX1_takeBack_43 : decode cX1_takeBack 43 = .ok (.iconst 3, 1) := by decide +kernel
theorem dX1_takeBack_44 : decode cX1_takeBack 44 = .ok (.imul, 1) := by decide +kernel
theorem dX1_takeBack_45 : decode cX1_takeBack 45 = .ok (.aload_n 0, 1) := by decide +kernel
theorem dX1_takeBack_46 : decode cX1_takeBack 46 = .ok (.getfield 37, 3) := by decide +kernel
theorem dX1_takeBack_49 : decode cX1_takeBack 49 = .ok (.iconst 0, 1) := by decide +kernel
theorem dX1_takeBack_50 : decode cX1_takeBack 50 = .ok (.iconst 3, 1) := by decide +kernel
theorem dX1_takeBack_51 : decode cX1_takeBack 51 = .ok (.invokestatic 54, 3) := by decide +kernel
theorem dX1_takeBack_54 : decode cX1_takeBack 54 = .ok (.aload_n 0, 1) := by decide +kernel
theorem dX1_takeBack_55 : decode cX1_takeBack 55 = .ok (.getfield 21, 3) := by decide +kernel
theorem dX1_takeBack_58 : decode cX1_takeBack 58 = .ok (.iload_n 1, 1) := by decide +kernel
theorem dX1_takeBack_59 : decode cX1_takeBack 59 = .ok (.isub, 1) := by decide +kernel
theorem dX1_takeBack_60 : decode cX1_takeBack 60 = .ok (.istore_n 2, 1) := by decide +kernel
theorem dX1_takeBack_61 : decode cX1_takeBack 61 = .ok (.aload_n 0, 1) := by decide +kernel
theorem dX1_takeBack_62 : decode cX1_takeBack 62 = .ok (.iload_n 1, 1) := by decide +kernel
theorem dX1_takeBack_63 : decode cX1_takeBack 63 = .ok (.putfield 21, 3) := by decide +kernel
theorem dX1_takeBack_66 : decode cX1_takeBack 66 = .ok (.iload_n 2, 1) := by decide +kernel
theorem dX1_takeBack_67 : decode cX1_takeBack 67 = .ok (.ireturn, 1) := by decide +kernel
theorem dX1_mixedInto_0 : decode cX1_mixedInto 0 = .ok (.lload_n 1, 1) := by decide +kernel
theorem dX1_mixedInto_1 : decode cX1_mixedInto 1 = .ok (.lstore_n 3, 1) := by decide +kernel
theorem dX1_mixedInto_2 : decode cX1_mixedInto 2 = .ok (.iconst 0, 1) := by decide +kernel
theorem dX1_mixedInto_3 : decode cX1_mixedInto 3 = .ok (.istore 5, 2) := by decide +kernel
theorem dX1_mixedInto_5 : decode cX1_mixedInto 5 = .ok (.iload 5, 2) := by decide +kernel
theorem dX1_mixedInto_7 : decode cX1_mixedInto 7 = .ok (.aload_n 0, 1) := by decide +kernel
theorem dX1_mixedInto_8 : decode cX1_mixedInto 8 = .ok (.getfield 9, 3) := by decide +kernel
theorem dX1_mixedInto_11 : decode cX1_mixedInto 11 = .ok (.if_icmp .ge 46, 3) := by decide +kernel
theorem dX1_mixedInto_14 : decode cX1_mixedInto 14 = .ok (.ldc2_w 124, 3) := by decide +kernel
theorem dX1_mixedInto_17 : decode cX1_mixedInto 17 = .ok (.lload_n 3, 1) := by decide +kernel
theorem dX1_mixedInto_18 : decode cX1_mixedInto 18 = .ok (.lmul, 1) := by decide +kernel
theorem dX1_mixedInto_19 : decode cX1_mixedInto 19 = .ok (.aload_n 0, 1) := by decide +kernel
theorem dX1_mixedInto_20 : decode cX1_mixedInto 20 = .ok (.getfield 24, 3) := by decide +kernel
theorem dX1_mixedInto_23 : decode cX1_mixedInto 23 = .ok (.iload 5, 2) := by decide +kernel
theorem dX1_mixedInto_25 : decode cX1_mixedInto 25 = .ok (.iaload, 1) := by decide +kernel
theorem dX1_mixedInto_26 : decode cX1_mixedInto 26 = .ok (.i2l, 1) := by decide +kernel
theorem dX1_mixedInto_27 : decode cX1_mixedInto 27 = .ok (.ladd, 1) := by decide +kernel
theorem dX1_mixedInto_28 : decode cX1_mixedInto 28 = .ok (.lstore_n 3, 1) := by decide +kernel
theorem dX1_mixedInto_29 : decode cX1_mixedInto 29 = .ok (.ldc2_w 124, 3) := by decide +kernel
theorem dX1_mixedInto_32 : decode cX1_mixedInto 32 = .ok (.lload_n 3, 1) := by decide +kernel
theorem dX1_mixedInto_33 : decode cX1_mixedInto 33 = .ok (.lmul, 1) := by decide +kernel
theorem dX1_mixedInto_34 : decode cX1_mixedInto 34 = .ok (.aload_n 0, 1) := by decide +kernel
theorem dX1_mixedInto_35 : decode cX1_mixedInto 35 = .ok (.iload 5, 2) := by decide +kernel
theorem dX1_mixedInto_37 : decode cX1_mixedInto 37 = .ok (.invokevirtual 126, 3) := by decide +kernel
theorem dX1_mixedInto_40 : decode cX1_mixedInto 40 = .ok (.ifCond .eq 7, 3) := by decide +kernel
theorem dX1_mixedInto_43 : decode cX1_mixedInto 43 = .ok (.iconst 1, 1) := by decide +kernel
theorem dX1_mixedInto_44 : decode cX1_mixedInto 44 = .ok (.goto 4, 3) := by decide +kernel
theorem dX1_mixedInto_47 : decode cX1_mixedInto 47 = .ok (.iconst 0, 1) := by decide +kernel
theorem dX1_mixedInto_48 : decode cX1_mixedInto 48 = .ok (.i2l, 1) := by decide +kernel
theorem dX1_mixedInto_49 : decode cX1_mixedInto 49 = .ok (.ladd, 1) := by decide +kernel
theorem dX1_mixedInto_50 : decode cX1_mixedInto 50 = .ok (.lstore_n 3, 1) := by decide +kernel
theorem dX1_mixedInto_51 : decode cX1_mixedInto 51 = .ok (.iinc 5 1, 3) := by decide +kernel
theorem dX1_mixedInto_54 : decode cX1_mixedInto 54 = .ok (.goto (-49), 3) := by decide +kernel
theorem dX1_mixedInto_57 : decode cX1_mixedInto 57 = .ok (.iconst 0, 1) := by decide +kernel
theorem dX1_mixedInto_58 : decode cX1_mixedInto 58 = .ok (.istore 5, 2) := by decide +kernel
theorem dX1_mixedInto_60 : decode cX1_mixedInto 60 = .ok (.iload 5, 2) := by decide +kernel
theorem dX1_mixedInto_62 : decode cX1_mixedInto 62 = .ok (.aload_n 0, 1) := by decide +kernel
theorem dX1_mixedInto_63 : decode cX1_mixedInto 63 = .ok (.getfield 15, 3) := by decide +kernel
theorem dX1_mixedInto_66 : decode cX1_mixedInto 66 = .ok (.if_icmp .ge 40, 3) := by decide +kernel
theorem dX1_mixedInto_69 : decode cX1_mixedInto 69 = .ok (.iconst 0, 1) := by decide +kernel
theorem dX1_mixedInto_70 : decode cX1_mixedInto 70 = .ok (.istore 6, 2) := by decide +kernel
theorem dX1_mixedInto_72 : decode cX1_mixedInto 72 = .ok (.iload 6, 2) := by decide +kernel
theorem dX1_mixedInto_74 : decode cX1_mixedInto 74 = .ok (.iconst 5, 1) := by decide +kernel
theorem dX1_mixedInto_75 : decode cX1_mixedInto 75 = .ok (.if_icmp .ge 25, 3) := by decide +kernel
theorem dX1_mixedInto_78 : decode cX1_mixedInto 78 = .ok (.ldc2_w 124, 3) := by decide +kernel
theorem dX1_mixedInto_81 : decode cX1_mixedInto 81 = .ok (.lload_n 3, 1) := by decide +kernel
theorem dX1_mixedInto_82 : decode cX1_mixedInto 82 = .ok (.lmul, 1) := by decide +kernel
theorem dX1_mixedInto_83 : decode cX1_mixedInto 83 = .ok (.aload_n 0, 1) := by decide +kernel
theorem dX1_mixedInto_84 : decode cX1_mixedInto 84 = .ok (.iload 5, 2) := by decide +kernel
theorem dX1_mixedInto_86 : decode cX1_mixedInto 86 = .ok (.iload 6, 2) := by decide +kernel
theorem dX1_mixedInto_88 : decode cX1_mixedInto 88 = .ok (.invokevirtual 129, 3) := by decide +kernel
theorem dX1_mixedInto_91 : decode cX1_mixedInto 91 = .ok (.i2l, 1) := by decide +kernel
theorem dX1_mixedInto_92 : decode cX1_mixedInto 92 = .ok (.ladd, 1) := by decide +kernel
theorem dX1_mixedInto_93 : decode cX1_mixedInto 93 = .ok (.lstore_n 3, 1) := by decide +kernel
theorem dX1_mixedInto_94 : decode cX1_mixedInto 94 = .ok (.iinc 6 1, 3) := by decide +kernel
theorem dX1_mixedInto_97 : decode cX1_mixedInto 97 = .ok (.goto (-25), 3) := by decide +kernel
theorem dX1_mixedInto_100 : decode cX1_mixedInto 100 = .ok (.iinc 5 1, 3) := by decide +kernel
theorem dX1_mixedInto_103 : decode cX1_mixedInto 103 = .ok (.goto (-43), 3) := by decide +kernel
theorem dX1_mixedInto_106 : decode cX1_mixedInto 106 = .ok (.iconst 0, 1) := by decide +kernel
theorem dX1_mixedInto_107 : decode cX1_mixedInto 107 = .ok (.istore 5, 2) := by decide +kernel
theorem dX1_mixedInto_109 : decode cX1_mixedInto 109 = .ok (.iload 5, 2) := by decide +kernel
theorem dX1_mixedInto_111 : decode cX1_mixedInto 111 = .ok (.aload_n 0, 1) := by decide +kernel
theorem dX1_mixedInto_112 : decode cX1_mixedInto 112 = .ok (.getfield 21, 3) := by decide +kernel
theorem dX1_mixedInto_115 : decode cX1_mixedInto 115 = .ok (.if_icmp .ge 24, 3) := by decide +kernel
theorem dX1_mixedInto_118 : decode cX1_mixedInto 118 = .ok (.ldc2_w 124, 3) := by decide +kernel
theorem dX1_mixedInto_121 : decode cX1_mixedInto 121 = .ok (.lload_n 3, 1) := by decide +kernel
theorem dX1_mixedInto_122 : decode cX1_mixedInto 122 = .ok (.lmul, 1) := by decide +kernel
theorem dX1_mixedInto_123 : decode cX1_mixedInto 123 = .ok (.aload_n 0, 1) := by decide +kernel
theorem dX1_mixedInto_124 : decode cX1_mixedInto 124 = .ok (.getfield 40, 3) := by decide +kernel
theorem dX1_mixedInto_127 : decode cX1_mixedInto 127 = .ok (.iload 5, 2) := by decide +kernel
theorem dX1_mixedInto_129 : decode cX1_mixedInto 129 = .ok (.iaload, 1) := by decide +kernel
theorem dX1_mixedInto_130 : decode cX1_mixedInto 130 = .ok (.i2l, 1) := by decide +kernel
theorem dX1_mixedInto_131 : decode cX1_mixedInto 131 = .ok (.ladd, 1) := by decide +kernel
theorem dX1_mixedInto_132 : decode cX1_mixedInto 132 = .ok (.lstore_n 3, 1) := by decide +kernel
theorem dX1_mixedInto_133 : decode cX1_mixedInto 133 = .ok (.iinc 5 1, 3) := by decide +kernel
theorem dX1_mixedInto_136 : decode cX1_mixedInto 136 = .ok (.goto (-27), 3) := by decide +kernel
theorem dX1_mixedInto_139 : decode cX1_mixedInto 139 = .ok (.lload_n 3, 1) := by decide +kernel
theorem dX1_mixedInto_140 : decode cX1_mixedInto 140 = .ok (.lreturn, 1) := by decide +kernel
theorem dX0_init_0 : decode cX0_init 0 = .ok (.aload_n 0, 1) := by decide +kernel
theorem dX0_init_1 : decode cX0_init 1 = .ok (.invokespecial 3, 3) := by decide +kernel
theorem dX0_init_4 : decode cX0_init 4 = .ok (.aload_n 0, 1) := by decide +kernel
theorem dX0_init_5 : decode cX0_init 5 = .ok (.bipush 10, 2) := by decide +kernel
theorem dX0_init_7 : decode cX0_init 7 = .ok (.newarray .int, 2) := by decide +kernel
theorem dX0_init_9 : decode cX0_init 9 = .ok (.putfield 9, 3) := by decide +kernel
theorem dX0_init_12 : decode cX0_init 12 = .ok (.aload_n 0, 1) := by decide +kernel
theorem dX0_init_13 : decode cX0_init 13 = .ok (.bipush 10, 2) := by decide +kernel
theorem dX0_init_15 : decode cX0_init 15 = .ok (.newarray .int, 2) := by decide +kernel
theorem dX0_init_17 : decode cX0_init 17 = .ok (.putfield 15, 3) := by decide +kernel
theorem dX0_init_20 : decode cX0_init 20 = .ok (.aload_n 0, 1) := by decide +kernel
theorem dX0_init_21 : decode cX0_init 21 = .ok (.bipush 7, 2) := by decide +kernel
theorem dX0_init_23 : decode cX0_init 23 = .ok (.bipush 10, 2) := by decide +kernel
theorem dX0_init_25 : decode cX0_init 25 = .ok (.multianewarray 18 2, 4) := by decide +kernel
theorem dX0_init_29 : decode cX0_init 29 = .ok (.putfield 20, 3) := by decide +kernel
theorem dX0_init_32 : decode cX0_init 32 = .ok (.aload_n 0, 1) := by decide +kernel
theorem dX0_init_33 : decode cX0_init 33 = .ok (.iconst 0, 1) := by decide +kernel
theorem dX0_init_34 : decode cX0_init 34 = .ok (.putfield 23, 3) := by decide +kernel
theorem dX0_init_37 : decode cX0_init 37 = .ok (.aload_n 0, 1) := by decide +kernel
theorem dX0_init_38 : decode cX0_init 38 = .ok (.iconst 0, 1) := by decide +kernel
theorem dX0_init_39 : decode cX0_init 39 = .ok (.putfield 27, 3) := by decide +kernel
theorem dX0_init_42 : decode cX0_init 42 = .ok (.aload_n 0, 1) := by decide +kernel
theorem dX0_init_43 : decode cX0_init 43 = .ok (.iconst 0, 1) := by decide +kernel
theorem dX0_init_44 : decode cX0_init 44 = .ok (.putfield 30, 3) := by decide +kernel
theorem dX0_init_47 : decode cX0_init 47 = .ok (.aload_n 0, 1) := by decide +kernel
theorem dX0_init_48 : decode cX0_init 48 = .ok (.iconst 0, 1) := by decide +kernel
theorem dX0_init_49 : decode cX0_init 49 = .ok (.putfield 33, 3) := by decide +kernel
theorem dX0_init_52 : decode cX0_init 52 = .ok (.aload_n 0, 1) := by decide +kernel
theorem dX0_init_53 : decode cX0_init 53 = .ok (.aload_n 1, 1) := by decide +kernel
theorem dX0_init_54 : decode cX0_init 54 = .ok (.putfield 36, 3) := by decide +kernel
theorem dX0_init_57 : decode cX0_init 57 = .ok (.return_, 1) := by decide +kernel
theorem dX0_startFromNow_0 : decode cX0_startFromNow 0 = .ok (.aload_n 0, 1) := by decide +kernel
theorem dX0_startFromNow_1 : decode cX0_startFromNow 1 = .ok (.getfield 36, 3) := by decide +kernel
theorem dX0_startFromNow_4 : decode cX0_startFromNow 4 = .ok (.getfield 40, 3) := by decide +kernel
theorem dX0_startFromNow_7 : decode cX0_startFromNow 7 = .ok (.iconst 0, 1) := by decide +kernel
theorem dX0_startFromNow_8 : decode cX0_startFromNow 8 = .ok (.aload_n 0, 1) := by decide +kernel
theorem dX0_startFromNow_9 : decode cX0_startFromNow 9 = .ok (.getfield 9, 3) := by decide +kernel
theorem dX0_startFromNow_12 : decode cX0_startFromNow 12 = .ok (.iconst 0, 1) := by decide +kernel
theorem dX0_startFromNow_13 : decode cX0_startFromNow 13 = .ok (.bipush 10, 2) := by decide +kernel
theorem dX0_startFromNow_15 : decode cX0_startFromNow 15 = .ok (.invokestatic 45, 3) := by decide +kernel
theorem dX0_startFromNow_18 : decode cX0_startFromNow 18 = .ok (.return_, 1) := by decide +kernel
theorem dX0_inchesByTune_0 : decode cX0_inchesByTune 0 = .ok (.aload_n 0, 1) := by decide +kernel
theorem dX0_inchesByTune_1 : decode cX0_inchesByTune 1 = .ok (.invokevirtual 51, 3) := by decide +kernel
theorem dX0_inchesByTune_4 : decode cX0_inchesByTune 4 = .ok (.aload_n 0, 1) := by decide +kernel
theorem dX0_inchesByTune_5 : decode cX0_inchesByTune 5 = .ok (.getfield 36, 3) := by decide +kernel
theorem dX0_inchesByTune_8 : decode cX0_inchesByTune 8 = .ok (.aload_n 0, 1) := by decide +kernel
theorem dX0_inchesByTune_9 : decode cX0_inchesByTune 9 = .ok (.getfield 9, 3) := by decide +kernel
theorem dX0_inchesByTune_12 : decode cX0_inchesByTune 12 = .ok (.iload_n 1, 1) := by decide +kernel
theorem dX0_inchesByTune_13 : decode cX0_inchesByTune 13 = .ok (.iload_n 2, 1) := by decide +kernel
theorem dX0_inchesByTune_14 : decode cX0_inchesByTune 14 = .ok (.invokevirtual 54, 3) := by decide +kernel
theorem dX0_inchesByTune_17 : decode cX0_inchesByTune 17 = .ok (.ireturn, 1) := by decide +kernel
theorem dX0_repeat_0 : decode cX0_repeat 0 = .ok (.aload_n 0, 1) := by decide +kernel
theorem dX0_repeat_1 : decode cX0_repeat 1 = .ok (.invokevirtual 51, 3) := by decide +kernel
theorem dX0_repeat_4 : decode cX0_repeat 4 = .ok (.iconst 0, 1) := by decide +kernel
theorem dX0_repeat_5 : decode cX0_repeat 5 = .ok (.istore_n 3, 1) := by decide +kernel
theorem dX0_repeat_6 : decode cX0_repeat 6 = .ok (.iconst 0, 1) := by decide +kernel
theorem dX0_repeat_7 : decode cX0_repeat 7 = .ok (.istore 4, 2) := by decide +kernel
theorem dX0_repeat_9 : decode cX0_repeat 9 = .ok (.iload 4, 2) := by decide +kernel
theorem dX0_repeat_11 : decode cX0_repeat 11 = .ok (.iload_n 2, 1) := by decide +kernel
theorem dX0_repeat_12 : decode cX0_repeat 12 = .ok (.if_icmp .ge 24, 3) := by decide +kernel
theorem dX0_repeat_15 : decode cX0_repeat 15 = .ok (.iload_n 3, 1) := by decide +kernel
theorem dX0_repeat_16 : decode cX0_repeat 16 = .ok (.aload_n 0, 1) := by decide +kernel
theorem dX0_repeat_17 : decode cX0_repeat 17 = .ok (.getfield 36, 3) := by decide +kernel
theorem dX0_repeat_20 : decode cX0_repeat 20 = .ok (.aload_n 0, 1) := by decide +kernel
theorem dX0_repeat_21 : decode cX0_repeat 21 = .ok (.getfield 9, 3) := by decide +kernel
theorem dX0_repeat_24 : decode cX0_repeat 24 = .ok (.iload_n 1, 1) := by decide +kernel
theorem dX0_repeat_25 : decode cX0_repeat 25 = .ok (.invokevirtual 58, 3) := by decide +kernel
theorem dX0_repeat_28 : decode cX0_repeat 28 = .ok (.iadd, 1) := by decide +kernel
theorem dX0_repeat_29 : decode cX0_repeat 29 = .ok (.istore_n 3, 1) := by decide +kernel
theorem dX0_repeat_30 : decode cX0_repeat 30 = .ok (.iinc 4 1, 3) := by decide +kernel
theorem dX0_repeat_33 : decode cX0_repeat 33 = .ok (.goto (-24), 3) := by decide +kernel
theorem dX0_repeat_36 : decode cX0_repeat 36 = .ok (.iload_n 3, 1) := by decide +kernel
theorem dX0_repeat_37 : decode cX0_repeat 37 = .ok (.ireturn, 1) := by decide +kernel
theorem dX0_playBehind_0 : decode cX0_playBehind 0 = .ok (.aload_n 0, 1) := by decide +kernel
theorem dX0_playBehind_1 : decode cX0_playBehind 1 = .ok (.getfield 9, 3) := by decide +kernel
theorem dX0_playBehind_4 : decode cX0_playBehind 4 = .ok (.iconst 0, 1) := by decide +kernel
theorem dX0_playBehind_5 : decode cX0_playBehind 5 = .ok (.aload_n 0, 1) := by decide +kernel
theorem dX0_playBehind_6 : decode cX0_playBehind 6 = .ok (.getfield 15, 3) := by decide +kernel
theorem dX0_playBehind_9 : decode cX0_playBehind 9 = .ok (.iconst 0, 1) := by decide +kernel
theorem dX0_playBehind_10 : decode cX0_playBehind 10 = .ok (.bipush 10, 2) := by decide +kernel
theorem dX0_playBehind_12 : decode cX0_playBehind 12 = .ok (.invokestatic 45, 3) := by decide +kernel
theorem dX0_playBehind_15 : decode cX0_playBehind 15 = .ok (.aload_n 0, 1) := by decide +kernel
theorem dX0_playBehind_16 : decode cX0_playBehind 16 = .ok (.getfield 36, 3) := by decide +kernel
theorem dX0_playBehind_19 : decode cX0_playBehind 19 = .ok (.aload_n 0, 1) := by decide +kernel
theorem dX0_playBehind_20 : decode cX0_playBehind 20 = .ok (.getfield 15, 3) := by decide +kernel
theorem dX0_playBehind_23 : decode cX0_playBehind 23 = .ok (.iload_n 1, 1) := by decide +kernel
theorem dX0_playBehind_24 : decode cX0_playBehind 24 = .ok (.invokevirtual 58, 3) := by decide +kernel
theorem dX0_playBehind_27 : decode cX0_playBehind 27 = .ok (.pop, 1) := by decide +kernel
theorem dX0_playBehind_28 : decode cX0_playBehind 28 = .ok (.return_, 1) := by decide +kernel
theorem dX0_restsBehind_0 : decode cX0_restsBehind 0 = .ok (.aload_n 0, 1) := by decide +kernel
theorem dX0_restsBehind_1 : decode cX0_restsBehind 1 = .ok (.invokevirtual 51, 3) := by decide +kernel
theorem dX0_restsBehind_4 : decode cX0_restsBehind 4 = .ok (.iconst 0, 1) := by decide +kernel
theorem dX0_restsBehind_5 : decode cX0_restsBehind 5 = .ok (.istore_n 2, 1) := by decide +kernel
theorem dX0_restsBehind_6 : decode cX0_restsBehind 6 = .ok (.iload_n 2, 1) := by decide +kernel
theorem dX0_restsBehind_7 : decode cX0_restsBehind 7 = .ok (.bipush 100, 2) := by decide +kernel
theorem dX0_restsBehind_9 : decode cX0_restsBehind 9 = .ok (.if_icmp .gt 46, 3) := by decide +kernel
theorem dX0_restsBehind_12 : decode cX0_restsBehind 12 = .ok (.aload_n 0, 1) := by decide +kernel
theorem dX0_restsBehind_13 : decode cX0_restsBehind 13 = .ok (.iload_n 1, 1) := by decide +kernel
theorem dX0_restsBehind_14 : decode cX0_restsBehind 14 = .ok (.invokevirtual 62, 3) := by decide +kernel
theorem dX0_restsBehind_17 : decode cX0_restsBehind 17 = .ok (.aload_n 0, 1) := by decide +kernel
theorem dX0_restsBehind_18 : decode cX0_restsBehind 18 = .ok (.aload_n 0, 1) := by decide +kernel
theorem dX0_restsBehind_19 : decode cX0_restsBehind 19 = .ok (.getfield 9, 3) := by decide +kernel
theorem dX0_restsBehind_22 : decode cX0_restsBehind 22 = .ok (.aload_n 0, 1) := by decide +kernel
theorem dX0_restsBehind_23 : decode cX0_restsBehind 23 = .ok (.getfield 15, 3) := by decide +kernel
theorem dX0_restsBehind_26 : decode cX0_restsBehind 26 = .ok (.invokevirtual 66, 3) := by decide +kernel
theorem dX0_restsBehind_29 : decode cX0_restsBehind 29 = .ok (.ifCond .eq 5, 3) := by decide +kernel
theorem dX0_restsBehind_32 : decode cX0_restsBehind 32 = .ok (.iload_n 2, 1) := by decide +kernel
theorem dX0_restsBehind_33 : decode cX0_restsBehind 33 = .ok (.ireturn, 1) := by decide +kernel
theorem dX0_restsBehind_34 : decode cX0_restsBehind 34 = .ok (.aload_n 0, 1) := by decide +kernel
theorem dX0_restsBehind_35 : decode cX0_restsBehind 35 = .ok (.getfield 15, 3) := by decide +kernel
theorem dX0_restsBehind_38 : decode cX0_restsBehind 38 = .ok (.iconst 0, 1) := by decide +kernel
theorem dX0_restsBehind_39 : decode cX0_restsBehind 39 = .ok (.aload_n 0, 1) := by decide +kernel
theorem dX0_restsBehind_40 : decode cX0_restsBehind 40 = .ok (.getfield 9, 3) := by decide +kernel
theorem dX0_restsBehind_43 : decode cX0_restsBehind 43 = .ok (.iconst 0, 1) := by decide +kernel
theorem dX0_restsBehind_44 : decode cX0_restsBehind 44 = .ok (.bipush 10, 2) := by decide +kernel
theorem dX0_restsBehind_46 : decode cX0_restsBehind 46 = .ok (.invokestatic 45, 3) := by decide +kernel
theorem dX0_restsBehind_49 : decode cX0_restsBehind 49 = .ok (.iinc 2 1, 3) := by decide +kernel
theorem dX0_restsBehind_52 : decode cX0_restsBehind 52 = .ok (.goto (-46), 3) := by decide +kernel
theorem dX0_restsBehind_55 : decode cX0_restsBehind 55 = .ok (.bipush (-9), 2) := by decide +kernel
theorem dX0_restsBehind_57 : decode cX0_restsBehind 57 = .ok (.ireturn, 1) := by decide +kernel
theorem dX0_comesRound_0 : decode cX0_comesRound 0 = .ok (.aload_n 0, 1) := by decide +kernel
theorem dX0_comesRound_1 : decode cX0_comesRound 1 = .ok (.invokevirtual 51, 3) := by decide +kernel
theorem dX0_comesRound_4 : decode cX0_comesRound 4 = .ok (.iconst 1, 1) := by decide +kernel
theorem dX0_comesRound_5 : decode cX0_comesRound 5 = .ok (.istore_n 2, 1) := by decide +kernel
theorem dX0_comesRound_6 : decode cX0_comesRound 6 = .ok (.iload_n 2, 1) := by decide +kernel
theorem dX0_comesRound_7 : decode cX0_comesRound 7 = .ok (.bipush 100, 2) := by decide +kernel
theorem dX0_comesRound_9 : decode cX0_comesRound 9 = .ok (.if_icmp .gt 42, 3) := by decide +kernel
theorem dX0_comesRound_12 : decode cX0_comesRound 12 = .ok (.aload_n 0, 1) := by decide +kernel
theorem dX0_comesRound_13 : decode cX0_comesRound 13 = .ok (.getfield 36, 3) := by decide +kernel
theorem dX0_comesRound_16 : decode cX0_comesRound 16 = .ok (.aload_n 0, 1) := by decide +kernel
theorem dX0_comesRound_17 : decode cX0_comesRound 17 = .ok (.getfield 9, 3) := by decide +kernel
theorem dX0_comesRound_20 : decode cX0_comesRound 20 = .ok (.iload_n 1, 1) := by decide +kernel
theorem dX0_comesRound_21 : decode cX0_comesRound 21 = .ok (.invokevirtual 58, 3) := by decide +kernel
theorem dX0_comesRound_24 : decode cX0_comesRound 24 = .ok (.pop, 1) := by decide +kernel
theorem dX0_comesRound_25 : decode cX0_comesRound 25 = .ok (.aload_n 0, 1) := by decide +kernel
theorem dX0_comesRound_26 : decode cX0_comesRound 26 = .ok (.aload_n 0, 1) := by decide +kernel
theorem dX0_comesRound_27 : decode cX0_comesRound 27 = .ok (.getfield 9, 3) := by decide +kernel
theorem dX0_comesRound_30 : decode cX0_comesRound 30 = .ok (.aload_n 0, 1) := by decide +kernel
theorem dX0_comesRound_31 : decode cX0_comesRound 31 = .ok (.getfield 36, 3) := by decide +kernel
theorem dX0_comesRound_34 : decode cX0_comesRound 34 = .ok (.getfield 40, 3) := by decide +kernel
theorem dX0_comesRound_37 : decode cX0_comesRound 37 = .ok (.invokevirtual 66, 3) := by decide +kernel
theorem dX0_comesRound_40 : decode cX0_comesRound 40 = .ok (.ifCond .eq 5, 3) := by decide +kernel
theorem dX0_comesRound_43 : decode cX0_comesRound 43 = .ok (.iload_n 2, 1) := by decide +kernel
theorem dX0_comesRound_44 : decode cX0_comesRound 44 = .ok (.ireturn, 1) := by decide +kernel
theorem dX0_comesRound_45 : decode cX0_comesRound 45 = .ok (.iinc 2 1, 3) := by decide +kernel
theorem dX0_comesRound_48 : decode cX0_comesRound 48 = .ok (.goto (-42), 3) := by decide +kernel
theorem dX0_comesRound_51 : decode cX0_comesRound 51 = .ok (.bipush (-9), 2) := by decide +kernel
theorem dX0_comesRound_53 : decode cX0_comesRound 53 = .ok (.ireturn, 1) := by decide +kernel
theorem dX0_isSame_0 : decode cX0_isSame 0 = .ok (.iconst 0, 1) := by decide +kernel
theorem dX0_isSame_1 : decode cX0_isSame 1 = .ok (.istore_n 3, 1) := by decide +kernel
theorem dX0_isSame_2 : decode cX0_isSame 2 = .ok (.iload_n 3, 1) := by decide +kernel
theorem dX0_isSame_3 : decode cX0_isSame 3 = .ok (.aload_n 0, 1) := by decide +kernel
theorem dX0_isSame_4 : decode cX0_isSame 4 = .ok (.getfield 36, 3) := by decide +kernel
theorem dX0_isSame_7 : decode cX0_isSame 7 = .ok (.getfield 70, 3) := by decide +kernel
theorem dX0_isSame_10 : decode cX0_isSame 10 = .ok (.if_icmp .ge 20, 3) := by decide +kernel
theorem dX0_isSame_13 : decode cX0_isSame 13 = .ok (.aload_n 1, 1) := by decide +kernel
theorem dX0_isSame_14 : decode cX0_isSame 14 = .ok (.iload_n 3, 1) := by decide +kernel
theorem dX0_isSame_15 : decode cX0_isSame 15 = .ok (.iaload, 1) := by decide +kernel
theorem dX0_isSame_16 : decode cX0_isSame 16 = .ok (.aload_n 2, 1) := by decide +kernel
theorem dX0_isSame_17 : decode cX0_isSame 17 = .ok (.iload_n 3, 1) := by decide +kernel
theorem dX0_isSame_18 : decode cX0_isSame 18 = .ok (.iaload, 1) := by decide +kernel
theorem dX0_isSame_19 : decode cX0_isSame 19 = .ok (.if_icmp .eq 5, 3) := by decide +kernel
theorem dX0_isSame_22 : decode cX0_isSame 22 = .ok (.iconst 0, 1) := by decide +kernel
theorem dX0_isSame_23 : decode cX0_isSame 23 = .ok (.ireturn, 1) := by decide +kernel
theorem dX0_isSame_24 : decode cX0_isSame 24 = .ok (.iinc 3 1, 3) := by decide +kernel
theorem dX0_isSame_27 : decode cX0_isSame 27 = .ok (.goto (-25), 3) := by decide +kernel
theorem dX0_isSame_30 : decode cX0_isSame 30 = .ok (.iconst 1, 1) := by decide +kernel
theorem dX0_isSame_31 : decode cX0_isSame 31 = .ok (.ireturn, 1) := by decide +kernel
theorem dX0_loudestKeeping_0 : decode cX0_loudestKeeping 0 = .ok (.iconst 0, 1) := by decide +kernel
theorem dX0_loudestKeeping_1 : decode cX0_loudestKeeping 1 = .ok (.istore_n 2, 1) := by decide +kernel
theorem dX0_loudestKeeping_2 : decode cX0_loudestKeeping 2 = .ok (.aload_n 0, 1) := by decide +kernel
theorem dX0_loudestKeeping_3 : decode cX0_loudestKeeping 3 = .ok (.getfield 36, 3) := by decide +kernel
theorem dX0_loudestKeeping_6 : decode cX0_loudestKeeping 6 = .ok (.invokevirtual 73, 3) := by decide +kernel
theorem dX0_loudestKeeping_9 : decode cX0_loudestKeeping 9 = .ok (.istore_n 3, 1) := by decide +kernel
theorem dX0_loudestKeeping_10 : decode cX0_loudestKeeping 10 = .ok (.iconst 1, 1) := by decide +kernel
theorem dX0_loudestKeeping_11 : decode cX0_loudestKeeping 11 = .ok (.istore 4, 2) := by decide +kernel
theorem dX0_loudestKeeping_13 : decode cX0_loudestKeeping 13 = .ok (.iload 4, 2) := by decide +kernel
theorem dX0_loudestKeeping_15 : decode cX0_loudestKeeping 15 = .ok (.iload_n 3, 1) := by decide +kernel
theorem dX0_loudestKeeping_16 : decode cX0_loudestKeeping 16 = .ok (.if_icmp .ge 61, 3) := by decide +kernel
theorem dX0_loudestKeeping_19 : decode cX0_loudestKeeping 19 = .ok (.aload_n 0, 1) := by decide +kernel
theorem dX0_loudestKeeping_20 : decode cX0_loudestKeeping 20 = .ok (.getfield 36, 3) := by decide +kernel
theorem dX0_loudestKeeping_23 : decode cX0_loudestKeeping 23 = .ok (.iload 4, 2) := by decide +kernel
theorem dX0_loudestKeeping_25 : decode cX0_loudestKeeping 25 = .ok (.invokevirtual 77, 3) := by decide +kernel
theorem dX0_loudestKeeping_28 : decode cX0_loudestKeeping 28 = .ok (.aload_n 0, 1) := by decide +kernel
theorem dX0_loudestKeeping_29 : decode cX0_loudestKeeping 29 = .ok (.getfield 36, 3) := by decide +kernel
theorem dX0_loudestKeeping_32 : decode cX0_loudestKeeping 32 = .ok (.iload_n 2, 1) := by decide +kernel
theorem dX0_loudestKeeping_33 : decode cX0_loudestKeeping 33 = .ok (.invokevirtual 77, 3) := by decide +kernel
theorem dX0_loudestKeeping_36 : decode cX0_loudestKeeping 36 = .ok (.if_icmp .gt 6, 3) := by decide +kernel
theorem dX0_loudestKeeping_39 : decode cX0_loudestKeeping 39 = .ok (.goto 32, 3) := by decide +kernel
theorem dX0_loudestKeeping_42 : decode cX0_loudestKeeping 42 = .ok (.aload_n 0, 1) := by decide +kernel
theorem dX0_loudestKeeping_43 : decode cX0_loudestKeeping 43 = .ok (.iload 4, 2) := by decide +kernel
theorem dX0_loudestKeeping_45 : decode cX0_loudestKeeping 45 = .ok (.iconst 1, 1) := by decide +kernel
theorem dX0_loudestKeeping_46 : decode cX0_loudestKeeping 46 = .ok (.invokevirtual 81, 3) := by decide +kernel
theorem dX0_loudestKeeping_49 : decode cX0_loudestKeeping 49 = .ok (.pop, 1) := by decide +kernel
theorem dX0_loudestKeeping_50 : decode cX0_loudestKeeping 50 = .ok (.aload_n 0, 1) := by decide +kernel
theorem dX0_loudestKeeping_51 : decode cX0_loudestKeeping 51 = .ok (.getfield 9, 3) := by decide +kernel
theorem dX0_loudestKeeping_54 : decode cX0_loudestKeeping 54 = .ok (.iload_n 1, 1) := by decide +kernel
theorem dX0_loudestKeeping_55 : decode cX0_loudestKeeping 55 = .ok (.iaload, 1) := by decide +kernel
theorem dX0_loudestKeeping_56 : decode cX0_loudestKeeping 56 = .ok (.aload_n 0, 1) := by decide +kernel
theorem dX0_loudestKeeping_57 : decode cX0_loudestKeeping 57 = .ok (.getfield 36, 3) := by decide +kernel
theorem dX0_loudestKeeping_60 : decode cX0_loudestKeeping 60 = .ok (.getfield 40, 3) := by decide +kernel
theorem dX0_loudestKeeping_63 : decode cX0_loudestKeeping 63 = .ok (.iload_n 1, 1) := by decide +kernel
theorem dX0_loudestKeeping_64 : decode cX0_loudestKeeping 64 = .ok (.iaload, 1) := by decide +kernel
theorem dX0_loudestKeeping_65 : decode cX0_loudestKeeping 65 = .ok (.if_icmp .ne 6, 3) := by decide +kernel
theorem dX0_loudestKeeping_68 : decode cX0_loudestKeeping 68 = .ok (.iload 4, 2) := by decide +kernel
theorem dX0_loudestKeeping_70 : decode cX0_loudestKeeping 70 = .ok (.istore_n 2, 1) := by decide +kernel
theorem dX0_loudestKeeping_71 : decode cX0_loudestKeeping 71 = .ok (.iinc 4 1, 3) := by decide +kernel
theorem dX0_loudestKeeping_74 : decode cX0_loudestKeeping 74 = .ok (.goto (-61), 3) := by decide +kernel
theorem dX0_loudestKeeping_77 : decode cX0_loudestKeeping 77 = .ok (.iload_n 2, 1) := by decide +kernel
theorem dX0_loudestKeeping_78 : decode cX0_loudestKeeping 78 = .ok (.ireturn, 1) := by decide +kernel
theorem dX0_duel_0 : decode cX0_duel 0 = .ok (.aload_n 0, 1) := by decide +kernel
theorem dX0_duel_1 : decode cX0_duel 1 = .ok (.iload_n 1, 1) := by decide +kernel
theorem dX0_duel_2 : decode cX0_duel 2 = .ok (.putfield 23, 3) := by decide +kernel
theorem dX0_duel_5 : decode cX0_duel 5 = .ok (.aload_n 0, 1) := by decide +kernel
theorem dX0_duel_6 : decode cX0_duel 6 = .ok (.iload_n 2, 1) := by decide +kernel
theorem dX0_duel_7 : decode cX0_duel 7 = .ok (.putfield 27, 3) := by decide +kernel
theorem dX0_duel_10 : decode cX0_duel 10 = .ok (.aload_n 0, 1) := by decide +kernel
theorem dX0_duel_11 : decode cX0_duel 11 = .ok (.iload_n 3, 1) := by decide +kernel
theorem dX0_duel_12 : decode cX0_duel 12 = .ok (.putfield 30, 3) := by decide +kernel
theorem dX0_duel_15 : decode cX0_duel 15 = .ok (.aload_n 0, 1) := by decide +kernel
theorem dX0_duel_16 : decode cX0_duel 16 = .ok (.iconst 0, 1) := by decide +kernel
theorem dX0_duel_17 : decode cX0_duel 17 = .ok (.putfield 33, 3) := by decide +kernel
theorem dX0_duel_20 : decode cX0_duel 20 = .ok (.aload_n 0, 1) := by decide +kernel
theorem dX0_duel_21 : decode cX0_duel 21 = .ok (.getfield 36, 3) := by decide +kernel
theorem dX0_duel_24 : decode cX0_duel 24 = .ok (.getfield 40, 3) := by decide +kernel
theorem dX0_duel_27 : decode cX0_duel 27 = .ok (.iconst 0, 1) := by decide +kernel
theorem dX0_duel_28 : decode cX0_duel 28 = .ok (.aload_n 0, 1) := by decide +kernel
theorem dX0_duel_29 : decode cX0_duel 29 = .ok (.getfield 20, 3) := by decide +kernel
theorem dX0_duel_32 : decode cX0_duel 32 = .ok (.iconst 0, 1) := by decide +kernel
theorem dX0_duel_33 : decode cX0_duel 33 = .ok (.aaload, 1) := by decide +kernel
theorem dX0_duel_34 : decode cX0_duel 34 = .ok (.iconst 0, 1) := by decide +kernel
theorem dX0_duel_35 : decode cX0_duel 35 = .ok (.bipush 10, 2) := by decide +kernel
theorem dX0_duel_37 : decode cX0_duel 37 = .ok (.invokestatic 45, 3) := by decide +kernel
theorem dX0_duel_40 : decode cX0_duel 40 = .ok (.aload_n 0, 1) := by decide +kernel
theorem dX0_duel_41 : decode cX0_duel 41 = .ok (.iconst 0, 1) := by decide +kernel
theorem dX0_duel_42 : decode cX0_duel 42 = .ok (.iload 4, 2) := by decide +kernel
theorem dX0_duel_44 : decode cX0_duel 44 = .ok (.invokevirtual 85, 3) := by decide +kernel
theorem dX0_duel_47 : decode cX0_duel 47 = .ok (.ireturn, 1) := by decide +kernel
theorem dX0_bestTurn_0 : decode cX0_bestTurn 0 = .ok (.iload_n 1, 1) := by decide +kernel
theorem dX0_bestTurn_1 : decode cX0_bestTurn 1 = .ok (.iload_n 2, 1) := by decide +kernel
theorem dX0_bestTurn_2 : decode cX0_bestTurn 2 = .ok (.if_icmp .ge 9, 3) := by decide +kernel
theorem dX0_bestTurn_5 : decode cX0_bestTurn 5 = .ok (.iload_n 1, 1) := by decide +kernel
theorem dX0_bestTurn_6 : decode cX0_bestTurn 6 = .ok (.bipush 6, 2) := by decide +kernel
theorem dX0_bestTurn_8 : decode cX0_bestTurn 8 = .ok (.if_icmp .lt 15, 3) := by decide +kernel
theorem dX0_bestTurn_11 : decode cX0_bestTurn 11 = .ok (.aload_n 0, 1) := by decide +kernel
theorem dX0_bestTurn_12 : decode cX0_bestTurn 12 = .ok (.getfield 20, 3) := by decide +kernel
theorem dX0_bestTurn_15 : decode cX0_bestTurn 15 = .ok (.iload_n 1, 1) := by decide +kernel
theorem dX0_bestTurn_16 : decode cX0_bestTurn 16 = .ok (.aaload, 1) := by decide +kernel
theorem dX0_bestTurn_17 : decode cX0_bestTurn 17 = .ok (.aload_n 0, 1) := by decide +kernel
theorem dX0_bestTurn_18 : decode cX0_bestTurn 18 = .ok (.getfield 30, 3) := by decide +kernel
theorem dX0_bestTurn_21 : decode cX0_bestTurn 21 = .ok (.iaload, 1) := by decide +kernel
theorem dX0_bestTurn_22 : decode cX0_bestTurn 22 = .ok (.ireturn, 1) := by decide +kernel
theorem dX0_bestTurn_23 : decode cX0_bestTurn 23 = .ok (.iload_n 1, 1) := by decide +kernel
theorem dX0_bestTurn_24 : decode cX0_bestTurn 24 = .ok (.iconst 2, 1) := by decide +kernel
theorem dX0_bestTurn_25 : decode cX0_bestTurn 25 = .ok (.irem, 1) := by decide +kernel
theorem dX0_bestTurn_26 : decode cX0_bestTurn 26 = .ok (.ifCond .ne 7, 3) := by decide +kernel
theorem dX0_bestTurn_29 : decode cX0_bestTurn 29 = .ok (.iconst 1, 1) := by decide +kernel
theorem dX0_bestTurn_30 : decode cX0_bestTurn 30 = .ok (.goto 4, 3) := by decide +kernel
theorem dX0_bestTurn_33 : decode cX0_bestTurn 33 = .ok (.iconst 0, 1) := by decide +kernel
theorem dX0_bestTurn_34 : decode cX0_bestTurn 34 = .ok (.istore_n 3, 1) := by decide +kernel
theorem dX0_bestTurn_35 : decode cX0_bestTurn 35 = .ok (.iconst 0, 1) := by decide +kernel
theorem dX0_bestTurn_36 : decode cX0_bestTurn 36 = .ok (.istore 4, 2) := by decide +kernel
theorem dX0_bestTurn_38 : decode cX0_bestTurn 38 = .ok (.iconst 0, 1) := by decide +kernel
theorem dX0_bestTurn_39 : decode cX0_bestTurn 39 = .ok (.istore 5, 2) := by decide +kernel
theorem dX0_bestTurn_41 : decode cX0_bestTurn 41 = .ok (.iload 5, 2) := by decide +kernel
theorem dX0_bestTurn_43 : decode cX0_bestTurn 43 = .ok (.iconst 3, 1) := by decide +kernel
theorem dX0_bestTurn_44 : decode cX0_bestTurn 44 = .ok (.if_icmp .ge 113, 3) := by decide +kernel
theorem dX0_bestTurn_47 : decode cX0_bestTurn 47 = .ok (.aload_n 0, 1) := by decide +kernel
theorem dX0_bestTurn_48 : decode cX0_bestTurn 48 = .ok (.getfield 20, 3) := by decide +kernel
theorem dX0_bestTurn_51 : decode cX0_bestTurn 51 = .ok (.iload_n 1, 1) := by decide +kernel
theorem dX0_bestTurn_52 : decode cX0_bestTurn 52 = .ok (.aaload, 1) := by decide +kernel
theorem dX0_bestTurn_53 : decode cX0_bestTurn 53 = .ok (.iconst 0, 1) := by decide +kernel
theorem dX0_bestTurn_54 : decode cX0_bestTurn 54 = .ok (.aload_n 0, 1) := by decide +kernel
theorem dX0_bestTurn_55 : decode cX0_bestTurn 55 = .ok (.getfield 20, 3) := by decide +kernel
theorem dX0_bestTurn_58 : decode cX0_bestTurn 58 = .ok (.iload_n 1, 1) := by decide +kernel
theorem dX0_bestTurn_59 : decode cX0_bestTurn 59 = .ok (.iconst 1, 1) := by decide +kernel
theorem dX0_bestTurn_60 : decode cX0_bestTurn 60 = .ok (.iadd, 1) := by decide +kernel
theorem dX0_bestTurn_61 : decode cX0_bestTurn 61 = .ok (.aaload, 1) := by decide +kernel
theorem dX0_bestTurn_62 : decode cX0_bestTurn 62 = .ok (.iconst 0, 1) := by decide +kernel
theorem dX0_bestTurn_63 : decode cX0_bestTurn 63 = .ok (.bipush 10, 2) := by decide +kernel
theorem dX0_bestTurn_65 : decode cX0_bestTurn 65 = .ok (.invokestatic 45, 3) := by decide +kernel
theorem dX0_bestTurn_68 : decode cX0_bestTurn 68 = .ok (.aload_n 0, 1) := by decide +kernel
theorem dX0_bestTurn_69 : decode cX0_bestTurn 69 = .ok (.getfield 36, 3) := by decide +kernel
theorem dX0_bestTurn_72 : decode cX0_bestTurn 72 = .ok (.aload_n 0, 1) := by decide +kernel
theorem dX0_bestTurn_73 : decode cX0_bestTurn 73 = .ok (.getfield 20, 3) := by decide +kernel
theorem dX0_bestTurn_76 : decode cX0_bestTurn 76 = .ok (.iload_n 1, 1) := by decide +kernel
theorem dX0_bestTurn_77 : decode cX0_bestTurn 77 = .ok (.iconst 1, 1) := by decide +kernel
theorem dX0_bestTurn_78 : decode cX0_bestTurn 78 = .ok (.iadd, 1) := by decide +kernel
theorem dX0_bestTurn_79 : decode cX0_bestTurn 79 = .ok (.aaload, 1) := by decide +kernel
theorem dX0_bestTurn_80 : decode cX0_bestTurn 80 = .ok (.iload_n 3, 1) := by decide +kernel
theorem dX0_bestTurn_81 : decode cX0_bestTurn 81 = .ok (.ifCond .eq 10, 3) := by decide +kernel
theorem dX0_bestTurn_84 : decode cX0_bestTurn 84 = .ok (.aload_n 0, 1) := by decide +kernel
theorem dX0_bestTurn_85 : decode cX0_bestTurn 85 = .ok (.getfield 23, 3) := by decide +kernel
theorem dX0_bestTurn_88 : decode cX0_bestTurn 88 = .ok (.goto 7, 3) := by decide +kernel
theorem dX0_bestTurn_91 : decode cX0_bestTurn 91 = .ok (.aload_n 0, 1) := by decide +kernel
theorem dX0_bestTurn_92 : decode cX0_bestTurn 92 = .ok (.getfield 27, 3) := by decide +kernel
theorem dX0_bestTurn_95 : decode cX0_bestTurn 95 = .ok (.iload 5, 2) := by decide +kernel
theorem dX0_bestTurn_97 : decode cX0_bestTurn 97 = .ok (.invokevirtual 54, 3) := by decide +kernel
theorem dX0_bestTurn_100 : decode cX0_bestTurn 100 = .ok (.pop, 1) := by decide +kernel
theorem dX0_bestTurn_101 : decode cX0_bestTurn 101 = .ok (.aload_n 0, 1) := by decide +kernel
theorem dX0_bestTurn_102 : decode cX0_bestTurn 102 = .ok (.iload_n 1, 1) := by decide +kernel
theorem dX0_bestTurn_103 : decode cX0_bestTurn 103 = .ok (.iconst 1, 1) := by decide +kernel
theorem dX0_bestTurn_104 : decode cX0_bestTurn 104 = .ok (.iadd, 1) := by decide +kernel
theorem dX0_bestTurn_105 : decode cX0_bestTurn 105 = .ok (.iload_n 2, 1) := by decide +kernel
theorem dX0_bestTurn_106 : decode cX0_bestTurn 106 = .ok (.invokevirtual 85, 3) := by decide +kernel
theorem dX0_bestTurn_109 : decode cX0_bestTurn 109 = .ok (.istore 6, 2) := by decide +kernel
theorem dX0_bestTurn_111 : decode cX0_bestTurn 111 = .ok (.iload 5, 2) := by decide +kernel
theorem dX0_bestTurn_113 : decode cX0_bestTurn 113 = .ok (.ifCond .eq 24, 3) := by decide +kernel
theorem dX0_bestTurn_116 : decode cX0_bestTurn 116 = .ok (.iload_n 3, 1) := by decide +kernel
theorem dX0_bestTurn_117 : decode cX0_bestTurn 117 = .ok (.ifCond .eq 13, 3) := by decide +kernel
theorem dX0_bestTurn_120 : decode cX0_bestTurn 120 = .ok (.iload 6, 2) := by decide +kernel
theorem dX0_bestTurn_122 : decode cX0_bestTurn 122 = .ok (.iload 4, 2) := by decide +kernel
theorem dX0_bestTurn_124 : decode cX0_bestTurn 124 = .ok (.if_icmp .le 27, 3) := by decide +kernel
theorem dX0_bestTurn_127 : decode cX0_bestTurn 127 = .ok (.goto 10, 3) := by decide +kernel
theorem dX0_bestTurn_130 : decode cX0_bestTurn 130 = .ok (.iload 6, 2) := by decide +kernel
theorem dX0_bestTurn_132 : decode cX0_bestTurn 132 = .ok (.iload 4, 2) := by decide +kernel
theorem dX0_bestTurn_134 : decode cX0_bestTurn 134 = .ok (.if_icmp .ge 17, 3) := by decide +kernel
theorem dX0_bestTurn_137 : decode cX0_bestTurn 137 = .ok (.iload 6, 2) := by decide +kernel
theorem dX0_bestTurn_139 : decode cX0_bestTurn 139 = .ok (.istore 4, 2) := by decide +kernel
theorem dX0_bestTurn_141 : decode cX0_bestTurn 141 = .ok (.iload_n 1, 1) := by decide +kernel
theorem dX0_bestTurn_142 : decode cX0_bestTurn 142 = .ok (.ifCond .ne 9, 3) := by decide +kernel
theorem dX0_bestTurn_145 : decode cX0_bestTurn 145 = .ok (.aload_n 0, 1) := by decide +kernel
theorem dX0_bestTurn_146 : decode cX0_bestTurn 146 = .ok (.iload 5, 2) := by decide +kernel
theorem dX0_bestTurn_148 : decode cX0_bestTurn 148 = .ok (.putfield 33, 3) := by decide +kernel
theorem dX0_bestTurn_151 : decode cX0_bestTurn 151 = .ok (.iinc 5 1, 3) := by decide +kernel
theorem dX0_bestTurn_154 : decode cX0_bestTurn 154 = .ok (.goto (-113), 3) := by decide +kernel
theorem dX0_bestTurn_157 : decode cX0_bestTurn 157 = .ok (.iload 4, 2) := by decide +kernel
theorem dX0_bestTurn_159 : decode cX0_bestTurn 159 = .ok (.ireturn, 1) := by decide +kernel
theorem dX2_init_0 : decode cX2_init 0 = .ok (.aload_n 0, 1) := by decide +kernel
theorem dX2_init_1 : decode cX2_init 1 = .ok (.invokespecial 3, 3) := by decide +kernel
theorem dX2_init_4 : decode cX2_init 4 = .ok (.aload_n 0, 1) := by decide +kernel
theorem dX2_init_5 : decode cX2_init 5 = .ok (.iconst 4, 1) := by decide +kernel
theorem dX2_init_6 : decode cX2_init 6 = .ok (.bipush 10, 2) := by decide +kernel
theorem dX2_init_8 : decode cX2_init 8 = .ok (.multianewarray 9 2, 4) := by decide +kernel
theorem dX2_init_12 : decode cX2_init 12 = .ok (.putfield 11, 3) := by decide +kernel
theorem dX2_init_15 : decode cX2_init 15 = .ok (.aload_n 0, 1) := by decide +kernel
theorem dX2_init_16 : decode cX2_init 16 = .ok (.bipush 27, 2) := by decide +kernel
theorem dX2_init_18 : decode cX2_init 18 = .ok (.newarray .int, 2) := by decide +kernel
theorem dX2_init_20 : decode cX2_init 20 = .ok (.putfield 16, 3) := by decide +kernel
theorem dX2_init_23 : decode cX2_init 23 = .ok (.aload_n 0, 1) := by decide +kernel
theorem dX2_init_24 : decode cX2_init 24 = .ok (.iconst 3, 1) := by decide +kernel
theorem dX2_init_25 : decode cX2_init 25 = .ok (.newarray .int, 2) := by decide +kernel
theorem dX2_init_27 : decode cX2_init 27 = .ok (.putfield 20, 3) := by decide +kernel
theorem dX2_init_30 : decode cX2_init 30 = .ok (.aload_n 0, 1) := by decide +kernel
theorem dX2_init_31 : decode cX2_init 31 = .ok (.bipush 10, 2) := by decide +kernel
theorem dX2_init_33 : decode cX2_init 33 = .ok (.newarray .int, 2) := by decide +kernel
theorem dX2_init_35 : decode cX2_init 35 = .ok (.putfield 23, 3) := by decide +kernel
theorem dX2_init_38 : decode cX2_init 38 = .ok (.aload_n 0, 1) := by decide +kernel
theorem dX2_init_39 : decode cX2_init 39 = .ok (.iconst 3, 1) := by decide +kernel
theorem dX2_init_40 : decode cX2_init 40 = .ok (.newarray .int, 2) := by decide +kernel
theorem dX2_init_42 : decode cX2_init 42 = .ok (.putfield 26, 3) := by decide +kernel
theorem dX2_init_45 : decode cX2_init 45 = .ok (.aload_n 0, 1) := by decide +kernel
theorem dX2_init_46 : decode cX2_init 46 = .ok (.sipush 1000, 3) := by decide +kernel
theorem dX2_init_49 : decode cX2_init 49 = .ok (.putfield 29, 3) := by decide +kernel
theorem dX2_init_52 : decode cX2_init 52 = .ok (.aload_n 0, 1) := by decide +kernel
theorem dX2_init_53 : decode cX2_init 53 = .ok (.iconst 0, 1) := by decide +kernel
theorem dX2_init_54 : decode cX2_init 54 = .ok (.putfield 33, 3) := by decide +kernel
theorem dX2_init_57 : decode cX2_init 57 = .ok (.aload_n 0, 1) := by decide +kernel
theorem dX2_init_58 : decode cX2_init 58 = .ok (.iconst 0, 1) := by decide +kernel
theorem dX2_init_59 : decode cX2_init 59 = .ok (.putfield 37, 3) := by decide +kernel
theorem dX2_init_62 : decode cX2_init 62 = .ok (.aload_n 0, 1) := by decide +kernel
theorem dX2_init_63 : decode cX2_init 63 = .ok (.iconst 0, 1) := by decide +kernel
theorem dX2_init_64 : decode cX2_init 64 = .ok (.putfield 40, 3) := by decide +kernel
theorem dX2_init_67 : decode cX2_init 67 = .ok (.aload_n 0, 1) := by decide +kernel
theorem dX2_init_68 : decode cX2_init 68 = .ok (.iconst 0, 1) := by decide +kernel
theorem dX2_init_69 : decode cX2_init 69 = .ok (.putfield 43, 3) := by decide +kernel
theorem dX2_init_72 : decode cX2_init 72 = .ok (.aload_n 0, 1) := by decide +kernel
theorem dX2_init_73 : decode cX2_init 73 = .ok (.iconst 0, 1) := by decide +kernel
theorem dX2_init_74 : decode cX2_init 74 = .ok (.putfield 46, 3) := by decide +kernel
theorem dX2_init_77 : decode cX2_init 77 = .ok (.aload_n 0, 1) := by decide +kernel
theorem dX2_init_78 : decode cX2_init 78 = .ok (.aload_n 1, 1) := by decide +kernel
theorem dX2_init_79 : decode cX2_init 79 = .ok (.putfield 49, 3) := by decide +kernel
theorem dX2_init_82 : decode cX2_init 82 = .ok (.return_, 1) := by decide +kernel
theorem dX2_aimFlat_0 : decode cX2_aimFlat 0 = .ok (.aload_n 0, 1) := by decide +kernel
theorem dX2_aimFlat_1 : decode cX2_aimFlat 1 = .ok (.iconst 1, 1) := by decide +kernel
theorem dX2_aimFlat_2 : decode cX2_aimFlat 2 = .ok (.putfield 33, 3) := by decide +kernel
theorem dX2_aimFlat_5 : decode cX2_aimFlat 5 = .ok (.aload_n 0, 1) := by decide +kernel
theorem dX2_aimFlat_6 : decode cX2_aimFlat 6 = .ok (.iload_n 1, 1) := by decide +kernel
theorem dX2_aimFlat_7 : decode cX2_aimFlat 7 = .ok (.putfield 37, 3) := by decide +kernel
theorem dX2_aimFlat_10 : decode cX2_aimFlat 10 = .ok (.iconst 0, 1) := by decide +kernel
theorem dX2_aimFlat_11 : decode cX2_aimFlat 11 = .ok (.istore_n 2, 1) := by decide +kernel
theorem dX2_aimFlat_12 : decode cX2_aimFlat 12 = .ok (.iload_n 2, 1) := by decide +kernel
theorem dX2_aimFlat_13 : decode cX2_aimFlat 13 = .ok (.aload_n 0, 1) := by decide +kernel
theorem dX2_aimFlat_14 : decode cX2_aimFlat 14 = .ok (.getfield 49, 3) := by decide +kernel
theorem dX2_aimFlat_17 : decode cX2_aimFlat 17 = .ok (.getfield 53, 3) := by decide +kernel
theorem dX2_aimFlat_20 : decode cX2_aimFlat 20 = .ok (.if_icmp .ge 20, 3) := by decide +kernel
theorem dX2_aimFlat_23 : decode cX2_aimFlat 23 = .ok (.aload_n 0, 1) := by decide +kernel
theorem dX2_aimFlat_24 : decode cX2_aimFlat 24 = .ok (.getfield 23, 3) := by decide +kernel
theorem dX2_aimFlat_27 : decode cX2_aimFlat 27 = .ok (.iload_n 2, 1) := by decide +kernel
theorem dX2_aimFlat_28 : decode cX2_aimFlat 28 = .ok (.aload_n 0, 1) := by decide +kernel
theorem dX2_aimFlat_29 : decode cX2_aimFlat 29 = .ok (.iload_n 2, 1) := by decide +kernel
theorem dX2_aimFlat_30 : decode cX2_aimFlat 30 = .ok (.invokevirtual 58, 3) := by decide +kernel
theorem dX2_aimFlat_33 : decode cX2_aimFlat 33 = .ok (.iastore, 1) := by decide +kernel
theorem dX2_aimFlat_34 : decode cX2_aimFlat 34 = .ok (.iinc 2 1, 3) := by decide +kernel
theorem dX2_aimFlat_37 : decode cX2_aimFlat 37 = .ok (.goto (-25), 3) := by decide +kernel
theorem dX2_aimFlat_40 : decode cX2_aimFlat 40 = .ok (.return_, 1) := by decide +kernel
theorem dX2_aimHigh_0 : decode cX2_aimHigh 0 = .ok (.aload_n 0, 1) := by decide +kernel
theorem dX2_aimHigh_1 : decode cX2_aimHigh 1 = .ok (.iconst 0, 1) := by decide +kernel
theorem dX2_aimHigh_2 : decode cX2_aimHigh 2 = .ok (.putfield 33, 3) := by decide +kernel
theorem dX2_aimHigh_5 : decode cX2_aimHigh 5 = .ok (.aload_n 0, 1) := by decide +kernel
theorem dX2_aimHigh_6 : decode cX2_aimHigh 6 = .ok (.iload_n 1, 1) := by decide +kernel
theorem dX2_aimHigh_7 : decode cX2_aimHigh 7 = .ok (.putfield 40, 3) := by decide +kernel
theorem dX2_aimHigh_10 : decode cX2_aimHigh 10 = .ok (.aload_n 0, 1) := by decide +kernel
theorem dX2_aimHigh_11 : decode cX2_aimHigh 11 = .ok (.iload_n 2, 1) := by decide +kernel
theorem dX2_aimHigh_12 : decode cX2_aimHigh 12 = .ok (.putfield 43, 3) := by decide +kernel
theorem dX2_aimHigh_15 : decode cX2_aimHigh 15 = .ok (.aload_n 0, 1) := by decide +kernel
theorem dX2_aimHigh_16 : decode cX2_aimHigh 16 = .ok (.aload_n 0, 1) := by decide +kernel
theorem dX2_aimHigh_17 : decode cX2_aimHigh 17 = .ok (.iload_n 1, 1) := by decide +kernel
theorem dX2_aimHigh_18 : decode cX2_aimHigh 18 = .ok (.invokevirtual 62, 3) := by decide +kernel
theorem dX2_aimHigh_21 : decode cX2_aimHigh 21 = .ok (.putfield 46, 3) := by decide +kernel
theorem dX2_aimHigh_24 : decode cX2_aimHigh 24 = .ok (.return_, 1) := by decide +kernel
theorem dX2_isFound_0 : decode cX2_isFound 0 = .ok (.aload_n 0, 1) := by decide +kernel
theorem dX2_isFound_1 : decode cX2_isFound 1 = .ok (.sipush 1000, 3) := by decide +kernel
theorem dX2_isFound_4 : decode cX2_isFound 4 = .ok (.putfield 29, 3) := by decide +kernel
theorem dX2_isFound_7 : decode cX2_isFound 7 = .ok (.aload_n 0, 1) := by decide +kernel
theorem dX2_isFound_8 : decode cX2_isFound 8 = .ok (.getfield 49, 3) := by decide +kernel
theorem dX2_isFound_11 : decode cX2_isFound 11 = .ok (.invokevirtual 65, 3) := by decide +kernel
theorem dX2_isFound_14 : decode cX2_isFound 14 = .ok (.istore_n 2, 1) := by decide +kernel
theorem dX2_isFound_15 : decode cX2_isFound 15 = .ok (.iconst 0, 1) := by decide +kernel
theorem dX2_isFound_16 : decode cX2_isFound 16 = .ok (.istore_n 3, 1) := by decide +kernel
theorem dX2_isFound_17 : decode cX2_isFound 17 = .ok (.iload_n 3, 1) := by decide +kernel
theorem dX2_isFound_18 : decode cX2_isFound 18 = .ok (.iload_n 2, 1) := by decide +kernel
theorem dX2_isFound_19 : decode cX2_isFound 19 = .ok (.if_icmp .ge 29, 3) := by decide +kernel
theorem dX2_isFound_22 : decode cX2_isFound 22 = .ok (.iload_n 3, 1) := by decide +kernel
theorem dX2_isFound_23 : decode cX2_isFound 23 = .ok (.bipush 27, 2) := by decide +kernel
theorem dX2_isFound_25 : decode cX2_isFound 25 = .ok (.if_icmp .ge 23, 3) := by decide +kernel
theorem dX2_isFound_28 : decode cX2_isFound 28 = .ok (.aload_n 0, 1) := by decide +kernel
theorem dX2_isFound_29 : decode cX2_isFound 29 = .ok (.getfield 16, 3) := by decide +kernel
theorem dX2_isFound_32 : decode cX2_isFound 32 = .ok (.iload_n 3, 1) := by decide +kernel
theorem dX2_isFound_33 : decode cX2_isFound 33 = .ok (.aload_n 0, 1) := by decide +kernel
theorem dX2_isFound_34 : decode cX2_isFound 34 = .ok (.getfield 49, 3) := by decide +kernel
theorem dX2_isFound_37 : decode cX2_isFound 37 = .ok (.iload_n 3, 1) := by decide +kernel
theorem dX2_isFound_38 : decode cX2_isFound 38 = .ok (.invokevirtual 69, 3) := by decide +kernel
theorem dX2_isFound_41 : decode cX2_isFound 41 = .ok (.iastore, 1) := by decide +kernel
theorem dX2_isFound_42 : decode cX2_isFound 42 = .ok (.iinc 3 1, 3) := by decide +kernel
theorem dX2_isFound_45 : decode cX2_isFound 45 = .ok (.goto (-28), 3) := by decide +kernel
theorem dX2_isFound_48 : decode cX2_isFound 48 = .ok (.aload_n 0, 1) := by decide +kernel
theorem dX2_isFound_49 : decode cX2_isFound 49 = .ok (.getfield 49, 3) := by decide +kernel
theorem dX2_isFound_52 : decode cX2_isFound 52 = .ok (.getfield 72, 3) := by decide +kernel
theorem dX2_isFound_55 : decode cX2_isFound 55 = .ok (.iconst 0, 1) := by decide +kernel
theorem dX2_isFound_56 : decode cX2_isFound 56 = .ok (.aload_n 0, 1) := by decide +kernel
theorem dX2_isFound_57 : decode cX2_isFound 57 = .ok (.getfield 11, 3) := by decide +kernel
theorem dX2_isFound_60 : decode cX2_isFound 60 = .ok (.iconst 0, 1) := by decide +kernel
theorem dX2_isFound_61 : decode cX2_isFound 61 = .ok (.aaload, 1) := by decide +kernel
theorem dX2_isFound_62 : decode cX2_isFound 62 = .ok (.iconst 0, 1) := by decide +kernel
theorem dX2_isFound_63 : decode cX2_isFound 63 = .ok (.bipush 10, 2) := by decide +kernel
theorem dX2_isFound_65 : decode cX2_isFound 65 = .ok (.invokestatic 75, 3) := by decide +kernel
theorem dX2_isFound_68 : decode cX2_isFound 68 = .ok (.aload_n 0, 1) := by decide +kernel
theorem dX2_isFound_69 : decode cX2_isFound 69 = .ok (.iconst 0, 1) := by decide +kernel
theorem dX2_isFound_70 : decode cX2_isFound 70 = .ok (.iload_n 1, 1) := by decide +kernel
theorem dX2_isFound_71 : decode cX2_isFound 71 = .ok (.iconst 0, 1) := by decide +kernel
theorem dX2_isFound_72 : decode cX2_isFound 72 = .ok (.invokevirtual 81, 3) := by decide +kernel
theorem dX2_isFound_75 : decode cX2_isFound 75 = .ok (.aload_n 0, 1) := by decide +kernel
theorem dX2_isFound_76 : decode cX2_isFound 76 = .ok (.getfield 29, 3) := by decide +kernel
theorem dX2_isFound_79 : decode cX2_isFound 79 = .ok (.sipush 1000, 3) := by decide +kernel
theorem dX2_isFound_82 : decode cX2_isFound 82 = .ok (.if_icmp .eq 7, 3) := by decide +kernel
theorem dX2_isFound_85 : decode cX2_isFound 85 = .ok (.iconst 1, 1) := by decide +kernel
theorem dX2_isFound_86 : decode cX2_isFound 86 = .ok (.goto 4, 3) := by decide +kernel
theorem dX2_isFound_89 : decode cX2_isFound 89 = .ok (.iconst 0, 1) := by decide +kernel
theorem dX2_isFound_90 : decode cX2_isFound 90 = .ok (.ireturn, 1) := by decide +kernel
theorem dX2_seek_0 : decode cX2_seek 0 = .ok (.iload_n 1, 1) := by decide +kernel
theorem dX2_seek_1 : decode cX2_seek 1 = .ok (.iload_n 2, 1) := by decide +kernel
theorem dX2_seek_2 : decode cX2_seek 2 = .ok (.if_icmp .gt 8, 3) := by decide +kernel
theorem dX2_seek_5 : decode cX2_seek 5 = .ok (.iload_n 2, 1) := by decide +kernel
theorem dX2_seek_6 : decode cX2_seek 6 = .ok (.iconst 3, 1) := by decide +kernel
theorem dX2_seek_7 : decode cX2_seek 7 = .ok (.if_icmp .le 4, 3) := by decide +kernel
theorem dX2_seek_10 : decode cX2_seek 10 = .ok (.return_, 1) := by decide +kernel
theorem dX2_seek_11 : decode cX2_seek 11 = .ok (.iload_n 3, 1) := by decide +kernel
theorem dX2_seek_12 : decode cX2_seek 12 = .ok (.aload_n 0, 1) := by decide +kernel
theorem dX2_seek_13 : decode cX2_seek 13 = .ok (.getfield 29, 3) := by decide +kernel
theorem dX2_seek_16 : decode cX2_seek 16 = .ok (.if_icmp .ge 19, 3) := by decide +kernel
theorem dX2_seek_19 : decode cX2_seek 19 = .ok (.aload_n 0, 1) := by decide +kernel
theorem dX2_seek_20 : decode cX2_seek 20 = .ok (.aload_n 0, 1) := by decide +kernel
theorem dX2_seek_21 : decode cX2_seek 21 = .ok (.getfield 11, 3) := by decide +kernel
theorem dX2_seek_24 : decode cX2_seek 24 = .ok (.iload_n 1, 1) := by decide +kernel
theorem dX2_seek_25 : decode cX2_seek 25 = .ok (.aaload, 1) := by decide +kernel
theorem dX2_seek_26 : decode cX2_seek 26 = .ok (.iload_n 2, 1) := by decide +kernel
theorem dX2_seek_27 : decode cX2_seek 27 = .ok (.iload_n 1, 1) := by decide +kernel
theorem dX2_seek_28 : decode cX2_seek 28 = .ok (.isub, 1) := by decide +kernel
theorem dX2_seek_29 : decode cX2_seek 29 = .ok (.invokevirtual 85, 3) := by decide +kernel
theorem dX2_seek_32 : decode cX2_seek 32 = .ok (.ifCond .ne 4, 3) := by decide +kernel
theorem dX2_seek_35 : decode cX2_seek 35 = .ok (.return_, 1) := by decide +kernel
theorem dX2_seek_36 : decode cX2_seek 36 = .ok (.iload_n 1, 1) := by decide +kernel
theorem dX2_seek_37 : decode cX2_seek 37 = .ok (.iload_n 2, 1) := by decide +kernel
theorem dX2_seek_38 : decode cX2_seek 38 = .ok (.if_icmp .ne 23, 3) := by decide +kernel
theorem dX2_seek_41 : decode cX2_seek 41 = .ok (.aload_n 0, 1) := by decide +kernel
theorem dX2_seek_42 : decode cX2_seek 42 = .ok (.iload_n 3, 1) := by decide +kernel
theorem dX2_seek_43 : decode cX2_seek 43 = .ok (.putfield 29, 3) := by decide +kernel
theorem dX2_seek_46 : decode cX2_seek 46 = .ok (.aload_n 0, 1) := by decide +kernel
theorem dX2_seek_47 : decode cX2_seek 47 = .ok (.getfield 20, 3) := by decide +kernel
theorem dX2_seek_50 : decode cX2_seek 50 = .ok (.iconst 0, 1) := by decide +kernel
theorem dX2_seek_51 : decode cX2_seek 51 = .ok (.aload_n 0, 1) := by decide +kernel
theorem dX2_seek_52 : decode cX2_seek 52 = .ok (.getfield 26, 3) := by decide +kernel
theorem dX2_seek_55 : decode cX2_seek 55 = .ok (.iconst 0, 1) := by decide +kernel
theorem dX2_seek_56 : decode cX2_seek 56 = .ok (.iconst 3, 1) := by decide +kernel
theorem dX2_seek_57 : decode cX2_seek 57 = .ok (.invokestatic 75, 3) := by decide +kernel
theorem dX2_seek_60 : decode cX2_seek 60 = .ok (.return_, 1) := by decide +kernel
theorem dX2_seek_61 : decode cX2_seek 61 = .ok (.aload_n 0, 1) := by decide +kernel
theorem dX2_seek_62 : decode cX2_seek 62 = .ok (.getfield 49, 3) := by decide +kernel
theorem dX2_seek_65 : decode cX2_seek 65 = .ok (.invokevirtual 65, 3) := by decide +kernel
theorem dX2_seek_68 : decode cX2_seek 68 = .ok (.istore 4, 2) := by decide +kernel
theorem dX2_seek_70 : decode cX2_seek 70 = .ok (.iconst 0, 1) := by decide +kernel
theorem dX2_seek_71 : decode cX2_seek 71 = .ok (.istore 5, 2) := by decide +kernel
theorem dX2_seek_73 : decode cX2_seek 73 = .ok (.iload 5, 2) := by decide +kernel
theorem dX2_seek_75 : decode cX2_seek 75 = .ok (.iload 4, 2) := by decide +kernel
theorem dX2_seek_77 : decode cX2_seek 77 = .ok (.if_icmp .ge 98, 3) := by decide +kernel
theorem dX2_seek_80 : decode cX2_seek 80 = .ok (.iload 5, 2) := by decide +kernel
theorem dX2_seek_82 : decode cX2_seek 82 = .ok (.bipush 27, 2) := by decide +kernel
theorem dX2_seek_84 : decode cX2_seek 84 = .ok (.if_icmp .ge 91, 3) := by decide +kernel
theorem dX2_seek_87 : decode cX2_seek 87 = .ok (.iload_n 3, 1) := by decide +kernel
theorem dX2_seek_88 : decode cX2_seek 88 = .ok (.aload_n 0, 1) := by decide +kernel
theorem dX2_seek_89 : decode cX2_seek 89 = .ok (.getfield 16, 3) := by decide +kernel
theorem dX2_seek_92 : decode cX2_seek 92 = .ok (.iload 5, 2) := by decide +kernel
theorem dX2_seek_94 : decode cX2_seek 94 = .ok (.iaload, 1) := by decide +kernel
theorem dX2_seek_95 : decode cX2_seek 95 = .ok (.iadd, 1) := by decide +kernel
theorem dX2_seek_96 : decode cX2_seek 96 = .ok (.istore 6, 2) := by decide +kernel
theorem dX2_seek_98 : decode cX2_seek 98 = .ok (.iload 6, 2) := by decide +kernel
theorem dX2_seek_100 : decode cX2_seek 100 = .ok (.aload_n 0, 1) := by decide +kernel
theorem dX2_seek_101 : decode cX2_seek 101 = .ok (.getfield 29, 3) := by decide +kernel
theorem dX2_seek_104 : decode cX2_seek 104 = .ok (.if_icmp .lt 6, 3) := by decide +kernel
theorem dX2_seek_107 : decode cX2_seek 107 = .ok (.goto 62, 3) := by decide +kernel
theorem dX2_seek_110 : decode cX2_seek 110 = .ok (.aload_n 0, 1) := by decide +kernel
theorem dX2_seek_111 : decode cX2_seek 111 = .ok (.getfield 11, 3) := by decide +kernel
theorem dX2_seek_114 : decode cX2_seek 114 = .ok (.iload_n 1, 1) := by decide +kernel
theorem dX2_seek_115 : decode cX2_seek 115 = .ok (.aaload, 1) := by decide +kernel
theorem dX2_seek_116 : decode cX2_seek 116 = .ok (.iconst 0, 1) := by decide +kernel
theorem dX2_seek_117 : decode cX2_seek 117 = .ok (.aload_n 0, 1) := by decide +kernel
theorem dX2_seek_118 : decode cX2_seek 118 = .ok (.getfield 11, 3) := by decide +kernel
theorem dX2_seek_121 : decode cX2_seek 121 = .ok (.iload_n 1, 1) := by decide +kernel
theorem dX2_seek_122 : decode cX2_seek 122 = .ok (.iconst 1, 1) := by decide +kernel
theorem dX2_seek_123 : decode cX2_seek 123 = .ok (.iadd, 1) := by decide +kernel
theorem dX2_seek_124 : decode cX2_seek 124 = .ok (.aaload, 1) := by decide +kernel
theorem dX2_seek_125 : decode cX2_seek 125 = .ok (.iconst 0, 1) := by decide +kernel
theorem dX2_seek_126 : decode cX2_seek 126 = .ok (.bipush 10, 2) := by decide +kernel
theorem dX2_seek_128 : decode cX2_seek 128 = .ok (.invokestatic 75, 3) := by decide +kernel
theorem dX2_seek_131 : decode cX2_seek 131 = .ok (.aload_n 0, 1) := by decide +kernel
theorem dX2_seek_132 : decode cX2_seek 132 = .ok (.aload_n 0, 1) := by decide +kernel
theorem dX2_seek_133 : decode cX2_seek 133 = .ok (.getfield 11, 3) := by decide +kernel
theorem dX2_seek_136 : decode cX2_seek 136 = .ok (.iload_n 1, 1) := by decide +kernel
theorem dX2_seek_137 : decode cX2_seek 137 = .ok (.iconst 1, 1) := by decide +kernel
theorem dX2_seek_138 : decode cX2_seek 138 = .ok (.iadd, 1) := by decide +kernel
theorem dX2_seek_139 : decode cX2_seek 139 = .ok (.aaload, 1) := by decide +kernel
theorem dX2_seek_140 : decode cX2_seek 140 = .ok (.iload 5, 2) := by decide +kernel
theorem dX2_seek_142 : decode cX2_seek 142 = .ok (.invokevirtual 89, 3) := by decide +kernel
theorem dX2_seek_145 : decode cX2_seek 145 = .ok (.ifCond .ne 6, 3) := by decide +kernel
theorem dX2_seek_148 : decode cX2_seek 148 = .ok (.goto 21, 3) := by decide +kernel
theorem dX2_seek_151 : decode cX2_seek 151 = .ok (.aload_n 0, 1) := by decide +kernel
theorem dX2_seek_152 : decode cX2_seek 152 = .ok (.getfield 20, 3) := by decide +kernel
theorem dX2_seek_155 : decode cX2_seek 155 = .ok (.iload_n 1, 1) := by decide +kernel
theorem dX2_seek_156 : decode cX2_seek 156 = .ok (.iload 5, 2) := by decide +kernel
theorem dX2_seek_158 : decode cX2_seek 158 = .ok (.iastore, 1) := by decide +kernel
theorem dX2_seek_159 : decode cX2_seek 159 = .ok (.aload_n 0, 1) := by decide +kernel
theorem dX2_seek_160 : decode cX2_seek 160 = .ok (.iload_n 1, 1) := by decide +kernel
theorem dX2_seek_161 : decode cX2_seek 161 = .ok (.iconst 1, 1) := by decide +kernel
theorem dX2_seek_162 : decode cX2_seek 162 = .ok (.iadd, 1) := by decide +kernel
theorem dX2_seek_163 : decode cX2_seek 163 = .ok (.iload_n 2, 1) := by decide +kernel
theorem dX2_seek_164 : decode cX2_seek 164 = .ok (.iload 6, 2) := by decide +kernel
theorem dX2_seek_166 : decode cX2_seek 166 = .ok (.invokevirtual 81, 3) := by decide +kernel
theorem dX2_seek_169 : decode cX2_seek 169 = .ok (.iinc 5 1, 3) := by decide +kernel
theorem dX2_seek_172 : decode cX2_seek 172 = .ok (.goto (-99), 3) := by decide +kernel
theorem dX2_seek_175 : decode cX2_seek 175 = .ok (.return_, 1) := by decide +kernel
theorem dX2_isPlayedForUse_0 : decode cX2_isPlayedForUse 0 = .ok (.iload_n 2, 1) := by decide +kernel
theorem dX2_isPlayedForUse_1 : decode cX2_isPlayedForUse 1 = .ok (.istore_n 3, 1) := by decide +kernel
theorem dX2_isPlayedForUse_2 : decode cX2_isPlayedForUse 2 = .ok (.iconst 0, 1) := by decide +kernel
theorem dX2_isPlayedForUse_3 : decode cX2_isPlayedForUse 3 = .ok (.istore 4, 2) := by decide +kernel
theorem dX2_isPlayedForUse_5 : decode cX2_isPlayedForUse 5 = .ok (.iload 4, 2) := by decide +kernel
theorem dX2_isPlayedForUse_7 : decode cX2_isPlayedForUse 7 = .ok (.aload_n 0, 1) := by decide +kernel
theorem dX2_isPlayedForUse_8 : decode cX2_isPlayedForUse 8 = .ok (.getfield 49, 3) := by decide +kernel
theorem dX2_isPlayedForUse_11 : decode cX2_isPlayedForUse 11 = .ok (.getfield 92, 3) := by decide +kernel
theorem dX2_isPlayedForUse_14 : decode cX2_isPlayedForUse 14 = .ok (.if_icmp .ge 40, 3) := by decide +kernel
theorem dX2_isPlayedForUse_17 : decode cX2_isPlayedForUse 17 = .ok (.iload_n 3, 1) := by decide +kernel
theorem dX2_isPlayedForUse_18 : decode cX2_isPlayedForUse 18 = .ok (.iconst 3, 1) := by decide +kernel
theorem dX2_isPlayedForUse_19 : decode cX2_isPlayedForUse 19 = .ok (.irem, 1) := by decide +kernel
theorem dX2_isPlayedForUse_20 : decode cX2_isPlayedForUse 20 = .ok (.istore 5, 2) := by decide +kernel
theorem dX2_isPlayedForUse_22 : decode cX2_isPlayedForUse 22 = .ok (.iload 5, 2) := by decide +kernel
theorem dX2_isPlayedForUse_24 : decode cX2_isPlayedForUse 24 = .ok (.ifCond .eq 20, 3) := by decide +kernel
theorem dX2_isPlayedForUse_27 : decode cX2_isPlayedForUse 27 = .ok (.aload_n 0, 1) := by decide +kernel
theorem dX2_isPlayedForUse_28 : decode cX2_isPlayedForUse 28 = .ok (.getfield 49, 3) := by decide +kernel
theorem dX2_isPlayedForUse_31 : decode cX2_isPlayedForUse 31 = .ok (.aload_n 1, 1) := by decide +kernel
theorem dX2_isPlayedForUse_32 : decode cX2_isPlayedForUse 32 = .ok (.iload 4, 2) := by decide +kernel
theorem dX2_isPlayedForUse_34 : decode cX2_isPlayedForUse 34 = .ok (.iload 5, 2) := by decide +kernel
theorem dX2_isPlayedForUse_36 : decode cX2_isPlayedForUse 36 = .ok (.invokevirtual 95, 3) := by decide +kernel
theorem dX2_isPlayedForUse_39 : decode cX2_isPlayedForUse 39 = .ok (.ifCond .ne 5, 3) := by decide +kernel
theorem dX2_isPlayedForUse_42 : decode cX2_isPlayedForUse 42 = .ok (.iconst 0, 1) := by decide +kernel
theorem dX2_isPlayedForUse_43 : decode cX2_isPlayedForUse 43 = .ok (.ireturn, 1) := by decide +kernel
theorem dX2_isPlayedForUse_44 : decode cX2_isPlayedForUse 44 = .ok (.iload_n 3, 1) := by decide +kernel
theorem dX2_isPlayedForUse_45 : decode cX2_isPlayedForUse 45 = .ok (.iconst 3, 1) := by decide +kernel
theorem dX2_isPlayedForUse_46 : decode cX2_isPlayedForUse 46 = .ok (.idiv, 1) := by decide +kernel
theorem dX2_isPlayedForUse_47 : decode cX2_isPlayedForUse 47 = .ok (.istore_n 3, 1) := by decide +kernel
theorem dX2_isPlayedForUse_48 : decode cX2_isPlayedForUse 48 = .ok (.iinc 4 1, 3) := by decide +kernel
theorem dX2_isPlayedForUse_51 : decode cX2_isPlayedForUse 51 = .ok (.goto (-46), 3) := by decide +kernel
theorem dX2_isPlayedForUse_54 : decode cX2_isPlayedForUse 54 = .ok (.iconst 1, 1) := by decide +kernel
theorem dX2_isPlayedForUse_55 : decode cX2_isPlayedForUse 55 = .ok (.ireturn, 1) := by decide +kernel
theorem dX2_isWithinReach_0 : decode cX2_isWithinReach 0 = .ok (.aload_n 0, 1) := by decide +kernel
theorem dX2_isWithinReach_1 : decode cX2_isWithinReach 1 = .ok (.getfield 33, 3) := by decide +kernel
theorem dX2_isWithinReach_4 : decode cX2_isWithinReach 4 = .ok (.ifCond .ne 29, 3) := by decide +kernel
theorem dX2_isWithinReach_7 : decode cX2_isWithinReach 7 = .ok (.aload_n 1, 1) := by decide +kernel
theorem dX2_isWithinReach_8 : decode cX2_isWithinReach 8 = .ok (.aload_n 0, 1) := by decide +kernel
theorem dX2_isWithinReach_9 : decode cX2_isWithinReach 9 = .ok (.getfield 40, 3) := by decide +kernel
theorem dX2_isWithinReach_12 : decode cX2_isWithinReach 12 = .ok (.iaload, 1) := by decide +kernel
theorem dX2_isWithinReach_13 : decode cX2_isWithinReach 13 = .ok (.aload_n 0, 1) := by decide +kernel
theorem dX2_isWithinReach_14 : decode cX2_isWithinReach 14 = .ok (.getfield 46, 3) := by decide +kernel
theorem dX2_isWithinReach_17 : decode cX2_isWithinReach 17 = .ok (.iload_n 2, 1) := by decide +kernel
theorem dX2_isWithinReach_18 : decode cX2_isWithinReach 18 = .ok (.imul, 1) := by decide +kernel
theorem dX2_isWithinReach_19 : decode cX2_isWithinReach 19 = .ok (.iadd, 1) := by decide +kernel
theorem dX2_isWithinReach_20 : decode cX2_isWithinReach 20 = .ok (.aload_n 0, 1) := by decide +kernel
theorem dX2_isWithinReach_21 : decode cX2_isWithinReach 21 = .ok (.getfield 43, 3) := by decide +kernel
theorem dX2_isWithinReach_24 : decode cX2_isWithinReach 24 = .ok (.if_icmp .lt 7, 3) := by decide +kernel
theorem dX2_isWithinReach_27 : decode cX2_isWithinReach 27 = .ok (.iconst 1, 1) := by decide +kernel
theorem dX2_isWithinReach_28 : decode cX2_isWithinReach 28 = .ok (.goto 4, 3) := by decide +kernel
theorem dX2_isWithinReach_31 : decode cX2_isWithinReach 31 = .ok (.iconst 0, 1) := by decide +kernel
theorem dX2_isWithinReach_32 : decode cX2_isWithinReach 32 = .ok (.ireturn, 1) := by decide +kernel
theorem dX2_isWithinReach_33 : decode cX2_isWithinReach 33 = .ok (.iconst 0, 1) := by decide +kernel
theorem dX2_isWithinReach_34 : decode cX2_isWithinReach 34 = .ok (.istore_n 3, 1) := by decide +kernel
theorem dX2_isWithinReach_35 : decode cX2_isWithinReach 35 = .ok (.iload_n 3, 1) := by decide +kernel
theorem dX2_isWithinReach_36 : decode cX2_isWithinReach 36 = .ok (.aload_n 0, 1) := by decide +kernel
theorem dX2_isWithinReach_37 : decode cX2_isWithinReach 37 = .ok (.getfield 49, 3) := by decide +kernel
theorem dX2_isWithinReach_40 : decode cX2_isWithinReach 40 = .ok (.getfield 53, 3) := by decide +kernel
theorem dX2_isWithinReach_43 : decode cX2_isWithinReach 43 = .ok (.if_icmp .ge 37, 3) := by decide +kernel
theorem dX2_isWithinReach_46 : decode cX2_isWithinReach 46 = .ok (.aload_n 0, 1) := by decide +kernel
theorem dX2_isWithinReach_47 : decode cX2_isWithinReach 47 = .ok (.getfield 37, 3) := by decide +kernel
theorem dX2_isWithinReach_50 : decode cX2_isWithinReach 50 = .ok (.iload_n 3, 1) := by decide +kernel
theorem dX2_isWithinReach_51 : decode cX2_isWithinReach 51 = .ok (.ishr, 1) := by decide +kernel
theorem dX2_isWithinReach_52 : decode cX2_isWithinReach 52 = .ok (.iconst 1, 1) := by decide +kernel
theorem dX2_isWithinReach_53 : decode cX2_isWithinReach 53 = .ok (.iand, 1) := by decide +kernel
theorem dX2_isWithinReach_54 : decode cX2_isWithinReach 54 = .ok (.iconst 1, 1) := by decide +kernel
theorem dX2_isWithinReach_55 : decode cX2_isWithinReach 55 = .ok (.if_icmp .ne 19, 3) := by decide +kernel
theorem dX2_isWithinReach_58 : decode cX2_isWithinReach 58 = .ok (.aload_n 1, 1) := by decide +kernel
theorem dX2_isWithinReach_59 : decode cX2_isWithinReach 59 = .ok (.iload_n 3, 1) := by decide +kernel
theorem dX2_isWithinReach_60 : decode cX2_isWithinReach 60 = .ok (.iaload, 1) := by decide +kernel
theorem dX2_isWithinReach_61 : decode cX2_isWithinReach 61 = .ok (.aload_n 0, 1) := by decide +kernel
theorem dX2_isWithinReach_62 : decode cX2_isWithinReach 62 = .ok (.getfield 23, 3) := by decide +kernel
theorem dX2_isWithinReach_65 : decode cX2_isWithinReach 65 = .ok (.iload_n 3, 1) := by decide +kernel
theorem dX2_isWithinReach_66 : decode cX2_isWithinReach 66 = .ok (.iaload, 1) := by decide +kernel
theorem dX2_isWithinReach_67 : decode cX2_isWithinReach 67 = .ok (.iload_n 2, 1) := by decide +kernel
theorem dX2_isWithinReach_68 : decode cX2_isWithinReach 68 = .ok (.imul, 1) := by decide +kernel
theorem dX2_isWithinReach_69 : decode cX2_isWithinReach 69 = .ok (.if_icmp .le 5, 3) := by decide +kernel
theorem dX2_isWithinReach_72 : decode cX2_isWithinReach 72 = .ok (.iconst 0, 1) := by decide +kernel
theorem dX2_isWithinReach_73 : decode cX2_isWithinReach 73 = .ok (.ireturn, 1) := by decide +kernel
theorem dX2_isWithinReach_74 : decode cX2_isWithinReach 74 = .ok (.iinc 3 1, 3) := by decide +kernel
theorem dX2_isWithinReach_77 : decode cX2_isWithinReach 77 = .ok (.goto (-42), 3) := by decide +kernel
theorem dX2_isWithinReach_80 : decode cX2_isWithinReach 80 = .ok (.iconst 1, 1) := by decide +kernel
theorem dX2_isWithinReach_81 : decode cX2_isWithinReach 81 = .ok (.ireturn, 1) := by decide +kernel
theorem dX2_mostTakenFrom_0 : decode cX2_mostTakenFrom 0 = .ok (.iconst 0, 1) := by decide +kernel
theorem dX2_mostTakenFrom_1 : decode cX2_mostTakenFrom 1 = .ok (.istore_n 2, 1) := by decide +kernel
theorem dX2_mostTakenFrom_2 : decode cX2_mostTakenFrom 2 = .ok (.iconst 0, 1) := by decide +kernel
theorem dX2_mostTakenFrom_3 : decode cX2_mostTakenFrom 3 = .ok (.istore_n 3, 1) := by decide +kernel
theorem dX2_mostTakenFrom_4 : decode cX2_mostTakenFrom 4 = .ok (.iload_n 3, 1) := by decide +kernel
theorem dX2_mostTakenFrom_5 : decode cX2_mostTakenFrom 5 = .ok (.aload_n 0, 1) := by decide +kernel
theorem dX2_mostTakenFrom_6 : decode cX2_mostTakenFrom 6 = .ok (.getfield 49, 3) := by decide +kernel
theorem dX2_mostTakenFrom_9 : decode cX2_mostTakenFrom 9 = .ok (.getfield 92, 3) := by decide +kernel
theorem dX2_mostTakenFrom_12 : decode cX2_mostTakenFrom 12 = .ok (.if_icmp .ge 18, 3) := by decide +kernel
theorem dX2_mostTakenFrom_15 : decode cX2_mostTakenFrom 15 = .ok (.iload_n 2, 1) := by decide +kernel
theorem dX2_mostTakenFrom_16 : decode cX2_mostTakenFrom 16 = .ok (.aload_n 0, 1) := by decide +kernel
theorem dX2_mostTakenFrom_17 : decode cX2_mostTakenFrom 17 = .ok (.iload_n 3, 1) := by decide +kernel
theorem dX2_mostTakenFrom_18 : decode cX2_mostTakenFrom 18 = .ok (.iload_n 1, 1) := by decide +kernel
theorem dX2_mostTakenFrom_19 : decode cX2_mostTakenFrom 19 = .ok (.invokevirtual 99, 3) := by decide +kernel
theorem dX2_mostTakenFrom_22 : decode cX2_mostTakenFrom 22 = .ok (.iadd, 1) := by decide +kernel
theorem dX2_mostTakenFrom_23 : decode cX2_mostTakenFrom 23 = .ok (.istore_n 2, 1) := by decide +kernel
theorem dX2_mostTakenFrom_24 : decode cX2_mostTakenFrom 24 = .ok (.iinc 3 1, 3) := by decide +kernel
theorem dX2_mostTakenFrom_27 : decode cX2_mostTakenFrom 27 = .ok (.goto (-23), 3) := by decide +kernel
theorem dX2_mostTakenFrom_30 : decode cX2_mostTakenFrom 30 = .ok (.iload_n 2, 1) := by decide +kernel
theorem dX2_mostTakenFrom_31 : decode cX2_mostTakenFrom 31 = .ok (.ireturn, 1) := by decide +kernel
theorem dX2_mostTakenBy_0 : decode cX2_mostTakenBy 0 = .ok (.aload_n 0, 1) := by decide +kernel
theorem dX2_mostTakenBy_1 : decode cX2_mostTakenBy 1 = .ok (.getfield 49, 3) := by decide +kernel
theorem dX2_mostTakenBy_4 : decode cX2_mostTakenBy 4 = .ok (.iload_n 2, 1) := by decide +kernel
theorem dX2_mostTakenBy_5 : decode cX2_mostTakenBy 5 = .ok (.invokevirtual 103, 3) := by decide +kernel
theorem dX2_mostTakenBy_8 : decode cX2_mostTakenBy 8 = .ok (.ifCond .eq 28, 3) := by decide +kernel
theorem dX2_mostTakenBy_11 : decode cX2_mostTakenBy 11 = .ok (.aload_n 0, 1) := by decide +kernel
theorem dX2_mostTakenBy_12 : decode cX2_mostTakenBy 12 = .ok (.getfield 49, 3) := by decide +kernel
theorem dX2_mostTakenBy_15 : decode cX2_mostTakenBy 15 = .ok (.iload_n 1, 1) := by decide +kernel
theorem dX2_mostTakenBy_16 : decode cX2_mostTakenBy 16 = .ok (.iload_n 2, 1) := by decide +kernel
theorem dX2_mostTakenBy_17 : decode cX2_mostTakenBy 17 = .ok (.invokevirtual 107, 3) := by decide +kernel
theorem dX2_mostTakenBy_20 : decode cX2_mostTakenBy 20 = .ok (.ifCond .eq 16, 3) := by decide +kernel
theorem dX2_mostTakenBy_23 : decode cX2_mostTakenBy 23 = .ok (.aload_n 0, 1) := by decide +kernel
theorem dX2_mostTakenBy_24 : decode cX2_mostTakenBy 24 = .ok (.getfield 49, 3) := by decide +kernel
theorem dX2_mostTakenBy_27 : decode cX2_mostTakenBy 27 = .ok (.iload_n 1, 1) := by decide +kernel
theorem dX2_mostTakenBy_28 : decode cX2_mostTakenBy 28 = .ok (.iload_n 2, 1) := by decide +kernel
theorem dX2_mostTakenBy_29 : decode cX2_mostTakenBy 29 = .ok (.iconst 2, 1) := by decide +kernel
theorem dX2_mostTakenBy_30 : decode cX2_mostTakenBy 30 = .ok (.invokevirtual 111, 3) := by decide +kernel
theorem dX2_mostTakenBy_33 : decode cX2_mostTakenBy 33 = .ok (.goto 4, 3) := by decide +kernel
theorem dX2_mostTakenBy_36 : decode cX2_mostTakenBy 36 = .ok (.iconst 0, 1) := by decide +kernel
theorem dX2_mostTakenBy_37 : decode cX2_mostTakenBy 37 = .ok (.ireturn, 1) := by decide +kernel
theorem dX2_mostGainedBy_0 : decode cX2_mostGainedBy 0 = .ok (.iconst 0, 1) := by decide +kernel
theorem dX2_mostGainedBy_1 : decode cX2_mostGainedBy 1 = .ok (.istore_n 2, 1) := by decide +kernel
theorem dX2_mostGainedBy_2 : decode cX2_mostGainedBy 2 = .ok (.iconst 0, 1) := by decide +kernel
theorem dX2_mostGainedBy_3 : decode cX2_mostGainedBy 3 = .ok (.istore_n 3, 1) := by decide +kernel
theorem dX2_mostGainedBy_4 : decode cX2_mostGainedBy 4 = .ok (.iload_n 3, 1) := by decide +kernel
theorem dX2_mostGainedBy_5 : decode cX2_mostGainedBy 5 = .ok (.aload_n 0, 1) := by decide +kernel
theorem dX2_mostGainedBy_6 : decode cX2_mostGainedBy 6 = .ok (.getfield 49, 3) := by decide +kernel
theorem dX2_mostGainedBy_9 : decode cX2_mostGainedBy 9 = .ok (.getfield 92, 3) := by decide +kernel
theorem dX2_mostGainedBy_12 : decode cX2_mostGainedBy 12 = .ok (.if_icmp .ge 60, 3) := by decide +kernel
theorem dX2_mostGainedBy_15 : decode cX2_mostGainedBy 15 = .ok (.aload_n 0, 1) := by decide +kernel
theorem dX2_mostGainedBy_16 : decode cX2_mostGainedBy 16 = .ok (.iload_n 3, 1) := by decide +kernel
theorem dX2_mostGainedBy_17 : decode cX2_mostGainedBy 17 = .ok (.iload_n 1, 1) := by decide +kernel
theorem dX2_mostGainedBy_18 : decode cX2_mostGainedBy 18 = .ok (.iconst 1, 1) := by decide +kernel
theorem dX2_mostGainedBy_19 : decode cX2_mostGainedBy 19 = .ok (.isub, 1) := by decide +kernel
theorem dX2_mostGainedBy_20 : decode cX2_mostGainedBy 20 = .ok (.invokevirtual 99, 3) := by decide +kernel
theorem dX2_mostGainedBy_23 : decode cX2_mostGainedBy 23 = .ok (.istore 4, 2) := by decide +kernel
theorem dX2_mostGainedBy_25 : decode cX2_mostGainedBy 25 = .ok (.aload_n 0, 1) := by decide +kernel
theorem dX2_mostGainedBy_26 : decode cX2_mostGainedBy 26 = .ok (.iload_n 3, 1) := by decide +kernel
theorem dX2_mostGainedBy_27 : decode cX2_mostGainedBy 27 = .ok (.iload_n 1, 1) := by decide +kernel
theorem dX2_mostGainedBy_28 : decode cX2_mostGainedBy 28 = .ok (.iconst 1, 1) := by decide +kernel
theorem dX2_mostGainedBy_29 : decode cX2_mostGainedBy 29 = .ok (.iadd, 1) := by decide +kernel
theorem dX2_mostGainedBy_30 : decode cX2_mostGainedBy 30 = .ok (.invokevirtual 99, 3) := by decide +kernel
theorem dX2_mostGainedBy_33 : decode cX2_mostGainedBy 33 = .ok (.istore 5, 2) := by decide +kernel
theorem dX2_mostGainedBy_35 : decode cX2_mostGainedBy 35 = .ok (.iload_n 2, 1) := by decide +kernel
theorem dX2_mostGainedBy_36 : decode cX2_mostGainedBy 36 = .ok (.iload_n 1, 1) := by decide +kernel
theorem dX2_mostGainedBy_37 : decode cX2_mostGainedBy 37 = .ok (.aload_n 0, 1) := by decide +kernel
theorem dX2_mostGainedBy_38 : decode cX2_mostGainedBy 38 = .ok (.getfield 49, 3) := by decide +kernel
theorem dX2_mostGainedBy_41 : decode cX2_mostGainedBy 41 = .ok (.getfield 115, 3) := by decide +kernel
theorem dX2_mostGainedBy_44 : decode cX2_mostGainedBy 44 = .ok (.iload_n 3, 1) := by decide +kernel
theorem dX2_mostGainedBy_45 : decode cX2_mostGainedBy 45 = .ok (.iaload, 1) := by decide +kernel
theorem dX2_mostGainedBy_46 : decode cX2_mostGainedBy 46 = .ok (.if_icmp .ne 11, 3) := by decide +kernel
theorem dX2_mostGainedBy_49 : decode cX2_mostGainedBy 49 = .ok (.iload 4, 2) := by decide +kernel
theorem dX2_mostGainedBy_51 : decode cX2_mostGainedBy 51 = .ok (.iload 5, 2) := by decide +kernel
theorem dX2_mostGainedBy_53 : decode cX2_mostGainedBy 53 = .ok (.iadd, 1) := by decide +kernel
theorem dX2_mostGainedBy_54 : decode cX2_mostGainedBy 54 = .ok (.goto 10, 3) := by decide +kernel
theorem dX2_mostGainedBy_57 : decode cX2_mostGainedBy 57 = .ok (.iload 4, 2) := by decide +kernel
theorem dX2_mostGainedBy_59 : decode cX2_mostGainedBy 59 = .ok (.iload 5, 2) := by decide +kernel
theorem dX2_mostGainedBy_61 : decode cX2_mostGainedBy 61 = .ok (.invokestatic 118, 3) := by decide +kernel
theorem dX2_mostGainedBy_64 : decode cX2_mostGainedBy 64 = .ok (.iadd, 1) := by decide +kernel
theorem dX2_mostGainedBy_65 : decode cX2_mostGainedBy 65 = .ok (.istore_n 2, 1) := by decide +kernel
theorem dX2_mostGainedBy_66 : decode cX2_mostGainedBy 66 = .ok (.iinc 3 1, 3) := by decide +kernel
theorem dX2_mostGainedBy_69 : decode cX2_mostGainedBy 69 = .ok (.goto (-65), 3) := by decide +kernel
theorem dX2_mostGainedBy_72 : decode cX2_mostGainedBy 72 = .ok (.iload_n 2, 1) := by decide +kernel
theorem dX2_mostGainedBy_73 : decode cX2_mostGainedBy 73 = .ok (.ireturn, 1) := by decide +kernel
theorem dJ6_bitCount_0f7a4_0 : decode cJ6_bitCount_0f7a4 0 = .ok (.iload_n 0, 1) := by decide +kernel
theorem dJ6_bitCount_0f7a4_1 : decode cJ6_bitCount_0f7a4 1 = .ok (.iload_n 0, 1) := by decide +kernel
theorem dJ6_bitCount_0f7a4_2 : decode cJ6_bitCount_0f7a4 2 = .ok (.iconst 1, 1) := by decide +kernel
theorem dJ6_bitCount_0f7a4_3 : decode cJ6_bitCount_0f7a4 3 = .ok (.iushr, 1) := by decide +kernel
theorem dJ6_bitCount_0f7a4_4 : decode cJ6_bitCount_0f7a4 4 = .ok (.ldc_w 265, 3) := by decide +kernel
theorem dJ6_bitCount_0f7a4_7 : decode cJ6_bitCount_0f7a4 7 = .ok (.iand, 1) := by decide +kernel
theorem dJ6_bitCount_0f7a4_8 : decode cJ6_bitCount_0f7a4 8 = .ok (.isub, 1) := by decide +kernel
theorem dJ6_bitCount_0f7a4_9 : decode cJ6_bitCount_0f7a4 9 = .ok (.istore_n 0, 1) := by decide +kernel
theorem dJ6_bitCount_0f7a4_10 : decode cJ6_bitCount_0f7a4 10 = .ok (.iload_n 0, 1) := by decide +kernel
theorem dJ6_bitCount_0f7a4_11 : decode cJ6_bitCount_0f7a4 11 = .ok (.ldc_w 266, 3) := by decide +kernel
theorem dJ6_bitCount_0f7a4_14 : decode cJ6_bitCount_0f7a4 14 = .ok (.iand, 1) := by decide +kernel
theorem dJ6_bitCount_0f7a4_15 : decode cJ6_bitCount_0f7a4 15 = .ok (.iload_n 0, 1) := by decide +kernel
theorem dJ6_bitCount_0f7a4_16 : decode cJ6_bitCount_0f7a4 16 = .ok (.iconst 2, 1) := by decide +kernel
theorem dJ6_bitCount_0f7a4_17 : decode cJ6_bitCount_0f7a4 17 = .ok (.iushr, 1) := by decide +kernel
theorem dJ6_bitCount_0f7a4_18 : decode cJ6_bitCount_0f7a4 18 = .ok (.ldc_w 266, 3) := by decide +kernel
theorem dJ6_bitCount_0f7a4_21 : decode cJ6_bitCount_0f7a4 21 = .ok (.iand, 1) := by decide +kernel
theorem dJ6_bitCount_0f7a4_22 : decode cJ6_bitCount_0f7a4 22 = .ok (.iadd, 1) := by decide +kernel
theorem dJ6_bitCount_0f7a4_23 : decode cJ6_bitCount_0f7a4 23 = .ok (.istore_n 0, 1) := by decide +kernel
theorem dJ6_bitCount_0f7a4_24 : decode cJ6_bitCount_0f7a4 24 = .ok (.iload_n 0, 1) := by decide +kernel
theorem dJ6_bitCount_0f7a4_25 : decode cJ6_bitCount_0f7a4 25 = .ok (.iload_n 0, 1) := by decide +kernel
theorem dJ6_bitCount_0f7a4_26 : decode cJ6_bitCount_0f7a4 26 = .ok (.iconst 4, 1) := by decide +kernel
theorem dJ6_bitCount_0f7a4_27 : decode cJ6_bitCount_0f7a4 27 = .ok (.iushr, 1) := by decide +kernel
theorem dJ6_bitCount_0f7a4_28 : decode cJ6_bitCount_0f7a4 28 = .ok (.iadd, 1) := by decide +kernel
theorem dJ6_bitCount_0f7a4_29 : decode cJ6_bitCount_0f7a4 29 = .ok (.ldc_w 267, 3) := by decide +kernel
theorem dJ6_bitCount_0f7a4_32 : decode cJ6_bitCount_0f7a4 32 = .ok (.iand, 1) := by decide +kernel
theorem dJ6_bitCount_0f7a4_33 : decode cJ6_bitCount_0f7a4 33 = .ok (.istore_n 0, 1) := by decide +kernel
theorem dJ6_bitCount_0f7a4_34 : decode cJ6_bitCount_0f7a4 34 = .ok (.iload_n 0, 1) := by decide +kernel
theorem dJ6_bitCount_0f7a4_35 : decode cJ6_bitCount_0f7a4 35 = .ok (.iload_n 0, 1) := by decide +kernel
theorem dJ6_bitCount_0f7a4_36 : decode cJ6_bitCount_0f7a4 36 = .ok (.bipush 8, 2) := by decide +kernel
theorem dJ6_bitCount_0f7a4_38 : decode cJ6_bitCount_0f7a4 38 = .ok (.iushr, 1) := by decide +kernel
theorem dJ6_bitCount_0f7a4_39 : decode cJ6_bitCount_0f7a4 39 = .ok (.iadd, 1) := by decide +kernel
theorem dJ6_bitCount_0f7a4_40 : decode cJ6_bitCount_0f7a4 40 = .ok (.istore_n 0, 1) := by decide +kernel
theorem dJ6_bitCount_0f7a4_41 : decode cJ6_bitCount_0f7a4 41 = .ok (.iload_n 0, 1) := by decide +kernel
theorem dJ6_bitCount_0f7a4_42 : decode cJ6_bitCount_0f7a4 42 = .ok (.iload_n 0, 1) := by decide +kernel
theorem dJ6_bitCount_0f7a4_43 : decode cJ6_bitCount_0f7a4 43 = .ok (.bipush 16, 2) := by decide +kernel
theorem dJ6_bitCount_0f7a4_45 : decode cJ6_bitCount_0f7a4 45 = .ok (.iushr, 1) := by decide +kernel
theorem dJ6_bitCount_0f7a4_46 : decode cJ6_bitCount_0f7a4 46 = .ok (.iadd, 1) := by decide +kernel
theorem dJ6_bitCount_0f7a4_47 : decode cJ6_bitCount_0f7a4 47 = .ok (.istore_n 0, 1) := by decide +kernel
theorem dJ6_bitCount_0f7a4_48 : decode cJ6_bitCount_0f7a4 48 = .ok (.iload_n 0, 1) := by decide +kernel
theorem dJ6_bitCount_0f7a4_49 : decode cJ6_bitCount_0f7a4 49 = .ok (.bipush 63, 2) := by decide +kernel
theorem dJ6_bitCount_0f7a4_51 : decode cJ6_bitCount_0f7a4 51 = .ok (.iand, 1) := by decide +kernel
theorem dJ6_bitCount_0f7a4_52 : decode cJ6_bitCount_0f7a4 52 = .ok (.ireturn, 1) := by decide +kernel
theorem dJ9_abs_0f7a4_0 : decode cJ9_abs_0f7a4 0 = .ok (.iload_n 0, 1) := by decide +kernel
theorem dJ9_abs_0f7a4_1 : decode cJ9_abs_0f7a4 1 = .ok (.ifCond .ge 8, 3) := by decide +kernel
theorem dJ9_abs_0f7a4_4 : decode cJ9_abs_0f7a4 4 = .ok (.iload_n 0, 1) := by decide +kernel
theorem dJ9_abs_0f7a4_5 : decode cJ9_abs_0f7a4 5 = .ok (.ineg, 1) := by decide +kernel
theorem dJ9_abs_0f7a4_6 : decode cJ9_abs_0f7a4 6 = .ok (.goto 4, 3) := by decide +kernel
theorem dJ9_abs_0f7a4_9 : decode cJ9_abs_0f7a4 9 = .ok (.iload_n 0, 1) := by decide +kernel
theorem dJ9_abs_0f7a4_10 : decode cJ9_abs_0f7a4 10 = .ok (.ireturn, 1) := by decide +kernel
theorem dJ9_max_7cf53_0 : decode cJ9_max_7cf53 0 = .ok (.iload_n 0, 1) := by decide +kernel
theorem dJ9_max_7cf53_1 : decode cJ9_max_7cf53 1 = .ok (.iload_n 1, 1) := by decide +kernel
theorem dJ9_max_7cf53_2 : decode cJ9_max_7cf53 2 = .ok (.if_icmp .lt 7, 3) := by decide +kernel
theorem dJ9_max_7cf53_5 : decode cJ9_max_7cf53 5 = .ok (.iload_n 0, 1) := by decide +kernel
theorem dJ9_max_7cf53_6 : decode cJ9_max_7cf53 6 = .ok (.goto 4, 3) := by decide +kernel
theorem dJ9_max_7cf53_9 : decode cJ9_max_7cf53 9 = .ok (.iload_n 1, 1) := by decide +kernel
theorem dJ9_max_7cf53_10 : decode cJ9_max_7cf53 10 = .ok (.ireturn, 1) := by decide +kernel
theorem dJ9_min_7cf53_0 : decode cJ9_min_7cf53 0 = .ok (.iload_n 0, 1) := by decide +kernel
theorem dJ9_min_7cf53_1 : decode cJ9_min_7cf53 1 = .ok (.iload_n 1, 1) := by decide +kernel
theorem dJ9_min_7cf53_2 : decode cJ9_min_7cf53 2 = .ok (.if_icmp .gt 7, 3) := by decide +kernel
theorem dJ9_min_7cf53_5 : decode cJ9_min_7cf53 5 = .ok (.iload_n 0, 1) := by decide +kernel
theorem dJ9_min_7cf53_6 : decode cJ9_min_7cf53 6 = .ok (.goto 4, 3) := by decide +kernel
theorem dJ9_min_7cf53_9 : decode cJ9_min_7cf53 9 = .ok (.iload_n 1, 1) := by decide +kernel
theorem dJ9_min_7cf53_10 : decode cJ9_min_7cf53 10 = .ok (.ireturn, 1) := by decide +kernel
