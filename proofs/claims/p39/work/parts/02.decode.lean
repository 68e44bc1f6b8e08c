theorem dX0_init_0 : decode cX0_init 0 = .ok (.aload_n 0, 1) := by decide +kernel
theorem dX0_init_1 : decode cX0_init 1 = .ok (.invokespecial 3, 3) := by decide +kernel
theorem dX0_init_4 : decode cX0_init 4 = .ok (.aload_n 0, 1) := by decide +kernel
theorem dX0_init_5 : decode cX0_init 5 = .ok (.iconst 3, 1) := by decide +kernel
theorem dX0_init_6 : decode cX0_init 6 = .ok (.putfield 9, 3) := by decide +kernel
theorem dX0_init_9 : decode cX0_init 9 = .ok (.aload_n 0, 1) := by decide +kernel
theorem dX0_init_10 : decode cX0_init 10 = .ok (.iconst 3, 1) := by decide +kernel
theorem dX0_init_11 : decode cX0_init 11 = .ok (.putfield 15, 3) := by decide +kernel
theorem dX0_init_14 : decode cX0_init 14 = .ok (.aload_n 0, 1) := by decide +kernel
theorem dX0_init_15 : decode cX0_init 15 = .ok (.iconst 0, 1) := by decide +kernel
theorem dX0_init_16 : decode cX0_init 16 = .ok (.putfield 18, 3) := by decide +kernel
theorem dX0_init_19 : decode cX0_init 19 = .ok (.aload_n 0, 1) := by decide +kernel
theorem dX0_init_20 : decode cX0_init 20 = .ok (.bipush 25, 2) := by decide +kernel
theorem dX0_init_22 : decode cX0_init 22 = .ok (.newarray .int, 2) := by decide +kernel
theorem dX0_init_24 : decode cX0_init 24 = .ok (.putfield 21, 3) := by decide +kernel
theorem dX0_init_27 : decode cX0_init 27 = .ok (.return_, 1) := by decide +kernel
theorem dX0_hasCell_0 : decode cX0_hasCell 0 = .ok (.iload_n 1, 1) := by decide +kernel
theorem dX0_hasCell_1 : decode cX0_hasCell 1 = .ok (.iconst 1, 1) := by decide +kernel
theorem dX0_hasCell_2 : decode cX0_hasCell 2 = .ok (.if_icmp .lt 28, 3) := by decide +kernel
theorem dX0_hasCell_5 : decode cX0_hasCell 5 = .ok (.iload_n 1, 1) := by decide +kernel
theorem dX0_hasCell_6 : decode cX0_hasCell 6 = .ok (.aload_n 0, 1) := by decide +kernel
theorem dX0_hasCell_7 : decode cX0_hasCell 7 = .ok (.getfield 9, 3) := by decide +kernel
theorem dX0_hasCell_10 : decode cX0_hasCell 10 = .ok (.if_icmp .gt 20, 3) := by decide +kernel
theorem dX0_hasCell_13 : decode cX0_hasCell 13 = .ok (.iload_n 2, 1) := by decide +kernel
theorem dX0_hasCell_14 : decode cX0_hasCell 14 = .ok (.iconst 1, 1) := by decide +kernel
theorem dX0_hasCell_15 : decode cX0_hasCell 15 = .ok (.if_icmp .lt 15, 3) := by decide +kernel
theorem dX0_hasCell_18 : decode cX0_hasCell 18 = .ok (.iload_n 2, 1) := by decide +kernel
theorem dX0_hasCell_19 : decode cX0_hasCell 19 = .ok (.aload_n 0, 1) := by decide +kernel
theorem dX0_hasCell_20 : decode cX0_hasCell 20 = .ok (.getfield 15, 3) := by decide +kernel
theorem dX0_hasCell_23 : decode cX0_hasCell 23 = .ok (.if_icmp .gt 7, 3) := by decide +kernel
theorem dX0_hasCell_26 : decode cX0_hasCell 26 = .ok (.iconst 1, 1) := by decide +kernel
theorem dX0_hasCell_27 : decode cX0_hasCell 27 = .ok (.goto 4, 3) := by decide +kernel
theorem dX0_hasCell_30 : decode cX0_hasCell 30 = .ok (.iconst 0, 1) := by decide +kernel
theorem dX0_hasCell_31 : decode cX0_hasCell 31 = .ok (.ireturn, 1) := by decide +kernel
theorem dX0_hasCorner_0 : decode cX0_hasCorner 0 = .ok (.iload_n 1, 1) := by decide +kernel
theorem dX0_hasCorner_1 : decode cX0_hasCorner 1 = .ok (.ifCond .lt 27, 3) := by decide +kernel
theorem dX0_hasCorner_4 : decode cX0_hasCorner 4 = .ok (.iload_n 1, 1) := by decide +kernel
theorem dX0_hasCorner_5 : decode cX0_hasCorner 5 = .ok (.aload_n 0, 1) := by decide +kernel
theorem dX0_hasCorner_6 : decode cX0_hasCorner 6 = .ok (.getfield 9, 3) := by decide +kernel
theorem dX0_hasCorner_9 : decode cX0_hasCorner 9 = .ok (.if_icmp .gt 19, 3) := by decide +kernel
theorem dX0_hasCorner_12 : decode cX0_hasCorner 12 = .ok (.iload_n 2, 1) := by decide +kernel
theorem dX0_hasCorner_13 : decode cX0_hasCorner 13 = .ok (.ifCond .lt 15, 3) := by decide +kernel
theorem dX0_hasCorner_16 : decode cX0_hasCorner 16 = .ok (.iload_n 2, 1) := by decide +kernel
theorem dX0_hasCorner_17 : decode cX0_hasCorner 17 = .ok (.aload_n 0, 1) := by decide +kernel
theorem dX0_hasCorner_18 : decode cX0_hasCorner 18 = .ok (.getfield 15, 3) := by decide +kernel
theorem dX0_hasCorner_21 : decode cX0_hasCorner 21 = .ok (.if_icmp .gt 7, 3) := by decide +kernel
theorem dX0_hasCorner_24 : decode cX0_hasCorner 24 = .ok (.iconst 1, 1) := by decide +kernel
theorem dX0_hasCorner_25 : decode cX0_hasCorner 25 = .ok (.goto 4, 3) := by decide +kernel
theorem dX0_hasCorner_28 : decode cX0_hasCorner 28 = .ok (.iconst 0, 1) := by decide +kernel
theorem dX0_hasCorner_29 : decode cX0_hasCorner 29 = .ok (.ireturn, 1) := by decide +kernel
theorem dX0_numberAt_0 : decode cX0_numberAt 0 = .ok (.aload_n 0, 1) := by decide +kernel
theorem dX0_numberAt_1 : decode cX0_numberAt 1 = .ok (.iload_n 1, 1) := by decide +kernel
theorem dX0_numberAt_2 : decode cX0_numberAt 2 = .ok (.iload_n 2, 1) := by decide +kernel
theorem dX0_numberAt_3 : decode cX0_numberAt 3 = .ok (.invokevirtual 25, 3) := by decide +kernel
theorem dX0_numberAt_6 : decode cX0_numberAt 6 = .ok (.ifCond .eq 16, 3) := by decide +kernel
theorem dX0_numberAt_9 : decode cX0_numberAt 9 = .ok (.aload_n 0, 1) := by decide +kernel
theorem dX0_numberAt_10 : decode cX0_numberAt 10 = .ok (.getfield 21, 3) := by decide +kernel
theorem dX0_numberAt_13 : decode cX0_numberAt 13 = .ok (.iload_n 1, 1) := by decide +kernel
theorem dX0_numberAt_14 : decode cX0_numberAt 14 = .ok (.iload_n 2, 1) := by decide +kernel
theorem dX0_numberAt_15 : decode cX0_numberAt 15 = .ok (.invokestatic 29, 3) := by decide +kernel
theorem dX0_numberAt_18 : decode cX0_numberAt 18 = .ok (.iaload, 1) := by decide +kernel
theorem dX0_numberAt_19 : decode cX0_numberAt 19 = .ok (.goto 4, 3) := by decide +kernel
theorem dX0_numberAt_22 : decode cX0_numberAt 22 = .ok (.iconst 0, 1) := by decide +kernel
theorem dX0_numberAt_23 : decode cX0_numberAt 23 = .ok (.ireturn, 1) := by decide +kernel
theorem dX0_setNumber_0 : decode cX0_setNumber 0 = .ok (.aload_n 0, 1) := by decide +kernel
theorem dX0_setNumber_1 : decode cX0_setNumber 1 = .ok (.iload_n 1, 1) := by decide +kernel
theorem dX0_setNumber_2 : decode cX0_setNumber 2 = .ok (.iload_n 2, 1) := by decide +kernel
theorem dX0_setNumber_3 : decode cX0_setNumber 3 = .ok (.invokevirtual 25, 3) := by decide +kernel
theorem dX0_setNumber_6 : decode cX0_setNumber 6 = .ok (.ifCond .eq 14, 3) := by decide +kernel
theorem dX0_setNumber_9 : decode cX0_setNumber 9 = .ok (.aload_n 0, 1) := by decide +kernel
theorem dX0_setNumber_10 : decode cX0_setNumber 10 = .ok (.getfield 21, 3) := by decide +kernel
theorem dX0_setNumber_13 : decode cX0_setNumber 13 = .ok (.iload_n 1, 1) := by decide +kernel
theorem dX0_setNumber_14 : decode cX0_setNumber 14 = .ok (.iload_n 2, 1) := by decide +kernel
theorem dX0_setNumber_15 : decode cX0_setNumber 15 = .ok (.invokestatic 29, 3) := by decide +kernel
theorem dX0_setNumber_18 : decode cX0_setNumber 18 = .ok (.iload_n 3, 1) := by decide +kernel
theorem dX0_setNumber_19 : decode cX0_setNumber 19 = .ok (.iastore, 1) := by decide +kernel
theorem dX0_setNumber_20 : decode cX0_setNumber 20 = .ok (.return_, 1) := by decide +kernel
theorem dX0_placeOf_0 : decode cX0_placeOf 0 = .ok (.iload_n 0, 1) := by decide +kernel
theorem dX0_placeOf_1 : decode cX0_placeOf 1 = .ok (.iconst 1, 1) := by decide +kernel
theorem dX0_placeOf_2 : decode cX0_placeOf 2 = .ok (.isub, 1) := by decide +kernel
theorem dX0_placeOf_3 : decode cX0_placeOf 3 = .ok (.iconst 5, 1) := by decide +kernel
theorem dX0_placeOf_4 : decode cX0_placeOf 4 = .ok (.imul, 1) := by decide +kernel
theorem dX0_placeOf_5 : decode cX0_placeOf 5 = .ok (.iload_n 1, 1) := by decide +kernel
theorem dX0_placeOf_6 : decode cX0_placeOf 6 = .ok (.iconst 1, 1) := by decide +kernel
theorem dX0_placeOf_7 : decode cX0_placeOf 7 = .ok (.isub, 1) := by decide +kernel
theorem dX0_placeOf_8 : decode cX0_placeOf 8 = .ok (.iadd, 1) := by decide +kernel
theorem dX0_placeOf_9 : decode cX0_placeOf 9 = .ok (.ireturn, 1) := by decide +kernel
theorem dX0_worthAt_0 : decode cX0_worthAt 0 = .ok (.aload_n 0, 1) := by decide +kernel
theorem dX0_worthAt_1 : decode cX0_worthAt 1 = .ok (.iload_n 1, 1) := by decide +kernel
theorem dX0_worthAt_2 : decode cX0_worthAt 2 = .ok (.iload_n 2, 1) := by decide +kernel
theorem dX0_worthAt_3 : decode cX0_worthAt 3 = .ok (.invokevirtual 33, 3) := by decide +kernel
theorem dX0_worthAt_6 : decode cX0_worthAt 6 = .ok (.istore_n 3, 1) := by decide +kernel
theorem dX0_worthAt_7 : decode cX0_worthAt 7 = .ok (.aload_n 0, 1) := by decide +kernel
theorem dX0_worthAt_8 : decode cX0_worthAt 8 = .ok (.getfield 18, 3) := by decide +kernel
theorem dX0_worthAt_11 : decode cX0_worthAt 11 = .ok (.iconst 1, 1) := by decide +kernel
theorem dX0_worthAt_12 : decode cX0_worthAt 12 = .ok (.if_icmp .eq 11, 3) := by decide +kernel
theorem dX0_worthAt_15 : decode cX0_worthAt 15 = .ok (.aload_n 0, 1) := by decide +kernel
theorem dX0_worthAt_16 : decode cX0_worthAt 16 = .ok (.getfield 18, 3) := by decide +kernel
theorem dX0_worthAt_19 : decode cX0_worthAt 19 = .ok (.iconst 2, 1) := by decide +kernel
theorem dX0_worthAt_20 : decode cX0_worthAt 20 = .ok (.if_icmp .ne 11, 3) := by decide +kernel
theorem dX0_worthAt_23 : decode cX0_worthAt 23 = .ok (.iload_n 3, 1) := by decide +kernel
theorem dX0_worthAt_24 : decode cX0_worthAt 24 = .ok (.iconst 1, 1) := by decide +kernel
theorem dX0_worthAt_25 : decode cX0_worthAt 25 = .ok (.invokestatic 36, 3) := by decide +kernel
theorem dX0_worthAt_28 : decode cX0_worthAt 28 = .ok (.goto 4, 3) := by decide +kernel
theorem dX0_worthAt_31 : decode cX0_worthAt 31 = .ok (.iload_n 3, 1) := by decide +kernel
theorem dX0_worthAt_32 : decode cX0_worthAt 32 = .ok (.ireturn, 1) := by decide +kernel
theorem dX0_clearTo_0 : decode cX0_clearTo 0 = .ok (.aload_n 0, 1) := by decide +kernel
theorem dX0_clearTo_1 : decode cX0_clearTo 1 = .ok (.iload_n 1, 1) := by decide +kernel
theorem dX0_clearTo_2 : decode cX0_clearTo 2 = .ok (.putfield 9, 3) := by decide +kernel
theorem dX0_clearTo_5 : decode cX0_clearTo 5 = .ok (.aload_n 0, 1) := by decide +kernel
theorem dX0_clearTo_6 : decode cX0_clearTo 6 = .ok (.iload_n 2, 1) := by decide +kernel
theorem dX0_clearTo_7 : decode cX0_clearTo 7 = .ok (.putfield 15, 3) := by decide +kernel
theorem dX0_clearTo_10 : decode cX0_clearTo 10 = .ok (.iconst 0, 1) := by decide +kernel
theorem dX0_clearTo_11 : decode cX0_clearTo 11 = .ok (.istore_n 3, 1) := by decide +kernel
theorem dX0_clearTo_12 : decode cX0_clearTo 12 = .ok (.iload_n 3, 1) := by decide +kernel
theorem dX0_clearTo_13 : decode cX0_clearTo 13 = .ok (.aload_n 0, 1) := by decide +kernel
theorem dX0_clearTo_14 : decode cX0_clearTo 14 = .ok (.getfield 21, 3) := by decide +kernel
theorem dX0_clearTo_17 : decode cX0_clearTo 17 = .ok (.arraylength, 1) := by decide +kernel
theorem dX0_clearTo_18 : decode cX0_clearTo 18 = .ok (.if_icmp .ge 16, 3) := by decide +kernel
theorem dX0_clearTo_21 : decode cX0_clearTo 21 = .ok (.aload_n 0, 1) := by decide +kernel
theorem dX0_clearTo_22 : decode cX0_clearTo 22 = .ok (.getfield 21, 3) := by decide +kernel
theorem dX0_clearTo_25 : decode cX0_clearTo 25 = .ok (.iload_n 3, 1) := by decide +kernel
theorem dX0_clearTo_26 : decode cX0_clearTo 26 = .ok (.iconst 0, 1) := by decide +kernel
theorem dX0_clearTo_27 : decode cX0_clearTo 27 = .ok (.iastore, 1) := by decide +kernel
theorem dX0_clearTo_28 : decode cX0_clearTo 28 = .ok (.iinc 3 1, 3) := by decide +kernel
theorem dX0_clearTo_31 : decode cX0_clearTo 31 = .ok (.goto (-19), 3) := by decide +kernel
theorem dX0_clearTo_34 : decode cX0_clearTo 34 = .ok (.return_, 1) := by decide +kernel
theorem dX0_copyFrom_0 : decode cX0_copyFrom 0 = .ok (.aload_n 0, 1) := by decide +kernel
theorem dX0_copyFrom_1 : decode cX0_copyFrom 1 = .ok (.aload_n 1, 1) := by decide +kernel
theorem dX0_copyFrom_2 : decode cX0_copyFrom 2 = .ok (.getfield 9, 3) := by decide +kernel
theorem dX0_copyFrom_5 : decode cX0_copyFrom 5 = .ok (.putfield 9, 3) := by decide +kernel
theorem dX0_copyFrom_8 : decode cX0_copyFrom 8 = .ok (.aload_n 0, 1) := by decide +kernel
theorem dX0_copyFrom_9 : decode cX0_copyFrom 9 = .ok (.aload_n 1, 1) := by decide +kernel
theorem dX0_copyFrom_10 : decode cX0_copyFrom 10 = .ok (.getfield 15, 3) := by decide +kernel
theorem dX0_copyFrom_13 : decode cX0_copyFrom 13 = .ok (.putfield 15, 3) := by decide +kernel
theorem dX0_copyFrom_16 : decode cX0_copyFrom 16 = .ok (.aload_n 0, 1) := by decide +kernel
theorem dX0_copyFrom_17 : decode cX0_copyFrom 17 = .ok (.aload_n 1, 1) := by decide +kernel
theorem dX0_copyFrom_18 : decode cX0_copyFrom 18 = .ok (.getfield 18, 3) := by decide +kernel
theorem dX0_copyFrom_21 : decode cX0_copyFrom 21 = .ok (.putfield 18, 3) := by decide +kernel
theorem dX0_copyFrom_24 : decode cX0_copyFrom 24 = .ok (.iconst 0, 1) := by decide +kernel
theorem dX0_copyFrom_25 : decode cX0_copyFrom 25 = .ok (.istore_n 2, 1) := by decide +kernel
theorem dX0_copyFrom_26 : decode cX0_copyFrom 26 = .ok (.iload_n 2, 1) := by decide +kernel
theorem dX0_copyFrom_27 : decode cX0_copyFrom 27 = .ok (.aload_n 0, 1) := by decide +kernel
theorem dX0_copyFrom_28 : decode cX0_copyFrom 28 = .ok (.getfield 21, 3) := by decide +kernel
theorem dX0_copyFrom_31 : decode cX0_copyFrom 31 = .ok (.arraylength, 1) := by decide +kernel
theorem dX0_copyFrom_32 : decode cX0_copyFrom 32 = .ok (.if_icmp .ge 21, 3) := by decide +kernel
theorem dX0_copyFrom_35 : decode cX0_copyFrom 35 = .ok (.aload_n 0, 1) := by decide +kernel
theorem dX0_copyFrom_36 : decode cX0_copyFrom 36 = .ok (.getfield 21, 3) := by decide +kernel
theorem dX0_copyFrom_39 : decode cX0_copyFrom 39 = .ok (.iload_n 2, 1) := by decide +kernel
theorem dX0_copyFrom_40 : decode cX0_copyFrom 40 = .ok (.aload_n 1, 1) := by decide +kernel
theorem dX0_copyFrom_41 : decode cX0_copyFrom 41 = .ok (.getfield 21, 3) := by decide +kernel
theorem dX0_copyFrom_44 : decode cX0_copyFrom 44 = .ok (.iload_n 2, 1) := by decide +kernel
theorem dX0_copyFrom_45 : decode cX0_copyFrom 45 = .ok (.iaload, 1) := by decide +kernel
theorem dX0_copyFrom_46 : decode cX0_copyFrom 46 = .ok (.iastore, 1) := by decide +kernel
theorem dX0_copyFrom_47 : decode cX0_copyFrom 47 = .ok (.iinc 2 1, 3) := by decide +kernel
theorem dX0_copyFrom_50 : decode cX0_copyFrom 50 = .ok (.goto (-24), 3) := by decide +kernel
theorem dX0_copyFrom_53 : decode cX0_copyFrom 53 = .ok (.return_, 1) := by decide +kernel
theorem dX0_filled_0 : decode cX0_filled 0 = .ok (.iconst 0, 1) := by decide +kernel
theorem dX0_filled_1 : decode cX0_filled 1 = .ok (.istore_n 1, 1) := by decide +kernel
theorem dX0_filled_2 : decode cX0_filled 2 = .ok (.iconst 0, 1) := by decide +kernel
theorem dX0_filled_3 : decode cX0_filled 3 = .ok (.istore_n 2, 1) := by decide +kernel
theorem dX0_filled_4 : decode cX0_filled 4 = .ok (.iload_n 2, 1) := by decide +kernel
theorem dX0_filled_5 : decode cX0_filled 5 = .ok (.aload_n 0, 1) := by decide +kernel
theorem dX0_filled_6 : decode cX0_filled 6 = .ok (.getfield 21, 3) := by decide +kernel
theorem dX0_filled_9 : decode cX0_filled 9 = .ok (.arraylength, 1) := by decide +kernel
theorem dX0_filled_10 : decode cX0_filled 10 = .ok (.if_icmp .ge 26, 3) := by decide +kernel
theorem dX0_filled_13 : decode cX0_filled 13 = .ok (.iload_n 1, 1) := by decide +kernel
theorem dX0_filled_14 : decode cX0_filled 14 = .ok (.aload_n 0, 1) := by decide +kernel
theorem dX0_filled_15 : decode cX0_filled 15 = .ok (.getfield 21, 3) := by decide +kernel
theorem dX0_filled_18 : decode cX0_filled 18 = .ok (.iload_n 2, 1) := by decide +kernel
theorem dX0_filled_19 : decode cX0_filled 19 = .ok (.iaload, 1) := by decide +kernel
theorem dX0_filled_20 : decode cX0_filled 20 = .ok (.ifCond .le 7, 3) := by decide +kernel
theorem dX0_filled_23 : decode cX0_filled 23 = .ok (.iconst 1, 1) := by decide +kernel
theorem dX0_filled_24 : decode cX0_filled 24 = .ok (.goto 4, 3) := by decide +kernel
theorem dX0_filled_27 : decode cX0_filled 27 = .ok (.iconst 0, 1) := by decide +kernel
theorem dX0_filled_28 : decode cX0_filled 28 = .ok (.iadd, 1) := by decide +kernel
theorem dX0_filled_29 : decode cX0_filled 29 = .ok (.istore_n 1, 1) := by decide +kernel
theorem dX0_filled_30 : decode cX0_filled 30 = .ok (.iinc 2 1, 3) := by decide +kernel
theorem dX0_filled_33 : decode cX0_filled 33 = .ok (.goto (-29), 3) := by decide +kernel
theorem dX0_filled_36 : decode cX0_filled 36 = .ok (.iload_n 1, 1) := by decide +kernel
theorem dX0_filled_37 : decode cX0_filled 37 = .ok (.ireturn, 1) := by decide +kernel
theorem dX0_total_0 : decode cX0_total 0 = .ok (.iconst 0, 1) := by decide +kernel
theorem dX0_total_1 : decode cX0_total 1 = .ok (.istore_n 1, 1) := by decide +kernel
theorem dX0_total_2 : decode cX0_total 2 = .ok (.iconst 0, 1) := by decide +kernel
theorem dX0_total_3 : decode cX0_total 3 = .ok (.istore_n 2, 1) := by decide +kernel
theorem dX0_total_4 : decode cX0_total 4 = .ok (.iload_n 2, 1) := by decide +kernel
theorem dX0_total_5 : decode cX0_total 5 = .ok (.aload_n 0, 1) := by decide +kernel
theorem dX0_total_6 : decode cX0_total 6 = .ok (.getfield 21, 3) := by decide +kernel
theorem dX0_total_9 : decode cX0_total 9 = .ok (.arraylength, 1) := by decide +kernel
theorem dX0_total_10 : decode cX0_total 10 = .ok (.if_icmp .ge 18, 3) := by decide +kernel
theorem dX0_total_13 : decode cX0_total 13 = .ok (.iload_n 1, 1) := by decide +kernel
theorem dX0_total_14 : decode cX0_total 14 = .ok (.aload_n 0, 1) := by decide +kernel
theorem dX0_total_15 : decode cX0_total 15 = .ok (.getfield 21, 3) := by decide +kernel
theorem dX0_total_18 : decode cX0_total 18 = .ok (.iload_n 2, 1) := by decide +kernel
theorem dX0_total_19 : decode cX0_total 19 = .ok (.iaload, 1) := by decide +kernel
theorem dX0_total_20 : decode cX0_total 20 = .ok (.iadd, 1) := by decide +kernel
theorem dX0_total_21 : decode cX0_total 21 = .ok (.istore_n 1, 1) := by decide +kernel
theorem dX0_total_22 : decode cX0_total 22 = .ok (.iinc 2 1, 3) := by decide +kernel
theorem dX0_total_25 : decode cX0_total 25 = .ok (.goto (-21), 3) := by decide +kernel
theorem dX0_total_28 : decode cX0_total 28 = .ok (.iload_n 1, 1) := by decide +kernel
theorem dX0_total_29 : decode cX0_total 29 = .ok (.ireturn, 1) := by decide +kernel
theorem dX0_differing_0 : decode cX0_differing 0 = .ok (.iconst 0, 1) := by decide +kernel
theorem dX0_differing_1 : decode cX0_differing 1 = .ok (.istore_n 2, 1) := by decide +kernel
theorem dX0_differing_2 : decode cX0_differing 2 = .ok (.iconst 0, 1) := by decide +kernel
theorem dX0_differing_3 : decode cX0_differing 3 = .ok (.istore_n 3, 1) := by decide +kernel
theorem dX0_differing_4 : decode cX0_differing 4 = .ok (.iload_n 3, 1) := by decide +kernel
theorem dX0_differing_5 : decode cX0_differing 5 = .ok (.aload_n 0, 1) := by decide +kernel
theorem dX0_differing_6 : decode cX0_differing 6 = .ok (.getfield 21, 3) := by decide +kernel
theorem dX0_differing_9 : decode cX0_differing 9 = .ok (.arraylength, 1) := by decide +kernel
theorem dX0_differing_10 : decode cX0_differing 10 = .ok (.if_icmp .ge 32, 3) := by decide +kernel
theorem dX0_differing_13 : decode cX0_differing 13 = .ok (.iload_n 2, 1) := by decide +kernel
theorem dX0_differing_14 : decode cX0_differing 14 = .ok (.aload_n 0, 1) := by decide +kernel
theorem dX0_differing_15 : decode cX0_differing 15 = .ok (.getfield 21, 3) := by decide +kernel
theorem dX0_differing_18 : decode cX0_differing 18 = .ok (.iload_n 3, 1) := by decide +kernel
theorem dX0_differing_19 : decode cX0_differing 19 = .ok (.iaload, 1) := by decide +kernel
theorem dX0_differing_20 : decode cX0_differing 20 = .ok (.aload_n 1, 1) := by decide +kernel
theorem dX0_differing_21 : decode cX0_differing 21 = .ok (.getfield 21, 3) := by decide +kernel
theorem dX0_differing_24 : decode cX0_differing 24 = .ok (.iload_n 3, 1) := by decide +kernel
theorem dX0_differing_25 : decode cX0_differing 25 = .ok (.iaload, 1) := by decide +kernel
theorem dX0_differing_26 : decode cX0_differing 26 = .ok (.if_icmp .eq 7, 3) := by decide +kernel
theorem dX0_differing_29 : decode cX0_differing 29 = .ok (.iconst 1, 1) := by decide +kernel
theorem dX0_differing_30 : decode cX0_differing 30 = .ok (.goto 4, 3) := by decide +kernel
theorem dX0_differing_33 : decode cX0_differing 33 = .ok (.iconst 0, 1) := by decide +kernel
theorem dX0_differing_34 : decode cX0_differing 34 = .ok (.iadd, 1) := by decide +kernel
theorem dX0_differing_35 : decode cX0_differing 35 = .ok (.istore_n 2, 1) := by decide +kernel
theorem dX0_differing_36 : decode cX0_differing 36 = .ok (.iinc 3 1, 3) := by decide +kernel
theorem dX0_differing_39 : decode cX0_differing 39 = .ok (.goto (-35), 3) := by decide +kernel
theorem dX0_differing_42 : decode cX0_differing 42 = .ok (.iload_n 2, 1) := by decide +kernel
theorem dX0_differing_43 : decode cX0_differing 43 = .ok (.ireturn, 1) := by decide +kernel
theorem dX0_spelling_0 : decode cX0_spelling 0 = .ok (.iconst 0, 1) := by decide +kernel
theorem dX0_spelling_1 : decode cX0_spelling 1 = .ok (.istore_n 1, 1) := by decide +kernel
theorem dX0_spelling_2 : decode cX0_spelling 2 = .ok (.iconst 1, 1) := by decide +kernel
theorem dX0_spelling_3 : decode cX0_spelling 3 = .ok (.istore_n 2, 1) := by decide +kernel
theorem dX0_spelling_4 : decode cX0_spelling 4 = .ok (.iload_n 2, 1) := by decide +kernel
theorem dX0_spelling_5 : decode cX0_spelling 5 = .ok (.aload_n 0, 1) := by decide +kernel
theorem dX0_spelling_6 : decode cX0_spelling 6 = .ok (.getfield 9, 3) := by decide +kernel
theorem dX0_spelling_9 : decode cX0_spelling 9 = .ok (.if_icmp .gt 73, 3) := by decide +kernel
theorem dX0_spelling_12 : decode cX0_spelling 12 = .ok (.iconst 0, 1) := by decide +kernel
theorem dX0_spelling_13 : decode cX0_spelling 13 = .ok (.istore_n 3, 1) := by decide +kernel
theorem dX0_spelling_14 : decode cX0_spelling 14 = .ok (.iconst 1, 1) := by decide +kernel
theorem dX0_spelling_15 : decode cX0_spelling 15 = .ok (.istore 4, 2) := by decide +kernel
theorem dX0_spelling_17 : decode cX0_spelling 17 = .ok (.iload 4, 2) := by decide +kernel
theorem dX0_spelling_19 : decode cX0_spelling 19 = .ok (.aload_n 0, 1) := by decide +kernel
theorem dX0_spelling_20 : decode cX0_spelling 20 = .ok (.getfield 15, 3) := by decide +kernel
theorem dX0_spelling_23 : decode cX0_spelling 23 = .ok (.if_icmp .gt 46, 3) := by decide +kernel
theorem dX0_spelling_26 : decode cX0_spelling 26 = .ok (.aload_n 0, 1) := by decide +kernel
theorem dX0_spelling_27 : decode cX0_spelling 27 = .ok (.iload_n 2, 1) := by decide +kernel
theorem dX0_spelling_28 : decode cX0_spelling 28 = .ok (.iload 4, 2) := by decide +kernel
theorem dX0_spelling_30 : decode cX0_spelling 30 = .ok (.invokevirtual 33, 3) := by decide +kernel
theorem dX0_spelling_33 : decode cX0_spelling 33 = .ok (.istore 5, 2) := by decide +kernel
theorem dX0_spelling_35 : decode cX0_spelling 35 = .ok (.iload 5, 2) := by decide +kernel
theorem dX0_spelling_37 : decode cX0_spelling 37 = .ok (.iconst 1, 1) := by decide +kernel
theorem dX0_spelling_38 : decode cX0_spelling 38 = .ok (.if_icmp .gt 13, 3) := by decide +kernel
theorem dX0_spelling_41 : decode cX0_spelling 41 = .ok (.iload 5, 2) := by decide +kernel
theorem dX0_spelling_43 : decode cX0_spelling 43 = .ok (.iconst 1, 1) := by decide +kernel
theorem dX0_spelling_44 : decode cX0_spelling 44 = .ok (.if_icmp .ne 10, 3) := by decide +kernel
theorem dX0_spelling_47 : decode cX0_spelling 47 = .ok (.iload_n 3, 1) := by decide +kernel
theorem dX0_spelling_48 : decode cX0_spelling 48 = .ok (.ifCond .le 6, 3) := by decide +kernel
theorem dX0_spelling_51 : decode cX0_spelling 51 = .ok (.bipush (-2), 2) := by decide +kernel
theorem dX0_spelling_53 : decode cX0_spelling 53 = .ok (.ireturn, 1) := by decide +kernel
theorem dX0_spelling_54 : decode cX0_spelling 54 = .ok (.iload 5, 2) := by decide +kernel
theorem dX0_spelling_56 : decode cX0_spelling 56 = .ok (.iconst 1, 1) := by decide +kernel
theorem dX0_spelling_57 : decode cX0_spelling 57 = .ok (.if_icmp .ne 6, 3) := by decide +kernel
theorem dX0_spelling_60 : decode cX0_spelling 60 = .ok (.iload 4, 2) := by decide +kernel
theorem dX0_spelling_62 : decode cX0_spelling 62 = .ok (.istore_n 3, 1) := by decide +kernel
theorem dX0_spelling_63 : decode cX0_spelling 63 = .ok (.iinc 4 1, 3) := by decide +kernel
theorem dX0_spelling_66 : decode cX0_spelling 66 = .ok (.goto (-49), 3) := by decide +kernel
theorem dX0_spelling_69 : decode cX0_spelling 69 = .ok (.bipush 10, 2) := by decide +kernel
theorem dX0_spelling_71 : decode cX0_spelling 71 = .ok (.iload_n 1, 1) := by decide +kernel
theorem dX0_spelling_72 : decode cX0_spelling 72 = .ok (.imul, 1) := by decide +kernel
theorem dX0_spelling_73 : decode cX0_spelling 73 = .ok (.iload_n 3, 1) := by decide +kernel
theorem dX0_spelling_74 : decode cX0_spelling 74 = .ok (.iadd, 1) := by decide +kernel
theorem dX0_spelling_75 : decode cX0_spelling 75 = .ok (.istore_n 1, 1) := by decide +kernel
theorem dX0_spelling_76 : decode cX0_spelling 76 = .ok (.iinc 2 1, 3) := by decide +kernel
theorem dX0_spelling_79 : decode cX0_spelling 79 = .ok (.goto (-75), 3) := by decide +kernel
theorem dX0_spelling_82 : decode cX0_spelling 82 = .ok (.iload_n 1, 1) := by decide +kernel
theorem dX0_spelling_83 : decode cX0_spelling 83 = .ok (.ireturn, 1) := by decide +kernel
theorem dX1_init_0 : decode cX1_init 0 = .ok (.aload_n 0, 1) := by decide +kernel
theorem dX1_init_1 : decode cX1_init 1 = .ok (.invokespecial 3, 3) := by decide +kernel
theorem dX1_init_4 : decode cX1_init 4 = .ok (.aload_n 0, 1) := by decide +kernel
theorem dX1_init_5 : decode cX1_init 5 = .ok (.bipush 36, 2) := by decide +kernel
theorem dX1_init_7 : decode cX1_init 7 = .ok (.anewarray 9, 3) := by decide +kernel
theorem dX1_init_10 : decode cX1_init 10 = .ok (.putfield 11, 3) := by decide +kernel
theorem dX1_init_13 : decode cX1_init 13 = .ok (.iconst 0, 1) := by decide +kernel
theorem dX1_init_14 : decode cX1_init 14 = .ok (.istore_n 1, 1) := by decide +kernel
theorem dX1_init_15 : decode cX1_init 15 = .ok (.iload_n 1, 1) := by decide +kernel
theorem dX1_init_16 : decode cX1_init 16 = .ok (.bipush 36, 2) := by decide +kernel
theorem dX1_init_18 : decode cX1_init 18 = .ok (.if_icmp .ge 22, 3) := by decide +kernel
theorem dX1_init_21 : decode cX1_init 21 = .ok (.aload_n 0, 1) := by decide +kernel
theorem dX1_init_22 : decode cX1_init 22 = .ok (.getfield 11, 3) := by decide +kernel
theorem dX1_init_25 : decode cX1_init 25 = .ok (.iload_n 1, 1) := by decide +kernel
theorem dX1_init_26 : decode cX1_init 26 = .ok (.new 9, 3) := by decide +kernel
theorem dX1_init_29 : decode cX1_init 29 = .ok (.dup, 1) := by decide +kernel
theorem dX1_init_30 : decode cX1_init 30 = .ok (.invokespecial 17, 3) := by decide +kernel
theorem dX1_init_33 : decode cX1_init 33 = .ok (.aastore, 1) := by decide +kernel
theorem dX1_init_34 : decode cX1_init 34 = .ok (.iinc 1 1, 3) := by decide +kernel
theorem dX1_init_37 : decode cX1_init 37 = .ok (.goto (-22), 3) := by decide +kernel
theorem dX1_init_40 : decode cX1_init 40 = .ok (.aload_n 0, 1) := by decide +kernel
theorem dX1_init_41 : decode cX1_init 41 = .ok (.new 9, 3) := by decide +kernel
theorem dX1_init_44 : decode cX1_init 44 = .ok (.dup, 1) := by decide +kernel
theorem dX1_init_45 : decode cX1_init 45 = .ok (.invokespecial 17, 3) := by decide +kernel
theorem dX1_init_48 : decode cX1_init 48 = .ok (.putfield 18, 3) := by decide +kernel
theorem dX1_init_51 : decode cX1_init 51 = .ok (.aload_n 0, 1) := by decide +kernel
theorem dX1_init_52 : decode cX1_init 52 = .ok (.iconst 0, 1) := by decide +kernel
theorem dX1_init_53 : decode cX1_init 53 = .ok (.putfield 22, 3) := by decide +kernel
theorem dX1_init_56 : decode cX1_init 56 = .ok (.aload_n 0, 1) := by decide +kernel
theorem dX1_init_57 : decode cX1_init 57 = .ok (.iconst 0, 1) := by decide +kernel
theorem dX1_init_58 : decode cX1_init 58 = .ok (.putfield 26, 3) := by decide +kernel
theorem dX1_init_61 : decode cX1_init 61 = .ok (.aload_n 0, 1) := by decide +kernel
theorem dX1_init_62 : decode cX1_init 62 = .ok (.bipush 36, 2) := by decide +kernel
theorem dX1_init_64 : decode cX1_init 64 = .ok (.newarray .int, 2) := by decide +kernel
theorem dX1_init_66 : decode cX1_init 66 = .ok (.putfield 29, 3) := by decide +kernel
theorem dX1_init_69 : decode cX1_init 69 = .ok (.aload_n 0, 1) := by decide +kernel
theorem dX1_init_70 : decode cX1_init 70 = .ok (.iconst 0, 1) := by decide +kernel
theorem dX1_init_71 : decode cX1_init 71 = .ok (.putfield 33, 3) := by decide +kernel
theorem dX1_init_74 : decode cX1_init 74 = .ok (.return_, 1) := by decide +kernel
theorem dX1_at_0 : decode cX1_at 0 = .ok (.iload_n 1, 1) := by decide +kernel
theorem dX1_at_1 : decode cX1_at 1 = .ok (.ifCond .lt 17, 3) := by decide +kernel
theorem dX1_at_4 : decode cX1_at 4 = .ok (.iload_n 1, 1) := by decide +kernel
theorem dX1_at_5 : decode cX1_at 5 = .ok (.iconst 5, 1) := by decide +kernel
theorem dX1_at_6 : decode cX1_at 6 = .ok (.if_icmp .gt 12, 3) := by decide +kernel
theorem dX1_at_9 : decode cX1_at 9 = .ok (.iload_n 2, 1) := by decide +kernel
theorem dX1_at_10 : decode cX1_at 10 = .ok (.ifCond .lt 8, 3) := by decide +kernel
theorem dX1_at_13 : decode cX1_at 13 = .ok (.iload_n 2, 1) := by decide +kernel
theorem dX1_at_14 : decode cX1_at 14 = .ok (.iconst 5, 1) := by decide +kernel
theorem dX1_at_15 : decode cX1_at 15 = .ok (.if_icmp .le 8, 3) := by decide +kernel
theorem dX1_at_18 : decode cX1_at 18 = .ok (.aload_n 0, 1) := by decide +kernel
theorem dX1_at_19 : decode cX1_at 19 = .ok (.getfield 18, 3) := by decide +kernel
theorem dX1_at_22 : decode cX1_at 22 = .ok (.areturn, 1) := by decide +kernel
theorem dX1_at_23 : decode cX1_at 23 = .ok (.aload_n 0, 1) := by decide +kernel
theorem dX1_at_24 : decode cX1_at 24 = .ok (.getfield 11, 3) := by decide +kernel
theorem dX1_at_27 : decode cX1_at 27 = .ok (.iload_n 1, 1) := by decide +kernel
theorem dX1_at_28 : decode cX1_at 28 = .ok (.bipush 6, 2) := by decide +kernel
theorem dX1_at_30 : decode cX1_at 30 = .ok (.imul, 1) := by decide +kernel
theorem dX1_at_31 : decode cX1_at 31 = .ok (.iload_n 2, 1) := by decide +kernel
theorem dX1_at_32 : decode cX1_at 32 = .ok (.iadd, 1) := by decide +kernel
theorem dX1_at_33 : decode cX1_at 33 = .ok (.aaload, 1) := by decide +kernel
theorem dX1_at_34 : decode cX1_at 34 = .ok (.areturn, 1) := by decide +kernel
theorem dX1_growOver_0 : decode cX1_growOver 0 = .ok (.aload_n 0, 1) := by decide +kernel
theorem dX1_growOver_1 : decode cX1_growOver 1 = .ok (.aload_n 1, 1) := by decide +kernel
theorem dX1_growOver_2 : decode cX1_growOver 2 = .ok (.getfield 36, 3) := by decide +kernel
theorem dX1_growOver_5 : decode cX1_growOver 5 = .ok (.putfield 22, 3) := by decide +kernel
theorem dX1_growOver_8 : decode cX1_growOver 8 = .ok (.aload_n 0, 1) := by decide +kernel
theorem dX1_growOver_9 : decode cX1_growOver 9 = .ok (.aload_n 1, 1) := by decide +kernel
theorem dX1_growOver_10 : decode cX1_growOver 10 = .ok (.getfield 39, 3) := by decide +kernel
theorem dX1_growOver_13 : decode cX1_growOver 13 = .ok (.putfield 26, 3) := by decide +kernel
theorem dX1_growOver_16 : decode cX1_growOver 16 = .ok (.aload_n 0, 1) := by decide +kernel
theorem dX1_growOver_17 : decode cX1_growOver 17 = .ok (.iconst 0, 1) := by decide +kernel
theorem dX1_growOver_18 : decode cX1_growOver 18 = .ok (.putfield 33, 3) := by decide +kernel
theorem dX1_growOver_21 : decode cX1_growOver 21 = .ok (.iconst 0, 1) := by decide +kernel
theorem dX1_growOver_22 : decode cX1_growOver 22 = .ok (.istore_n 2, 1) := by decide +kernel
theorem dX1_growOver_23 : decode cX1_growOver 23 = .ok (.iload_n 2, 1) := by decide +kernel
theorem dX1_growOver_24 : decode cX1_growOver 24 = .ok (.aload_n 0, 1) := by decide +kernel
theorem dX1_growOver_25 : decode cX1_growOver 25 = .ok (.getfield 22, 3) := by decide +kernel
theorem dX1_growOver_28 : decode cX1_growOver 28 = .ok (.if_icmp .gt 90, 3) := by decide +kernel
theorem dX1_growOver_31 : decode cX1_growOver 31 = .ok (.iconst 0, 1) := by decide +kernel
theorem dX1_growOver_32 : decode cX1_growOver 32 = .ok (.istore_n 3, 1) := by decide +kernel
theorem dX1_growOver_33 : decode cX1_growOver 33 = .ok (.iload_n 3, 1) := by decide +kernel
theorem dX1_growOver_34 : decode cX1_growOver 34 = .ok (.aload_n 0, 1) := by decide +kernel
theorem dX1_growOver_35 : decode cX1_growOver 35 = .ok (.getfield 26, 3) := by decide +kernel
theorem dX1_growOver_38 : decode cX1_growOver 38 = .ok (.if_icmp .gt 74, 3) := by decide +kernel
theorem dX1_growOver_41 : decode cX1_growOver 41 = .ok (.iload_n 2, 1) := by decide +kernel
theorem dX1_growOver_42 : decode cX1_growOver 42 = .ok (.ifCond .eq 7, 3) := by decide +kernel
theorem dX1_growOver_45 : decode cX1_growOver 45 = .ok (.iload_n 3, 1) := by decide +kernel
theorem dX1_growOver_46 : decode cX1_growOver 46 = .ok (.ifCond .ne 15, 3) := by decide +kernel
theorem dX1_growOver_49 : decode cX1_growOver 49 = .ok (.aload_n 0, 1) := by decide +kernel
theorem dX1_growOver_50 : decode cX1_growOver 50 = .ok (.iload_n 2, 1) := by decide +kernel
theorem dX1_growOver_51 : decode cX1_growOver 51 = .ok (.iload_n 3, 1) := by decide +kernel
theorem dX1_growOver_52 : decode cX1_growOver 52 = .ok (.invokevirtual 40, 3) := by decide +kernel
theorem dX1_growOver_55 : decode cX1_growOver 55 = .ok (.invokevirtual 44, 3) := by decide +kernel
theorem dX1_growOver_58 : decode cX1_growOver 58 = .ok (.goto 48, 3) := by decide +kernel
theorem dX1_growOver_61 : decode cX1_growOver 61 = .ok (.aload_n 0, 1) := by decide +kernel
theorem dX1_growOver_62 : decode cX1_growOver 62 = .ok (.iload_n 2, 1) := by decide +kernel
theorem dX1_growOver_63 : decode cX1_growOver 63 = .ok (.iload_n 3, 1) := by decide +kernel
theorem dX1_growOver_64 : decode cX1_growOver 64 = .ok (.invokevirtual 40, 3) := by decide +kernel
theorem dX1_growOver_67 : decode cX1_growOver 67 = .ok (.aload_n 0, 1) := by decide +kernel
theorem dX1_growOver_68 : decode cX1_growOver 68 = .ok (.iload_n 2, 1) := by decide +kernel
theorem dX1_growOver_69 : decode cX1_growOver 69 = .ok (.iconst 1, 1) := by decide +kernel
theorem dX1_growOver_70 : decode cX1_growOver 70 = .ok (.isub, 1) := by decide +kernel
theorem dX1_growOver_71 : decode cX1_growOver 71 = .ok (.iload_n 3, 1) := by decide +kernel
theorem dX1_growOver_72 : decode cX1_growOver 72 = .ok (.iconst 1, 1) := by decide +kernel
theorem dX1_growOver_73 : decode cX1_growOver 73 = .ok (.isub, 1) := by decide +kernel
theorem dX1_growOver_74 : decode cX1_growOver 74 = .ok (.invokevirtual 40, 3) := by decide +kernel
theorem dX1_growOver_77 : decode cX1_growOver 77 = .ok (.aload_n 0, 1) := by decide +kernel
theorem dX1_growOver_78 : decode cX1_growOver 78 = .ok (.iload_n 2, 1) := by decide +kernel
theorem dX1_growOver_79 : decode cX1_growOver 79 = .ok (.iconst 1, 1) := by decide +kernel
theorem dX1_growOver_80 : decode cX1_growOver 80 = .ok (.isub, 1) := by decide +kernel
theorem dX1_growOver_81 : decode cX1_growOver 81 = .ok (.iload_n 3, 1) := by decide +kernel
theorem dX1_growOver_82 : decode cX1_growOver 82 = .ok (.invokevirtual 40, 3) := by decide +kernel
theorem dX1_growOver_85 : decode cX1_growOver 85 = .ok (.aload_n 0, 1) := by decide +kernel
theorem dX1_growOver_86 : decode cX1_growOver 86 = .ok (.iload_n 2, 1) := by decide +kernel
theorem dX1_growOver_87 : decode cX1_growOver 87 = .ok (.iload_n 3, 1) := by decide +kernel
theorem dX1_growOver_88 : decode cX1_growOver 88 = .ok (.iconst 1, 1) := by decide +kernel
theorem dX1_growOver_89 : decode cX1_growOver 89 = .ok (.isub, 1) := by decide +kernel
theorem dX1_growOver_90 : decode cX1_growOver 90 = .ok (.invokevirtual 40, 3) := by decide +kernel
theorem dX1_growOver_93 : decode cX1_growOver 93 = .ok (.aload_n 1, 1) := by decide +kernel
theorem dX1_growOver_94 : decode cX1_growOver 94 = .ok (.iload_n 2, 1) := by decide +kernel
theorem dX1_growOver_95 : decode cX1_growOver 95 = .ok (.iload_n 3, 1) := by decide +kernel
theorem dX1_growOver_96 : decode cX1_growOver 96 = .ok (.invokevirtual 47, 3) := by decide +kernel
theorem dX1_growOver_99 : decode cX1_growOver 99 = .ok (.aload_n 1, 1) := by decide +kernel
theorem dX1_growOver_100 : decode cX1_growOver 100 = .ok (.getfield 51, 3) := by decide +kernel
theorem dX1_growOver_103 : decode cX1_growOver 103 = .ok (.invokevirtual 54, 3) := by decide +kernel
theorem dX1_growOver_106 : decode cX1_growOver 106 = .ok (.iinc 3 1, 3) := by decide +kernel
theorem dX1_growOver_109 : decode cX1_growOver 109 = .ok (.goto (-76), 3) := by decide +kernel
theorem dX1_growOver_112 : decode cX1_growOver 112 = .ok (.iinc 2 1, 3) := by decide +kernel
theorem dX1_growOver_115 : decode cX1_growOver 115 = .ok (.goto (-92), 3) := by decide +kernel
theorem dX1_growOver_118 : decode cX1_growOver 118 = .ok (.return_, 1) := by decide +kernel
theorem dX1_goBackInto_0 : decode cX1_goBackInto 0 = .ok (.iconst 0, 1) := by decide +kernel
theorem dX1_goBackInto_1 : decode cX1_goBackInto 1 = .ok (.istore_n 2, 1) := by decide +kernel
theorem dX1_goBackInto_2 : decode cX1_goBackInto 2 = .ok (.aload_n 0, 1) := by decide +kernel
theorem dX1_goBackInto_3 : decode cX1_goBackInto 3 = .ok (.getfield 22, 3) := by decide +kernel
theorem dX1_goBackInto_6 : decode cX1_goBackInto 6 = .ok (.istore_n 3, 1) := by decide +kernel
theorem dX1_goBackInto_7 : decode cX1_goBackInto 7 = .ok (.iload_n 3, 1) := by decide +kernel
theorem dX1_goBackInto_8 : decode cX1_goBackInto 8 = .ok (.iconst 1, 1) := by decide +kernel
theorem dX1_goBackInto_9 : decode cX1_goBackInto 9 = .ok (.if_icmp .lt 88, 3) := by decide +kernel
theorem dX1_goBackInto_12 : decode cX1_goBackInto 12 = .ok (.aload_n 0, 1) := by decide +kernel
theorem dX1_goBackInto_13 : decode cX1_goBackInto 13 = .ok (.getfield 26, 3) := by decide +kernel
theorem dX1_goBackInto_16 : decode cX1_goBackInto 16 = .ok (.istore 4, 2) := by decide +kernel
theorem dX1_goBackInto_18 : decode cX1_goBackInto 18 = .ok (.iload 4, 2) := by decide +kernel
theorem dX1_goBackInto_20 : decode cX1_goBackInto 20 = .ok (.iconst 1, 1) := by decide +kernel
theorem dX1_goBackInto_21 : decode cX1_goBackInto 21 = .ok (.if_icmp .lt 70, 3) := by decide +kernel
theorem dX1_goBackInto_24 : decode cX1_goBackInto 24 = .ok (.aload_n 0, 1) := by decide +kernel
theorem dX1_goBackInto_25 : decode cX1_goBackInto 25 = .ok (.iload_n 3, 1) := by decide +kernel
theorem dX1_goBackInto_26 : decode cX1_goBackInto 26 = .ok (.iconst 1, 1) := by decide +kernel
theorem dX1_goBackInto_27 : decode cX1_goBackInto 27 = .ok (.isub, 1) := by decide +kernel
theorem dX1_goBackInto_28 : decode cX1_goBackInto 28 = .ok (.iload 4, 2) := by decide +kernel
theorem dX1_goBackInto_30 : decode cX1_goBackInto 30 = .ok (.iconst 1, 1) := by decide +kernel
theorem dX1_goBackInto_31 : decode cX1_goBackInto 31 = .ok (.isub, 1) := by decide +kernel
theorem dX1_goBackInto_32 : decode cX1_goBackInto 32 = .ok (.invokevirtual 40, 3) := by decide +kernel
theorem dX1_goBackInto_35 : decode cX1_goBackInto 35 = .ok (.aload_n 0, 1) := by decide +kernel
theorem dX1_goBackInto_36 : decode cX1_goBackInto 36 = .ok (.iload_n 3, 1) := by decide +kernel
theorem dX1_goBackInto_37 : decode cX1_goBackInto 37 = .ok (.iload 4, 2) := by decide +kernel
theorem dX1_goBackInto_39 : decode cX1_goBackInto 39 = .ok (.invokevirtual 40, 3) := by decide +kernel
theorem dX1_goBackInto_42 : decode cX1_goBackInto 42 = .ok (.aload_n 0, 1) := by decide +kernel
theorem dX1_goBackInto_43 : decode cX1_goBackInto 43 = .ok (.iload_n 3, 1) := by decide +kernel
theorem dX1_goBackInto_44 : decode cX1_goBackInto 44 = .ok (.iconst 1, 1) := by decide +kernel
theorem dX1_goBackInto_45 : decode cX1_goBackInto 45 = .ok (.isub, 1) := by decide +kernel
theorem dX1_goBackInto_46 : decode cX1_goBackInto 46 = .ok (.iload 4, 2) := by decide +kernel
theorem dX1_goBackInto_48 : decode cX1_goBackInto 48 = .ok (.invokevirtual 40, 3) := by decide +kernel
theorem dX1_goBackInto_51 : decode cX1_goBackInto 51 = .ok (.aload_n 0, 1) := by decide +kernel
theorem dX1_goBackInto_52 : decode cX1_goBackInto 52 = .ok (.iload_n 3, 1) := by decide +kernel
theorem dX1_goBackInto_53 : decode cX1_goBackInto 53 = .ok (.iload 4, 2) := by decide +kernel
theorem dX1_goBackInto_55 : decode cX1_goBackInto 55 = .ok (.iconst 1, 1) := by decide +kernel
theorem dX1_goBackInto_56 : decode cX1_goBackInto 56 = .ok (.isub, 1) := by decide +kernel
theorem dX1_goBackInto_57 : decode cX1_goBackInto 57 = .ok (.invokevirtual 40, 3) := by decide +kernel
theorem dX1_goBackInto_60 : decode cX1_goBackInto 60 = .ok (.aload_n 1, 1) := by decide +kernel
theorem dX1_goBackInto_61 : decode cX1_goBackInto 61 = .ok (.getfield 51, 3) := by decide +kernel
theorem dX1_goBackInto_64 : decode cX1_goBackInto 64 = .ok (.invokevirtual 58, 3) := by decide +kernel
theorem dX1_goBackInto_67 : decode cX1_goBackInto 67 = .ok (.istore 5, 2) := by decide +kernel
theorem dX1_goBackInto_69 : decode cX1_goBackInto 69 = .ok (.aload_n 1, 1) := by decide +kernel
theorem dX1_goBackInto_70 : decode cX1_goBackInto 70 = .ok (.iload_n 3, 1) := by decide +kernel
theorem dX1_goBackInto_71 : decode cX1_goBackInto 71 = .ok (.iload 4, 2) := by decide +kernel
theorem dX1_goBackInto_73 : decode cX1_goBackInto 73 = .ok (.iload 5, 2) := by decide +kernel
theorem dX1_goBackInto_75 : decode cX1_goBackInto 75 = .ok (.invokevirtual 62, 3) := by decide +kernel
theorem dX1_goBackInto_78 : decode cX1_goBackInto 78 = .ok (.iload_n 2, 1) := by decide +kernel
theorem dX1_goBackInto_79 : decode cX1_goBackInto 79 = .ok (.iload 5, 2) := by decide +kernel
theorem dX1_goBackInto_81 : decode cX1_goBackInto 81 = .ok (.invokestatic 66, 3) := by decide +kernel
theorem dX1_goBackInto_84 : decode cX1_goBackInto 84 = .ok (.istore_n 2, 1) := by decide +kernel
theorem dX1_goBackInto_85 : decode cX1_goBackInto 85 = .ok (.iinc 4 (-1), 3) := by decide +kernel
theorem dX1_goBackInto_88 : decode cX1_goBackInto 88 = .ok (.goto (-70), 3) := by decide +kernel
theorem dX1_goBackInto_91 : decode cX1_goBackInto 91 = .ok (.iinc 3 (-1), 3) := by decide +kernel
theorem dX1_goBackInto_94 : decode cX1_goBackInto 94 = .ok (.goto (-87), 3) := by decide +kernel
theorem dX1_goBackInto_97 : decode cX1_goBackInto 97 = .ok (.iload_n 2, 1) := by decide +kernel
theorem dX1_goBackInto_98 : decode cX1_goBackInto 98 = .ok (.ireturn, 1) := by decide +kernel
theorem dX1_rimFits_0 : decode cX1_rimFits 0 = .ok (.iload_n 1, 1) := by decide +kernel
theorem dX1_rimFits_1 : decode cX1_rimFits 1 = .ok (.iconst 1, 1) := by decide +kernel
theorem dX1_rimFits_2 : decode cX1_rimFits 2 = .ok (.if_icmp .eq 8, 3) := by decide +kernel
theorem dX1_rimFits_5 : decode cX1_rimFits 5 = .ok (.iload_n 1, 1) := by decide +kernel
theorem dX1_rimFits_6 : decode cX1_rimFits 6 = .ok (.iconst 3, 1) := by decide +kernel
theorem dX1_rimFits_7 : decode cX1_rimFits 7 = .ok (.if_icmp .ne 7, 3) := by decide +kernel
theorem dX1_rimFits_10 : decode cX1_rimFits 10 = .ok (.iconst 1, 1) := by decide +kernel
theorem dX1_rimFits_11 : decode cX1_rimFits 11 = .ok (.goto 4, 3) := by decide +kernel
theorem dX1_rimFits_14 : decode cX1_rimFits 14 = .ok (.iconst 0, 1) := by decide +kernel
theorem dX1_rimFits_15 : decode cX1_rimFits 15 = .ok (.istore_n 2, 1) := by decide +kernel
theorem dX1_rimFits_16 : decode cX1_rimFits 16 = .ok (.iload_n 1, 1) := by decide +kernel
theorem dX1_rimFits_17 : decode cX1_rimFits 17 = .ok (.iconst 2, 1) := by decide +kernel
theorem dX1_rimFits_18 : decode cX1_rimFits 18 = .ok (.if_icmp .eq 8, 3) := by decide +kernel
theorem dX1_rimFits_21 : decode cX1_rimFits 21 = .ok (.iload_n 1, 1) := by decide +kernel
theorem dX1_rimFits_22 : decode cX1_rimFits 22 = .ok (.iconst 3, 1) := by decide +kernel
theorem dX1_rimFits_23 : decode cX1_rimFits 23 = .ok (.if_icmp .ne 7, 3) := by decide +kernel
theorem dX1_rimFits_26 : decode cX1_rimFits 26 = .ok (.iconst 1, 1) := by decide +kernel
theorem dX1_rimFits_27 : decode cX1_rimFits 27 = .ok (.goto 4, 3) := by decide +kernel
theorem dX1_rimFits_30 : decode cX1_rimFits 30 = .ok (.iconst 0, 1) := by decide +kernel
theorem dX1_rimFits_31 : decode cX1_rimFits 31 = .ok (.istore_n 3, 1) := by decide +kernel
theorem dX1_rimFits_32 : decode cX1_rimFits 32 = .ok (.iconst 1, 1) := by decide +kernel
theorem dX1_rimFits_33 : decode cX1_rimFits 33 = .ok (.istore 4, 2) := by decide +kernel
theorem dX1_rimFits_35 : decode cX1_rimFits 35 = .ok (.iload 4, 2) := by decide +kernel
theorem dX1_rimFits_37 : decode cX1_rimFits 37 = .ok (.aload_n 0, 1) := by decide +kernel
theorem dX1_rimFits_38 : decode cX1_rimFits 38 = .ok (.getfield 22, 3) := by decide +kernel
theorem dX1_rimFits_41 : decode cX1_rimFits 41 = .ok (.if_icmp .gt 40, 3) := by decide +kernel
theorem dX1_rimFits_44 : decode cX1_rimFits 44 = .ok (.aload_n 0, 1) := by decide +kernel
theorem dX1_rimFits_45 : decode cX1_rimFits 45 = .ok (.iload 4, 2) := by decide +kernel
theorem dX1_rimFits_47 : decode cX1_rimFits 47 = .ok (.aload_n 0, 1) := by decide +kernel
theorem dX1_rimFits_48 : decode cX1_rimFits 48 = .ok (.getfield 26, 3) := by decide +kernel
theorem dX1_rimFits_51 : decode cX1_rimFits 51 = .ok (.invokevirtual 40, 3) := by decide +kernel
theorem dX1_rimFits_54 : decode cX1_rimFits 54 = .ok (.aload_n 0, 1) := by decide +kernel
theorem dX1_rimFits_55 : decode cX1_rimFits 55 = .ok (.iload 4, 2) := by decide +kernel
theorem dX1_rimFits_57 : decode cX1_rimFits 57 = .ok (.iconst 1, 1) := by decide +kernel
theorem dX1_rimFits_58 : decode cX1_rimFits 58 = .ok (.isub, 1) := by decide +kernel
theorem dX1_rimFits_59 : decode cX1_rimFits 59 = .ok (.aload_n 0, 1) := by decide +kernel
theorem dX1_rimFits_60 : decode cX1_rimFits 60 = .ok (.getfield 26, 3) := by decide +kernel
theorem dX1_rimFits_63 : decode cX1_rimFits 63 = .ok (.invokevirtual 40, 3) := by decide +kernel
theorem dX1_rimFits_66 : decode cX1_rimFits 66 = .ok (.iload_n 2, 1) := by decide +kernel
theorem dX1_rimFits_67 : decode cX1_rimFits 67 = .ok (.invokevirtual 71, 3) := by decide +kernel
theorem dX1_rimFits_70 : decode cX1_rimFits 70 = .ok (.ifCond .ne 5, 3) := by decide +kernel
theorem dX1_rimFits_73 : decode cX1_rimFits 73 = .ok (.iconst 0, 1) := by decide +kernel
theorem dX1_rimFits_74 : decode cX1_rimFits 74 = .ok (.ireturn, 1) := by decide +kernel
theorem dX1_rimFits_75 : decode cX1_rimFits 75 = .ok (.iinc 4 1, 3) := by decide +kernel
theorem dX1_rimFits_78 : decode cX1_rimFits 78 = .ok (.goto (-43), 3) := by decide +kernel
theorem dX1_rimFits_81 : decode cX1_rimFits 81 = .ok (.iconst 1, 1) := by decide +kernel
theorem dX1_rimFits_82 : decode cX1_rimFits 82 = .ok (.istore 4, 2) := by decide +kernel
theorem dX1_rimFits_84 : decode cX1_rimFits 84 = .ok (.iload 4, 2) := by decide +kernel
theorem dX1_rimFits_86 : decode cX1_rimFits 86 = .ok (.aload_n 0, 1) := by decide +kernel
theorem dX1_rimFits_87 : decode cX1_rimFits 87 = .ok (.getfield 26, 3) := by decide +kernel
theorem dX1_rimFits_90 : decode cX1_rimFits 90 = .ok (.if_icmp .gt 40, 3) := by decide +kernel
theorem dX1_rimFits_93 : decode cX1_rimFits 93 = .ok (.aload_n 0, 1) := by decide +kernel
theorem dX1_rimFits_94 : decode cX1_rimFits 94 = .ok (.aload_n 0, 1) := by decide +kernel
theorem dX1_rimFits_95 : decode cX1_rimFits 95 = .ok (.getfield 22, 3) := by decide +kernel
theorem dX1_rimFits_98 : decode cX1_rimFits 98 = .ok (.iload 4, 2) := by decide +kernel
theorem dX1_rimFits_100 : decode cX1_rimFits 100 = .ok (.invokevirtual 40, 3) := by decide +kernel
theorem dX1_rimFits_103 : decode cX1_rimFits 103 = .ok (.aload_n 0, 1) := by decide +kernel
theorem dX1_rimFits_104 : decode cX1_rimFits 104 = .ok (.aload_n 0, 1) := by decide +kernel
theorem dX1_rimFits_105 : decode cX1_rimFits 105 = .ok (.getfield 22, 3) := by decide +kernel
theorem dX1_rimFits_108 : decode cX1_rimFits 108 = .ok (.iload 4, 2) := by decide +kernel
theorem dX1_rimFits_110 : decode cX1_rimFits 110 = .ok (.iconst 1, 1) := by decide +kernel
theorem dX1_rimFits_111 : decode cX1_rimFits 111 = .ok (.isub, 1) := by decide +kernel
theorem dX1_rimFits_112 : decode cX1_rimFits 112 = .ok (.invokevirtual 40, 3) := by decide +kernel
theorem dX1_rimFits_115 : decode cX1_rimFits 115 = .ok (.iload_n 3, 1) := by decide +kernel
theorem dX1_rimFits_116 : decode cX1_rimFits 116 = .ok (.invokevirtual 71, 3) := by decide +kernel
theorem dX1_rimFits_119 : decode cX1_rimFits 119 = .ok (.ifCond .ne 5, 3) := by decide +kernel
theorem dX1_rimFits_122 : decode cX1_rimFits 122 = .ok (.iconst 0, 1) := by decide +kernel
theorem dX1_rimFits_123 : decode cX1_rimFits 123 = .ok (.ireturn, 1) := by decide +kernel
theorem dX1_rimFits_124 : decode cX1_rimFits 124 = .ok (.iinc 4 1, 3) := by decide +kernel
theorem dX1_rimFits_127 : decode cX1_rimFits 127 = .ok (.goto (-43), 3) := by decide +kernel
theorem dX1_rimFits_130 : decode cX1_rimFits 130 = .ok (.iconst 1, 1) := by decide +kernel
theorem dX1_rimFits_131 : decode cX1_rimFits 131 = .ok (.ireturn, 1) := by decide +kernel
theorem dX2_init_0 : decode cX2_init 0 = .ok (.aload_n 0, 1) := by decide +kernel
theorem dX2_init_1 : decode cX2_init 1 = .ok (.invokespecial 3, 3) := by decide +kernel
theorem dX2_init_4 : decode cX2_init 4 = .ok (.aload_n 0, 1) := by decide +kernel
theorem dX2_init_5 : decode cX2_init 5 = .ok (.bipush 9, 2) := by decide +kernel
theorem dX2_init_7 : decode cX2_init 7 = .ok (.anewarray 9, 3) := by decide +kernel
theorem dX2_init_10 : decode cX2_init 10 = .ok (.putfield 11, 3) := by decide +kernel
theorem dX2_init_13 : decode cX2_init 13 = .ok (.iconst 0, 1) := by decide +kernel
theorem dX2_init_14 : decode cX2_init 14 = .ok (.istore_n 1, 1) := by decide +kernel
theorem dX2_init_15 : decode cX2_init 15 = .ok (.iload_n 1, 1) := by decide +kernel
theorem dX2_init_16 : decode cX2_init 16 = .ok (.bipush 8, 2) := by decide +kernel
theorem dX2_init_18 : decode cX2_init 18 = .ok (.if_icmp .gt 22, 3) := by decide +kernel
theorem dX2_init_21 : decode cX2_init 21 = .ok (.aload_n 0, 1) := by decide +kernel
theorem dX2_init_22 : decode cX2_init 22 = .ok (.getfield 11, 3) := by decide +kernel
theorem dX2_init_25 : decode cX2_init 25 = .ok (.iload_n 1, 1) := by decide +kernel
theorem dX2_init_26 : decode cX2_init 26 = .ok (.new 9, 3) := by decide +kernel
theorem dX2_init_29 : decode cX2_init 29 = .ok (.dup, 1) := by decide +kernel
theorem dX2_init_30 : decode cX2_init 30 = .ok (.invokespecial 17, 3) := by decide +kernel
theorem dX2_init_33 : decode cX2_init 33 = .ok (.aastore, 1) := by decide +kernel
theorem dX2_init_34 : decode cX2_init 34 = .ok (.iinc 1 1, 3) := by decide +kernel
theorem dX2_init_37 : decode cX2_init 37 = .ok (.goto (-22), 3) := by decide +kernel
theorem dX2_init_40 : decode cX2_init 40 = .ok (.aload_n 0, 1) := by decide +kernel
theorem dX2_init_41 : decode cX2_init 41 = .ok (.iconst 0, 1) := by decide +kernel
theorem dX2_init_42 : decode cX2_init 42 = .ok (.putfield 18, 3) := by decide +kernel
theorem dX2_init_45 : decode cX2_init 45 = .ok (.aload_n 0, 1) := by decide +kernel
theorem dX2_init_46 : decode cX2_init 46 = .ok (.iconst 0, 1) := by decide +kernel
theorem dX2_init_47 : decode cX2_init 47 = .ok (.putfield 22, 3) := by decide +kernel
theorem dX2_init_50 : decode cX2_init 50 = .ok (.return_, 1) := by decide +kernel
theorem dX2_undoable_0 : decode cX2_undoable 0 = .ok (.aload_n 0, 1) := by decide +kernel
theorem dX2_undoable_1 : decode cX2_undoable 1 = .ok (.getfield 18, 3) := by decide +kernel
theorem dX2_undoable_4 : decode cX2_undoable 4 = .ok (.ireturn, 1) := by decide +kernel
theorem dX2_redoable_0 : decode cX2_redoable 0 = .ok (.aload_n 0, 1) := by decide +kernel
theorem dX2_redoable_1 : decode cX2_redoable 1 = .ok (.getfield 22, 3) := by decide +kernel
theorem dX2_redoable_4 : decode cX2_redoable 4 = .ok (.aload_n 0, 1) := by decide +kernel
theorem dX2_redoable_5 : decode cX2_redoable 5 = .ok (.getfield 18, 3) := by decide +kernel
theorem dX2_redoable_8 : decode cX2_redoable 8 = .ok (.isub, 1) := by decide +kernel
theorem dX2_redoable_9 : decode cX2_redoable 9 = .ok (.ireturn, 1) := by decide +kernel
theorem dX2_forgetAll_0 : decode cX2_forgetAll 0 = .ok (.aload_n 0, 1) := by decide +kernel
theorem dX2_forgetAll_1 : decode cX2_forgetAll 1 = .ok (.iconst 0, 1) := by decide +kernel
theorem dX2_forgetAll_2 : decode cX2_forgetAll 2 = .ok (.putfield 18, 3) := by decide +kernel
theorem dX2_forgetAll_5 : decode cX2_forgetAll 5 = .ok (.aload_n 0, 1) := by decide +kernel
theorem dX2_forgetAll_6 : decode cX2_forgetAll 6 = .ok (.iconst 0, 1) := by decide +kernel
theorem dX2_forgetAll_7 : decode cX2_forgetAll 7 = .ok (.putfield 22, 3) := by decide +kernel
theorem dX2_forgetAll_10 : decode cX2_forgetAll 10 = .ok (.return_, 1) := by decide +kernel
theorem dX2_remember_0 : decode cX2_remember 0 = .ok (.aload_n 0, 1) := by decide +kernel
theorem dX2_remember_1 : decode cX2_remember 1 = .ok (.getfield 18, 3) := by decide +kernel
theorem dX2_remember_4 : decode cX2_remember 4 = .ok (.bipush 8, 2) := by decide +kernel
theorem dX2_remember_6 : decode cX2_remember 6 = .ok (.if_icmp .lt 7, 3) := by decide +kernel
theorem dX2_remember_9 : decode cX2_remember 9 = .ok (.aload_n 0, 1) := by decide +kernel
theorem dX2_remember_10 : decode cX2_remember 10 = .ok (.invokevirtual 25, 3) := by decide +kernel
theorem dX2_remember_13 : decode cX2_remember 13 = .ok (.aload_n 0, 1) := by decide +kernel
theorem dX2_remember_14 : decode cX2_remember 14 = .ok (.getfield 11, 3) := by decide +kernel
theorem dX2_remember_17 : decode cX2_remember 17 = .ok (.aload_n 0, 1) := by decide +kernel
theorem dX2_remember_18 : decode cX2_remember 18 = .ok (.getfield 18, 3) := by decide +kernel
theorem dX2_remember_21 : decode cX2_remember 21 = .ok (.aaload, 1) := by decide +kernel
theorem dX2_remember_22 : decode cX2_remember 22 = .ok (.aload_n 1, 1) := by decide +kernel
theorem dX2_remember_23 : decode cX2_remember 23 = .ok (.invokevirtual 28, 3) := by decide +kernel
theorem dX2_remember_26 : decode cX2_remember 26 = .ok (.aload_n 0, 1) := by decide +kernel
theorem dX2_remember_27 : decode cX2_remember 27 = .ok (.dup, 1) := by decide +kernel
theorem dX2_remember_28 : decode cX2_remember 28 = .ok (.getfield 18, 3) := by decide +kernel
theorem dX2_remember_31 : decode cX2_remember 31 = .ok (.iconst 1, 1) := by decide +kernel
theorem dX2_remember_32 : decode cX2_remember 32 = .ok (.iadd, 1) := by decide +kernel
theorem dX2_remember_33 : decode cX2_remember 33 = .ok (.putfield 18, 3) := by decide +kernel
theorem dX2_remember_36 : decode cX2_remember 36 = .ok (.aload_n 0, 1) := by decide +kernel
theorem dX2_remember_37 : decode cX2_remember 37 = .ok (.aload_n 0, 1) := by decide +kernel
theorem dX2_remember_38 : decode cX2_remember 38 = .ok (.getfield 18, 3) := by decide +kernel
theorem dX2_remember_41 : decode cX2_remember 41 = .ok (.putfield 22, 3) := by decide +kernel
theorem dX2_remember_44 : decode cX2_remember 44 = .ok (.return_, 1) := by decide +kernel
theorem dX2_forgetOldest_0 : decode cX2_forgetOldest 0 = .ok (.aload_n 0, 1) := by decide +kernel
theorem dX2_forgetOldest_1 : decode cX2_forgetOldest 1 = .ok (.getfield 11, 3) := by decide +kernel
theorem dX2_forgetOldest_4 : decode cX2_forgetOldest 4 = .ok (.iconst 0, 1) := by decide +kernel
theorem dX2_forgetOldest_5 : decode cX2_forgetOldest 5 = .ok (.aaload, 1) := by decide +kernel
theorem dX2_forgetOldest_6 : decode cX2_forgetOldest 6 = .ok (.astore_n 1, 1) := by decide +kernel
theorem dX2_forgetOldest_7 : decode cX2_forgetOldest 7 = .ok (.iconst 0, 1) := by decide +kernel
theorem dX2_forgetOldest_8 : decode cX2_forgetOldest 8 = .ok (.istore_n 2, 1) := by decide +kernel
theorem dX2_forgetOldest_9 : decode cX2_forgetOldest 9 = .ok (.iload_n 2, 1) := by decide +kernel
theorem dX2_forgetOldest_10 : decode cX2_forgetOldest 10 = .ok (.bipush 8, 2) := by decide +kernel
theorem dX2_forgetOldest_12 : decode cX2_forgetOldest 12 = .ok (.if_icmp .ge 23, 3) := by decide +kernel
theorem dX2_forgetOldest_15 : decode cX2_forgetOldest 15 = .ok (.aload_n 0, 1) := by decide +kernel
theorem dX2_forgetOldest_16 : decode cX2_forgetOldest 16 = .ok (.getfield 11, 3) := by decide +kernel
theorem dX2_forgetOldest_19 : decode cX2_forgetOldest 19 = .ok (.iload_n 2, 1) := by decide +kernel
theorem dX2_forgetOldest_20 : decode cX2_forgetOldest 20 = .ok (.aload_n 0, 1) := by decide +kernel
theorem dX2_forgetOldest_21 : decode cX2_forgetOldest 21 = .ok (.getfield 11, 3) := by decide +kernel
theorem dX2_forgetOldest_24 : decode cX2_forgetOldest 24 = .ok (.iload_n 2, 1) := by decide +kernel
theorem dX2_forgetOldest_25 : decode cX2_forgetOldest 25 = .ok (.iconst 1, 1) := by decide +kernel
theorem dX2_forgetOldest_26 : decode cX2_forgetOldest 26 = .ok (.iadd, 1) := by decide +kernel
theorem dX2_forgetOldest_27 : decode cX2_forgetOldest 27 = .ok (.aaload, 1) := by decide +kernel
theorem dX2_forgetOldest_28 : decode cX2_forgetOldest 28 = .ok (.aastore, 1) := by decide +kernel
theorem dX2_forgetOldest_29 : decode cX2_forgetOldest 29 = .ok (.iinc 2 1, 3) := by decide +kernel
theorem dX2_forgetOldest_32 : decode cX2_forgetOldest 32 = .ok (.goto (-23), 3) := by decide +kernel
theorem dX2_forgetOldest_35 : decode cX2_forgetOldest 35 = .ok (.aload_n 0, 1) := by decide +kernel
theorem dX2_forgetOldest_36 : decode cX2_forgetOldest 36 = .ok (.getfield 11, 3) := by decide +kernel
theorem dX2_forgetOldest_39 : decode cX2_forgetOldest 39 = .ok (.bipush 8, 2) := by decide +kernel
theorem dX2_forgetOldest_41 : decode cX2_forgetOldest 41 = .ok (.aload_n 1, 1) := by decide +kernel
theorem dX2_forgetOldest_42 : decode cX2_forgetOldest 42 = .ok (.aastore, 1) := by decide +kernel
theorem dX2_forgetOldest_43 : decode cX2_forgetOldest 43 = .ok (.aload_n 0, 1) := by decide +kernel
theorem dX2_forgetOldest_44 : decode cX2_forgetOldest 44 = .ok (.bipush 7, 2) := by decide +kernel
theorem dX2_forgetOldest_46 : decode cX2_forgetOldest 46 = .ok (.putfield 18, 3) := by decide +kernel
theorem dX2_forgetOldest_49 : decode cX2_forgetOldest 49 = .ok (.return_, 1) := by decide +kernel
theorem dX2_stepBack_0 : decode cX2_stepBack 0 = .ok (.aload_n 0, 1) := by decide +kernel
theorem dX2_stepBack_1 : decode cX2_stepBack 1 = .ok (.getfield 18, 3) := by decide +kernel
theorem dX2_stepBack_4 : decode cX2_stepBack 4 = .ok (.ifCond .le 39, 3) := by decide +kernel
theorem dX2_stepBack_7 : decode cX2_stepBack 7 = .ok (.aload_n 0, 1) := by decide +kernel
theorem dX2_stepBack_8 : decode cX2_stepBack 8 = .ok (.getfield 11, 3) := by decide +kernel
theorem dX2_stepBack_11 : decode cX2_stepBack 11 = .ok (.aload_n 0, 1) := by decide +kernel
theorem dX2_stepBack_12 : decode cX2_stepBack 12 = .ok (.getfield 18, 3) := by decide +kernel
theorem dX2_stepBack_15 : decode cX2_stepBack 15 = .ok (.aaload, 1) := by decide +kernel
theorem dX2_stepBack_16 : decode cX2_stepBack 16 = .ok (.aload_n 1, 1) := by decide +kernel
theorem dX2_stepBack_17 : decode cX2_stepBack 17 = .ok (.invokevirtual 28, 3) := by decide +kernel
theorem dX2_stepBack_20 : decode cX2_stepBack 20 = .ok (.aload_n 0, 1) := by decide +kernel
theorem dX2_stepBack_21 : decode cX2_stepBack 21 = .ok (.dup, 1) := by decide +kernel
theorem dX2_stepBack_22 : decode cX2_stepBack 22 = .ok (.getfield 18, 3) := by decide +kernel
theorem dX2_stepBack_25 : decode cX2_stepBack 25 = .ok (.iconst 1, 1) := by decide +kernel
theorem dX2_stepBack_26 : decode cX2_stepBack 26 = .ok (.isub, 1) := by decide +kernel
theorem dX2_stepBack_27 : decode cX2_stepBack 27 = .ok (.putfield 18, 3) := by decide +kernel
theorem dX2_stepBack_30 : decode cX2_stepBack 30 = .ok (.aload_n 1, 1) := by decide +kernel
theorem dX2_stepBack_31 : decode cX2_stepBack 31 = .ok (.aload_n 0, 1) := by decide +kernel
theorem dX2_stepBack_32 : decode cX2_stepBack 32 = .ok (.getfield 11, 3) := by decide +kernel
theorem dX2_stepBack_35 : decode cX2_stepBack 35 = .ok (.aload_n 0, 1) := by decide +kernel
theorem dX2_stepBack_36 : decode cX2_stepBack 36 = .ok (.getfield 18, 3) := by decide +kernel
theorem dX2_stepBack_39 : decode cX2_stepBack 39 = .ok (.aaload, 1) := by decide +kernel
theorem dX2_stepBack_40 : decode cX2_stepBack 40 = .ok (.invokevirtual 28, 3) := by decide +kernel
theorem dX2_stepBack_43 : decode cX2_stepBack 43 = .ok (.return_, 1) := by decide +kernel
theorem dX2_stepOn_0 : decode cX2_stepOn 0 = .ok (.aload_n 0, 1) := by decide +kernel
theorem dX2_stepOn_1 : decode cX2_stepOn 1 = .ok (.getfield 18, 3) := by decide +kernel
theorem dX2_stepOn_4 : decode cX2_stepOn 4 = .ok (.aload_n 0, 1) := by decide +kernel
theorem dX2_stepOn_5 : decode cX2_stepOn 5 = .ok (.getfield 22, 3) := by decide +kernel
theorem dX2_stepOn_8 : decode cX2_stepOn 8 = .ok (.if_icmp .ge 26, 3) := by decide +kernel
theorem dX2_stepOn_11 : decode cX2_stepOn 11 = .ok (.aload_n 0, 1) := by decide +kernel
theorem dX2_stepOn_12 : decode cX2_stepOn 12 = .ok (.dup, 1) := by decide +kernel
theorem dX2_stepOn_13 : decode cX2_stepOn 13 = .ok (.getfield 18, 3) := by decide +kernel
theorem dX2_stepOn_16 : decode cX2_stepOn 16 = .ok (.iconst 1, 1) := by decide +kernel
theorem dX2_stepOn_17 : decode cX2_stepOn 17 = .ok (.iadd, 1) := by decide +kernel
theorem dX2_stepOn_18 : decode cX2_stepOn 18 = .ok (.putfield 18, 3) := by decide +kernel
theorem dX2_stepOn_21 : decode cX2_stepOn 21 = .ok (.aload_n 1, 1) := by decide +kernel
theorem dX2_stepOn_22 : decode cX2_stepOn 22 = .ok (.aload_n 0, 1) := by decide +kernel
theorem dX2_stepOn_23 : decode cX2_stepOn 23 = .ok (.getfield 11, 3) := by decide +kernel
theorem dX2_stepOn_26 : decode cX2_stepOn 26 = .ok (.aload_n 0, 1) := by decide +kernel
theorem dX2_stepOn_27 : decode cX2_stepOn 27 = .ok (.getfield 18, 3) := by decide +kernel
theorem dX2_stepOn_30 : decode cX2_stepOn 30 = .ok (.aaload, 1) := by decide +kernel
theorem dX2_stepOn_31 : decode cX2_stepOn 31 = .ok (.invokevirtual 28, 3) := by decide +kernel
theorem dX2_stepOn_34 : decode cX2_stepOn 34 = .ok (.return_, 1) := by decide +kernel
theorem dX3_init_0 : decode cX3_init 0 = .ok (.aload_n 0, 1) := by decide +kernel
theorem dX3_init_1 : decode cX3_init 1 = .ok (.invokespecial 3, 3) := by decide +kernel
theorem dX3_init_4 : decode cX3_init 4 = .ok (.aload_n 0, 1) := by decide +kernel
theorem dX3_init_5 : decode cX3_init 5 = .ok (.iconst 0, 1) := by decide +kernel
theorem dX3_init_6 : decode cX3_init 6 = .ok (.putfield 9, 3) := by decide +kernel
theorem dX3_init_9 : decode cX3_init 9 = .ok (.aload_n 0, 1) := by decide +kernel
theorem dX3_init_10 : decode cX3_init 10 = .ok (.new 15, 3) := by decide +kernel
theorem dX3_init_13 : decode cX3_init 13 = .ok (.dup, 1) := by decide +kernel
theorem dX3_init_14 : decode cX3_init 14 = .ok (.invokespecial 17, 3) := by decide +kernel
theorem dX3_init_17 : decode cX3_init 17 = .ok (.putfield 18, 3) := by decide +kernel
theorem dX3_init_20 : decode cX3_init 20 = .ok (.aload_n 0, 1) := by decide +kernel
theorem dX3_init_21 : decode cX3_init 21 = .ok (.bipush 30, 2) := by decide +kernel
theorem dX3_init_23 : decode cX3_init 23 = .ok (.newarray .int, 2) := by decide +kernel
theorem dX3_init_25 : decode cX3_init 25 = .ok (.putfield 22, 3) := by decide +kernel
theorem dX3_init_28 : decode cX3_init 28 = .ok (.aload_n 0, 1) := by decide +kernel
theorem dX3_init_29 : decode cX3_init 29 = .ok (.iconst 0, 1) := by decide +kernel
theorem dX3_init_30 : decode cX3_init 30 = .ok (.putfield 26, 3) := by decide +kernel
theorem dX3_init_33 : decode cX3_init 33 = .ok (.return_, 1) := by decide +kernel
theorem dX4_init_0 : decode cX4_init 0 = .ok (.aload_n 0, 1) := by decide +kernel
theorem dX4_init_1 : decode cX4_init 1 = .ok (.invokespecial 3, 3) := by decide +kernel
theorem dX4_init_4 : decode cX4_init 4 = .ok (.aload_n 0, 1) := by decide +kernel
theorem dX4_init_5 : decode cX4_init 5 = .ok (.bipush 6, 2) := by decide +kernel
theorem dX4_init_7 : decode cX4_init 7 = .ok (.bipush 6, 2) := by decide +kernel
theorem dX4_init_9 : decode cX4_init 9 = .ok (.multianewarray 9 2, 4) := by decide +kernel
theorem dX4_init_13 : decode cX4_init 13 = .ok (.putfield 11, 3) := by decide +kernel
theorem dX4_init_16 : decode cX4_init 16 = .ok (.return_, 1) := by decide +kernel
theorem dX4_bestRow_0 : decode cX4_bestRow 0 = .ok (.iload_n 2, 1) := by decide +kernel
theorem dX4_bestRow_1 : decode cX4_bestRow 1 = .ok (.iconst 1, 1) := by decide +kernel
theorem dX4_bestRow_2 : decode cX4_bestRow 2 = .ok (.if_icmp .eq 8, 3) := by decide +kernel
theorem dX4_bestRow_5 : decode cX4_bestRow 5 = .ok (.iload_n 2, 1) := by decide +kernel
theorem dX4_bestRow_6 : decode cX4_bestRow 6 = .ok (.iconst 3, 1) := by decide +kernel
theorem dX4_bestRow_7 : decode cX4_bestRow 7 = .ok (.if_icmp .ne 7, 3) := by decide +kernel
theorem dX4_bestRow_10 : decode cX4_bestRow 10 = .ok (.iconst 1, 1) := by decide +kernel
theorem dX4_bestRow_11 : decode cX4_bestRow 11 = .ok (.goto 4, 3) := by decide +kernel
theorem dX4_bestRow_14 : decode cX4_bestRow 14 = .ok (.iconst 0, 1) := by decide +kernel
theorem dX4_bestRow_15 : decode cX4_bestRow 15 = .ok (.istore 4, 2) := by decide +kernel
theorem dX4_bestRow_17 : decode cX4_bestRow 17 = .ok (.iload_n 2, 1) := by decide +kernel
theorem dX4_bestRow_18 : decode cX4_bestRow 18 = .ok (.iconst 2, 1) := by decide +kernel
theorem dX4_bestRow_19 : decode cX4_bestRow 19 = .ok (.if_icmp .lt 7, 3) := by decide +kernel
theorem dX4_bestRow_22 : decode cX4_bestRow 22 = .ok (.iconst 1, 1) := by decide +kernel
theorem dX4_bestRow_23 : decode cX4_bestRow 23 = .ok (.goto 4, 3) := by decide +kernel
theorem dX4_bestRow_26 : decode cX4_bestRow 26 = .ok (.iconst 0, 1) := by decide +kernel
theorem dX4_bestRow_27 : decode cX4_bestRow 27 = .ok (.istore 5, 2) := by decide +kernel
theorem dX4_bestRow_29 : decode cX4_bestRow 29 = .ok (.iconst 1, 1) := by decide +kernel
theorem dX4_bestRow_30 : decode cX4_bestRow 30 = .ok (.istore 6, 2) := by decide +kernel
theorem dX4_bestRow_32 : decode cX4_bestRow 32 = .ok (.iload 6, 2) := by decide +kernel
theorem dX4_bestRow_34 : decode cX4_bestRow 34 = .ok (.aload_n 1, 1) := by decide +kernel
theorem dX4_bestRow_35 : decode cX4_bestRow 35 = .ok (.getfield 16, 3) := by decide +kernel
theorem dX4_bestRow_38 : decode cX4_bestRow 38 = .ok (.if_icmp .gt 145, 3) := by decide +kernel
theorem dX4_bestRow_41 : decode cX4_bestRow 41 = .ok (.iconst 1, 1) := by decide +kernel
theorem dX4_bestRow_42 : decode cX4_bestRow 42 = .ok (.istore 7, 2) := by decide +kernel
theorem dX4_bestRow_44 : decode cX4_bestRow 44 = .ok (.iload 7, 2) := by decide +kernel
theorem dX4_bestRow_46 : decode cX4_bestRow 46 = .ok (.aload_n 1, 1) := by decide +kernel
theorem dX4_bestRow_47 : decode cX4_bestRow 47 = .ok (.getfield 22, 3) := by decide +kernel
theorem dX4_bestRow_50 : decode cX4_bestRow 50 = .ok (.if_icmp .gt 127, 3) := by decide +kernel
theorem dX4_bestRow_53 : decode cX4_bestRow 53 = .ok (.aload_n 1, 1) := by decide +kernel
theorem dX4_bestRow_54 : decode cX4_bestRow 54 = .ok (.iload 6, 2) := by decide +kernel
theorem dX4_bestRow_56 : decode cX4_bestRow 56 = .ok (.iload 5, 2) := by decide +kernel
theorem dX4_bestRow_58 : decode cX4_bestRow 58 = .ok (.ifCond .eq 15, 3) := by decide +kernel
theorem dX4_bestRow_61 : decode cX4_bestRow 61 = .ok (.aload_n 1, 1) := by decide +kernel
theorem dX4_bestRow_62 : decode cX4_bestRow 62 = .ok (.getfield 22, 3) := by decide +kernel
theorem dX4_bestRow_65 : decode cX4_bestRow 65 = .ok (.iconst 1, 1) := by decide +kernel
theorem dX4_bestRow_66 : decode cX4_bestRow 66 = .ok (.iadd, 1) := by decide +kernel
theorem dX4_bestRow_67 : decode cX4_bestRow 67 = .ok (.iload 7, 2) := by decide +kernel
theorem dX4_bestRow_69 : decode cX4_bestRow 69 = .ok (.isub, 1) := by decide +kernel
theorem dX4_bestRow_70 : decode cX4_bestRow 70 = .ok (.goto 5, 3) := by decide +kernel
theorem dX4_bestRow_73 : decode cX4_bestRow 73 = .ok (.iload 7, 2) := by decide +kernel
theorem dX4_bestRow_75 : decode cX4_bestRow 75 = .ok (.invokevirtual 25, 3) := by decide +kernel
theorem dX4_bestRow_78 : decode cX4_bestRow 78 = .ok (.istore 8, 2) := by decide +kernel
theorem dX4_bestRow_80 : decode cX4_bestRow 80 = .ok (.iload_n 3, 1) := by decide +kernel
theorem dX4_bestRow_81 : decode cX4_bestRow 81 = .ok (.ifCond .eq 12, 3) := by decide +kernel
theorem dX4_bestRow_84 : decode cX4_bestRow 84 = .ok (.iload 8, 2) := by decide +kernel
theorem dX4_bestRow_86 : decode cX4_bestRow 86 = .ok (.iconst 1, 1) := by decide +kernel
theorem dX4_bestRow_87 : decode cX4_bestRow 87 = .ok (.invokestatic 29, 3) := by decide +kernel
theorem dX4_bestRow_90 : decode cX4_bestRow 90 = .ok (.goto 5, 3) := by decide +kernel
theorem dX4_bestRow_93 : decode cX4_bestRow 93 = .ok (.iload 8, 2) := by decide +kernel
theorem dX4_bestRow_95 : decode cX4_bestRow 95 = .ok (.istore 9, 2) := by decide +kernel
theorem dX4_bestRow_97 : decode cX4_bestRow 97 = .ok (.aload_n 0, 1) := by decide +kernel
theorem dX4_bestRow_98 : decode cX4_bestRow 98 = .ok (.getfield 11, 3) := by decide +kernel
theorem dX4_bestRow_101 : decode cX4_bestRow 101 = .ok (.iload 6, 2) := by decide +kernel
theorem dX4_bestRow_103 : decode cX4_bestRow 103 = .ok (.iconst 1, 1) := by decide +kernel
theorem dX4_bestRow_104 : decode cX4_bestRow 104 = .ok (.isub, 1) := by decide +kernel
theorem dX4_bestRow_105 : decode cX4_bestRow 105 = .ok (.aaload, 1) := by decide +kernel
theorem dX4_bestRow_106 : decode cX4_bestRow 106 = .ok (.iload 7, 2) := by decide +kernel
theorem dX4_bestRow_108 : decode cX4_bestRow 108 = .ok (.iaload, 1) := by decide +kernel
theorem dX4_bestRow_109 : decode cX4_bestRow 109 = .ok (.aload_n 0, 1) := by decide +kernel
theorem dX4_bestRow_110 : decode cX4_bestRow 110 = .ok (.getfield 11, 3) := by decide +kernel
theorem dX4_bestRow_113 : decode cX4_bestRow 113 = .ok (.iload 6, 2) := by decide +kernel
theorem dX4_bestRow_115 : decode cX4_bestRow 115 = .ok (.aaload, 1) := by decide +kernel
theorem dX4_bestRow_116 : decode cX4_bestRow 116 = .ok (.iload 7, 2) := by decide +kernel
theorem dX4_bestRow_118 : decode cX4_bestRow 118 = .ok (.iconst 1, 1) := by decide +kernel
theorem dX4_bestRow_119 : decode cX4_bestRow 119 = .ok (.isub, 1) := by decide +kernel
theorem dX4_bestRow_120 : decode cX4_bestRow 120 = .ok (.iaload, 1) := by decide +kernel
theorem dX4_bestRow_121 : decode cX4_bestRow 121 = .ok (.invokestatic 34, 3) := by decide +kernel
theorem dX4_bestRow_124 : decode cX4_bestRow 124 = .ok (.istore 10, 2) := by decide +kernel
theorem dX4_bestRow_126 : decode cX4_bestRow 126 = .ok (.aload_n 0, 1) := by decide +kernel
theorem dX4_bestRow_127 : decode cX4_bestRow 127 = .ok (.getfield 11, 3) := by decide +kernel
theorem dX4_bestRow_130 : decode cX4_bestRow 130 = .ok (.iload 6, 2) := by decide +kernel
theorem dX4_bestRow_132 : decode cX4_bestRow 132 = .ok (.aaload, 1) := by decide +kernel
theorem dX4_bestRow_133 : decode cX4_bestRow 133 = .ok (.iload 7, 2) := by decide +kernel
theorem dX4_bestRow_135 : decode cX4_bestRow 135 = .ok (.iload 4, 2) := by decide +kernel
theorem dX4_bestRow_137 : decode cX4_bestRow 137 = .ok (.ifCond .eq 28, 3) := by decide +kernel
theorem dX4_bestRow_140 : decode cX4_bestRow 140 = .ok (.iload 10, 2) := by decide +kernel
theorem dX4_bestRow_142 : decode cX4_bestRow 142 = .ok (.aload_n 0, 1) := by decide +kernel
theorem dX4_bestRow_143 : decode cX4_bestRow 143 = .ok (.getfield 11, 3) := by decide +kernel
theorem dX4_bestRow_146 : decode cX4_bestRow 146 = .ok (.iload 6, 2) := by decide +kernel
theorem dX4_bestRow_148 : decode cX4_bestRow 148 = .ok (.iconst 1, 1) := by decide +kernel
theorem dX4_bestRow_149 : decode cX4_bestRow 149 = .ok (.isub, 1) := by decide +kernel
theorem dX4_bestRow_150 : decode cX4_bestRow 150 = .ok (.aaload, 1) := by decide +kernel
theorem dX4_bestRow_151 : decode cX4_bestRow 151 = .ok (.iload 7, 2) := by decide +kernel
theorem dX4_bestRow_153 : decode cX4_bestRow 153 = .ok (.iconst 1, 1) := by decide +kernel
theorem dX4_bestRow_154 : decode cX4_bestRow 154 = .ok (.isub, 1) := by decide +kernel
theorem dX4_bestRow_155 : decode cX4_bestRow 155 = .ok (.iaload, 1) := by decide +kernel
theorem dX4_bestRow_156 : decode cX4_bestRow 156 = .ok (.iload 9, 2) := by decide +kernel
theorem dX4_bestRow_158 : decode cX4_bestRow 158 = .ok (.iadd, 1) := by decide +kernel
theorem dX4_bestRow_159 : decode cX4_bestRow 159 = .ok (.invokestatic 34, 3) := by decide +kernel
theorem dX4_bestRow_162 : decode cX4_bestRow 162 = .ok (.goto 8, 3) := by decide +kernel
theorem dX4_bestRow_165 : decode cX4_bestRow 165 = .ok (.iload 10, 2) := by decide +kernel
theorem dX4_bestRow_167 : decode cX4_bestRow 167 = .ok (.iload 9, 2) := by decide +kernel
theorem dX4_bestRow_169 : decode cX4_bestRow 169 = .ok (.iadd, 1) := by decide +kernel
theorem dX4_bestRow_170 : decode cX4_bestRow 170 = .ok (.iastore, 1) := by decide +kernel
theorem dX4_bestRow_171 : decode cX4_bestRow 171 = .ok (.iinc 7 1, 3) := by decide +kernel
theorem dX4_bestRow_174 : decode cX4_bestRow 174 = .ok (.goto (-130), 3) := by decide +kernel
theorem dX4_bestRow_177 : decode cX4_bestRow 177 = .ok (.iinc 6 1, 3) := by decide +kernel
theorem dX4_bestRow_180 : decode cX4_bestRow 180 = .ok (.goto (-148), 3) := by decide +kernel
theorem dX4_bestRow_183 : decode cX4_bestRow 183 = .ok (.aload_n 0, 1) := by decide +kernel
theorem dX4_bestRow_184 : decode cX4_bestRow 184 = .ok (.getfield 11, 3) := by decide +kernel
theorem dX4_bestRow_187 : decode cX4_bestRow 187 = .ok (.aload_n 1, 1) := by decide +kernel
theorem dX4_bestRow_188 : decode cX4_bestRow 188 = .ok (.getfield 16, 3) := by decide +kernel
theorem dX4_bestRow_191 : decode cX4_bestRow 191 = .ok (.aaload, 1) := by decide +kernel
theorem dX4_bestRow_192 : decode cX4_bestRow 192 = .ok (.aload_n 1, 1) := by decide +kernel
theorem dX4_bestRow_193 : decode cX4_bestRow 193 = .ok (.getfield 22, 3) := by decide +kernel
theorem dX4_bestRow_196 : decode cX4_bestRow 196 = .ok (.iaload, 1) := by decide +kernel
theorem dX4_bestRow_197 : decode cX4_bestRow 197 = .ok (.ireturn, 1) := by decide +kernel
theorem dX5_init_0 : decode cX5_init 0 = .ok (.aload_n 0, 1) := by decide +kernel
theorem dX5_init_1 : decode cX5_init 1 = .ok (.invokespecial 3, 3) := by decide +kernel
theorem dX5_init_4 : decode cX5_init 4 = .ok (.aload_n 0, 1) := by decide +kernel
theorem dX5_init_5 : decode cX5_init 5 = .ok (.bipush 75, 2) := by decide +kernel
theorem dX5_init_7 : decode cX5_init 7 = .ok (.newarray .int, 2) := by decide +kernel
theorem dX5_init_9 : decode cX5_init 9 = .ok (.putfield 9, 3) := by decide +kernel
theorem dX5_init_12 : decode cX5_init 12 = .ok (.aload_n 0, 1) := by decide +kernel
theorem dX5_init_13 : decode cX5_init 13 = .ok (.iconst 0, 1) := by decide +kernel
theorem dX5_init_14 : decode cX5_init 14 = .ok (.putfield 15, 3) := by decide +kernel
theorem dX5_init_17 : decode cX5_init 17 = .ok (.aload_n 0, 1) := by decide +kernel
theorem dX5_init_18 : decode cX5_init 18 = .ok (.iconst 0, 1) := by decide +kernel
theorem dX5_init_19 : decode cX5_init 19 = .ok (.putfield 19, 3) := by decide +kernel
theorem dX5_init_22 : decode cX5_init 22 = .ok (.return_, 1) := by decide +kernel
theorem dX5_partAt_0 : decode cX5_partAt 0 = .ok (.iload_n 1, 1) := by decide +kernel
theorem dX5_partAt_1 : decode cX5_partAt 1 = .ok (.ifCond .lt 20, 3) := by decide +kernel
theorem dX5_partAt_4 : decode cX5_partAt 4 = .ok (.iload_n 1, 1) := by decide +kernel
theorem dX5_partAt_5 : decode cX5_partAt 5 = .ok (.aload_n 0, 1) := by decide +kernel
theorem dX5_partAt_6 : decode cX5_partAt 6 = .ok (.getfield 15, 3) := by decide +kernel
theorem dX5_partAt_9 : decode cX5_partAt 9 = .ok (.if_icmp .ge 12, 3) := by decide +kernel
theorem dX5_partAt_12 : decode cX5_partAt 12 = .ok (.aload_n 0, 1) := by decide +kernel
theorem dX5_partAt_13 : decode cX5_partAt 13 = .ok (.getfield 9, 3) := by decide +kernel
theorem dX5_partAt_16 : decode cX5_partAt 16 = .ok (.iload_n 1, 1) := by decide +kernel
theorem dX5_partAt_17 : decode cX5_partAt 17 = .ok (.iaload, 1) := by decide +kernel
theorem dX5_partAt_18 : decode cX5_partAt 18 = .ok (.goto 4, 3) := by decide +kernel
theorem dX5_partAt_21 : decode cX5_partAt 21 = .ok (.iconst 0, 1) := by decide +kernel
theorem dX5_partAt_22 : decode cX5_partAt 22 = .ok (.ireturn, 1) := by decide +kernel
theorem dX5_partsAbove_0 : decode cX5_partsAbove 0 = .ok (.iconst 0, 1) := by decide +kernel
theorem dX5_partsAbove_1 : decode cX5_partsAbove 1 = .ok (.istore_n 2, 1) := by decide +kernel
theorem dX5_partsAbove_2 : decode cX5_partsAbove 2 = .ok (.iconst 0, 1) := by decide +kernel
theorem dX5_partsAbove_3 : decode cX5_partsAbove 3 = .ok (.istore_n 3, 1) := by decide +kernel
theorem dX5_partsAbove_4 : decode cX5_partsAbove 4 = .ok (.iload_n 3, 1) := by decide +kernel
theorem dX5_partsAbove_5 : decode cX5_partsAbove 5 = .ok (.aload_n 0, 1) := by decide +kernel
theorem dX5_partsAbove_6 : decode cX5_partsAbove 6 = .ok (.getfield 15, 3) := by decide +kernel
theorem dX5_partsAbove_9 : decode cX5_partsAbove 9 = .ok (.if_icmp .ge 27, 3) := by decide +kernel
theorem dX5_partsAbove_12 : decode cX5_partsAbove 12 = .ok (.iload_n 2, 1) := by decide +kernel
theorem dX5_partsAbove_13 : decode cX5_partsAbove 13 = .ok (.aload_n 0, 1) := by decide +kernel
theorem dX5_partsAbove_14 : decode cX5_partsAbove 14 = .ok (.getfield 9, 3) := by decide +kernel
theorem dX5_partsAbove_17 : decode cX5_partsAbove 17 = .ok (.iload_n 3, 1) := by decide +kernel
theorem dX5_partsAbove_18 : decode cX5_partsAbove 18 = .ok (.iaload, 1) := by decide +kernel
theorem dX5_partsAbove_19 : decode cX5_partsAbove 19 = .ok (.iload_n 1, 1) := by decide +kernel
theorem dX5_partsAbove_20 : decode cX5_partsAbove 20 = .ok (.if_icmp .le 7, 3) := by decide +kernel
theorem dX5_partsAbove_23 : decode cX5_partsAbove 23 = .ok (.iconst 1, 1) := by decide +kernel
theorem dX5_partsAbove_24 : decode cX5_partsAbove 24 = .ok (.goto 4, 3) := by decide +kernel
theorem dX5_partsAbove_27 : decode cX5_partsAbove 27 = .ok (.iconst 0, 1) := by decide +kernel
theorem dX5_partsAbove_28 : decode cX5_partsAbove 28 = .ok (.iadd, 1) := by decide +kernel
theorem dX5_partsAbove_29 : decode cX5_partsAbove 29 = .ok (.istore_n 2, 1) := by decide +kernel
theorem dX5_partsAbove_30 : decode cX5_partsAbove 30 = .ok (.iinc 3 1, 3) := by decide +kernel
theorem dX5_partsAbove_33 : decode cX5_partsAbove 33 = .ok (.goto (-29), 3) := by decide +kernel
theorem dX5_partsAbove_36 : decode cX5_partsAbove 36 = .ok (.iload_n 2, 1) := by decide +kernel
theorem dX5_partsAbove_37 : decode cX5_partsAbove 37 = .ok (.ireturn, 1) := by decide +kernel
theorem dX5_makeEmpty_0 : decode cX5_makeEmpty 0 = .ok (.aload_n 0, 1) := by decide +kernel
theorem dX5_makeEmpty_1 : decode cX5_makeEmpty 1 = .ok (.iconst 0, 1) := by decide +kernel
theorem dX5_makeEmpty_2 : decode cX5_makeEmpty 2 = .ok (.putfield 15, 3) := by decide +kernel
theorem dX5_makeEmpty_5 : decode cX5_makeEmpty 5 = .ok (.aload_n 0, 1) := by decide +kernel
theorem dX5_makeEmpty_6 : decode cX5_makeEmpty 6 = .ok (.iconst 0, 1) := by decide +kernel
theorem dX5_makeEmpty_7 : decode cX5_makeEmpty 7 = .ok (.putfield 19, 3) := by decide +kernel
theorem dX5_makeEmpty_10 : decode cX5_makeEmpty 10 = .ok (.return_, 1) := by decide +kernel
theorem dX5_growFrom_0 : decode cX5_growFrom 0 = .ok (.aload_n 0, 1) := by decide +kernel
theorem dX5_growFrom_1 : decode cX5_growFrom 1 = .ok (.invokevirtual 22, 3) := by decide +kernel
theorem dX5_growFrom_4 : decode cX5_growFrom 4 = .ok (.iload 4, 2) := by decide +kernel
theorem dX5_growFrom_6 : decode cX5_growFrom 6 = .ok (.istore 6, 2) := by decide +kernel
theorem dX5_growFrom_8 : decode cX5_growFrom 8 = .ok (.iconst 0, 1) := by decide +kernel
theorem dX5_growFrom_9 : decode cX5_growFrom 9 = .ok (.istore 7, 2) := by decide +kernel
theorem dX5_growFrom_11 : decode cX5_growFrom 11 = .ok (.iload 7, 2) := by decide +kernel
theorem dX5_growFrom_13 : decode cX5_growFrom 13 = .ok (.bipush 75, 2) := by decide +kernel
theorem dX5_growFrom_15 : decode cX5_growFrom 15 = .ok (.if_icmp .ge 100, 3) := by decide +kernel
theorem dX5_growFrom_18 : decode cX5_growFrom 18 = .ok (.aload_n 1, 1) := by decide +kernel
theorem dX5_growFrom_19 : decode cX5_growFrom 19 = .ok (.iload 7, 2) := by decide +kernel
theorem dX5_growFrom_21 : decode cX5_growFrom 21 = .ok (.invokevirtual 25, 3) := by decide +kernel
theorem dX5_growFrom_24 : decode cX5_growFrom 24 = .ok (.istore 8, 2) := by decide +kernel
theorem dX5_growFrom_26 : decode cX5_growFrom 26 = .ok (.aload_n 2, 1) := by decide +kernel
theorem dX5_growFrom_27 : decode cX5_growFrom 27 = .ok (.iload 7, 2) := by decide +kernel
theorem dX5_growFrom_29 : decode cX5_growFrom 29 = .ok (.invokevirtual 25, 3) := by decide +kernel
theorem dX5_growFrom_32 : decode cX5_growFrom 32 = .ok (.istore 9, 2) := by decide +kernel
theorem dX5_growFrom_34 : decode cX5_growFrom 34 = .ok (.aload_n 3, 1) := by decide +kernel
theorem dX5_growFrom_35 : decode cX5_growFrom 35 = .ok (.iload 7, 2) := by decide +kernel
theorem dX5_growFrom_37 : decode cX5_growFrom 37 = .ok (.invokevirtual 25, 3) := by decide +kernel
theorem dX5_growFrom_40 : decode cX5_growFrom 40 = .ok (.istore 10, 2) := by decide +kernel
theorem dX5_growFrom_42 : decode cX5_growFrom 42 = .ok (.iload 5, 2) := by decide +kernel
theorem dX5_growFrom_44 : decode cX5_growFrom 44 = .ok (.iload 8, 2) := by decide +kernel
theorem dX5_growFrom_46 : decode cX5_growFrom 46 = .ok (.iload 9, 2) := by decide +kernel
theorem dX5_growFrom_48 : decode cX5_growFrom 48 = .ok (.iload 10, 2) := by decide +kernel
theorem dX5_growFrom_50 : decode cX5_growFrom 50 = .ok (.iload 6, 2) := by decide +kernel
theorem dX5_growFrom_52 : decode cX5_growFrom 52 = .ok (.invokestatic 29, 3) := by decide +kernel
theorem dX5_growFrom_55 : decode cX5_growFrom 55 = .ok (.istore 11, 2) := by decide +kernel
theorem dX5_growFrom_57 : decode cX5_growFrom 57 = .ok (.iload 11, 2) := by decide +kernel
theorem dX5_growFrom_59 : decode cX5_growFrom 59 = .ok (.ifCond .gt 6, 3) := by decide +kernel
theorem dX5_growFrom_62 : decode cX5_growFrom 62 = .ok (.goto 53, 3) := by decide +kernel
theorem dX5_growFrom_65 : decode cX5_growFrom 65 = .ok (.aload_n 0, 1) := by decide +kernel
theorem dX5_growFrom_66 : decode cX5_growFrom 66 = .ok (.getfield 9, 3) := by decide +kernel
theorem dX5_growFrom_69 : decode cX5_growFrom 69 = .ok (.iload 7, 2) := by decide +kernel
theorem dX5_growFrom_71 : decode cX5_growFrom 71 = .ok (.iload 11, 2) := by decide +kernel
theorem dX5_growFrom_73 : decode cX5_growFrom 73 = .ok (.iastore, 1) := by decide +kernel
theorem dX5_growFrom_74 : decode cX5_growFrom 74 = .ok (.aload_n 0, 1) := by decide +kernel
theorem dX5_growFrom_75 : decode cX5_growFrom 75 = .ok (.iload 7, 2) := by decide +kernel
theorem dX5_growFrom_77 : decode cX5_growFrom 77 = .ok (.iconst 1, 1) := by decide +kernel
theorem dX5_growFrom_78 : decode cX5_growFrom 78 = .ok (.iadd, 1) := by decide +kernel
theorem dX5_growFrom_79 : decode cX5_growFrom 79 = .ok (.putfield 15, 3) := by decide +kernel
theorem dX5_growFrom_82 : decode cX5_growFrom 82 = .ok (.aload_n 0, 1) := by decide +kernel
theorem dX5_growFrom_83 : decode cX5_growFrom 83 = .ok (.dup, 1) := by decide +kernel
theorem dX5_growFrom_84 : decode cX5_growFrom 84 = .ok (.getfield 19, 3) := by decide +kernel
theorem dX5_growFrom_87 : decode cX5_growFrom 87 = .ok (.iload 11, 2) := by decide +kernel
theorem dX5_growFrom_89 : decode cX5_growFrom 89 = .ok (.iadd, 1) := by decide +kernel
theorem dX5_growFrom_90 : decode cX5_growFrom 90 = .ok (.putfield 19, 3) := by decide +kernel
theorem dX5_growFrom_93 : decode cX5_growFrom 93 = .ok (.iload 6, 2) := by decide +kernel
theorem dX5_growFrom_95 : decode cX5_growFrom 95 = .ok (.iload 9, 2) := by decide +kernel
theorem dX5_growFrom_97 : decode cX5_growFrom 97 = .ok (.iload 10, 2) := by decide +kernel
theorem dX5_growFrom_99 : decode cX5_growFrom 99 = .ok (.iadd, 1) := by decide +kernel
theorem dX5_growFrom_100 : decode cX5_growFrom 100 = .ok (.iload 8, 2) := by decide +kernel
theorem dX5_growFrom_102 : decode cX5_growFrom 102 = .ok (.isub, 1) := by decide +kernel
theorem dX5_growFrom_103 : decode cX5_growFrom 103 = .ok (.iload 11, 2) := by decide +kernel
theorem dX5_growFrom_105 : decode cX5_growFrom 105 = .ok (.isub, 1) := by decide +kernel
theorem dX5_growFrom_106 : decode cX5_growFrom 106 = .ok (.iadd, 1) := by decide +kernel
theorem dX5_growFrom_107 : decode cX5_growFrom 107 = .ok (.istore 6, 2) := by decide +kernel
theorem dX5_growFrom_109 : decode cX5_growFrom 109 = .ok (.iinc 7 1, 3) := by decide +kernel
theorem dX5_growFrom_112 : decode cX5_growFrom 112 = .ok (.goto (-101), 3) := by decide +kernel
theorem dX5_growFrom_115 : decode cX5_growFrom 115 = .ok (.return_, 1) := by decide +kernel
theorem dX5_grownPart_0 : decode cX5_grownPart 0 = .ok (.iload_n 0, 1) := by decide +kernel
theorem dX5_grownPart_1 : decode cX5_grownPart 1 = .ok (.tableswitch 54 0 2 #[27, 36, 45], 27) := by decide +kernel
theorem dX5_grownPart_28 : decode cX5_grownPart 28 = .ok (.iload_n 2, 1) := by decide +kernel
theorem dX5_grownPart_29 : decode cX5_grownPart 29 = .ok (.iload_n 3, 1) := by decide +kernel
theorem dX5_grownPart_30 : decode cX5_grownPart 30 = .ok (.invokestatic 33, 3) := by decide +kernel
theorem dX5_grownPart_33 : decode cX5_grownPart 33 = .ok (.iload 4, 2) := by decide +kernel
theorem dX5_grownPart_35 : decode cX5_grownPart 35 = .ok (.iadd, 1) := by decide +kernel
theorem dX5_grownPart_36 : decode cX5_grownPart 36 = .ok (.ireturn, 1) := by decide +kernel
theorem dX5_grownPart_37 : decode cX5_grownPart 37 = .ok (.iload_n 2, 1) := by decide +kernel
theorem dX5_grownPart_38 : decode cX5_grownPart 38 = .ok (.iload 4, 2) := by decide +kernel
theorem dX5_grownPart_40 : decode cX5_grownPart 40 = .ok (.iadd, 1) := by decide +kernel
theorem dX5_grownPart_41 : decode cX5_grownPart 41 = .ok (.iload_n 3, 1) := by decide +kernel
theorem dX5_grownPart_42 : decode cX5_grownPart 42 = .ok (.invokestatic 33, 3) := by decide +kernel
theorem dX5_grownPart_45 : decode cX5_grownPart 45 = .ok (.ireturn, 1) := by decide +kernel
theorem dX5_grownPart_46 : decode cX5_grownPart 46 = .ok (.iload_n 2, 1) := by decide +kernel
theorem dX5_grownPart_47 : decode cX5_grownPart 47 = .ok (.iload_n 3, 1) := by decide +kernel
theorem dX5_grownPart_48 : decode cX5_grownPart 48 = .ok (.iload 4, 2) := by decide +kernel
theorem dX5_grownPart_50 : decode cX5_grownPart 50 = .ok (.iadd, 1) := by decide +kernel
theorem dX5_grownPart_51 : decode cX5_grownPart 51 = .ok (.invokestatic 33, 3) := by decide +kernel
theorem dX5_grownPart_54 : decode cX5_grownPart 54 = .ok (.ireturn, 1) := by decide +kernel
theorem dX5_grownPart_55 : decode cX5_grownPart 55 = .ok (.iload_n 2, 1) := by decide +kernel
theorem dX5_grownPart_56 : decode cX5_grownPart 56 = .ok (.iload_n 3, 1) := by decide +kernel
theorem dX5_grownPart_57 : decode cX5_grownPart 57 = .ok (.invokestatic 33, 3) := by decide +kernel
theorem dX5_grownPart_60 : decode cX5_grownPart 60 = .ok (.iload 4, 2) := by decide +kernel
theorem dX5_grownPart_62 : decode cX5_grownPart 62 = .ok (.iload_n 1, 1) := by decide +kernel
theorem dX5_grownPart_63 : decode cX5_grownPart 63 = .ok (.iload_n 2, 1) := by decide +kernel
theorem dX5_grownPart_64 : decode cX5_grownPart 64 = .ok (.if_icmp .ne 12, 3) := by decide +kernel
theorem dX5_grownPart_67 : decode cX5_grownPart 67 = .ok (.iload_n 2, 1) := by decide +kernel
theorem dX5_grownPart_68 : decode cX5_grownPart 68 = .ok (.iload_n 3, 1) := by decide +kernel
theorem dX5_grownPart_69 : decode cX5_grownPart 69 = .ok (.if_icmp .ne 7, 3) := by decide +kernel
theorem dX5_grownPart_72 : decode cX5_grownPart 72 = .ok (.iconst 1, 1) := by decide +kernel
theorem dX5_grownPart_73 : decode cX5_grownPart 73 = .ok (.goto 4, 3) := by decide +kernel
theorem dX5_grownPart_76 : decode cX5_grownPart 76 = .ok (.iconst 0, 1) := by decide +kernel
theorem dX5_grownPart_77 : decode cX5_grownPart 77 = .ok (.invokestatic 39, 3) := by decide +kernel
theorem dX5_grownPart_80 : decode cX5_grownPart 80 = .ok (.iadd, 1) := by decide +kernel
theorem dX5_grownPart_81 : decode cX5_grownPart 81 = .ok (.ireturn, 1) := by decide +kernel
theorem dX5_goBackFrom_0 : decode cX5_goBackFrom 0 = .ok (.aload_n 0, 1) := by decide +kernel
theorem dX5_goBackFrom_1 : decode cX5_goBackFrom 1 = .ok (.aload_n 1, 1) := by decide +kernel
theorem dX5_goBackFrom_2 : decode cX5_goBackFrom 2 = .ok (.getfield 15, 3) := by decide +kernel
theorem dX5_goBackFrom_5 : decode cX5_goBackFrom 5 = .ok (.putfield 15, 3) := by decide +kernel
theorem dX5_goBackFrom_8 : decode cX5_goBackFrom 8 = .ok (.aload_n 0, 1) := by decide +kernel
theorem dX5_goBackFrom_9 : decode cX5_goBackFrom 9 = .ok (.iconst 0, 1) := by decide +kernel
theorem dX5_goBackFrom_10 : decode cX5_goBackFrom 10 = .ok (.putfield 19, 3) := by decide +kernel
theorem dX5_goBackFrom_13 : decode cX5_goBackFrom 13 = .ok (.iconst 0, 1) := by decide +kernel
theorem dX5_goBackFrom_14 : decode cX5_goBackFrom 14 = .ok (.istore 5, 2) := by decide +kernel
theorem dX5_goBackFrom_16 : decode cX5_goBackFrom 16 = .ok (.aload_n 1, 1) := by decide +kernel
theorem dX5_goBackFrom_17 : decode cX5_goBackFrom 17 = .ok (.getfield 15, 3) := by decide +kernel
theorem dX5_goBackFrom_20 : decode cX5_goBackFrom 20 = .ok (.iconst 1, 1) := by decide +kernel
theorem dX5_goBackFrom_21 : decode cX5_goBackFrom 21 = .ok (.isub, 1) := by decide +kernel
theorem dX5_goBackFrom_22 : decode cX5_goBackFrom 22 = .ok (.istore 6, 2) := by decide +kernel
theorem dX5_goBackFrom_24 : decode cX5_goBackFrom 24 = .ok (.iload 6, 2) := by decide +kernel
theorem dX5_goBackFrom_26 : decode cX5_goBackFrom 26 = .ok (.ifCond .lt 106, 3) := by decide +kernel
theorem dX5_goBackFrom_29 : decode cX5_goBackFrom 29 = .ok (.aload_n 1, 1) := by decide +kernel
theorem dX5_goBackFrom_30 : decode cX5_goBackFrom 30 = .ok (.iload 6, 2) := by decide +kernel
theorem dX5_goBackFrom_32 : decode cX5_goBackFrom 32 = .ok (.invokevirtual 25, 3) := by decide +kernel
theorem dX5_goBackFrom_35 : decode cX5_goBackFrom 35 = .ok (.istore 7, 2) := by decide +kernel
theorem dX5_goBackFrom_37 : decode cX5_goBackFrom 37 = .ok (.aload_n 2, 1) := by decide +kernel
theorem dX5_goBackFrom_38 : decode cX5_goBackFrom 38 = .ok (.iload 6, 2) := by decide +kernel
theorem dX5_goBackFrom_40 : decode cX5_goBackFrom 40 = .ok (.invokevirtual 25, 3) := by decide +kernel
theorem dX5_goBackFrom_43 : decode cX5_goBackFrom 43 = .ok (.istore 8, 2) := by decide +kernel
theorem dX5_goBackFrom_45 : decode cX5_goBackFrom 45 = .ok (.aload_n 3, 1) := by decide +kernel
theorem dX5_goBackFrom_46 : decode cX5_goBackFrom 46 = .ok (.iload 6, 2) := by decide +kernel
theorem dX5_goBackFrom_48 : decode cX5_goBackFrom 48 = .ok (.invokevirtual 25, 3) := by decide +kernel
theorem dX5_goBackFrom_51 : decode cX5_goBackFrom 51 = .ok (.istore 9, 2) := by decide +kernel
theorem dX5_goBackFrom_53 : decode cX5_goBackFrom 53 = .ok (.iload 4, 2) := by decide +kernel
theorem dX5_goBackFrom_55 : decode cX5_goBackFrom 55 = .ok (.iload 7, 2) := by decide +kernel
theorem dX5_goBackFrom_57 : decode cX5_goBackFrom 57 = .ok (.iload 8, 2) := by decide +kernel
theorem dX5_goBackFrom_59 : decode cX5_goBackFrom 59 = .ok (.iload 9, 2) := by decide +kernel
theorem dX5_goBackFrom_61 : decode cX5_goBackFrom 61 = .ok (.iload 5, 2) := by decide +kernel
theorem dX5_goBackFrom_63 : decode cX5_goBackFrom 63 = .ok (.invokestatic 42, 3) := by decide +kernel
theorem dX5_goBackFrom_66 : decode cX5_goBackFrom 66 = .ok (.istore 10, 2) := by decide +kernel
theorem dX5_goBackFrom_68 : decode cX5_goBackFrom 68 = .ok (.aload_n 0, 1) := by decide +kernel
theorem dX5_goBackFrom_69 : decode cX5_goBackFrom 69 = .ok (.getfield 9, 3) := by decide +kernel
theorem dX5_goBackFrom_72 : decode cX5_goBackFrom 72 = .ok (.iload 6, 2) := by decide +kernel
theorem dX5_goBackFrom_74 : decode cX5_goBackFrom 74 = .ok (.iload 10, 2) := by decide +kernel
theorem dX5_goBackFrom_76 : decode cX5_goBackFrom 76 = .ok (.iastore, 1) := by decide +kernel
theorem dX5_goBackFrom_77 : decode cX5_goBackFrom 77 = .ok (.aload_n 0, 1) := by decide +kernel
theorem dX5_goBackFrom_78 : decode cX5_goBackFrom 78 = .ok (.dup, 1) := by decide +kernel
theorem dX5_goBackFrom_79 : decode cX5_goBackFrom 79 = .ok (.getfield 19, 3) := by decide +kernel
theorem dX5_goBackFrom_82 : decode cX5_goBackFrom 82 = .ok (.iload 10, 2) := by decide +kernel
theorem dX5_goBackFrom_84 : decode cX5_goBackFrom 84 = .ok (.iadd, 1) := by decide +kernel
theorem dX5_goBackFrom_85 : decode cX5_goBackFrom 85 = .ok (.putfield 19, 3) := by decide +kernel
theorem dX5_goBackFrom_88 : decode cX5_goBackFrom 88 = .ok (.iload 10, 2) := by decide +kernel
theorem dX5_goBackFrom_90 : decode cX5_goBackFrom 90 = .ok (.ifCond .ne 20, 3) := by decide +kernel
theorem dX5_goBackFrom_93 : decode cX5_goBackFrom 93 = .ok (.aload_n 0, 1) := by decide +kernel
theorem dX5_goBackFrom_94 : decode cX5_goBackFrom 94 = .ok (.getfield 15, 3) := by decide +kernel
theorem dX5_goBackFrom_97 : decode cX5_goBackFrom 97 = .ok (.iload 6, 2) := by decide +kernel
theorem dX5_goBackFrom_99 : decode cX5_goBackFrom 99 = .ok (.iconst 1, 1) := by decide +kernel
theorem dX5_goBackFrom_100 : decode cX5_goBackFrom 100 = .ok (.iadd, 1) := by decide +kernel
theorem dX5_goBackFrom_101 : decode cX5_goBackFrom 101 = .ok (.if_icmp .ne 9, 3) := by decide +kernel
theorem dX5_goBackFrom_104 : decode cX5_goBackFrom 104 = .ok (.aload_n 0, 1) := by decide +kernel
theorem dX5_goBackFrom_105 : decode cX5_goBackFrom 105 = .ok (.iload 6, 2) := by decide +kernel
theorem dX5_goBackFrom_107 : decode cX5_goBackFrom 107 = .ok (.putfield 15, 3) := by decide +kernel
theorem dX5_goBackFrom_110 : decode cX5_goBackFrom 110 = .ok (.iload 5, 2) := by decide +kernel
theorem dX5_goBackFrom_112 : decode cX5_goBackFrom 112 = .ok (.iload 7, 2) := by decide +kernel
theorem dX5_goBackFrom_114 : decode cX5_goBackFrom 114 = .ok (.iload 10, 2) := by decide +kernel
theorem dX5_goBackFrom_116 : decode cX5_goBackFrom 116 = .ok (.iadd, 1) := by decide +kernel
theorem dX5_goBackFrom_117 : decode cX5_goBackFrom 117 = .ok (.iload 8, 2) := by decide +kernel
theorem dX5_goBackFrom_119 : decode cX5_goBackFrom 119 = .ok (.isub, 1) := by decide +kernel
theorem dX5_goBackFrom_120 : decode cX5_goBackFrom 120 = .ok (.iload 9, 2) := by decide +kernel
theorem dX5_goBackFrom_122 : decode cX5_goBackFrom 122 = .ok (.isub, 1) := by decide +kernel
theorem dX5_goBackFrom_123 : decode cX5_goBackFrom 123 = .ok (.iadd, 1) := by decide +kernel
theorem dX5_goBackFrom_124 : decode cX5_goBackFrom 124 = .ok (.istore 5, 2) := by decide +kernel
theorem dX5_goBackFrom_126 : decode cX5_goBackFrom 126 = .ok (.iinc 6 (-1), 3) := by decide +kernel
theorem dX5_goBackFrom_129 : decode cX5_goBackFrom 129 = .ok (.goto (-105), 3) := by decide +kernel
theorem dX5_goBackFrom_132 : decode cX5_goBackFrom 132 = .ok (.iload 5, 2) := by decide +kernel
theorem dX5_goBackFrom_134 : decode cX5_goBackFrom 134 = .ok (.ireturn, 1) := by decide +kernel
theorem dX5_formerPart_0 : decode cX5_formerPart 0 = .ok (.iload_n 0, 1) := by decide +kernel
theorem dX5_formerPart_1 : decode cX5_formerPart 1 = .ok (.tableswitch 54 0 2 #[27, 36, 45], 27) := by decide +kernel
theorem dX5_formerPart_28 : decode cX5_formerPart 28 = .ok (.iload_n 2, 1) := by decide +kernel
theorem dX5_formerPart_29 : decode cX5_formerPart 29 = .ok (.iload_n 3, 1) := by decide +kernel
theorem dX5_formerPart_30 : decode cX5_formerPart 30 = .ok (.invokestatic 39, 3) := by decide +kernel
theorem dX5_formerPart_33 : decode cX5_formerPart 33 = .ok (.iload 4, 2) := by decide +kernel
theorem dX5_formerPart_35 : decode cX5_formerPart 35 = .ok (.isub, 1) := by decide +kernel
theorem dX5_formerPart_36 : decode cX5_formerPart 36 = .ok (.ireturn, 1) := by decide +kernel
theorem dX5_formerPart_37 : decode cX5_formerPart 37 = .ok (.iload_n 2, 1) := by decide +kernel
theorem dX5_formerPart_38 : decode cX5_formerPart 38 = .ok (.iload_n 3, 1) := by decide +kernel
theorem dX5_formerPart_39 : decode cX5_formerPart 39 = .ok (.iload 4, 2) := by decide +kernel
theorem dX5_formerPart_41 : decode cX5_formerPart 41 = .ok (.isub, 1) := by decide +kernel
theorem dX5_formerPart_42 : decode cX5_formerPart 42 = .ok (.invokestatic 39, 3) := by decide +kernel
theorem dX5_formerPart_45 : decode cX5_formerPart 45 = .ok (.ireturn, 1) := by decide +kernel
theorem dX5_formerPart_46 : decode cX5_formerPart 46 = .ok (.iload_n 2, 1) := by decide +kernel
theorem dX5_formerPart_47 : decode cX5_formerPart 47 = .ok (.iload 4, 2) := by decide +kernel
theorem dX5_formerPart_49 : decode cX5_formerPart 49 = .ok (.isub, 1) := by decide +kernel
theorem dX5_formerPart_50 : decode cX5_formerPart 50 = .ok (.iload_n 3, 1) := by decide +kernel
theorem dX5_formerPart_51 : decode cX5_formerPart 51 = .ok (.invokestatic 39, 3) := by decide +kernel
theorem dX5_formerPart_54 : decode cX5_formerPart 54 = .ok (.ireturn, 1) := by decide +kernel
theorem dX5_formerPart_55 : decode cX5_formerPart 55 = .ok (.iload_n 2, 1) := by decide +kernel
theorem dX5_formerPart_56 : decode cX5_formerPart 56 = .ok (.iload_n 3, 1) := by decide +kernel
theorem dX5_formerPart_57 : decode cX5_formerPart 57 = .ok (.invokestatic 39, 3) := by decide +kernel
theorem dX5_formerPart_60 : decode cX5_formerPart 60 = .ok (.iload 4, 2) := by decide +kernel
theorem dX5_formerPart_62 : decode cX5_formerPart 62 = .ok (.iload_n 1, 1) := by decide +kernel
theorem dX5_formerPart_63 : decode cX5_formerPart 63 = .ok (.iload_n 2, 1) := by decide +kernel
theorem dX5_formerPart_64 : decode cX5_formerPart 64 = .ok (.if_icmp .ne 12, 3) := by decide +kernel
theorem dX5_formerPart_67 : decode cX5_formerPart 67 = .ok (.iload_n 2, 1) := by decide +kernel
theorem dX5_formerPart_68 : decode cX5_formerPart 68 = .ok (.iload_n 3, 1) := by decide +kernel
theorem dX5_formerPart_69 : decode cX5_formerPart 69 = .ok (.if_icmp .ne 7, 3) := by decide +kernel
theorem dX5_formerPart_72 : decode cX5_formerPart 72 = .ok (.iconst 1, 1) := by decide +kernel
theorem dX5_formerPart_73 : decode cX5_formerPart 73 = .ok (.goto 4, 3) := by decide +kernel
theorem dX5_formerPart_76 : decode cX5_formerPart 76 = .ok (.iconst 0, 1) := by decide +kernel
theorem dX5_formerPart_77 : decode cX5_formerPart 77 = .ok (.invokestatic 39, 3) := by decide +kernel
theorem dX5_formerPart_80 : decode cX5_formerPart 80 = .ok (.isub, 1) := by decide +kernel
theorem dX5_formerPart_81 : decode cX5_formerPart 81 = .ok (.ireturn, 1) := by decide +kernel
theorem dX5_goesOnFrom_0 : decode cX5_goesOnFrom 0 = .ok (.iload_n 2, 1) := by decide +kernel
theorem dX5_goesOnFrom_1 : decode cX5_goesOnFrom 1 = .ok (.ifCond .eq 11, 3) := by decide +kernel
theorem dX5_goesOnFrom_4 : decode cX5_goesOnFrom 4 = .ok (.aload_n 0, 1) := by decide +kernel
theorem dX5_goesOnFrom_5 : decode cX5_goesOnFrom 5 = .ok (.aload_n 1, 1) := by decide +kernel
theorem dX5_goesOnFrom_6 : decode cX5_goesOnFrom 6 = .ok (.invokevirtual 45, 3) := by decide +kernel
theorem dX5_goesOnFrom_9 : decode cX5_goesOnFrom 9 = .ok (.goto 8, 3) := by decide +kernel
theorem dX5_goesOnFrom_12 : decode cX5_goesOnFrom 12 = .ok (.aload_n 0, 1) := by decide +kernel
theorem dX5_goesOnFrom_13 : decode cX5_goesOnFrom 13 = .ok (.aload_n 1, 1) := by decide +kernel
theorem dX5_goesOnFrom_14 : decode cX5_goesOnFrom 14 = .ok (.invokevirtual 49, 3) := by decide +kernel
theorem dX5_goesOnFrom_17 : decode cX5_goesOnFrom 17 = .ok (.ireturn, 1) := by decide +kernel
theorem dX5_goesOnLevel_0 : decode cX5_goesOnLevel 0 = .ok (.aload_n 0, 1) := by decide +kernel
theorem dX5_goesOnLevel_1 : decode cX5_goesOnLevel 1 = .ok (.getfield 15, 3) := by decide +kernel
theorem dX5_goesOnLevel_4 : decode cX5_goesOnLevel 4 = .ok (.aload_n 1, 1) := by decide +kernel
theorem dX5_goesOnLevel_5 : decode cX5_goesOnLevel 5 = .ok (.getfield 15, 3) := by decide +kernel
theorem dX5_goesOnLevel_8 : decode cX5_goesOnLevel 8 = .ok (.invokestatic 33, 3) := by decide +kernel
theorem dX5_goesOnLevel_11 : decode cX5_goesOnLevel 11 = .ok (.istore_n 2, 1) := by decide +kernel
theorem dX5_goesOnLevel_12 : decode cX5_goesOnLevel 12 = .ok (.iconst 0, 1) := by decide +kernel
theorem dX5_goesOnLevel_13 : decode cX5_goesOnLevel 13 = .ok (.istore_n 3, 1) := by decide +kernel
theorem dX5_goesOnLevel_14 : decode cX5_goesOnLevel 14 = .ok (.iload_n 3, 1) := by decide +kernel
theorem dX5_goesOnLevel_15 : decode cX5_goesOnLevel 15 = .ok (.iload_n 2, 1) := by decide +kernel
theorem dX5_goesOnLevel_16 : decode cX5_goesOnLevel 16 = .ok (.if_icmp .ge 40, 3) := by decide +kernel
theorem dX5_goesOnLevel_19 : decode cX5_goesOnLevel 19 = .ok (.aload_n 1, 1) := by decide +kernel
theorem dX5_goesOnLevel_20 : decode cX5_goesOnLevel 20 = .ok (.iload_n 3, 1) := by decide +kernel
theorem dX5_goesOnLevel_21 : decode cX5_goesOnLevel 21 = .ok (.invokevirtual 25, 3) := by decide +kernel
theorem dX5_goesOnLevel_24 : decode cX5_goesOnLevel 24 = .ok (.istore 4, 2) := by decide +kernel
theorem dX5_goesOnLevel_26 : decode cX5_goesOnLevel 26 = .ok (.aload_n 0, 1) := by decide +kernel
theorem dX5_goesOnLevel_27 : decode cX5_goesOnLevel 27 = .ok (.iload_n 3, 1) := by decide +kernel
theorem dX5_goesOnLevel_28 : decode cX5_goesOnLevel 28 = .ok (.invokevirtual 25, 3) := by decide +kernel
theorem dX5_goesOnLevel_31 : decode cX5_goesOnLevel 31 = .ok (.iload 4, 2) := by decide +kernel
theorem dX5_goesOnLevel_33 : decode cX5_goesOnLevel 33 = .ok (.if_icmp .lt 15, 3) := by decide +kernel
theorem dX5_goesOnLevel_36 : decode cX5_goesOnLevel 36 = .ok (.iload 4, 2) := by decide +kernel
theorem dX5_goesOnLevel_38 : decode cX5_goesOnLevel 38 = .ok (.aload_n 0, 1) := by decide +kernel
theorem dX5_goesOnLevel_39 : decode cX5_goesOnLevel 39 = .ok (.iload_n 3, 1) := by decide +kernel
theorem dX5_goesOnLevel_40 : decode cX5_goesOnLevel 40 = .ok (.iconst 1, 1) := by decide +kernel
theorem dX5_goesOnLevel_41 : decode cX5_goesOnLevel 41 = .ok (.iadd, 1) := by decide +kernel
theorem dX5_goesOnLevel_42 : decode cX5_goesOnLevel 42 = .ok (.invokevirtual 25, 3) := by decide +kernel
theorem dX5_goesOnLevel_45 : decode cX5_goesOnLevel 45 = .ok (.if_icmp .ge 5, 3) := by decide +kernel
theorem dX5_goesOnLevel_48 : decode cX5_goesOnLevel 48 = .ok (.iconst 0, 1) := by decide +kernel
theorem dX5_goesOnLevel_49 : decode cX5_goesOnLevel 49 = .ok (.ireturn, 1) := by decide +kernel
theorem dX5_goesOnLevel_50 : decode cX5_goesOnLevel 50 = .ok (.iinc 3 1, 3) := by decide +kernel
theorem dX5_goesOnLevel_53 : decode cX5_goesOnLevel 53 = .ok (.goto (-39), 3) := by decide +kernel
theorem dX5_goesOnLevel_56 : decode cX5_goesOnLevel 56 = .ok (.iconst 1, 1) := by decide +kernel
theorem dX5_goesOnLevel_57 : decode cX5_goesOnLevel 57 = .ok (.ireturn, 1) := by decide +kernel
theorem dX5_goesOnUpright_0 : decode cX5_goesOnUpright 0 = .ok (.aload_n 0, 1) := by decide +kernel
theorem dX5_goesOnUpright_1 : decode cX5_goesOnUpright 1 = .ok (.getfield 15, 3) := by decide +kernel
theorem dX5_goesOnUpright_4 : decode cX5_goesOnUpright 4 = .ok (.aload_n 1, 1) := by decide +kernel
theorem dX5_goesOnUpright_5 : decode cX5_goesOnUpright 5 = .ok (.getfield 15, 3) := by decide +kernel
theorem dX5_goesOnUpright_8 : decode cX5_goesOnUpright 8 = .ok (.invokestatic 33, 3) := by decide +kernel
theorem dX5_goesOnUpright_11 : decode cX5_goesOnUpright 11 = .ok (.istore_n 2, 1) := by decide +kernel
theorem dX5_goesOnUpright_12 : decode cX5_goesOnUpright 12 = .ok (.iconst 0, 1) := by decide +kernel
theorem dX5_goesOnUpright_13 : decode cX5_goesOnUpright 13 = .ok (.istore_n 3, 1) := by decide +kernel
theorem dX5_goesOnUpright_14 : decode cX5_goesOnUpright 14 = .ok (.iload_n 3, 1) := by decide +kernel
theorem dX5_goesOnUpright_15 : decode cX5_goesOnUpright 15 = .ok (.iload_n 2, 1) := by decide +kernel
theorem dX5_goesOnUpright_16 : decode cX5_goesOnUpright 16 = .ok (.if_icmp .ge 35, 3) := by decide +kernel
theorem dX5_goesOnUpright_19 : decode cX5_goesOnUpright 19 = .ok (.aload_n 0, 1) := by decide +kernel
theorem dX5_goesOnUpright_20 : decode cX5_goesOnUpright 20 = .ok (.iload_n 3, 1) := by decide +kernel
theorem dX5_goesOnUpright_21 : decode cX5_goesOnUpright 21 = .ok (.invokevirtual 25, 3) := by decide +kernel
theorem dX5_goesOnUpright_24 : decode cX5_goesOnUpright 24 = .ok (.aload_n 1, 1) := by decide +kernel
theorem dX5_goesOnUpright_25 : decode cX5_goesOnUpright 25 = .ok (.iload_n 3, 1) := by decide +kernel
theorem dX5_goesOnUpright_26 : decode cX5_goesOnUpright 26 = .ok (.invokevirtual 25, 3) := by decide +kernel
theorem dX5_goesOnUpright_29 : decode cX5_goesOnUpright 29 = .ok (.isub, 1) := by decide +kernel
theorem dX5_goesOnUpright_30 : decode cX5_goesOnUpright 30 = .ok (.istore 4, 2) := by decide +kernel
theorem dX5_goesOnUpright_32 : decode cX5_goesOnUpright 32 = .ok (.iload 4, 2) := by decide +kernel
theorem dX5_goesOnUpright_34 : decode cX5_goesOnUpright 34 = .ok (.ifCond .lt 9, 3) := by decide +kernel
theorem dX5_goesOnUpright_37 : decode cX5_goesOnUpright 37 = .ok (.iload 4, 2) := by decide +kernel
theorem dX5_goesOnUpright_39 : decode cX5_goesOnUpright 39 = .ok (.iconst 1, 1) := by decide +kernel
theorem dX5_goesOnUpright_40 : decode cX5_goesOnUpright 40 = .ok (.if_icmp .le 5, 3) := by decide +kernel
theorem dX5_goesOnUpright_43 : decode cX5_goesOnUpright 43 = .ok (.iconst 0, 1) := by decide +kernel
theorem dX5_goesOnUpright_44 : decode cX5_goesOnUpright 44 = .ok (.ireturn, 1) := by decide +kernel
theorem dX5_goesOnUpright_45 : decode cX5_goesOnUpright 45 = .ok (.iinc 3 1, 3) := by decide +kernel
theorem dX5_goesOnUpright_48 : decode cX5_goesOnUpright 48 = .ok (.goto (-34), 3) := by decide +kernel
theorem dX5_goesOnUpright_51 : decode cX5_goesOnUpright 51 = .ok (.iconst 1, 1) := by decide +kernel
theorem dX5_goesOnUpright_52 : decode cX5_goesOnUpright 52 = .ok (.ireturn, 1) := by decide +kernel
theorem dX5_standardFillings_0 : decode cX5_standardFillings 0 = .ok (.lconst 1, 1) := by decide +kernel
theorem dX5_standardFillings_1 : decode cX5_standardFillings 1 = .ok (.lstore_n 1, 1) := by decide +kernel
theorem dX5_standardFillings_2 : decode cX5_standardFillings 2 = .ok (.iconst 2, 1) := by decide +kernel
theorem dX5_standardFillings_3 : decode cX5_standardFillings 3 = .ok (.istore_n 3, 1) := by decide +kernel
theorem dX5_standardFillings_4 : decode cX5_standardFillings 4 = .ok (.iload_n 3, 1) := by decide +kernel
theorem dX5_standardFillings_5 : decode cX5_standardFillings 5 = .ok (.aload_n 0, 1) := by decide +kernel
theorem dX5_standardFillings_6 : decode cX5_standardFillings 6 = .ok (.getfield 19, 3) := by decide +kernel
theorem dX5_standardFillings_9 : decode cX5_standardFillings 9 = .ok (.if_icmp .gt 14, 3) := by decide +kernel
theorem dX5_standardFillings_12 : decode cX5_standardFillings 12 = .ok (.lload_n 1, 1) := by decide +kernel
theorem dX5_standardFillings_13 : decode cX5_standardFillings 13 = .ok (.iload_n 3, 1) := by decide +kernel
theorem dX5_standardFillings_14 : decode cX5_standardFillings 14 = .ok (.i2l, 1) := by decide +kernel
theorem dX5_standardFillings_15 : decode cX5_standardFillings 15 = .ok (.lmul, 1) := by decide +kernel
theorem dX5_standardFillings_16 : decode cX5_standardFillings 16 = .ok (.lstore_n 1, 1) := by decide +kernel
theorem dX5_standardFillings_17 : decode cX5_standardFillings 17 = .ok (.iinc 3 1, 3) := by decide +kernel
theorem dX5_standardFillings_20 : decode cX5_standardFillings 20 = .ok (.goto (-16), 3) := by decide +kernel
theorem dX5_standardFillings_23 : decode cX5_standardFillings 23 = .ok (.lconst 1, 1) := by decide +kernel
theorem dX5_standardFillings_24 : decode cX5_standardFillings 24 = .ok (.lstore_n 3, 1) := by decide +kernel
theorem dX5_standardFillings_25 : decode cX5_standardFillings 25 = .ok (.iconst 0, 1) := by decide +kernel
theorem dX5_standardFillings_26 : decode cX5_standardFillings 26 = .ok (.istore 5, 2) := by decide +kernel
theorem dX5_standardFillings_28 : decode cX5_standardFillings 28 = .ok (.iload 5, 2) := by decide +kernel
theorem dX5_standardFillings_30 : decode cX5_standardFillings 30 = .ok (.aload_n 0, 1) := by decide +kernel
theorem dX5_standardFillings_31 : decode cX5_standardFillings 31 = .ok (.getfield 15, 3) := by decide +kernel
theorem dX5_standardFillings_34 : decode cX5_standardFillings 34 = .ok (.if_icmp .ge 56, 3) := by decide +kernel
theorem dX5_standardFillings_37 : decode cX5_standardFillings 37 = .ok (.iconst 0, 1) := by decide +kernel
theorem dX5_standardFillings_38 : decode cX5_standardFillings 38 = .ok (.istore 6, 2) := by decide +kernel
theorem dX5_standardFillings_40 : decode cX5_standardFillings 40 = .ok (.iload 6, 2) := by decide +kernel
theorem dX5_standardFillings_42 : decode cX5_standardFillings 42 = .ok (.aload_n 0, 1) := by decide +kernel
theorem dX5_standardFillings_43 : decode cX5_standardFillings 43 = .ok (.getfield 9, 3) := by decide +kernel
theorem dX5_standardFillings_46 : decode cX5_standardFillings 46 = .ok (.iload 5, 2) := by decide +kernel
theorem dX5_standardFillings_48 : decode cX5_standardFillings 48 = .ok (.iaload, 1) := by decide +kernel
theorem dX5_standardFillings_49 : decode cX5_standardFillings 49 = .ok (.if_icmp .ge 35, 3) := by decide +kernel
theorem dX5_standardFillings_52 : decode cX5_standardFillings 52 = .ok (.lload_n 3, 1) := by decide +kernel
theorem dX5_standardFillings_53 : decode cX5_standardFillings 53 = .ok (.aload_n 0, 1) := by decide +kernel
theorem dX5_standardFillings_54 : decode cX5_standardFillings 54 = .ok (.getfield 9, 3) := by decide +kernel
theorem dX5_standardFillings_57 : decode cX5_standardFillings 57 = .ok (.iload 5, 2) := by decide +kernel
theorem dX5_standardFillings_59 : decode cX5_standardFillings 59 = .ok (.iaload, 1) := by decide +kernel
theorem dX5_standardFillings_60 : decode cX5_standardFillings 60 = .ok (.iload 6, 2) := by decide +kernel
theorem dX5_standardFillings_62 : decode cX5_standardFillings 62 = .ok (.isub, 1) := by decide +kernel
theorem dX5_standardFillings_63 : decode cX5_standardFillings 63 = .ok (.aload_n 0, 1) := by decide +kernel
theorem dX5_standardFillings_64 : decode cX5_standardFillings 64 = .ok (.iload 6, 2) := by decide +kernel
theorem dX5_standardFillings_66 : decode cX5_standardFillings 66 = .ok (.invokevirtual 52, 3) := by decide +kernel
theorem dX5_standardFillings_69 : decode cX5_standardFillings 69 = .ok (.iadd, 1) := by decide +kernel
theorem dX5_standardFillings_70 : decode cX5_standardFillings 70 = .ok (.iload 5, 2) := by decide +kernel
theorem dX5_standardFillings_72 : decode cX5_standardFillings 72 = .ok (.isub, 1) := by decide +kernel
theorem dX5_standardFillings_73 : decode cX5_standardFillings 73 = .ok (.iconst 1, 1) := by decide +kernel
theorem dX5_standardFillings_74 : decode cX5_standardFillings 74 = .ok (.isub, 1) := by decide +kernel
theorem dX5_standardFillings_75 : decode cX5_standardFillings 75 = .ok (.i2l, 1) := by decide +kernel
theorem dX5_standardFillings_76 : decode cX5_standardFillings 76 = .ok (.lmul, 1) := by decide +kernel
theorem dX5_standardFillings_77 : decode cX5_standardFillings 77 = .ok (.lstore_n 3, 1) := by decide +kernel
theorem dX5_standardFillings_78 : decode cX5_standardFillings 78 = .ok (.iinc 6 1, 3) := by decide +kernel
theorem dX5_standardFillings_81 : decode cX5_standardFillings 81 = .ok (.goto (-41), 3) := by decide +kernel
theorem dX5_standardFillings_84 : decode cX5_standardFillings 84 = .ok (.iinc 5 1, 3) := by decide +kernel
theorem dX5_standardFillings_87 : decode cX5_standardFillings 87 = .ok (.goto (-59), 3) := by decide +kernel
theorem dX5_standardFillings_90 : decode cX5_standardFillings 90 = .ok (.lload_n 3, 1) := by decide +kernel
theorem dX5_standardFillings_91 : decode cX5_standardFillings 91 = .ok (.lconst 0, 1) := by decide +kernel
theorem dX5_standardFillings_92 : decode cX5_standardFillings 92 = .ok (.lcmp, 1) := by decide +kernel
theorem dX5_standardFillings_93 : decode cX5_standardFillings 93 = .ok (.ifCond .le 9, 3) := by decide +kernel
theorem dX5_standardFillings_96 : decode cX5_standardFillings 96 = .ok (.lload_n 1, 1) := by decide +kernel
theorem dX5_standardFillings_97 : decode cX5_standardFillings 97 = .ok (.lload_n 3, 1) := by decide +kernel
theorem dX5_standardFillings_98 : decode cX5_standardFillings 98 = .ok (.ldiv, 1) := by decide +kernel
theorem dX5_standardFillings_99 : decode cX5_standardFillings 99 = .ok (.goto 6, 3) := by decide +kernel
theorem dX5_standardFillings_102 : decode cX5_standardFillings 102 = .ok (.ldc2_w 55, 3) := by decide +kernel
theorem dX5_standardFillings_105 : decode cX5_standardFillings 105 = .ok (.lreturn, 1) := by decide +kernel
theorem dX5_productOrWide_0 : decode cX5_productOrWide 0 = .ok (.lconst 1, 1) := by decide +kernel
theorem dX5_productOrWide_1 : decode cX5_productOrWide 1 = .ok (.lstore_n 1, 1) := by decide +kernel
theorem dX5_productOrWide_2 : decode cX5_productOrWide 2 = .ok (.iconst 0, 1) := by decide +kernel
theorem dX5_productOrWide_3 : decode cX5_productOrWide 3 = .ok (.istore_n 3, 1) := by decide +kernel
theorem dX5_productOrWide_4 : decode cX5_productOrWide 4 = .ok (.iload_n 3, 1) := by decide +kernel
theorem dX5_productOrWide_5 : decode cX5_productOrWide 5 = .ok (.aload_n 0, 1) := by decide +kernel
theorem dX5_productOrWide_6 : decode cX5_productOrWide 6 = .ok (.getfield 15, 3) := by decide +kernel
theorem dX5_productOrWide_9 : decode cX5_productOrWide 9 = .ok (.if_icmp .ge 32, 3) := by decide +kernel
theorem dX5_productOrWide_12 : decode cX5_productOrWide 12 = .ok (.lload_n 1, 1) := by decide +kernel
theorem dX5_productOrWide_13 : decode cX5_productOrWide 13 = .ok (.aload_n 0, 1) := by decide +kernel
theorem dX5_productOrWide_14 : decode cX5_productOrWide 14 = .ok (.getfield 9, 3) := by decide +kernel
theorem dX5_productOrWide_17 : decode cX5_productOrWide 17 = .ok (.iload_n 3, 1) := by decide +kernel
theorem dX5_productOrWide_18 : decode cX5_productOrWide 18 = .ok (.iaload, 1) := by decide +kernel
theorem dX5_productOrWide_19 : decode cX5_productOrWide 19 = .ok (.iconst 1, 1) := by decide +kernel
theorem dX5_productOrWide_20 : decode cX5_productOrWide 20 = .ok (.iadd, 1) := by decide +kernel
theorem dX5_productOrWide_21 : decode cX5_productOrWide 21 = .ok (.i2l, 1) := by decide +kernel
theorem dX5_productOrWide_22 : decode cX5_productOrWide 22 = .ok (.lmul, 1) := by decide +kernel
theorem dX5_productOrWide_23 : decode cX5_productOrWide 23 = .ok (.lstore_n 1, 1) := by decide +kernel
theorem dX5_productOrWide_24 : decode cX5_productOrWide 24 = .ok (.lload_n 1, 1) := by decide +kernel
theorem dX5_productOrWide_25 : decode cX5_productOrWide 25 = .ok (.ldc2_w 57, 3) := by decide +kernel
theorem dX5_productOrWide_28 : decode cX5_productOrWide 28 = .ok (.lcmp, 1) := by decide +kernel
theorem dX5_productOrWide_29 : decode cX5_productOrWide 29 = .ok (.ifCond .le 6, 3) := by decide +kernel
theorem dX5_productOrWide_32 : decode cX5_productOrWide 32 = .ok (.bipush (-6), 2) := by decide +kernel
theorem dX5_productOrWide_34 : decode cX5_productOrWide 34 = .ok (.ireturn, 1) := by decide +kernel
theorem dX5_productOrWide_35 : decode cX5_productOrWide 35 = .ok (.iinc 3 1, 3) := by decide +kernel
theorem dX5_productOrWide_38 : decode cX5_productOrWide 38 = .ok (.goto (-34), 3) := by decide +kernel
theorem dX5_productOrWide_41 : decode cX5_productOrWide 41 = .ok (.lload_n 1, 1) := by decide +kernel
theorem dX5_productOrWide_42 : decode cX5_productOrWide 42 = .ok (.l2i, 1) := by decide +kernel
theorem dX5_productOrWide_43 : decode cX5_productOrWide 43 = .ok (.ireturn, 1) := by decide +kernel
theorem dX6_init_0 : decode cX6_init 0 = .ok (.aload_n 0, 1) := by decide +kernel
theorem dX6_init_1 : decode cX6_init 1 = .ok (.invokespecial 3, 3) := by decide +kernel
theorem dX6_init_4 : decode cX6_init 4 = .ok (.aload_n 0, 1) := by decide +kernel
theorem dX6_init_5 : decode cX6_init 5 = .ok (.bipush 60, 2) := by decide +kernel
theorem dX6_init_7 : decode cX6_init 7 = .ok (.newarray .int, 2) := by decide +kernel
theorem dX6_init_9 : decode cX6_init 9 = .ok (.putfield 9, 3) := by decide +kernel
theorem dX6_init_12 : decode cX6_init 12 = .ok (.aload_n 0, 1) := by decide +kernel
theorem dX6_init_13 : decode cX6_init 13 = .ok (.iconst 0, 1) := by decide +kernel
theorem dX6_init_14 : decode cX6_init 14 = .ok (.putfield 15, 3) := by decide +kernel
theorem dX6_init_17 : decode cX6_init 17 = .ok (.return_, 1) := by decide +kernel
theorem dX7_init_0 : decode cX7_init 0 = .ok (.aload_n 0, 1) := by decide +kernel
theorem dX7_init_1 : decode cX7_init 1 = .ok (.invokespecial 5, 3) := by decide +kernel
theorem dX7_init_4 : decode cX7_init 4 = .ok (.aload_n 0, 1) := by decide +kernel
theorem dX7_init_5 : decode cX7_init 5 = .ok (.new 11, 3) := by decide +kernel
theorem dX7_init_8 : decode cX7_init 8 = .ok (.dup, 1) := by decide +kernel
theorem dX7_init_9 : decode cX7_init 9 = .ok (.invokespecial 13, 3) := by decide +kernel
theorem dX7_init_12 : decode cX7_init 12 = .ok (.putfield 14, 3) := by decide +kernel
theorem dX7_init_15 : decode cX7_init 15 = .ok (.aload_n 0, 1) := by decide +kernel
theorem dX7_init_16 : decode cX7_init 16 = .ok (.new 11, 3) := by decide +kernel
theorem dX7_init_19 : decode cX7_init 19 = .ok (.dup, 1) := by decide +kernel
theorem dX7_init_20 : decode cX7_init 20 = .ok (.invokespecial 13, 3) := by decide +kernel
theorem dX7_init_23 : decode cX7_init 23 = .ok (.putfield 18, 3) := by decide +kernel
theorem dX7_init_26 : decode cX7_init 26 = .ok (.aload_n 0, 1) := by decide +kernel
theorem dX7_init_27 : decode cX7_init 27 = .ok (.new 11, 3) := by decide +kernel
theorem dX7_init_30 : decode cX7_init 30 = .ok (.dup, 1) := by decide +kernel
theorem dX7_init_31 : decode cX7_init 31 = .ok (.invokespecial 13, 3) := by decide +kernel
theorem dX7_init_34 : decode cX7_init 34 = .ok (.putfield 21, 3) := by decide +kernel
theorem dX7_init_37 : decode cX7_init 37 = .ok (.aload_n 0, 1) := by decide +kernel
theorem dX7_init_38 : decode cX7_init 38 = .ok (.iconst 0, 1) := by decide +kernel
theorem dX7_init_39 : decode cX7_init 39 = .ok (.putfield 24, 3) := by decide +kernel
theorem dX7_init_42 : decode cX7_init 42 = .ok (.aload_n 0, 1) := by decide +kernel
theorem dX7_init_43 : decode cX7_init 43 = .ok (.new 28, 3) := by decide +kernel
theorem dX7_init_46 : decode cX7_init 46 = .ok (.dup, 1) := by decide +kernel
theorem dX7_init_47 : decode cX7_init 47 = .ok (.invokespecial 30, 3) := by decide +kernel
theorem dX7_init_50 : decode cX7_init 50 = .ok (.putfield 31, 3) := by decide +kernel
theorem dX7_init_53 : decode cX7_init 53 = .ok (.aload_n 0, 1) := by decide +kernel
theorem dX7_init_54 : decode cX7_init 54 = .ok (.iconst 0, 1) := by decide +kernel
theorem dX7_init_55 : decode cX7_init 55 = .ok (.putfield 35, 3) := by decide +kernel
theorem dX7_init_58 : decode cX7_init 58 = .ok (.aload_n 0, 1) := by decide +kernel
theorem dX7_init_59 : decode cX7_init 59 = .ok (.new 38, 3) := by decide +kernel
theorem dX7_init_62 : decode cX7_init 62 = .ok (.dup, 1) := by decide +kernel
theorem dX7_init_63 : decode cX7_init 63 = .ok (.invokespecial 40, 3) := by decide +kernel
theorem dX7_init_66 : decode cX7_init 66 = .ok (.putfield 41, 3) := by decide +kernel
theorem dX7_init_69 : decode cX7_init 69 = .ok (.aload_n 0, 1) := by decide +kernel
theorem dX7_init_70 : decode cX7_init 70 = .ok (.new 45, 3) := by decide +kernel
theorem dX7_init_73 : decode cX7_init 73 = .ok (.dup, 1) := by decide +kernel
theorem dX7_init_74 : decode cX7_init 74 = .ok (.invokespecial 47, 3) := by decide +kernel
theorem dX7_init_77 : decode cX7_init 77 = .ok (.putfield 48, 3) := by decide +kernel
theorem dX7_init_80 : decode cX7_init 80 = .ok (.aload_n 0, 1) := by decide +kernel
theorem dX7_init_81 : decode cX7_init 81 = .ok (.new 52, 3) := by decide +kernel
theorem dX7_init_84 : decode cX7_init 84 = .ok (.dup, 1) := by decide +kernel
theorem dX7_init_85 : decode cX7_init 85 = .ok (.invokespecial 54, 3) := by decide +kernel
theorem dX7_init_88 : decode cX7_init 88 = .ok (.putfield 55, 3) := by decide +kernel
theorem dX7_init_91 : decode cX7_init 91 = .ok (.aload_n 0, 1) := by decide +kernel
theorem dX7_init_92 : decode cX7_init 92 = .ok (.bipush 6, 2) := by decide +kernel
theorem dX7_init_94 : decode cX7_init 94 = .ok (.anewarray 59, 3) := by decide +kernel
theorem dX7_init_97 : decode cX7_init 97 = .ok (.putfield 61, 3) := by decide +kernel
theorem dX7_init_100 : decode cX7_init 100 = .ok (.iconst 0, 1) := by decide +kernel
theorem dX7_init_101 : decode cX7_init 101 = .ok (.istore_n 1, 1) := by decide +kernel
theorem dX7_init_102 : decode cX7_init 102 = .ok (.iload_n 1, 1) := by decide +kernel
theorem dX7_init_103 : decode cX7_init 103 = .ok (.bipush 6, 2) := by decide +kernel
theorem dX7_init_105 : decode cX7_init 105 = .ok (.if_icmp .ge 22, 3) := by decide +kernel
theorem dX7_init_108 : decode cX7_init 108 = .ok (.aload_n 0, 1) := by decide +kernel
theorem dX7_init_109 : decode cX7_init 109 = .ok (.getfield 61, 3) := by decide +kernel
theorem dX7_init_112 : decode cX7_init 112 = .ok (.iload_n 1, 1) := by decide +kernel
theorem dX7_init_113 : decode cX7_init 113 = .ok (.new 59, 3) := by decide +kernel
theorem dX7_init_116 : decode cX7_init 116 = .ok (.dup, 1) := by decide +kernel
theorem dX7_init_117 : decode cX7_init 117 = .ok (.invokespecial 65, 3) := by decide +kernel
theorem dX7_init_120 : decode cX7_init 120 = .ok (.aastore, 1) := by decide +kernel
theorem dX7_init_121 : decode cX7_init 121 = .ok (.iinc 1 1, 3) := by decide +kernel
theorem dX7_init_124 : decode cX7_init 124 = .ok (.goto (-22), 3) := by decide +kernel
theorem dX7_init_127 : decode cX7_init 127 = .ok (.return_, 1) := by decide +kernel
theorem dX7_grid_0 : decode cX7_grid 0 = .ok (.iload_n 1, 1) := by decide +kernel
theorem dX7_grid_1 : decode cX7_grid 1 = .ok (.invokestatic 66, 3) := by decide +kernel
theorem dX7_grid_4 : decode cX7_grid 4 = .ok (.ifCond .eq 10, 3) := by decide +kernel
theorem dX7_grid_7 : decode cX7_grid 7 = .ok (.iload_n 2, 1) := by decide +kernel
theorem dX7_grid_8 : decode cX7_grid 8 = .ok (.invokestatic 66, 3) := by decide +kernel
theorem dX7_grid_11 : decode cX7_grid 11 = .ok (.ifCond .ne 5, 3) := by decide +kernel
theorem dX7_grid_14 : decode cX7_grid 14 = .ok (.iconst (-1), 1) := by decide +kernel
theorem dX7_grid_15 : decode cX7_grid 15 = .ok (.ireturn, 1) := by decide +kernel
theorem dX7_grid_16 : decode cX7_grid 16 = .ok (.bipush 10, 2) := by decide +kernel
theorem dX7_grid_18 : decode cX7_grid 18 = .ok (.aload_n 0, 1) := by decide +kernel
theorem dX7_grid_19 : decode cX7_grid 19 = .ok (.getfield 14, 3) := by decide +kernel
theorem dX7_grid_22 : decode cX7_grid 22 = .ok (.getfield 70, 3) := by decide +kernel
theorem dX7_grid_25 : decode cX7_grid 25 = .ok (.imul, 1) := by decide +kernel
theorem dX7_grid_26 : decode cX7_grid 26 = .ok (.aload_n 0, 1) := by decide +kernel
theorem dX7_grid_27 : decode cX7_grid 27 = .ok (.getfield 14, 3) := by decide +kernel
theorem dX7_grid_30 : decode cX7_grid 30 = .ok (.getfield 74, 3) := by decide +kernel
theorem dX7_grid_33 : decode cX7_grid 33 = .ok (.iadd, 1) := by decide +kernel
theorem dX7_grid_34 : decode cX7_grid 34 = .ok (.istore_n 3, 1) := by decide +kernel
theorem dX7_grid_35 : decode cX7_grid 35 = .ok (.aload_n 0, 1) := by decide +kernel
theorem dX7_grid_36 : decode cX7_grid 36 = .ok (.invokevirtual 77, 3) := by decide +kernel
theorem dX7_grid_39 : decode cX7_grid 39 = .ok (.aload_n 0, 1) := by decide +kernel
theorem dX7_grid_40 : decode cX7_grid 40 = .ok (.getfield 14, 3) := by decide +kernel
theorem dX7_grid_43 : decode cX7_grid 43 = .ok (.iload_n 1, 1) := by decide +kernel
theorem dX7_grid_44 : decode cX7_grid 44 = .ok (.iload_n 2, 1) := by decide +kernel
theorem dX7_grid_45 : decode cX7_grid 45 = .ok (.invokevirtual 80, 3) := by decide +kernel
theorem dX7_grid_48 : decode cX7_grid 48 = .ok (.iload_n 3, 1) := by decide +kernel
theorem dX7_grid_49 : decode cX7_grid 49 = .ok (.ireturn, 1) := by decide +kernel
theorem dX7_put_0 : decode cX7_put 0 = .ok (.aload_n 0, 1) := by decide +kernel
theorem dX7_put_1 : decode cX7_put 1 = .ok (.getfield 14, 3) := by decide +kernel
theorem dX7_put_4 : decode cX7_put 4 = .ok (.iload_n 1, 1) := by decide +kernel
theorem dX7_put_5 : decode cX7_put 5 = .ok (.iload_n 2, 1) := by decide +kernel
theorem dX7_put_6 : decode cX7_put 6 = .ok (.invokevirtual 84, 3) := by decide +kernel
theorem dX7_put_9 : decode cX7_put 9 = .ok (.ifCond .eq 10, 3) := by decide +kernel
theorem dX7_put_12 : decode cX7_put 12 = .ok (.iload_n 3, 1) := by decide +kernel
theorem dX7_put_13 : decode cX7_put 13 = .ok (.invokestatic 88, 3) := by decide +kernel
theorem dX7_put_16 : decode cX7_put 16 = .ok (.ifCond .ne 5, 3) := by decide +kernel
theorem dX7_put_19 : decode cX7_put 19 = .ok (.iconst (-1), 1) := by decide +kernel
theorem dX7_put_20 : decode cX7_put 20 = .ok (.ireturn, 1) := by decide +kernel
theorem dX7_put_21 : decode cX7_put 21 = .ok (.aload_n 0, 1) := by decide +kernel
theorem dX7_put_22 : decode cX7_put 22 = .ok (.getfield 14, 3) := by decide +kernel
theorem dX7_put_25 : decode cX7_put 25 = .ok (.iload_n 1, 1) := by decide +kernel
theorem dX7_put_26 : decode cX7_put 26 = .ok (.iload_n 2, 1) := by decide +kernel
theorem dX7_put_27 : decode cX7_put 27 = .ok (.invokevirtual 91, 3) := by decide +kernel
theorem dX7_put_30 : decode cX7_put 30 = .ok (.istore 4, 2) := by decide +kernel
theorem dX7_put_32 : decode cX7_put 32 = .ok (.aload_n 0, 1) := by decide +kernel
theorem dX7_put_33 : decode cX7_put 33 = .ok (.invokevirtual 77, 3) := by decide +kernel
theorem dX7_put_36 : decode cX7_put 36 = .ok (.aload_n 0, 1) := by decide +kernel
theorem dX7_put_37 : decode cX7_put 37 = .ok (.getfield 14, 3) := by decide +kernel
theorem dX7_put_40 : decode cX7_put 40 = .ok (.iload_n 1, 1) := by decide +kernel
theorem dX7_put_41 : decode cX7_put 41 = .ok (.iload_n 2, 1) := by decide +kernel
theorem dX7_put_42 : decode cX7_put 42 = .ok (.iload_n 3, 1) := by decide +kernel
theorem dX7_put_43 : decode cX7_put 43 = .ok (.invokevirtual 95, 3) := by decide +kernel
theorem dX7_put_46 : decode cX7_put 46 = .ok (.iload 4, 2) := by decide +kernel
theorem dX7_put_48 : decode cX7_put 48 = .ok (.ireturn, 1) := by decide +kernel
theorem dX7_cell_0 : decode cX7_cell 0 = .ok (.aload_n 0, 1) := by decide +kernel
theorem dX7_cell_1 : decode cX7_cell 1 = .ok (.getfield 14, 3) := by decide +kernel
theorem dX7_cell_4 : decode cX7_cell 4 = .ok (.iload_n 1, 1) := by decide +kernel
theorem dX7_cell_5 : decode cX7_cell 5 = .ok (.iload_n 2, 1) := by decide +kernel
theorem dX7_cell_6 : decode cX7_cell 6 = .ok (.invokevirtual 84, 3) := by decide +kernel
theorem dX7_cell_9 : decode cX7_cell 9 = .ok (.ifCond .eq 15, 3) := by decide +kernel
theorem dX7_cell_12 : decode cX7_cell 12 = .ok (.aload_n 0, 1) := by decide +kernel
theorem dX7_cell_13 : decode cX7_cell 13 = .ok (.getfield 14, 3) := by decide +kernel
theorem dX7_cell_16 : decode cX7_cell 16 = .ok (.iload_n 1, 1) := by decide +kernel
theorem dX7_cell_17 : decode cX7_cell 17 = .ok (.iload_n 2, 1) := by decide +kernel
theorem dX7_cell_18 : decode cX7_cell 18 = .ok (.invokevirtual 91, 3) := by decide +kernel
theorem dX7_cell_21 : decode cX7_cell 21 = .ok (.goto 4, 3) := by decide +kernel
theorem dX7_cell_24 : decode cX7_cell 24 = .ok (.iconst (-1), 1) := by decide +kernel
theorem dX7_cell_25 : decode cX7_cell 25 = .ok (.ireturn, 1) := by decide +kernel
theorem dX7_rule_0 : decode cX7_rule 0 = .ok (.iload_n 1, 1) := by decide +kernel
theorem dX7_rule_1 : decode cX7_rule 1 = .ok (.invokestatic 99, 3) := by decide +kernel
theorem dX7_rule_4 : decode cX7_rule 4 = .ok (.ifCond .ne 5, 3) := by decide +kernel
theorem dX7_rule_7 : decode cX7_rule 7 = .ok (.iconst (-1), 1) := by decide +kernel
theorem dX7_rule_8 : decode cX7_rule 8 = .ok (.ireturn, 1) := by decide +kernel
theorem dX7_rule_9 : decode cX7_rule 9 = .ok (.aload_n 0, 1) := by decide +kernel
theorem dX7_rule_10 : decode cX7_rule 10 = .ok (.getfield 14, 3) := by decide +kernel
theorem dX7_rule_13 : decode cX7_rule 13 = .ok (.getfield 102, 3) := by decide +kernel
theorem dX7_rule_16 : decode cX7_rule 16 = .ok (.istore_n 2, 1) := by decide +kernel
theorem dX7_rule_17 : decode cX7_rule 17 = .ok (.aload_n 0, 1) := by decide +kernel
theorem dX7_rule_18 : decode cX7_rule 18 = .ok (.invokevirtual 77, 3) := by decide +kernel
theorem dX7_rule_21 : decode cX7_rule 21 = .ok (.aload_n 0, 1) := by decide +kernel
theorem dX7_rule_22 : decode cX7_rule 22 = .ok (.getfield 14, 3) := by decide +kernel
theorem dX7_rule_25 : decode cX7_rule 25 = .ok (.iload_n 1, 1) := by decide +kernel
theorem dX7_rule_26 : decode cX7_rule 26 = .ok (.putfield 102, 3) := by decide +kernel
theorem dX7_rule_29 : decode cX7_rule 29 = .ok (.iload_n 2, 1) := by decide +kernel
theorem dX7_rule_30 : decode cX7_rule 30 = .ok (.ireturn, 1) := by decide +kernel
theorem dX7_spelled_0 : decode cX7_spelled 0 = .ok (.aload_n 0, 1) := by decide +kernel
theorem dX7_spelled_1 : decode cX7_spelled 1 = .ok (.getfield 14, 3) := by decide +kernel
theorem dX7_spelled_4 : decode cX7_spelled 4 = .ok (.invokevirtual 116, 3) := by decide +kernel
theorem dX7_spelled_7 : decode cX7_spelled 7 = .ok (.ireturn, 1) := by decide +kernel
theorem dX7_part_0 : decode cX7_part 0 = .ok (.aload_n 0, 1) := by decide +kernel
theorem dX7_part_1 : decode cX7_part 1 = .ok (.getfield 14, 3) := by decide +kernel
theorem dX7_part_4 : decode cX7_part 4 = .ok (.iload_n 1, 1) := by decide +kernel
theorem dX7_part_5 : decode cX7_part 5 = .ok (.iload_n 2, 1) := by decide +kernel
theorem dX7_part_6 : decode cX7_part 6 = .ok (.invokevirtual 123, 3) := by decide +kernel
theorem dX7_part_9 : decode cX7_part 9 = .ok (.ifCond .eq 10, 3) := by decide +kernel
theorem dX7_part_12 : decode cX7_part 12 = .ok (.iload_n 3, 1) := by decide +kernel
theorem dX7_part_13 : decode cX7_part 13 = .ok (.invokestatic 126, 3) := by decide +kernel
theorem dX7_part_16 : decode cX7_part 16 = .ok (.ifCond .ne 5, 3) := by decide +kernel
theorem dX7_part_19 : decode cX7_part 19 = .ok (.iconst (-1), 1) := by decide +kernel
theorem dX7_part_20 : decode cX7_part 20 = .ok (.ireturn, 1) := by decide +kernel
theorem dX7_part_21 : decode cX7_part 21 = .ok (.aload_n 0, 1) := by decide +kernel
theorem dX7_part_22 : decode cX7_part 22 = .ok (.iload_n 1, 1) := by decide +kernel
theorem dX7_part_23 : decode cX7_part 23 = .ok (.iload_n 2, 1) := by decide +kernel
theorem dX7_part_24 : decode cX7_part 24 = .ok (.invokevirtual 129, 3) := by decide +kernel
theorem dX7_part_27 : decode cX7_part 27 = .ok (.iload_n 3, 1) := by decide +kernel
theorem dX7_part_28 : decode cX7_part 28 = .ok (.invokevirtual 133, 3) := by decide +kernel
theorem dX7_part_31 : decode cX7_part 31 = .ok (.ireturn, 1) := by decide +kernel
theorem dX7_shape_0 : decode cX7_shape 0 = .ok (.aload_n 0, 1) := by decide +kernel
theorem dX7_shape_1 : decode cX7_shape 1 = .ok (.getfield 14, 3) := by decide +kernel
theorem dX7_shape_4 : decode cX7_shape 4 = .ok (.iload_n 1, 1) := by decide +kernel
theorem dX7_shape_5 : decode cX7_shape 5 = .ok (.iload_n 2, 1) := by decide +kernel
theorem dX7_shape_6 : decode cX7_shape 6 = .ok (.invokevirtual 123, 3) := by decide +kernel
theorem dX7_shape_9 : decode cX7_shape 9 = .ok (.ifCond .eq 12, 3) := by decide +kernel
theorem dX7_shape_12 : decode cX7_shape 12 = .ok (.iload_n 3, 1) := by decide +kernel
theorem dX7_shape_13 : decode cX7_shape 13 = .ok (.ifCond .lt 8, 3) := by decide +kernel
theorem dX7_shape_16 : decode cX7_shape 16 = .ok (.iload_n 3, 1) := by decide +kernel
theorem dX7_shape_17 : decode cX7_shape 17 = .ok (.iconst 1, 1) := by decide +kernel
theorem dX7_shape_18 : decode cX7_shape 18 = .ok (.if_icmp .le 5, 3) := by decide +kernel
theorem dX7_shape_21 : decode cX7_shape 21 = .ok (.iconst (-1), 1) := by decide +kernel
theorem dX7_shape_22 : decode cX7_shape 22 = .ok (.ireturn, 1) := by decide +kernel
theorem dX7_shape_23 : decode cX7_shape 23 = .ok (.aload_n 0, 1) := by decide +kernel
theorem dX7_shape_24 : decode cX7_shape 24 = .ok (.iload_n 1, 1) := by decide +kernel
theorem dX7_shape_25 : decode cX7_shape 25 = .ok (.iload_n 2, 1) := by decide +kernel
theorem dX7_shape_26 : decode cX7_shape 26 = .ok (.invokevirtual 129, 3) := by decide +kernel
theorem dX7_shape_29 : decode cX7_shape 29 = .ok (.astore 4, 2) := by decide +kernel
theorem dX7_shape_31 : decode cX7_shape 31 = .ok (.iload_n 3, 1) := by decide +kernel
theorem dX7_shape_32 : decode cX7_shape 32 = .ok (.ifCond .ne 11, 3) := by decide +kernel
theorem dX7_shape_35 : decode cX7_shape 35 = .ok (.aload 4, 2) := by decide +kernel
theorem dX7_shape_37 : decode cX7_shape 37 = .ok (.getfield 139, 3) := by decide +kernel
theorem dX7_shape_40 : decode cX7_shape 40 = .ok (.goto 8, 3) := by decide +kernel
theorem dX7_shape_43 : decode cX7_shape 43 = .ok (.aload 4, 2) := by decide +kernel
theorem dX7_shape_45 : decode cX7_shape 45 = .ok (.getfield 142, 3) := by decide +kernel
theorem dX7_shape_48 : decode cX7_shape 48 = .ok (.ireturn, 1) := by decide +kernel
theorem dX7_turned_0 : decode cX7_turned 0 = .ok (.aload_n 0, 1) := by decide +kernel
theorem dX7_turned_1 : decode cX7_turned 1 = .ok (.getfield 14, 3) := by decide +kernel
theorem dX7_turned_4 : decode cX7_turned 4 = .ok (.iload_n 1, 1) := by decide +kernel
theorem dX7_turned_5 : decode cX7_turned 5 = .ok (.iload_n 2, 1) := by decide +kernel
theorem dX7_turned_6 : decode cX7_turned 6 = .ok (.invokevirtual 123, 3) := by decide +kernel
theorem dX7_turned_9 : decode cX7_turned 9 = .ok (.ifCond .eq 10, 3) := by decide +kernel
theorem dX7_turned_12 : decode cX7_turned 12 = .ok (.iload_n 3, 1) := by decide +kernel
theorem dX7_turned_13 : decode cX7_turned 13 = .ok (.invokestatic 126, 3) := by decide +kernel
theorem dX7_turned_16 : decode cX7_turned 16 = .ok (.ifCond .ne 5, 3) := by decide +kernel
theorem dX7_turned_19 : decode cX7_turned 19 = .ok (.iconst (-1), 1) := by decide +kernel
theorem dX7_turned_20 : decode cX7_turned 20 = .ok (.ireturn, 1) := by decide +kernel
theorem dX7_turned_21 : decode cX7_turned 21 = .ok (.aload_n 0, 1) := by decide +kernel
theorem dX7_turned_22 : decode cX7_turned 22 = .ok (.iload_n 1, 1) := by decide +kernel
theorem dX7_turned_23 : decode cX7_turned 23 = .ok (.iload_n 2, 1) := by decide +kernel
theorem dX7_turned_24 : decode cX7_turned 24 = .ok (.invokevirtual 129, 3) := by decide +kernel
theorem dX7_turned_27 : decode cX7_turned 27 = .ok (.iload_n 3, 1) := by decide +kernel
theorem dX7_turned_28 : decode cX7_turned 28 = .ok (.invokevirtual 145, 3) := by decide +kernel
theorem dX7_turned_31 : decode cX7_turned 31 = .ok (.ireturn, 1) := by decide +kernel
theorem dX7_standard_0 : decode cX7_standard 0 = .ok (.aload_n 0, 1) := by decide +kernel
theorem dX7_standard_1 : decode cX7_standard 1 = .ok (.getfield 14, 3) := by decide +kernel
theorem dX7_standard_4 : decode cX7_standard 4 = .ok (.iload_n 1, 1) := by decide +kernel
theorem dX7_standard_5 : decode cX7_standard 5 = .ok (.iload_n 2, 1) := by decide +kernel
theorem dX7_standard_6 : decode cX7_standard 6 = .ok (.invokevirtual 123, 3) := by decide +kernel
theorem dX7_standard_9 : decode cX7_standard 9 = .ok (.ifCond .ne 7, 3) := by decide +kernel
theorem dX7_standard_12 : decode cX7_standard 12 = .ok (.ldc2_w 148, 3) := by decide +kernel
theorem dX7_standard_15 : decode cX7_standard 15 = .ok (.lreturn, 1) := by decide +kernel
theorem dX7_standard_16 : decode cX7_standard 16 = .ok (.aload_n 0, 1) := by decide +kernel
theorem dX7_standard_17 : decode cX7_standard 17 = .ok (.iload_n 1, 1) := by decide +kernel
theorem dX7_standard_18 : decode cX7_standard 18 = .ok (.iload_n 2, 1) := by decide +kernel
theorem dX7_standard_19 : decode cX7_standard 19 = .ok (.invokevirtual 129, 3) := by decide +kernel
theorem dX7_standard_22 : decode cX7_standard 22 = .ok (.astore_n 3, 1) := by decide +kernel
theorem dX7_standard_23 : decode cX7_standard 23 = .ok (.aload_n 3, 1) := by decide +kernel
theorem dX7_standard_24 : decode cX7_standard 24 = .ok (.getfield 139, 3) := by decide +kernel
theorem dX7_standard_27 : decode cX7_standard 27 = .ok (.bipush 20, 2) := by decide +kernel
theorem dX7_standard_29 : decode cX7_standard 29 = .ok (.if_icmp .le 9, 3) := by decide +kernel
theorem dX7_standard_32 : decode cX7_standard 32 = .ok (.ldc2_w 148, 3) := by decide +kernel
theorem dX7_standard_35 : decode cX7_standard 35 = .ok (.goto 7, 3) := by decide +kernel
theorem dX7_standard_38 : decode cX7_standard 38 = .ok (.aload_n 3, 1) := by decide +kernel
theorem dX7_standard_39 : decode cX7_standard 39 = .ok (.invokevirtual 150, 3) := by decide +kernel
theorem dX7_standard_42 : decode cX7_standard 42 = .ok (.lreturn, 1) := by decide +kernel
theorem dX7_product_0 : decode cX7_product 0 = .ok (.aload_n 0, 1) := by decide +kernel
theorem dX7_product_1 : decode cX7_product 1 = .ok (.getfield 14, 3) := by decide +kernel
theorem dX7_product_4 : decode cX7_product 4 = .ok (.iload_n 1, 1) := by decide +kernel
theorem dX7_product_5 : decode cX7_product 5 = .ok (.iload_n 2, 1) := by decide +kernel
theorem dX7_product_6 : decode cX7_product 6 = .ok (.invokevirtual 123, 3) := by decide +kernel
theorem dX7_product_9 : decode cX7_product 9 = .ok (.ifCond .ne 5, 3) := by decide +kernel
theorem dX7_product_12 : decode cX7_product 12 = .ok (.iconst (-1), 1) := by decide +kernel
theorem dX7_product_13 : decode cX7_product 13 = .ok (.ireturn, 1) := by decide +kernel
theorem dX7_product_14 : decode cX7_product 14 = .ok (.aload_n 0, 1) := by decide +kernel
theorem dX7_product_15 : decode cX7_product 15 = .ok (.iload_n 1, 1) := by decide +kernel
theorem dX7_product_16 : decode cX7_product 16 = .ok (.iload_n 2, 1) := by decide +kernel
theorem dX7_product_17 : decode cX7_product 17 = .ok (.invokevirtual 129, 3) := by decide +kernel
theorem dX7_product_20 : decode cX7_product 20 = .ok (.invokevirtual 154, 3) := by decide +kernel
theorem dX7_product_23 : decode cX7_product 23 = .ok (.ireturn, 1) := by decide +kernel
theorem dX7_fits_0 : decode cX7_fits 0 = .ok (.iload_n 1, 1) := by decide +kernel
theorem dX7_fits_1 : decode cX7_fits 1 = .ok (.invokestatic 99, 3) := by decide +kernel
theorem dX7_fits_4 : decode cX7_fits 4 = .ok (.ifCond .ne 5, 3) := by decide +kernel
theorem dX7_fits_7 : decode cX7_fits 7 = .ok (.iconst (-1), 1) := by decide +kernel
theorem dX7_fits_8 : decode cX7_fits 8 = .ok (.ireturn, 1) := by decide +kernel
theorem dX7_fits_9 : decode cX7_fits 9 = .ok (.aload_n 0, 1) := by decide +kernel
theorem dX7_fits_10 : decode cX7_fits 10 = .ok (.invokevirtual 162, 3) := by decide +kernel
theorem dX7_fits_13 : decode cX7_fits 13 = .ok (.iload_n 1, 1) := by decide +kernel
theorem dX7_fits_14 : decode cX7_fits 14 = .ok (.invokevirtual 166, 3) := by decide +kernel
theorem dX7_fits_17 : decode cX7_fits 17 = .ok (.ifCond .eq 7, 3) := by decide +kernel
theorem dX7_fits_20 : decode cX7_fits 20 = .ok (.iconst 1, 1) := by decide +kernel
theorem dX7_fits_21 : decode cX7_fits 21 = .ok (.goto 4, 3) := by decide +kernel
theorem dX7_fits_24 : decode cX7_fits 24 = .ok (.iconst 0, 1) := by decide +kernel
theorem dX7_fits_25 : decode cX7_fits 25 = .ok (.ireturn, 1) := by decide +kernel
theorem dX7_back_0 : decode cX7_back 0 = .ok (.iload_n 1, 1) := by decide +kernel
theorem dX7_back_1 : decode cX7_back 1 = .ok (.invokestatic 99, 3) := by decide +kernel
theorem dX7_back_4 : decode cX7_back 4 = .ok (.ifCond .ne 5, 3) := by decide +kernel
theorem dX7_back_7 : decode cX7_back 7 = .ok (.iconst (-1), 1) := by decide +kernel
theorem dX7_back_8 : decode cX7_back 8 = .ok (.ireturn, 1) := by decide +kernel
theorem dX7_back_9 : decode cX7_back 9 = .ok (.aload_n 0, 1) := by decide +kernel
theorem dX7_back_10 : decode cX7_back 10 = .ok (.invokevirtual 162, 3) := by decide +kernel
theorem dX7_back_13 : decode cX7_back 13 = .ok (.iload_n 1, 1) := by decide +kernel
theorem dX7_back_14 : decode cX7_back 14 = .ok (.invokevirtual 166, 3) := by decide +kernel
theorem dX7_back_17 : decode cX7_back 17 = .ok (.ifCond .ne 6, 3) := by decide +kernel
theorem dX7_back_20 : decode cX7_back 20 = .ok (.bipush (-5), 2) := by decide +kernel
theorem dX7_back_22 : decode cX7_back 22 = .ok (.ireturn, 1) := by decide +kernel
theorem dX7_back_23 : decode cX7_back 23 = .ok (.aload_n 0, 1) := by decide +kernel
theorem dX7_back_24 : decode cX7_back 24 = .ok (.iconst 0, 1) := by decide +kernel
theorem dX7_back_25 : decode cX7_back 25 = .ok (.putfield 35, 3) := by decide +kernel
theorem dX7_back_28 : decode cX7_back 28 = .ok (.aload_n 0, 1) := by decide +kernel
theorem dX7_back_29 : decode cX7_back 29 = .ok (.getfield 18, 3) := by decide +kernel
theorem dX7_back_32 : decode cX7_back 32 = .ok (.aload_n 0, 1) := by decide +kernel
theorem dX7_back_33 : decode cX7_back 33 = .ok (.getfield 14, 3) := by decide +kernel
theorem dX7_back_36 : decode cX7_back 36 = .ok (.invokevirtual 119, 3) := by decide +kernel
theorem dX7_back_39 : decode cX7_back 39 = .ok (.aload_n 0, 1) := by decide +kernel
theorem dX7_back_40 : decode cX7_back 40 = .ok (.getfield 18, 3) := by decide +kernel
theorem dX7_back_43 : decode cX7_back 43 = .ok (.iload_n 1, 1) := by decide +kernel
theorem dX7_back_44 : decode cX7_back 44 = .ok (.putfield 102, 3) := by decide +kernel
theorem dX7_back_47 : decode cX7_back 47 = .ok (.aload_n 0, 1) := by decide +kernel
theorem dX7_back_48 : decode cX7_back 48 = .ok (.getfield 31, 3) := by decide +kernel
theorem dX7_back_51 : decode cX7_back 51 = .ok (.aload_n 0, 1) := by decide +kernel
theorem dX7_back_52 : decode cX7_back 52 = .ok (.getfield 18, 3) := by decide +kernel
theorem dX7_back_55 : decode cX7_back 55 = .ok (.invokevirtual 169, 3) := by decide +kernel
theorem dX7_back_58 : decode cX7_back 58 = .ok (.iconst 3, 1) := by decide +kernel
theorem dX7_back_59 : decode cX7_back 59 = .ok (.if_icmp .le 6, 3) := by decide +kernel
theorem dX7_back_62 : decode cX7_back 62 = .ok (.bipush (-5), 2) := by decide +kernel
theorem dX7_back_64 : decode cX7_back 64 = .ok (.ireturn, 1) := by decide +kernel
theorem dX7_back_65 : decode cX7_back 65 = .ok (.aload_n 0, 1) := by decide +kernel
theorem dX7_back_66 : decode cX7_back 66 = .ok (.getfield 14, 3) := by decide +kernel
theorem dX7_back_69 : decode cX7_back 69 = .ok (.aload_n 0, 1) := by decide +kernel
theorem dX7_back_70 : decode cX7_back 70 = .ok (.getfield 18, 3) := by decide +kernel
theorem dX7_back_73 : decode cX7_back 73 = .ok (.invokevirtual 173, 3) := by decide +kernel
theorem dX7_back_76 : decode cX7_back 76 = .ok (.istore_n 2, 1) := by decide +kernel
theorem dX7_back_77 : decode cX7_back 77 = .ok (.aload_n 0, 1) := by decide +kernel
theorem dX7_back_78 : decode cX7_back 78 = .ok (.invokevirtual 77, 3) := by decide +kernel
theorem dX7_back_81 : decode cX7_back 81 = .ok (.aload_n 0, 1) := by decide +kernel
theorem dX7_back_82 : decode cX7_back 82 = .ok (.getfield 14, 3) := by decide +kernel
theorem dX7_back_85 : decode cX7_back 85 = .ok (.aload_n 0, 1) := by decide +kernel
theorem dX7_back_86 : decode cX7_back 86 = .ok (.getfield 18, 3) := by decide +kernel
theorem dX7_back_89 : decode cX7_back 89 = .ok (.invokevirtual 119, 3) := by decide +kernel
theorem dX7_back_92 : decode cX7_back 92 = .ok (.iload_n 2, 1) := by decide +kernel
theorem dX7_back_93 : decode cX7_back 93 = .ok (.ireturn, 1) := by decide +kernel
theorem dX7_longest_0 : decode cX7_longest 0 = .ok (.iload_n 1, 1) := by decide +kernel
theorem dX7_longest_1 : decode cX7_longest 1 = .ok (.ifCond .lt 17, 3) := by decide +kernel
theorem dX7_longest_4 : decode cX7_longest 4 = .ok (.iload_n 1, 1) := by decide +kernel
theorem dX7_longest_5 : decode cX7_longest 5 = .ok (.iconst 4, 1) := by decide +kernel
theorem dX7_longest_6 : decode cX7_longest 6 = .ok (.if_icmp .ge 12, 3) := by decide +kernel
theorem dX7_longest_9 : decode cX7_longest 9 = .ok (.iload_n 2, 1) := by decide +kernel
theorem dX7_longest_10 : decode cX7_longest 10 = .ok (.ifCond .lt 8, 3) := by decide +kernel
theorem dX7_longest_13 : decode cX7_longest 13 = .ok (.iload_n 2, 1) := by decide +kernel
theorem dX7_longest_14 : decode cX7_longest 14 = .ok (.iconst 1, 1) := by decide +kernel
theorem dX7_longest_15 : decode cX7_longest 15 = .ok (.if_icmp .le 5, 3) := by decide +kernel
theorem dX7_longest_18 : decode cX7_longest 18 = .ok (.iconst (-1), 1) := by decide +kernel
theorem dX7_longest_19 : decode cX7_longest 19 = .ok (.ireturn, 1) := by decide +kernel
theorem dX7_longest_20 : decode cX7_longest 20 = .ok (.aload_n 0, 1) := by decide +kernel
theorem dX7_longest_21 : decode cX7_longest 21 = .ok (.getfield 41, 3) := by decide +kernel
theorem dX7_longest_24 : decode cX7_longest 24 = .ok (.aload_n 0, 1) := by decide +kernel
theorem dX7_longest_25 : decode cX7_longest 25 = .ok (.getfield 14, 3) := by decide +kernel
theorem dX7_longest_28 : decode cX7_longest 28 = .ok (.iload_n 1, 1) := by decide +kernel
theorem dX7_longest_29 : decode cX7_longest 29 = .ok (.iload_n 2, 1) := by decide +kernel
theorem dX7_longest_30 : decode cX7_longest 30 = .ok (.iconst 1, 1) := by decide +kernel
theorem dX7_longest_31 : decode cX7_longest 31 = .ok (.if_icmp .ne 7, 3) := by decide +kernel
theorem dX7_longest_34 : decode cX7_longest 34 = .ok (.iconst 1, 1) := by decide +kernel
theorem dX7_longest_35 : decode cX7_longest 35 = .ok (.goto 4, 3) := by decide +kernel
theorem dX7_longest_38 : decode cX7_longest 38 = .ok (.iconst 0, 1) := by decide +kernel
theorem dX7_longest_39 : decode cX7_longest 39 = .ok (.invokevirtual 176, 3) := by decide +kernel
theorem dX7_longest_42 : decode cX7_longest 42 = .ok (.ireturn, 1) := by decide +kernel
theorem dX7_undo_0 : decode cX7_undo 0 = .ok (.aload_n 0, 1) := by decide +kernel
theorem dX7_undo_1 : decode cX7_undo 1 = .ok (.getfield 48, 3) := by decide +kernel
theorem dX7_undo_4 : decode cX7_undo 4 = .ok (.invokevirtual 193, 3) := by decide +kernel
theorem dX7_undo_7 : decode cX7_undo 7 = .ok (.ifCond .ne 6, 3) := by decide +kernel
theorem dX7_undo_10 : decode cX7_undo 10 = .ok (.bipush (-5), 2) := by decide +kernel
theorem dX7_undo_12 : decode cX7_undo 12 = .ok (.ireturn, 1) := by decide +kernel
theorem dX7_undo_13 : decode cX7_undo 13 = .ok (.aload_n 0, 1) := by decide +kernel
theorem dX7_undo_14 : decode cX7_undo 14 = .ok (.getfield 48, 3) := by decide +kernel
theorem dX7_undo_17 : decode cX7_undo 17 = .ok (.aload_n 0, 1) := by decide +kernel
theorem dX7_undo_18 : decode cX7_undo 18 = .ok (.getfield 14, 3) := by decide +kernel
theorem dX7_undo_21 : decode cX7_undo 21 = .ok (.invokevirtual 196, 3) := by decide +kernel
theorem dX7_undo_24 : decode cX7_undo 24 = .ok (.aload_n 0, 1) := by decide +kernel
theorem dX7_undo_25 : decode cX7_undo 25 = .ok (.iconst 0, 1) := by decide +kernel
theorem dX7_undo_26 : decode cX7_undo 26 = .ok (.putfield 35, 3) := by decide +kernel
theorem dX7_undo_29 : decode cX7_undo 29 = .ok (.aload_n 0, 1) := by decide +kernel
theorem dX7_undo_30 : decode cX7_undo 30 = .ok (.getfield 48, 3) := by decide +kernel
theorem dX7_undo_33 : decode cX7_undo 33 = .ok (.invokevirtual 193, 3) := by decide +kernel
theorem dX7_undo_36 : decode cX7_undo 36 = .ok (.ireturn, 1) := by decide +kernel
theorem dX7_again_0 : decode cX7_again 0 = .ok (.aload_n 0, 1) := by decide +kernel
theorem dX7_again_1 : decode cX7_again 1 = .ok (.getfield 48, 3) := by decide +kernel
theorem dX7_again_4 : decode cX7_again 4 = .ok (.invokevirtual 199, 3) := by decide +kernel
theorem dX7_again_7 : decode cX7_again 7 = .ok (.ifCond .ne 6, 3) := by decide +kernel
theorem dX7_again_10 : decode cX7_again 10 = .ok (.bipush (-5), 2) := by decide +kernel
theorem dX7_again_12 : decode cX7_again 12 = .ok (.ireturn, 1) := by decide +kernel
theorem dX7_again_13 : decode cX7_again 13 = .ok (.aload_n 0, 1) := by decide +kernel
theorem dX7_again_14 : decode cX7_again 14 = .ok (.getfield 48, 3) := by decide +kernel
theorem dX7_again_17 : decode cX7_again 17 = .ok (.aload_n 0, 1) := by decide +kernel
theorem dX7_again_18 : decode cX7_again 18 = .ok (.getfield 14, 3) := by decide +kernel
theorem dX7_again_21 : decode cX7_again 21 = .ok (.invokevirtual 202, 3) := by decide +kernel
theorem dX7_again_24 : decode cX7_again 24 = .ok (.aload_n 0, 1) := by decide +kernel
theorem dX7_again_25 : decode cX7_again 25 = .ok (.iconst 0, 1) := by decide +kernel
theorem dX7_again_26 : decode cX7_again 26 = .ok (.putfield 35, 3) := by decide +kernel
theorem dX7_again_29 : decode cX7_again 29 = .ok (.aload_n 0, 1) := by decide +kernel
theorem dX7_again_30 : decode cX7_again 30 = .ok (.getfield 48, 3) := by decide +kernel
theorem dX7_again_33 : decode cX7_again 33 = .ok (.invokevirtual 199, 3) := by decide +kernel
theorem dX7_again_36 : decode cX7_again 36 = .ok (.ireturn, 1) := by decide +kernel
theorem dX7_restore_0 : decode cX7_restore 0 = .ok (.aload_n 0, 1) := by decide +kernel
theorem dX7_restore_1 : decode cX7_restore 1 = .ok (.getfield 24, 3) := by decide +kernel
theorem dX7_restore_4 : decode cX7_restore 4 = .ok (.ifCond .ne 6, 3) := by decide +kernel
theorem dX7_restore_7 : decode cX7_restore 7 = .ok (.bipush (-5), 2) := by decide +kernel
theorem dX7_restore_9 : decode cX7_restore 9 = .ok (.ireturn, 1) := by decide +kernel
theorem dX7_restore_10 : decode cX7_restore 10 = .ok (.aload_n 0, 1) := by decide +kernel
theorem dX7_restore_11 : decode cX7_restore 11 = .ok (.getfield 14, 3) := by decide +kernel
theorem dX7_restore_14 : decode cX7_restore 14 = .ok (.aload_n 0, 1) := by decide +kernel
theorem dX7_restore_15 : decode cX7_restore 15 = .ok (.getfield 21, 3) := by decide +kernel
theorem dX7_restore_18 : decode cX7_restore 18 = .ok (.invokevirtual 119, 3) := by decide +kernel
theorem dX7_restore_21 : decode cX7_restore 21 = .ok (.aload_n 0, 1) := by decide +kernel
theorem dX7_restore_22 : decode cX7_restore 22 = .ok (.iconst 0, 1) := by decide +kernel
theorem dX7_restore_23 : decode cX7_restore 23 = .ok (.putfield 35, 3) := by decide +kernel
theorem dX7_restore_26 : decode cX7_restore 26 = .ok (.aload_n 0, 1) := by decide +kernel
theorem dX7_restore_27 : decode cX7_restore 27 = .ok (.getfield 48, 3) := by decide +kernel
theorem dX7_restore_30 : decode cX7_restore 30 = .ok (.invokevirtual 252, 3) := by decide +kernel
theorem dX7_restore_33 : decode cX7_restore 33 = .ok (.aload_n 0, 1) := by decide +kernel
theorem dX7_restore_34 : decode cX7_restore 34 = .ok (.getfield 14, 3) := by decide +kernel
theorem dX7_restore_37 : decode cX7_restore 37 = .ok (.invokevirtual 112, 3) := by decide +kernel
theorem dX7_restore_40 : decode cX7_restore 40 = .ok (.ireturn, 1) := by decide +kernel
theorem dX7_count_0 : decode cX7_count 0 = .ok (.iload_n 1, 1) := by decide +kernel
theorem dX7_count_1 : decode cX7_count 1 = .ok (.tableswitch 99 0 6 #[43, 51, 59, 67, 75, 83, 91], 43) := by decide +kernel
theorem dX7_count_44 : decode cX7_count 44 = .ok (.aload_n 0, 1) := by decide +kernel
theorem dX7_count_45 : decode cX7_count 45 = .ok (.getfield 14, 3) := by decide +kernel
theorem dX7_count_48 : decode cX7_count 48 = .ok (.getfield 70, 3) := by decide +kernel
theorem dX7_count_51 : decode cX7_count 51 = .ok (.ireturn, 1) := by decide +kernel
theorem dX7_count_52 : decode cX7_count 52 = .ok (.aload_n 0, 1) := by decide +kernel
theorem dX7_count_53 : decode cX7_count 53 = .ok (.getfield 14, 3) := by decide +kernel
theorem dX7_count_56 : decode cX7_count 56 = .ok (.getfield 74, 3) := by decide +kernel
theorem dX7_count_59 : decode cX7_count 59 = .ok (.ireturn, 1) := by decide +kernel
theorem dX7_count_60 : decode cX7_count 60 = .ok (.aload_n 0, 1) := by decide +kernel
theorem dX7_count_61 : decode cX7_count 61 = .ok (.getfield 14, 3) := by decide +kernel
theorem dX7_count_64 : decode cX7_count 64 = .ok (.getfield 102, 3) := by decide +kernel
theorem dX7_count_67 : decode cX7_count 67 = .ok (.ireturn, 1) := by decide +kernel
theorem dX7_count_68 : decode cX7_count 68 = .ok (.aload_n 0, 1) := by decide +kernel
theorem dX7_count_69 : decode cX7_count 69 = .ok (.getfield 48, 3) := by decide +kernel
theorem dX7_count_72 : decode cX7_count 72 = .ok (.invokevirtual 193, 3) := by decide +kernel
theorem dX7_count_75 : decode cX7_count 75 = .ok (.ireturn, 1) := by decide +kernel
theorem dX7_count_76 : decode cX7_count 76 = .ok (.aload_n 0, 1) := by decide +kernel
theorem dX7_count_77 : decode cX7_count 77 = .ok (.getfield 48, 3) := by decide +kernel
theorem dX7_count_80 : decode cX7_count 80 = .ok (.invokevirtual 199, 3) := by decide +kernel
theorem dX7_count_83 : decode cX7_count 83 = .ok (.ireturn, 1) := by decide +kernel
theorem dX7_count_84 : decode cX7_count 84 = .ok (.aload_n 0, 1) := by decide +kernel
theorem dX7_count_85 : decode cX7_count 85 = .ok (.getfield 55, 3) := by decide +kernel
theorem dX7_count_88 : decode cX7_count 88 = .ok (.getfield 205, 3) := by decide +kernel
theorem dX7_count_91 : decode cX7_count 91 = .ok (.ireturn, 1) := by decide +kernel
theorem dX7_count_92 : decode cX7_count 92 = .ok (.aload_n 0, 1) := by decide +kernel
theorem dX7_count_93 : decode cX7_count 93 = .ok (.getfield 14, 3) := by decide +kernel
theorem dX7_count_96 : decode cX7_count 96 = .ok (.invokevirtual 255, 3) := by decide +kernel
theorem dX7_count_99 : decode cX7_count 99 = .ok (.ireturn, 1) := by decide +kernel
theorem dX7_count_100 : decode cX7_count 100 = .ok (.iconst (-1), 1) := by decide +kernel
theorem dX7_count_101 : decode cX7_count 101 = .ok (.ireturn, 1) := by decide +kernel
theorem dX7_isSide_0 : decode cX7_isSide 0 = .ok (.iload_n 0, 1) := by decide +kernel
theorem dX7_isSide_1 : decode cX7_isSide 1 = .ok (.iconst 1, 1) := by decide +kernel
theorem dX7_isSide_2 : decode cX7_isSide 2 = .ok (.if_icmp .lt 12, 3) := by decide +kernel
theorem dX7_isSide_5 : decode cX7_isSide 5 = .ok (.iload_n 0, 1) := by decide +kernel
theorem dX7_isSide_6 : decode cX7_isSide 6 = .ok (.iconst 5, 1) := by decide +kernel
theorem dX7_isSide_7 : decode cX7_isSide 7 = .ok (.if_icmp .gt 7, 3) := by decide +kernel
theorem dX7_isSide_10 : decode cX7_isSide 10 = .ok (.iconst 1, 1) := by decide +kernel
theorem dX7_isSide_11 : decode cX7_isSide 11 = .ok (.goto 4, 3) := by decide +kernel
theorem dX7_isSide_14 : decode cX7_isSide 14 = .ok (.iconst 0, 1) := by decide +kernel
theorem dX7_isSide_15 : decode cX7_isSide 15 = .ok (.ireturn, 1) := by decide +kernel
theorem dX7_isNumber_0 : decode cX7_isNumber 0 = .ok (.iload_n 0, 1) := by decide +kernel
theorem dX7_isNumber_1 : decode cX7_isNumber 1 = .ok (.ifCond .lt 12, 3) := by decide +kernel
theorem dX7_isNumber_4 : decode cX7_isNumber 4 = .ok (.iload_n 0, 1) := by decide +kernel
theorem dX7_isNumber_5 : decode cX7_isNumber 5 = .ok (.iconst 3, 1) := by decide +kernel
theorem dX7_isNumber_6 : decode cX7_isNumber 6 = .ok (.if_icmp .gt 7, 3) := by decide +kernel
theorem dX7_isNumber_9 : decode cX7_isNumber 9 = .ok (.iconst 1, 1) := by decide +kernel
theorem dX7_isNumber_10 : decode cX7_isNumber 10 = .ok (.goto 4, 3) := by decide +kernel
theorem dX7_isNumber_13 : decode cX7_isNumber 13 = .ok (.iconst 0, 1) := by decide +kernel
theorem dX7_isNumber_14 : decode cX7_isNumber 14 = .ok (.ireturn, 1) := by decide +kernel
theorem dX7_isRule_0 : decode cX7_isRule 0 = .ok (.iload_n 0, 1) := by decide +kernel
theorem dX7_isRule_1 : decode cX7_isRule 1 = .ok (.ifCond .lt 12, 3) := by decide +kernel
theorem dX7_isRule_4 : decode cX7_isRule 4 = .ok (.iload_n 0, 1) := by decide +kernel
theorem dX7_isRule_5 : decode cX7_isRule 5 = .ok (.iconst 4, 1) := by decide +kernel
theorem dX7_isRule_6 : decode cX7_isRule 6 = .ok (.if_icmp .ge 7, 3) := by decide +kernel
theorem dX7_isRule_9 : decode cX7_isRule 9 = .ok (.iconst 1, 1) := by decide +kernel
theorem dX7_isRule_10 : decode cX7_isRule 10 = .ok (.goto 4, 3) := by decide +kernel
theorem dX7_isRule_13 : decode cX7_isRule 13 = .ok (.iconst 0, 1) := by decide +kernel
theorem dX7_isRule_14 : decode cX7_isRule 14 = .ok (.ireturn, 1) := by decide +kernel
theorem dX7_isPlace_0 : decode cX7_isPlace 0 = .ok (.iload_n 0, 1) := by decide +kernel
theorem dX7_isPlace_1 : decode cX7_isPlace 1 = .ok (.ifCond .lt 13, 3) := by decide +kernel
theorem dX7_isPlace_4 : decode cX7_isPlace 4 = .ok (.iload_n 0, 1) := by decide +kernel
theorem dX7_isPlace_5 : decode cX7_isPlace 5 = .ok (.bipush 100, 2) := by decide +kernel
theorem dX7_isPlace_7 : decode cX7_isPlace 7 = .ok (.if_icmp .ge 7, 3) := by decide +kernel
theorem dX7_isPlace_10 : decode cX7_isPlace 10 = .ok (.iconst 1, 1) := by decide +kernel
theorem dX7_isPlace_11 : decode cX7_isPlace 11 = .ok (.goto 4, 3) := by decide +kernel
theorem dX7_isPlace_14 : decode cX7_isPlace 14 = .ok (.iconst 0, 1) := by decide +kernel
theorem dX7_isPlace_15 : decode cX7_isPlace 15 = .ok (.ireturn, 1) := by decide +kernel
theorem dX7_beginDeed_0 : decode cX7_beginDeed 0 = .ok (.aload_n 0, 1) := by decide +kernel
theorem dX7_beginDeed_1 : decode cX7_beginDeed 1 = .ok (.getfield 48, 3) := by decide +kernel
theorem dX7_beginDeed_4 : decode cX7_beginDeed 4 = .ok (.aload_n 0, 1) := by decide +kernel
theorem dX7_beginDeed_5 : decode cX7_beginDeed 5 = .ok (.getfield 14, 3) := by decide +kernel
theorem dX7_beginDeed_8 : decode cX7_beginDeed 8 = .ok (.invokevirtual 258, 3) := by decide +kernel
theorem dX7_beginDeed_11 : decode cX7_beginDeed 11 = .ok (.aload_n 0, 1) := by decide +kernel
theorem dX7_beginDeed_12 : decode cX7_beginDeed 12 = .ok (.iconst 0, 1) := by decide +kernel
theorem dX7_beginDeed_13 : decode cX7_beginDeed 13 = .ok (.putfield 35, 3) := by decide +kernel
theorem dX7_beginDeed_16 : decode cX7_beginDeed 16 = .ok (.return_, 1) := by decide +kernel
theorem dX7_grownCorners_0 : decode cX7_grownCorners 0 = .ok (.aload_n 0, 1) := by decide +kernel
theorem dX7_grownCorners_1 : decode cX7_grownCorners 1 = .ok (.getfield 35, 3) := by decide +kernel
theorem dX7_grownCorners_4 : decode cX7_grownCorners 4 = .ok (.ifCond .ne 19, 3) := by decide +kernel
theorem dX7_grownCorners_7 : decode cX7_grownCorners 7 = .ok (.aload_n 0, 1) := by decide +kernel
theorem dX7_grownCorners_8 : decode cX7_grownCorners 8 = .ok (.getfield 31, 3) := by decide +kernel
theorem dX7_grownCorners_11 : decode cX7_grownCorners 11 = .ok (.aload_n 0, 1) := by decide +kernel
theorem dX7_grownCorners_12 : decode cX7_grownCorners 12 = .ok (.getfield 14, 3) := by decide +kernel
theorem dX7_grownCorners_15 : decode cX7_grownCorners 15 = .ok (.invokevirtual 261, 3) := by decide +kernel
theorem dX7_grownCorners_18 : decode cX7_grownCorners 18 = .ok (.aload_n 0, 1) := by decide +kernel
theorem dX7_grownCorners_19 : decode cX7_grownCorners 19 = .ok (.iconst 1, 1) := by decide +kernel
theorem dX7_grownCorners_20 : decode cX7_grownCorners 20 = .ok (.putfield 35, 3) := by decide +kernel
theorem dX7_grownCorners_23 : decode cX7_grownCorners 23 = .ok (.aload_n 0, 1) := by decide +kernel
theorem dX7_grownCorners_24 : decode cX7_grownCorners 24 = .ok (.getfield 31, 3) := by decide +kernel
theorem dX7_grownCorners_27 : decode cX7_grownCorners 27 = .ok (.areturn, 1) := by decide +kernel
theorem dX7_shapeAt_0 : decode cX7_shapeAt 0 = .ok (.aload_n 0, 1) := by decide +kernel
theorem dX7_shapeAt_1 : decode cX7_shapeAt 1 = .ok (.invokevirtual 162, 3) := by decide +kernel
theorem dX7_shapeAt_4 : decode cX7_shapeAt 4 = .ok (.iload_n 1, 1) := by decide +kernel
theorem dX7_shapeAt_5 : decode cX7_shapeAt 5 = .ok (.iload_n 2, 1) := by decide +kernel
theorem dX7_shapeAt_6 : decode cX7_shapeAt 6 = .ok (.invokevirtual 264, 3) := by decide +kernel
theorem dX7_shapeAt_9 : decode cX7_shapeAt 9 = .ok (.areturn, 1) := by decide +kernel
theorem dJ9_max_7cf53_0 : decode cJ9_max_7cf53 0 = .ok (.iload_n 0, 1) := by decide +kernel
theorem dJ9_max_7cf53_1 : decode cJ9_max_7cf53 1 = .ok (.iload_n 1, 1) := by decide +kernel
theorem dJ9_max_7cf53_2 : decode cJ9_max_7cf53 2 = .ok (.if_icmp .lt 7, 3) := by decide +kernel
theorem dJ9_max_7cf53_5 : decode cJ9_max_7cf53 5 = .ok (.iload_n 0, 1) := by decide +kernel
theorem dJ9_max_7cf53_6 : decode cJ9_max_7cf53 6 = .ok (.goto 4, 3) := by decide +kernel
theorem dJ9_max_7cf53_9 : decode cJ9_max_7cf53 9 = .ok (.iload_n 1, 1) := by decide +kernel
theorem dJ9_max_7cf53_10 : decode cJ9_max_7cf53 10 = .ok (.ireturn, 1) := by decide +kernel
theorem dJ9_min_7cf53_0 : decode cJ9_min_7cf53 0 = .ok (.iload_n 0, 1) := by decide +kernel
theorem dJ9_min_7cf53_1 : decode cJ9_min_7cf53 1 = .ok (.iload_n 1, 1) := by decide +kernel
theorem dJ9_min_7cf53_2 : decode cJ9_min_7cf53 2 = .ok (.if_icmp .gt 7, 3) := by decide +kernel
theorem dJ9_min_7cf53_5 : decode cJ9_min_7cf53 5 = .ok (.iload_n 0, 1) := by decide +kernel
theorem dJ9_min_7cf53_6 : decode cJ9_min_7cf53 6 = .ok (.goto 4, 3) := by decide +kernel
theorem dJ9_min_7cf53_9 : decode cJ9_min_7cf53 9 = .ok (.iload_n 1, 1) := by decide +kernel
theorem dJ9_min_7cf53_10 : decode cJ9_min_7cf53 10 = .ok (.ireturn, 1) := by decide +kernel
theorem dL_cell_0 : decode cL_cell 0 = .ok (.iload_n 1, 1) := by decide +kernel
theorem dL_cell_1 : decode cL_cell 1 = .ok (.aload_n 0, 1) := by decide +kernel
theorem dL_cell_2 : decode cL_cell 2 = .ok (.arraylength, 1) := by decide +kernel
theorem dL_cell_3 : decode cL_cell 3 = .ok (.if_icmp .ge 9, 3) := by decide +kernel
theorem dL_cell_6 : decode cL_cell 6 = .ok (.aload_n 0, 1) := by decide +kernel
theorem dL_cell_7 : decode cL_cell 7 = .ok (.iload_n 1, 1) := by decide +kernel
theorem dL_cell_8 : decode cL_cell 8 = .ok (.iaload, 1) := by decide +kernel
theorem dL_cell_9 : decode cL_cell 9 = .ok (.goto 11, 3) := by decide +kernel
theorem dL_cell_12 : decode cL_cell 12 = .ok (.sipush 7919, 3) := by decide +kernel
theorem dL_cell_15 : decode cL_cell 15 = .ok (.iload_n 1, 1) := by decide +kernel
theorem dL_cell_16 : decode cL_cell 16 = .ok (.imul, 1) := by decide +kernel
theorem dL_cell_17 : decode cL_cell 17 = .ok (.bipush 12, 2) := by decide +kernel
theorem dL_cell_19 : decode cL_cell 19 = .ok (.iadd, 1) := by decide +kernel
theorem dL_cell_20 : decode cL_cell 20 = .ok (.ireturn, 1) := by decide +kernel
theorem dL_some_0 : decode cL_some 0 = .ok (.aload_n 0, 1) := by decide +kernel
theorem dL_some_1 : decode cL_some 1 = .ok (.iload_n 1, 1) := by decide +kernel
theorem dL_some_2 : decode cL_some 2 = .ok (.invokestatic 7, 3) := by decide +kernel
theorem dL_some_5 : decode cL_some 5 = .ok (.iconst 3, 1) := by decide +kernel
theorem dL_some_6 : decode cL_some 6 = .ok (.iushr, 1) := by decide +kernel
theorem dL_some_7 : decode cL_some 7 = .ok (.iload_n 2, 1) := by decide +kernel
theorem dL_some_8 : decode cL_some 8 = .ok (.irem, 1) := by decide +kernel
theorem dL_some_9 : decode cL_some 9 = .ok (.ireturn, 1) := by decide +kernel
theorem dL_setUp_0 : decode cL_setUp 0 = .ok (.iconst 1, 1) := by decide +kernel
theorem dL_setUp_1 : decode cL_setUp 1 = .ok (.aload_n 1, 1) := by decide +kernel
theorem dL_setUp_2 : decode cL_setUp 2 = .ok (.iload_n 2, 1) := by decide +kernel
theorem dL_setUp_3 : decode cL_setUp 3 = .ok (.iconst 5, 1) := by decide +kernel
theorem dL_setUp_4 : decode cL_setUp 4 = .ok (.invokestatic 13, 3) := by decide +kernel
theorem dL_setUp_7 : decode cL_setUp 7 = .ok (.iadd, 1) := by decide +kernel
theorem dL_setUp_8 : decode cL_setUp 8 = .ok (.istore_n 3, 1) := by decide +kernel
theorem dL_setUp_9 : decode cL_setUp 9 = .ok (.iconst 1, 1) := by decide +kernel
theorem dL_setUp_10 : decode cL_setUp 10 = .ok (.aload_n 1, 1) := by decide +kernel
theorem dL_setUp_11 : decode cL_setUp 11 = .ok (.iload_n 2, 1) := by decide +kernel
theorem dL_setUp_12 : decode cL_setUp 12 = .ok (.iconst 1, 1) := by decide +kernel
theorem dL_setUp_13 : decode cL_setUp 13 = .ok (.iadd, 1) := by decide +kernel
theorem dL_setUp_14 : decode cL_setUp 14 = .ok (.iconst 5, 1) := by decide +kernel
theorem dL_setUp_15 : decode cL_setUp 15 = .ok (.invokestatic 13, 3) := by decide +kernel
theorem dL_setUp_18 : decode cL_setUp 18 = .ok (.iadd, 1) := by decide +kernel
theorem dL_setUp_19 : decode cL_setUp 19 = .ok (.istore 4, 2) := by decide +kernel
theorem dL_setUp_21 : decode cL_setUp 21 = .ok (.aload_n 0, 1) := by decide +kernel
theorem dL_setUp_22 : decode cL_setUp 22 = .ok (.iload_n 3, 1) := by decide +kernel
theorem dL_setUp_23 : decode cL_setUp 23 = .ok (.iload 4, 2) := by decide +kernel
theorem dL_setUp_25 : decode cL_setUp 25 = .ok (.invokevirtual 17, 3) := by decide +kernel
theorem dL_setUp_28 : decode cL_setUp 28 = .ok (.pop, 1) := by decide +kernel
theorem dL_setUp_29 : decode cL_setUp 29 = .ok (.iconst 1, 1) := by decide +kernel
theorem dL_setUp_30 : decode cL_setUp 30 = .ok (.istore 5, 2) := by decide +kernel
theorem dL_setUp_32 : decode cL_setUp 32 = .ok (.iload 5, 2) := by decide +kernel
theorem dL_setUp_34 : decode cL_setUp 34 = .ok (.iload_n 3, 1) := by decide +kernel
theorem dL_setUp_35 : decode cL_setUp 35 = .ok (.if_icmp .gt 68, 3) := by decide +kernel
theorem dL_setUp_38 : decode cL_setUp 38 = .ok (.iconst 1, 1) := by decide +kernel
theorem dL_setUp_39 : decode cL_setUp 39 = .ok (.istore 6, 2) := by decide +kernel
theorem dL_setUp_41 : decode cL_setUp 41 = .ok (.iload 6, 2) := by decide +kernel
theorem dL_setUp_43 : decode cL_setUp 43 = .ok (.iload 4, 2) := by decide +kernel
theorem dL_setUp_45 : decode cL_setUp 45 = .ok (.if_icmp .gt 52, 3) := by decide +kernel
theorem dL_setUp_48 : decode cL_setUp 48 = .ok (.aload_n 1, 1) := by decide +kernel
theorem dL_setUp_49 : decode cL_setUp 49 = .ok (.iload_n 2, 1) := by decide +kernel
theorem dL_setUp_50 : decode cL_setUp 50 = .ok (.iconst 5, 1) := by decide +kernel
theorem dL_setUp_51 : decode cL_setUp 51 = .ok (.iload 5, 2) := by decide +kernel
theorem dL_setUp_53 : decode cL_setUp 53 = .ok (.imul, 1) := by decide +kernel
theorem dL_setUp_54 : decode cL_setUp 54 = .ok (.iadd, 1) := by decide +kernel
theorem dL_setUp_55 : decode cL_setUp 55 = .ok (.iload 6, 2) := by decide +kernel
theorem dL_setUp_57 : decode cL_setUp 57 = .ok (.iadd, 1) := by decide +kernel
theorem dL_setUp_58 : decode cL_setUp 58 = .ok (.iconst 3, 1) := by decide +kernel
theorem dL_setUp_59 : decode cL_setUp 59 = .ok (.invokestatic 13, 3) := by decide +kernel
theorem dL_setUp_62 : decode cL_setUp 62 = .ok (.ifCond .ne 29, 3) := by decide +kernel
theorem dL_setUp_65 : decode cL_setUp 65 = .ok (.aload_n 0, 1) := by decide +kernel
theorem dL_setUp_66 : decode cL_setUp 66 = .ok (.iload 5, 2) := by decide +kernel
theorem dL_setUp_68 : decode cL_setUp 68 = .ok (.iload 6, 2) := by decide +kernel
theorem dL_setUp_70 : decode cL_setUp 70 = .ok (.aload_n 1, 1) := by decide +kernel
theorem dL_setUp_71 : decode cL_setUp 71 = .ok (.iload_n 2, 1) := by decide +kernel
theorem dL_setUp_72 : decode cL_setUp 72 = .ok (.bipush 30, 2) := by decide +kernel
theorem dL_setUp_74 : decode cL_setUp 74 = .ok (.iadd, 1) := by decide +kernel
theorem dL_setUp_75 : decode cL_setUp 75 = .ok (.iconst 5, 1) := by decide +kernel
theorem dL_setUp_76 : decode cL_setUp 76 = .ok (.iload 5, 2) := by decide +kernel
theorem dL_setUp_78 : decode cL_setUp 78 = .ok (.imul, 1) := by decide +kernel
theorem dL_setUp_79 : decode cL_setUp 79 = .ok (.iadd, 1) := by decide +kernel
theorem dL_setUp_80 : decode cL_setUp 80 = .ok (.iload 6, 2) := by decide +kernel
theorem dL_setUp_82 : decode cL_setUp 82 = .ok (.iadd, 1) := by decide +kernel
theorem dL_setUp_83 : decode cL_setUp 83 = .ok (.iconst 4, 1) := by decide +kernel
theorem dL_setUp_84 : decode cL_setUp 84 = .ok (.invokestatic 13, 3) := by decide +kernel
theorem dL_setUp_87 : decode cL_setUp 87 = .ok (.invokevirtual 23, 3) := by decide +kernel
theorem dL_setUp_90 : decode cL_setUp 90 = .ok (.pop, 1) := by decide +kernel
theorem dL_setUp_91 : decode cL_setUp 91 = .ok (.iinc 6 1, 3) := by decide +kernel
theorem dL_setUp_94 : decode cL_setUp 94 = .ok (.goto (-53), 3) := by decide +kernel
theorem dL_setUp_97 : decode cL_setUp 97 = .ok (.iinc 5 1, 3) := by decide +kernel
theorem dL_setUp_100 : decode cL_setUp 100 = .ok (.goto (-68), 3) := by decide +kernel
theorem dL_setUp_103 : decode cL_setUp 103 = .ok (.aload_n 0, 1) := by decide +kernel
theorem dL_setUp_104 : decode cL_setUp 104 = .ok (.aload_n 1, 1) := by decide +kernel
theorem dL_setUp_105 : decode cL_setUp 105 = .ok (.iload_n 2, 1) := by decide +kernel
theorem dL_setUp_106 : decode cL_setUp 106 = .ok (.iconst 2, 1) := by decide +kernel
theorem dL_setUp_107 : decode cL_setUp 107 = .ok (.iadd, 1) := by decide +kernel
theorem dL_setUp_108 : decode cL_setUp 108 = .ok (.iconst 4, 1) := by decide +kernel
theorem dL_setUp_109 : decode cL_setUp 109 = .ok (.invokestatic 13, 3) := by decide +kernel
theorem dL_setUp_112 : decode cL_setUp 112 = .ok (.invokevirtual 27, 3) := by decide +kernel
theorem dL_setUp_115 : decode cL_setUp 115 = .ok (.pop, 1) := by decide +kernel
theorem dL_setUp_116 : decode cL_setUp 116 = .ok (.return_, 1) := by decide +kernel
theorem dL_law_0 : decode cL_law 0 = .ok (.new 18, 3) := by decide +kernel
theorem dL_law_3 : decode cL_law 3 = .ok (.dup, 1) := by decide +kernel
theorem dL_law_4 : decode cL_law 4 = .ok (.invokespecial 31, 3) := by decide +kernel
theorem dL_law_7 : decode cL_law 7 = .ok (.astore_n 1, 1) := by decide +kernel
theorem dL_law_8 : decode cL_law 8 = .ok (.aload_n 1, 1) := by decide +kernel
theorem dL_law_9 : decode cL_law 9 = .ok (.iconst 0, 1) := by decide +kernel
theorem dL_law_10 : decode cL_law 10 = .ok (.invokevirtual 32, 3) := by decide +kernel
theorem dL_law_13 : decode cL_law 13 = .ok (.iconst 3, 1) := by decide +kernel
theorem dL_law_14 : decode cL_law 14 = .ok (.if_icmp .ne 93, 3) := by decide +kernel
theorem dL_law_17 : decode cL_law 17 = .ok (.aload_n 1, 1) := by decide +kernel
theorem dL_law_18 : decode cL_law 18 = .ok (.iconst 1, 1) := by decide +kernel
theorem dL_law_19 : decode cL_law 19 = .ok (.invokevirtual 32, 3) := by decide +kernel
theorem dL_law_22 : decode cL_law 22 = .ok (.iconst 3, 1) := by decide +kernel
theorem dL_law_23 : decode cL_law 23 = .ok (.if_icmp .ne 84, 3) := by decide +kernel
theorem dL_law_26 : decode cL_law 26 = .ok (.aload_n 1, 1) := by decide +kernel
theorem dL_law_27 : decode cL_law 27 = .ok (.iconst 2, 1) := by decide +kernel
theorem dL_law_28 : decode cL_law 28 = .ok (.invokevirtual 32, 3) := by decide +kernel
theorem dL_law_31 : decode cL_law 31 = .ok (.ifCond .ne 76, 3) := by decide +kernel
theorem dL_law_34 : decode cL_law 34 = .ok (.aload_n 1, 1) := by decide +kernel
theorem dL_law_35 : decode cL_law 35 = .ok (.iconst 3, 1) := by decide +kernel
theorem dL_law_36 : decode cL_law 36 = .ok (.invokevirtual 32, 3) := by decide +kernel
theorem dL_law_39 : decode cL_law 39 = .ok (.ifCond .ne 68, 3) := by decide +kernel
theorem dL_law_42 : decode cL_law 42 = .ok (.aload_n 1, 1) := by decide +kernel
theorem dL_law_43 : decode cL_law 43 = .ok (.iconst 3, 1) := by decide +kernel
theorem dL_law_44 : decode cL_law 44 = .ok (.iconst 3, 1) := by decide +kernel
theorem dL_law_45 : decode cL_law 45 = .ok (.iconst 0, 1) := by decide +kernel
theorem dL_law_46 : decode cL_law 46 = .ok (.invokevirtual 35, 3) := by decide +kernel
theorem dL_law_49 : decode cL_law 49 = .ok (.ifCond .ne 58, 3) := by decide +kernel
theorem dL_law_52 : decode cL_law 52 = .ok (.aload_n 1, 1) := by decide +kernel
theorem dL_law_53 : decode cL_law 53 = .ok (.invokevirtual 38, 3) := by decide +kernel
theorem dL_law_56 : decode cL_law 56 = .ok (.ifCond .ne 51, 3) := by decide +kernel
theorem dL_law_59 : decode cL_law 59 = .ok (.aload_n 1, 1) := by decide +kernel
theorem dL_law_60 : decode cL_law 60 = .ok (.iconst 3, 1) := by decide +kernel
theorem dL_law_61 : decode cL_law 61 = .ok (.invokevirtual 42, 3) := by decide +kernel
theorem dL_law_64 : decode cL_law 64 = .ok (.iconst 1, 1) := by decide +kernel
theorem dL_law_65 : decode cL_law 65 = .ok (.if_icmp .ne 42, 3) := by decide +kernel
theorem dL_law_68 : decode cL_law 68 = .ok (.aload_n 1, 1) := by decide +kernel
theorem dL_law_69 : decode cL_law 69 = .ok (.iconst 3, 1) := by decide +kernel
theorem dL_law_70 : decode cL_law 70 = .ok (.iconst 3, 1) := by decide +kernel
theorem dL_law_71 : decode cL_law 71 = .ok (.invokevirtual 45, 3) := by decide +kernel
theorem dL_law_74 : decode cL_law 74 = .ok (.lconst 1, 1) := by decide +kernel
theorem dL_law_75 : decode cL_law 75 = .ok (.lcmp, 1) := by decide +kernel
theorem dL_law_76 : decode cL_law 76 = .ok (.ifCond .ne 31, 3) := by decide +kernel
theorem dL_law_79 : decode cL_law 79 = .ok (.aload_n 1, 1) := by decide +kernel
theorem dL_law_80 : decode cL_law 80 = .ok (.iconst 0, 1) := by decide +kernel
theorem dL_law_81 : decode cL_law 81 = .ok (.iconst 0, 1) := by decide +kernel
theorem dL_law_82 : decode cL_law 82 = .ok (.invokevirtual 49, 3) := by decide +kernel
theorem dL_law_85 : decode cL_law 85 = .ok (.iconst 1, 1) := by decide +kernel
theorem dL_law_86 : decode cL_law 86 = .ok (.if_icmp .ne 21, 3) := by decide +kernel
theorem dL_law_89 : decode cL_law 89 = .ok (.aload_n 1, 1) := by decide +kernel
theorem dL_law_90 : decode cL_law 90 = .ok (.invokevirtual 52, 3) := by decide +kernel
theorem dL_law_93 : decode cL_law 93 = .ok (.bipush (-5), 2) := by decide +kernel
theorem dL_law_95 : decode cL_law 95 = .ok (.if_icmp .ne 12, 3) := by decide +kernel
theorem dL_law_98 : decode cL_law 98 = .ok (.aload_n 1, 1) := by decide +kernel
theorem dL_law_99 : decode cL_law 99 = .ok (.invokevirtual 55, 3) := by decide +kernel
theorem dL_law_102 : decode cL_law 102 = .ok (.bipush (-5), 2) := by decide +kernel
theorem dL_law_104 : decode cL_law 104 = .ok (.if_icmp .eq 5, 3) := by decide +kernel
theorem dL_law_107 : decode cL_law 107 = .ok (.iconst 0, 1) := by decide +kernel
theorem dL_law_108 : decode cL_law 108 = .ok (.ireturn, 1) := by decide +kernel
theorem dL_law_109 : decode cL_law 109 = .ok (.aload_n 1, 1) := by decide +kernel
theorem dL_law_110 : decode cL_law 110 = .ok (.aload_n 0, 1) := by decide +kernel
theorem dL_law_111 : decode cL_law 111 = .ok (.iconst 0, 1) := by decide +kernel
theorem dL_law_112 : decode cL_law 112 = .ok (.invokestatic 58, 3) := by decide +kernel
theorem dL_law_115 : decode cL_law 115 = .ok (.aload_n 1, 1) := by decide +kernel
theorem dL_law_116 : decode cL_law 116 = .ok (.iconst 0, 1) := by decide +kernel
theorem dL_law_117 : decode cL_law 117 = .ok (.invokevirtual 32, 3) := by decide +kernel
theorem dL_law_120 : decode cL_law 120 = .ok (.istore_n 2, 1) := by decide +kernel
theorem dL_law_121 : decode cL_law 121 = .ok (.aload_n 1, 1) := by decide +kernel
theorem dL_law_122 : decode cL_law 122 = .ok (.iconst 1, 1) := by decide +kernel
theorem dL_law_123 : decode cL_law 123 = .ok (.invokevirtual 32, 3) := by decide +kernel
theorem dL_law_126 : decode cL_law 126 = .ok (.istore_n 3, 1) := by decide +kernel
theorem dL_law_127 : decode cL_law 127 = .ok (.iconst 0, 1) := by decide +kernel
theorem dL_law_128 : decode cL_law 128 = .ok (.istore 4, 2) := by decide +kernel
theorem dL_law_130 : decode cL_law 130 = .ok (.iload 4, 2) := by decide +kernel
theorem dL_law_132 : decode cL_law 132 = .ok (.iconst 4, 1) := by decide +kernel
theorem dL_law_133 : decode cL_law 133 = .ok (.if_icmp .ge 614, 3) := by decide +kernel
theorem dL_law_136 : decode cL_law 136 = .ok (.aload_n 1, 1) := by decide +kernel
theorem dL_law_137 : decode cL_law 137 = .ok (.iload 4, 2) := by decide +kernel
theorem dL_law_139 : decode cL_law 139 = .ok (.invokevirtual 27, 3) := by decide +kernel
theorem dL_law_142 : decode cL_law 142 = .ok (.pop, 1) := by decide +kernel
theorem dL_law_143 : decode cL_law 143 = .ok (.bipush 36, 2) := by decide +kernel
theorem dL_law_145 : decode cL_law 145 = .ok (.newarray .int, 2) := by decide +kernel
theorem dL_law_147 : decode cL_law 147 = .ok (.astore 5, 2) := by decide +kernel
theorem dL_law_149 : decode cL_law 149 = .ok (.iconst 1, 1) := by decide +kernel
theorem dL_law_150 : decode cL_law 150 = .ok (.istore 6, 2) := by decide +kernel
theorem dL_law_152 : decode cL_law 152 = .ok (.iload 6, 2) := by decide +kernel
theorem dL_law_154 : decode cL_law 154 = .ok (.iload_n 2, 1) := by decide +kernel
theorem dL_law_155 : decode cL_law 155 = .ok (.if_icmp .gt 70, 3) := by decide +kernel
theorem dL_law_158 : decode cL_law 158 = .ok (.iconst 1, 1) := by decide +kernel
theorem dL_law_159 : decode cL_law 159 = .ok (.istore 7, 2) := by decide +kernel
theorem dL_law_161 : decode cL_law 161 = .ok (.iload 7, 2) := by decide +kernel
theorem dL_law_163 : decode cL_law 163 = .ok (.iload_n 3, 1) := by decide +kernel
theorem dL_law_164 : decode cL_law 164 = .ok (.if_icmp .gt 55, 3) := by decide +kernel
theorem dL_law_167 : decode cL_law 167 = .ok (.aload 5, 2) := by decide +kernel
theorem dL_law_169 : decode cL_law 169 = .ok (.bipush 6, 2) := by decide +kernel
theorem dL_law_171 : decode cL_law 171 = .ok (.iload 6, 2) := by decide +kernel
theorem dL_law_173 : decode cL_law 173 = .ok (.imul, 1) := by decide +kernel
theorem dL_law_174 : decode cL_law 174 = .ok (.iload 7, 2) := by decide +kernel
theorem dL_law_176 : decode cL_law 176 = .ok (.iadd, 1) := by decide +kernel
theorem dL_law_177 : decode cL_law 177 = .ok (.iload 4, 2) := by decide +kernel
theorem dL_law_179 : decode cL_law 179 = .ok (.iconst 1, 1) := by decide +kernel
theorem dL_law_180 : decode cL_law 180 = .ok (.if_icmp .eq 9, 3) := by decide +kernel
theorem dL_law_183 : decode cL_law 183 = .ok (.iload 4, 2) := by decide +kernel
theorem dL_law_185 : decode cL_law 185 = .ok (.iconst 2, 1) := by decide +kernel
theorem dL_law_186 : decode cL_law 186 = .ok (.if_icmp .ne 18, 3) := by decide +kernel
theorem dL_law_189 : decode cL_law 189 = .ok (.iconst 1, 1) := by decide +kernel
theorem dL_law_190 : decode cL_law 190 = .ok (.aload_n 1, 1) := by decide +kernel
theorem dL_law_191 : decode cL_law 191 = .ok (.iload 6, 2) := by decide +kernel
theorem dL_law_193 : decode cL_law 193 = .ok (.iload 7, 2) := by decide +kernel
theorem dL_law_195 : decode cL_law 195 = .ok (.invokevirtual 62, 3) := by decide +kernel
theorem dL_law_198 : decode cL_law 198 = .ok (.invokestatic 64, 3) := by decide +kernel
theorem dL_law_201 : decode cL_law 201 = .ok (.goto 11, 3) := by decide +kernel
theorem dL_law_204 : decode cL_law 204 = .ok (.aload_n 1, 1) := by decide +kernel
theorem dL_law_205 : decode cL_law 205 = .ok (.iload 6, 2) := by decide +kernel
theorem dL_law_207 : decode cL_law 207 = .ok (.iload 7, 2) := by decide +kernel
theorem dL_law_209 : decode cL_law 209 = .ok (.invokevirtual 62, 3) := by decide +kernel
theorem dL_law_212 : decode cL_law 212 = .ok (.iastore, 1) := by decide +kernel
theorem dL_law_213 : decode cL_law 213 = .ok (.iinc 7 1, 3) := by decide +kernel
theorem dL_law_216 : decode cL_law 216 = .ok (.goto (-55), 3) := by decide +kernel
theorem dL_law_219 : decode cL_law 219 = .ok (.iinc 6 1, 3) := by decide +kernel
theorem dL_law_222 : decode cL_law 222 = .ok (.goto (-70), 3) := by decide +kernel
theorem dL_law_225 : decode cL_law 225 = .ok (.iconst 0, 1) := by decide +kernel
theorem dL_law_226 : decode cL_law 226 = .ok (.istore 6, 2) := by decide +kernel
theorem dL_law_228 : decode cL_law 228 = .ok (.iload 6, 2) := by decide +kernel
theorem dL_law_230 : decode cL_law 230 = .ok (.iload_n 2, 1) := by decide +kernel
theorem dL_law_231 : decode cL_law 231 = .ok (.if_icmp .gt 91, 3) := by decide +kernel
theorem dL_law_234 : decode cL_law 234 = .ok (.iconst 0, 1) := by decide +kernel
theorem dL_law_235 : decode cL_law 235 = .ok (.istore 7, 2) := by decide +kernel
theorem dL_law_237 : decode cL_law 237 = .ok (.iload 7, 2) := by decide +kernel
theorem dL_law_239 : decode cL_law 239 = .ok (.iload_n 3, 1) := by decide +kernel
theorem dL_law_240 : decode cL_law 240 = .ok (.if_icmp .gt 76, 3) := by decide +kernel
theorem dL_law_243 : decode cL_law 243 = .ok (.iconst 0, 1) := by decide +kernel
theorem dL_law_244 : decode cL_law 244 = .ok (.istore 8, 2) := by decide +kernel
theorem dL_law_246 : decode cL_law 246 = .ok (.iconst 1, 1) := by decide +kernel
theorem dL_law_247 : decode cL_law 247 = .ok (.istore 9, 2) := by decide +kernel
theorem dL_law_249 : decode cL_law 249 = .ok (.iload 9, 2) := by decide +kernel
theorem dL_law_251 : decode cL_law 251 = .ok (.iload 6, 2) := by decide +kernel
theorem dL_law_253 : decode cL_law 253 = .ok (.if_icmp .gt 41, 3) := by decide +kernel
theorem dL_law_256 : decode cL_law 256 = .ok (.iconst 1, 1) := by decide +kernel
theorem dL_law_257 : decode cL_law 257 = .ok (.istore 10, 2) := by decide +kernel
theorem dL_law_259 : decode cL_law 259 = .ok (.iload 10, 2) := by decide +kernel
theorem dL_law_261 : decode cL_law 261 = .ok (.iload 7, 2) := by decide +kernel
theorem dL_law_263 : decode cL_law 263 = .ok (.if_icmp .gt 25, 3) := by decide +kernel
theorem dL_law_266 : decode cL_law 266 = .ok (.iload 8, 2) := by decide +kernel
theorem dL_law_268 : decode cL_law 268 = .ok (.aload 5, 2) := by decide +kernel
theorem dL_law_270 : decode cL_law 270 = .ok (.bipush 6, 2) := by decide +kernel
theorem dL_law_272 : decode cL_law 272 = .ok (.iload 9, 2) := by decide +kernel
theorem dL_law_274 : decode cL_law 274 = .ok (.imul, 1) := by decide +kernel
theorem dL_law_275 : decode cL_law 275 = .ok (.iload 10, 2) := by decide +kernel
theorem dL_law_277 : decode cL_law 277 = .ok (.iadd, 1) := by decide +kernel
theorem dL_law_278 : decode cL_law 278 = .ok (.iaload, 1) := by decide +kernel
theorem dL_law_279 : decode cL_law 279 = .ok (.iadd, 1) := by decide +kernel
theorem dL_law_280 : decode cL_law 280 = .ok (.istore 8, 2) := by decide +kernel
theorem dL_law_282 : decode cL_law 282 = .ok (.iinc 10 1, 3) := by decide +kernel
theorem dL_law_285 : decode cL_law 285 = .ok (.goto (-26), 3) := by decide +kernel
theorem dL_law_288 : decode cL_law 288 = .ok (.iinc 9 1, 3) := by decide +kernel
theorem dL_law_291 : decode cL_law 291 = .ok (.goto (-42), 3) := by decide +kernel
theorem dL_law_294 : decode cL_law 294 = .ok (.aload_n 1, 1) := by decide +kernel
theorem dL_law_295 : decode cL_law 295 = .ok (.iload 6, 2) := by decide +kernel
theorem dL_law_297 : decode cL_law 297 = .ok (.iload 7, 2) := by decide +kernel
theorem dL_law_299 : decode cL_law 299 = .ok (.iconst 0, 1) := by decide +kernel
theorem dL_law_300 : decode cL_law 300 = .ok (.invokevirtual 35, 3) := by decide +kernel
theorem dL_law_303 : decode cL_law 303 = .ok (.iload 8, 2) := by decide +kernel
theorem dL_law_305 : decode cL_law 305 = .ok (.if_icmp .eq 5, 3) := by decide +kernel
theorem dL_law_308 : decode cL_law 308 = .ok (.iconst 0, 1) := by decide +kernel
theorem dL_law_309 : decode cL_law 309 = .ok (.ireturn, 1) := by decide +kernel
theorem dL_law_310 : decode cL_law 310 = .ok (.iinc 7 1, 3) := by decide +kernel
theorem dL_law_313 : decode cL_law 313 = .ok (.goto (-76), 3) := by decide +kernel
theorem dL_law_316 : decode cL_law 316 = .ok (.iinc 6 1, 3) := by decide +kernel
theorem dL_law_319 : decode cL_law 319 = .ok (.goto (-91), 3) := by decide +kernel
theorem dL_law_322 : decode cL_law 322 = .ok (.aload_n 1, 1) := by decide +kernel
theorem dL_law_323 : decode cL_law 323 = .ok (.iload_n 2, 1) := by decide +kernel
theorem dL_law_324 : decode cL_law 324 = .ok (.iload_n 3, 1) := by decide +kernel
theorem dL_law_325 : decode cL_law 325 = .ok (.iconst 1, 1) := by decide +kernel
theorem dL_law_326 : decode cL_law 326 = .ok (.invokevirtual 35, 3) := by decide +kernel
theorem dL_law_329 : decode cL_law 329 = .ok (.istore 6, 2) := by decide +kernel
theorem dL_law_331 : decode cL_law 331 = .ok (.iconst 0, 1) := by decide +kernel
theorem dL_law_332 : decode cL_law 332 = .ok (.istore 7, 2) := by decide +kernel
theorem dL_law_334 : decode cL_law 334 = .ok (.iconst 0, 1) := by decide +kernel
theorem dL_law_335 : decode cL_law 335 = .ok (.istore 8, 2) := by decide +kernel
theorem dL_law_337 : decode cL_law 337 = .ok (.iconst 0, 1) := by decide +kernel
theorem dL_law_338 : decode cL_law 338 = .ok (.istore 9, 2) := by decide +kernel
theorem dL_law_340 : decode cL_law 340 = .ok (.iload 9, 2) := by decide +kernel
theorem dL_law_342 : decode cL_law 342 = .ok (.bipush 77, 2) := by decide +kernel
theorem dL_law_344 : decode cL_law 344 = .ok (.if_icmp .ge 110, 3) := by decide +kernel
theorem dL_law_347 : decode cL_law 347 = .ok (.iload 7, 2) := by decide +kernel
theorem dL_law_349 : decode cL_law 349 = .ok (.aload_n 1, 1) := by decide +kernel
theorem dL_law_350 : decode cL_law 350 = .ok (.iload_n 2, 1) := by decide +kernel
theorem dL_law_351 : decode cL_law 351 = .ok (.iload_n 3, 1) := by decide +kernel
theorem dL_law_352 : decode cL_law 352 = .ok (.iload 9, 2) := by decide +kernel
theorem dL_law_354 : decode cL_law 354 = .ok (.invokevirtual 69, 3) := by decide +kernel
theorem dL_law_357 : decode cL_law 357 = .ok (.iadd, 1) := by decide +kernel
theorem dL_law_358 : decode cL_law 358 = .ok (.istore 7, 2) := by decide +kernel
theorem dL_law_360 : decode cL_law 360 = .ok (.iload 8, 2) := by decide +kernel
theorem dL_law_362 : decode cL_law 362 = .ok (.aload_n 1, 1) := by decide +kernel
theorem dL_law_363 : decode cL_law 363 = .ok (.iload_n 2, 1) := by decide +kernel
theorem dL_law_364 : decode cL_law 364 = .ok (.iload_n 3, 1) := by decide +kernel
theorem dL_law_365 : decode cL_law 365 = .ok (.iload 9, 2) := by decide +kernel
theorem dL_law_367 : decode cL_law 367 = .ok (.invokevirtual 72, 3) := by decide +kernel
theorem dL_law_370 : decode cL_law 370 = .ok (.iadd, 1) := by decide +kernel
theorem dL_law_371 : decode cL_law 371 = .ok (.istore 8, 2) := by decide +kernel
theorem dL_law_373 : decode cL_law 373 = .ok (.aload_n 1, 1) := by decide +kernel
theorem dL_law_374 : decode cL_law 374 = .ok (.iload_n 2, 1) := by decide +kernel
theorem dL_law_375 : decode cL_law 375 = .ok (.iload_n 3, 1) := by decide +kernel
theorem dL_law_376 : decode cL_law 376 = .ok (.iload 9, 2) := by decide +kernel
theorem dL_law_378 : decode cL_law 378 = .ok (.iconst 1, 1) := by decide +kernel
theorem dL_law_379 : decode cL_law 379 = .ok (.iadd, 1) := by decide +kernel
theorem dL_law_380 : decode cL_law 380 = .ok (.invokevirtual 69, 3) := by decide +kernel
theorem dL_law_383 : decode cL_law 383 = .ok (.aload_n 1, 1) := by decide +kernel
theorem dL_law_384 : decode cL_law 384 = .ok (.iload_n 2, 1) := by decide +kernel
theorem dL_law_385 : decode cL_law 385 = .ok (.iload_n 3, 1) := by decide +kernel
theorem dL_law_386 : decode cL_law 386 = .ok (.iload 9, 2) := by decide +kernel
theorem dL_law_388 : decode cL_law 388 = .ok (.invokevirtual 69, 3) := by decide +kernel
theorem dL_law_391 : decode cL_law 391 = .ok (.if_icmp .gt 55, 3) := by decide +kernel
theorem dL_law_394 : decode cL_law 394 = .ok (.aload_n 1, 1) := by decide +kernel
theorem dL_law_395 : decode cL_law 395 = .ok (.iload_n 2, 1) := by decide +kernel
theorem dL_law_396 : decode cL_law 396 = .ok (.iload_n 3, 1) := by decide +kernel
theorem dL_law_397 : decode cL_law 397 = .ok (.iload 9, 2) := by decide +kernel
theorem dL_law_399 : decode cL_law 399 = .ok (.iconst 1, 1) := by decide +kernel
theorem dL_law_400 : decode cL_law 400 = .ok (.iadd, 1) := by decide +kernel
theorem dL_law_401 : decode cL_law 401 = .ok (.invokevirtual 72, 3) := by decide +kernel
theorem dL_law_404 : decode cL_law 404 = .ok (.aload_n 1, 1) := by decide +kernel
theorem dL_law_405 : decode cL_law 405 = .ok (.iload_n 2, 1) := by decide +kernel
theorem dL_law_406 : decode cL_law 406 = .ok (.iload_n 3, 1) := by decide +kernel
theorem dL_law_407 : decode cL_law 407 = .ok (.iload 9, 2) := by decide +kernel
theorem dL_law_409 : decode cL_law 409 = .ok (.invokevirtual 72, 3) := by decide +kernel
theorem dL_law_412 : decode cL_law 412 = .ok (.if_icmp .gt 34, 3) := by decide +kernel
theorem dL_law_415 : decode cL_law 415 = .ok (.aload_n 1, 1) := by decide +kernel
theorem dL_law_416 : decode cL_law 416 = .ok (.iload_n 2, 1) := by decide +kernel
theorem dL_law_417 : decode cL_law 417 = .ok (.iload_n 3, 1) := by decide +kernel
theorem dL_law_418 : decode cL_law 418 = .ok (.iload 9, 2) := by decide +kernel
theorem dL_law_420 : decode cL_law 420 = .ok (.invokevirtual 69, 3) := by decide +kernel
theorem dL_law_423 : decode cL_law 423 = .ok (.ifCond .le 7, 3) := by decide +kernel
theorem dL_law_426 : decode cL_law 426 = .ok (.iconst 1, 1) := by decide +kernel
theorem dL_law_427 : decode cL_law 427 = .ok (.goto 4, 3) := by decide +kernel
theorem dL_law_430 : decode cL_law 430 = .ok (.iconst 0, 1) := by decide +kernel
theorem dL_law_431 : decode cL_law 431 = .ok (.iload 9, 2) := by decide +kernel
theorem dL_law_433 : decode cL_law 433 = .ok (.iload 6, 2) := by decide +kernel
theorem dL_law_435 : decode cL_law 435 = .ok (.if_icmp .ge 7, 3) := by decide +kernel
theorem dL_law_438 : decode cL_law 438 = .ok (.iconst 1, 1) := by decide +kernel
theorem dL_law_439 : decode cL_law 439 = .ok (.goto 4, 3) := by decide +kernel
theorem dL_law_442 : decode cL_law 442 = .ok (.iconst 0, 1) := by decide +kernel
theorem dL_law_443 : decode cL_law 443 = .ok (.if_icmp .eq 5, 3) := by decide +kernel
theorem dL_law_446 : decode cL_law 446 = .ok (.iconst 0, 1) := by decide +kernel
theorem dL_law_447 : decode cL_law 447 = .ok (.ireturn, 1) := by decide +kernel
theorem dL_law_448 : decode cL_law 448 = .ok (.iinc 9 1, 3) := by decide +kernel
theorem dL_law_451 : decode cL_law 451 = .ok (.goto (-111), 3) := by decide +kernel
theorem dL_law_454 : decode cL_law 454 = .ok (.iload 7, 2) := by decide +kernel
theorem dL_law_456 : decode cL_law 456 = .ok (.aload_n 1, 1) := by decide +kernel
theorem dL_law_457 : decode cL_law 457 = .ok (.iload_n 2, 1) := by decide +kernel
theorem dL_law_458 : decode cL_law 458 = .ok (.iload_n 3, 1) := by decide +kernel
theorem dL_law_459 : decode cL_law 459 = .ok (.iconst 0, 1) := by decide +kernel
theorem dL_law_460 : decode cL_law 460 = .ok (.invokevirtual 35, 3) := by decide +kernel
theorem dL_law_463 : decode cL_law 463 = .ok (.if_icmp .ne 22, 3) := by decide +kernel
theorem dL_law_466 : decode cL_law 466 = .ok (.iload 8, 2) := by decide +kernel
theorem dL_law_468 : decode cL_law 468 = .ok (.iload 7, 2) := by decide +kernel
theorem dL_law_470 : decode cL_law 470 = .ok (.if_icmp .ne 15, 3) := by decide +kernel
theorem dL_law_473 : decode cL_law 473 = .ok (.aload_n 1, 1) := by decide +kernel
theorem dL_law_474 : decode cL_law 474 = .ok (.iload_n 2, 1) := by decide +kernel
theorem dL_law_475 : decode cL_law 475 = .ok (.iload_n 3, 1) := by decide +kernel
theorem dL_law_476 : decode cL_law 476 = .ok (.iconst 0, 1) := by decide +kernel
theorem dL_law_477 : decode cL_law 477 = .ok (.invokevirtual 72, 3) := by decide +kernel
theorem dL_law_480 : decode cL_law 480 = .ok (.iload 6, 2) := by decide +kernel
theorem dL_law_482 : decode cL_law 482 = .ok (.if_icmp .eq 5, 3) := by decide +kernel
theorem dL_law_485 : decode cL_law 485 = .ok (.iconst 0, 1) := by decide +kernel
theorem dL_law_486 : decode cL_law 486 = .ok (.ireturn, 1) := by decide +kernel
theorem dL_law_487 : decode cL_law 487 = .ok (.iload 4, 2) := by decide +kernel
theorem dL_law_489 : decode cL_law 489 = .ok (.ifCond .ne 32, 3) := by decide +kernel
theorem dL_law_492 : decode cL_law 492 = .ok (.aload_n 1, 1) := by decide +kernel
theorem dL_law_493 : decode cL_law 493 = .ok (.iload_n 2, 1) := by decide +kernel
theorem dL_law_494 : decode cL_law 494 = .ok (.iload_n 3, 1) := by decide +kernel
theorem dL_law_495 : decode cL_law 495 = .ok (.iconst 0, 1) := by decide +kernel
theorem dL_law_496 : decode cL_law 496 = .ok (.invokevirtual 69, 3) := by decide +kernel
theorem dL_law_499 : decode cL_law 499 = .ok (.aload_n 1, 1) := by decide +kernel
theorem dL_law_500 : decode cL_law 500 = .ok (.iconst 0, 1) := by decide +kernel
theorem dL_law_501 : decode cL_law 501 = .ok (.iconst 0, 1) := by decide +kernel
theorem dL_law_502 : decode cL_law 502 = .ok (.invokevirtual 75, 3) := by decide +kernel
theorem dL_law_505 : decode cL_law 505 = .ok (.if_icmp .ne 14, 3) := by decide +kernel
theorem dL_law_508 : decode cL_law 508 = .ok (.iload 6, 2) := by decide +kernel
theorem dL_law_510 : decode cL_law 510 = .ok (.aload_n 1, 1) := by decide +kernel
theorem dL_law_511 : decode cL_law 511 = .ok (.iconst 3, 1) := by decide +kernel
theorem dL_law_512 : decode cL_law 512 = .ok (.iconst 1, 1) := by decide +kernel
theorem dL_law_513 : decode cL_law 513 = .ok (.invokevirtual 75, 3) := by decide +kernel
theorem dL_law_516 : decode cL_law 516 = .ok (.if_icmp .eq 5, 3) := by decide +kernel
theorem dL_law_519 : decode cL_law 519 = .ok (.iconst 0, 1) := by decide +kernel
theorem dL_law_520 : decode cL_law 520 = .ok (.ireturn, 1) := by decide +kernel
theorem dL_law_521 : decode cL_law 521 = .ok (.iload 4, 2) := by decide +kernel
theorem dL_law_523 : decode cL_law 523 = .ok (.iconst 3, 1) := by decide +kernel
theorem dL_law_524 : decode cL_law 524 = .ok (.if_icmp .ne 32, 3) := by decide +kernel
theorem dL_law_527 : decode cL_law 527 = .ok (.aload_n 1, 1) := by decide +kernel
theorem dL_law_528 : decode cL_law 528 = .ok (.iload_n 2, 1) := by decide +kernel
theorem dL_law_529 : decode cL_law 529 = .ok (.iload_n 3, 1) := by decide +kernel
theorem dL_law_530 : decode cL_law 530 = .ok (.iconst 0, 1) := by decide +kernel
theorem dL_law_531 : decode cL_law 531 = .ok (.invokevirtual 69, 3) := by decide +kernel
theorem dL_law_534 : decode cL_law 534 = .ok (.aload_n 1, 1) := by decide +kernel
theorem dL_law_535 : decode cL_law 535 = .ok (.iconst 1, 1) := by decide +kernel
theorem dL_law_536 : decode cL_law 536 = .ok (.iconst 1, 1) := by decide +kernel
theorem dL_law_537 : decode cL_law 537 = .ok (.invokevirtual 75, 3) := by decide +kernel
theorem dL_law_540 : decode cL_law 540 = .ok (.if_icmp .ne 14, 3) := by decide +kernel
theorem dL_law_543 : decode cL_law 543 = .ok (.iload 6, 2) := by decide +kernel
theorem dL_law_545 : decode cL_law 545 = .ok (.aload_n 1, 1) := by decide +kernel
theorem dL_law_546 : decode cL_law 546 = .ok (.iconst 2, 1) := by decide +kernel
theorem dL_law_547 : decode cL_law 547 = .ok (.iconst 0, 1) := by decide +kernel
theorem dL_law_548 : decode cL_law 548 = .ok (.invokevirtual 75, 3) := by decide +kernel
theorem dL_law_551 : decode cL_law 551 = .ok (.if_icmp .eq 5, 3) := by decide +kernel
theorem dL_law_554 : decode cL_law 554 = .ok (.iconst 0, 1) := by decide +kernel
theorem dL_law_555 : decode cL_law 555 = .ok (.ireturn, 1) := by decide +kernel
theorem dL_law_556 : decode cL_law 556 = .ok (.aload_n 1, 1) := by decide +kernel
theorem dL_law_557 : decode cL_law 557 = .ok (.iload 4, 2) := by decide +kernel
theorem dL_law_559 : decode cL_law 559 = .ok (.invokevirtual 42, 3) := by decide +kernel
theorem dL_law_562 : decode cL_law 562 = .ok (.iconst 1, 1) := by decide +kernel
theorem dL_law_563 : decode cL_law 563 = .ok (.if_icmp .eq 5, 3) := by decide +kernel
theorem dL_law_566 : decode cL_law 566 = .ok (.iconst 0, 1) := by decide +kernel
theorem dL_law_567 : decode cL_law 567 = .ok (.ireturn, 1) := by decide +kernel
theorem dL_law_568 : decode cL_law 568 = .ok (.iconst 0, 1) := by decide +kernel
theorem dL_law_569 : decode cL_law 569 = .ok (.istore 9, 2) := by decide +kernel
theorem dL_law_571 : decode cL_law 571 = .ok (.iconst 1, 1) := by decide +kernel
theorem dL_law_572 : decode cL_law 572 = .ok (.istore 10, 2) := by decide +kernel
theorem dL_law_574 : decode cL_law 574 = .ok (.iload 10, 2) := by decide +kernel
theorem dL_law_576 : decode cL_law 576 = .ok (.iload_n 2, 1) := by decide +kernel
theorem dL_law_577 : decode cL_law 577 = .ok (.if_icmp .gt 56, 3) := by decide +kernel
theorem dL_law_580 : decode cL_law 580 = .ok (.iconst 1, 1) := by decide +kernel
theorem dL_law_581 : decode cL_law 581 = .ok (.istore 11, 2) := by decide +kernel
theorem dL_law_583 : decode cL_law 583 = .ok (.iload 11, 2) := by decide +kernel
theorem dL_law_585 : decode cL_law 585 = .ok (.iload_n 3, 1) := by decide +kernel
theorem dL_law_586 : decode cL_law 586 = .ok (.if_icmp .gt 41, 3) := by decide +kernel
theorem dL_law_589 : decode cL_law 589 = .ok (.iload 9, 2) := by decide +kernel
theorem dL_law_591 : decode cL_law 591 = .ok (.aload_n 1, 1) := by decide +kernel
theorem dL_law_592 : decode cL_law 592 = .ok (.iload 10, 2) := by decide +kernel
theorem dL_law_594 : decode cL_law 594 = .ok (.iload 11, 2) := by decide +kernel
theorem dL_law_596 : decode cL_law 596 = .ok (.invokevirtual 62, 3) := by decide +kernel
theorem dL_law_599 : decode cL_law 599 = .ok (.aload 5, 2) := by decide +kernel
theorem dL_law_601 : decode cL_law 601 = .ok (.bipush 6, 2) := by decide +kernel
theorem dL_law_603 : decode cL_law 603 = .ok (.iload 10, 2) := by decide +kernel
theorem dL_law_605 : decode cL_law 605 = .ok (.imul, 1) := by decide +kernel
theorem dL_law_606 : decode cL_law 606 = .ok (.iload 11, 2) := by decide +kernel
theorem dL_law_608 : decode cL_law 608 = .ok (.iadd, 1) := by decide +kernel
theorem dL_law_609 : decode cL_law 609 = .ok (.iaload, 1) := by decide +kernel
theorem dL_law_610 : decode cL_law 610 = .ok (.if_icmp .ne 7, 3) := by decide +kernel
theorem dL_law_613 : decode cL_law 613 = .ok (.iconst 0, 1) := by decide +kernel
theorem dL_law_614 : decode cL_law 614 = .ok (.goto 4, 3) := by decide +kernel
theorem dL_law_617 : decode cL_law 617 = .ok (.iconst 1, 1) := by decide +kernel
theorem dL_law_618 : decode cL_law 618 = .ok (.iadd, 1) := by decide +kernel
theorem dL_law_619 : decode cL_law 619 = .ok (.istore 9, 2) := by decide +kernel
theorem dL_law_621 : decode cL_law 621 = .ok (.iinc 11 1, 3) := by decide +kernel
theorem dL_law_624 : decode cL_law 624 = .ok (.goto (-41), 3) := by decide +kernel
theorem dL_law_627 : decode cL_law 627 = .ok (.iinc 10 1, 3) := by decide +kernel
theorem dL_law_630 : decode cL_law 630 = .ok (.goto (-56), 3) := by decide +kernel
theorem dL_law_633 : decode cL_law 633 = .ok (.aload_n 1, 1) := by decide +kernel
theorem dL_law_634 : decode cL_law 634 = .ok (.iload 4, 2) := by decide +kernel
theorem dL_law_636 : decode cL_law 636 = .ok (.invokevirtual 78, 3) := by decide +kernel
theorem dL_law_639 : decode cL_law 639 = .ok (.iload 9, 2) := by decide +kernel
theorem dL_law_641 : decode cL_law 641 = .ok (.if_icmp .ne 20, 3) := by decide +kernel
theorem dL_law_644 : decode cL_law 644 = .ok (.aload_n 1, 1) := by decide +kernel
theorem dL_law_645 : decode cL_law 645 = .ok (.iconst 2, 1) := by decide +kernel
theorem dL_law_646 : decode cL_law 646 = .ok (.invokevirtual 32, 3) := by decide +kernel
theorem dL_law_649 : decode cL_law 649 = .ok (.iload 4, 2) := by decide +kernel
theorem dL_law_651 : decode cL_law 651 = .ok (.if_icmp .ne 10, 3) := by decide +kernel
theorem dL_law_654 : decode cL_law 654 = .ok (.aload_n 1, 1) := by decide +kernel
theorem dL_law_655 : decode cL_law 655 = .ok (.invokevirtual 52, 3) := by decide +kernel
theorem dL_law_658 : decode cL_law 658 = .ok (.ifCond .ge 5, 3) := by decide +kernel
theorem dL_law_661 : decode cL_law 661 = .ok (.iconst 0, 1) := by decide +kernel
theorem dL_law_662 : decode cL_law 662 = .ok (.ireturn, 1) := by decide +kernel
theorem dL_law_663 : decode cL_law 663 = .ok (.aload_n 1, 1) := by decide +kernel
theorem dL_law_664 : decode cL_law 664 = .ok (.invokevirtual 81, 3) := by decide +kernel
theorem dL_law_667 : decode cL_law 667 = .ok (.pop, 1) := by decide +kernel
theorem dL_law_668 : decode cL_law 668 = .ok (.iconst 1, 1) := by decide +kernel
theorem dL_law_669 : decode cL_law 669 = .ok (.istore 10, 2) := by decide +kernel
theorem dL_law_671 : decode cL_law 671 = .ok (.iload 10, 2) := by decide +kernel
theorem dL_law_673 : decode cL_law 673 = .ok (.iload_n 2, 1) := by decide +kernel
theorem dL_law_674 : decode cL_law 674 = .ok (.if_icmp .gt 48, 3) := by decide +kernel
theorem dL_law_677 : decode cL_law 677 = .ok (.iconst 1, 1) := by decide +kernel
theorem dL_law_678 : decode cL_law 678 = .ok (.istore 11, 2) := by decide +kernel
theorem dL_law_680 : decode cL_law 680 = .ok (.iload 11, 2) := by decide +kernel
theorem dL_law_682 : decode cL_law 682 = .ok (.iload_n 3, 1) := by decide +kernel
theorem dL_law_683 : decode cL_law 683 = .ok (.if_icmp .gt 33, 3) := by decide +kernel
theorem dL_law_686 : decode cL_law 686 = .ok (.aload_n 1, 1) := by decide +kernel
theorem dL_law_687 : decode cL_law 687 = .ok (.iload 10, 2) := by decide +kernel
theorem dL_law_689 : decode cL_law 689 = .ok (.iload 11, 2) := by decide +kernel
theorem dL_law_691 : decode cL_law 691 = .ok (.invokevirtual 62, 3) := by decide +kernel
theorem dL_law_694 : decode cL_law 694 = .ok (.aload 5, 2) := by decide +kernel
theorem dL_law_696 : decode cL_law 696 = .ok (.bipush 6, 2) := by decide +kernel
theorem dL_law_698 : decode cL_law 698 = .ok (.iload 10, 2) := by decide +kernel
theorem dL_law_700 : decode cL_law 700 = .ok (.imul, 1) := by decide +kernel
theorem dL_law_701 : decode cL_law 701 = .ok (.iload 11, 2) := by decide +kernel
theorem dL_law_703 : decode cL_law 703 = .ok (.iadd, 1) := by decide +kernel
theorem dL_law_704 : decode cL_law 704 = .ok (.iaload, 1) := by decide +kernel
theorem dL_law_705 : decode cL_law 705 = .ok (.if_icmp .eq 5, 3) := by decide +kernel
theorem dL_law_708 : decode cL_law 708 = .ok (.iconst 0, 1) := by decide +kernel
theorem dL_law_709 : decode cL_law 709 = .ok (.ireturn, 1) := by decide +kernel
theorem dL_law_710 : decode cL_law 710 = .ok (.iinc 11 1, 3) := by decide +kernel
theorem dL_law_713 : decode cL_law 713 = .ok (.goto (-33), 3) := by decide +kernel
theorem dL_law_716 : decode cL_law 716 = .ok (.iinc 10 1, 3) := by decide +kernel
theorem dL_law_719 : decode cL_law 719 = .ok (.goto (-48), 3) := by decide +kernel
theorem dL_law_722 : decode cL_law 722 = .ok (.aload_n 1, 1) := by decide +kernel
theorem dL_law_723 : decode cL_law 723 = .ok (.iload_n 2, 1) := by decide +kernel
theorem dL_law_724 : decode cL_law 724 = .ok (.iload_n 3, 1) := by decide +kernel
theorem dL_law_725 : decode cL_law 725 = .ok (.iconst 0, 1) := by decide +kernel
theorem dL_law_726 : decode cL_law 726 = .ok (.invokevirtual 35, 3) := by decide +kernel
theorem dL_law_729 : decode cL_law 729 = .ok (.iload 7, 2) := by decide +kernel
theorem dL_law_731 : decode cL_law 731 = .ok (.if_icmp .eq 5, 3) := by decide +kernel
theorem dL_law_734 : decode cL_law 734 = .ok (.iconst 0, 1) := by decide +kernel
theorem dL_law_735 : decode cL_law 735 = .ok (.ireturn, 1) := by decide +kernel
theorem dL_law_736 : decode cL_law 736 = .ok (.aload_n 1, 1) := by decide +kernel
theorem dL_law_737 : decode cL_law 737 = .ok (.invokevirtual 52, 3) := by decide +kernel
theorem dL_law_740 : decode cL_law 740 = .ok (.pop, 1) := by decide +kernel
theorem dL_law_741 : decode cL_law 741 = .ok (.iinc 4 1, 3) := by decide +kernel
theorem dL_law_744 : decode cL_law 744 = .ok (.goto (-614), 3) := by decide +kernel
theorem dL_law_747 : decode cL_law 747 = .ok (.iconst 1, 1) := by decide +kernel
theorem dL_law_748 : decode cL_law 748 = .ok (.ireturn, 1) := by decide +kernel
