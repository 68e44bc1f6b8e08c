theorem dX0_init_0 : decode cX0_init 0 = .ok (.aload_n 0, 1) := by decide +kernel
theorem dX0_init_1 : decode cX0_init 1 = .ok (.invokespecial 3, 3) := by decide +kernel
theorem dX0_init_4 : decode cX0_init 4 = .ok (.aload_n 0, 1) := by decide +kernel
theorem dX0_init_5 : decode cX0_init 5 = .ok (.iconst 3, 1) := by decide +kernel
theorem dX0_init_6 : decode cX0_init 6 = .ok (.putfield 9, 3) := by decide +kernel
theorem dX0_init_9 : decode cX0_init 9 = .ok (.aload_n 0, 1) := by decide +kernel
theorem dX0_init_10 : decode cX0_init 10 = .ok (.iconst 3, 1) := by decide +kernel
theorem dX0_init_11 : decode cX0_init 11 = .ok (.putfield 15, 3) := by decide +kernel
theorem dX0_init_14 : decode cX0_init 14 = .ok (.aload_n 0, 1) := by decide +kernel
theorem dX0_init_15 : decode cX0_init 15 = .ok (.iconst 0, 1) := by decide +kernel
theorem dX0_init_16 : decode cX0_init 16 = .ok (.putfield 18, 3) := by decide +kernel
theorem dX0_init_19 : decode cX0_init 19 = .ok (.aload_n 0, 1) := by decide +kernel
theorem dX0_init_20 : decode cX0_init 20 = .ok (.bipush 25, 2) := by decide +kernel
theorem dX0_init_22 : decode cX0_init 22 = .ok (.newarray .int, 2) := by decide +kernel
theorem dX0_init_24 : decode cX0_init 24 = .ok (.putfield 21, 3) := by decide +kernel
theorem dX0_init_27 : decode cX0_init 27 = .ok (.return_, 1) := by decide +kernel
theorem dX0_hasCell_0 : decode cX0_hasCell 0 = .ok (.iload_n 1, 1) := by decide +kernel
theorem dX0_hasCell_1 : decode cX0_hasCell 1 = .ok (.iconst 1, 1) := by decide +kernel
theorem dX0_hasCell_2 : decode cX0_hasCell 2 = .ok (.if_icmp .lt 28, 3) := by decide +kernel
theorem dX0_hasCell_5 : decode cX0_hasCell 5 = .ok (.iload_n 1, 1) := by decide +kernel
theorem dX0_hasCell_6 : decode cX0_hasCell 6 = .ok (.aload_n 0, 1) := by decide +kernel
theorem dX0_hasCell_7 : decode cX0_hasCell 7 = .ok (.getfield 9, 3) := by decide +kernel
theorem dX0_hasCell_10 : decode cX0_hasCell 10 = .ok (.if_icmp .gt 20, 3) := by decide +kernel
theorem dX0_hasCell_13 : decode cX0_hasCell 13 = .ok (.iload_n 2, 1) := by decide +kernel
theorem dX0_hasCell_14 : decode cX0_hasCell 14 = .ok (.iconst 1, 1) := by decide +kernel
theorem dX0_hasCell_15 : decode cX0_hasCell 15 = .ok (.if_icmp .lt 15, 3) := by decide +kernel
theorem dX0_hasCell_18 : decode cX0_hasCell 18 = .ok (.iload_n 2, 1) := by decide +kernel
theorem dX0_hasCell_19 : decode cX0_hasCell 19 = .ok (.aload_n 0, 1) := by decide +kernel
theorem dX0_hasCell_20 : decode cX0_hasCell 20 = .ok (.getfield 15, 3) := by decide +kernel
theorem dX0_hasCell_23 : decode cX0_hasCell 23 = .ok (.if_icmp .gt 7, 3) := by decide +kernel
theorem dX0_hasCell_26 : decode cX0_hasCell 26 = .ok (.iconst 1, 1) := by decide +kernel
theorem dX0_hasCell_27 : decode cX0_hasCell 27 = .ok (.goto 4, 3) := by decide +kernel
theorem dX0_hasCell_30 : decode cX0_hasCell 30 = .ok (.iconst 0, 1) := by decide +kernel
theorem dX0_hasCell_31 : decode cX0_hasCell 31 = .ok (.ireturn, 1) := by decide +kernel
theorem dX0_hasCorner_0 : decode cX0_hasCorner 0 = .ok (.iload_n 1, 1) := by decide +kernel
theorem dX0_hasCorner_1 : decode cX0_hasCorner 1 = .ok (.ifCond .lt 27, 3) := by decide +kernel
theorem dX0_hasCorner_4 : decode cX0_hasCorner 4 = .ok (.iload_n 1, 1) := by decide +kernel
theorem dX0_hasCorner_5 : decode cX0_hasCorner 5 = .ok (.aload_n 0, 1) := by decide +kernel
theorem dX0_hasCorner_6 : decode cX0_hasCorner 6 = .ok (.getfield 9, 3) := by decide +kernel
theorem dX0_hasCorner_9 : decode cX0_hasCorner 9 = .ok (.if_icmp .gt 19, 3) := by decide +kernel
theorem dX0_hasCorner_12 : decode cX0_hasCorner 12 = .ok (.iload_n 2, 1) := by decide +kernel
theorem dX0_hasCorner_13 : decode cX0_hasCorner 13 = .ok (.ifCond .lt 15, 3) := by decide +kernel
theorem dX0_hasCorner_16 : decode cX0_hasCorner 16 = .ok (.iload_n 2, 1) := by decide +kernel
theorem dX0_hasCorner_17 : decode cX0_hasCorner 17 = .ok (.aload_n 0, 1) := by decide +kernel
theorem dX0_hasCorner_18 : decode cX0_hasCorner 18 = .ok (.getfield 15, 3) := by decide +kernel
theorem dX0_hasCorner_21 : decode cX0_hasCorner 21 = .ok (.if_icmp .gt 7, 3) := by decide +kernel
theorem dX0_hasCorner_24 : decode cX0_hasCorner 24 = .ok (.iconst 1, 1) := by decide +kernel
theorem dX0_hasCorner_25 : decode cX0_hasCorner 25 = .ok (.goto 4, 3) := by decide +kernel
theorem dX0_hasCorner_28 : decode cX0_hasCorner 28 = .ok (.iconst 0, 1) := by decide +kernel
theorem dX0_hasCorner_29 : decode cX0_hasCorner 29 = .ok (.ireturn, 1) := by decide +kernel
theorem dX0_numberAt_0 : decode cX0_numberAt 0 = .ok (.aload_n 0, 1) := by decide +kernel
theorem dX0_numberAt_1 : decode cX0_numberAt 1 = .ok (.iload_n 1, 1) := by decide +kernel
theorem dX0_numberAt_2 : decode cX0_numberAt 2 = .ok (.iload_n 2, 1) := by decide +kernel
theorem dX0_numberAt_3 : decode cX0_numberAt 3 = .ok (.invokevirtual 25, 3) := by decide +kernel
theorem dX0_numberAt_6 : decode cX0_numberAt 6 = .ok (.ifCond .eq 16, 3) := by decide +kernel
theorem dX0_numberAt_9 : decode cX0_numberAt 9 = .ok (.aload_n 0, 1) := by decide +kernel
theorem dX0_numberAt_10 : decode cX0_numberAt 10 = .ok (.getfield 21, 3) := by decide +kernel
theorem dX0_numberAt_13 : decode cX0_numberAt 13 = .ok (.iload_n 1, 1) := by decide +kernel
theorem dX0_numberAt_14 : decode cX0_numberAt 14 = .ok (.iload_n 2, 1) := by decide +kernel
theorem dX0_numberAt_15 : decode cX0_numberAt 15 = .ok (.invokestatic 29, 3) := by decide +kernel
theorem dX0_numberAt_18 : decode cX0_numberAt 18 = .ok (.iaload, 1) := by decide +kernel
theorem dX0_numberAt_19 : decode cX0_numberAt 19 = .ok (.goto 4, 3) := by decide +kernel
theorem dX0_numberAt_22 : decode cX0_numberAt 22 = .ok (.iconst 0, 1) := by decide +kernel
theorem dX0_numberAt_23 : decode cX0_numberAt 23 = .ok (.ireturn, 1) := by decide +kernel
theorem dX0_setNumber_0 : decode cX0_setNumber 0 = .ok (.aload_n 0, 1) := by decide +kernel
theorem dX0_setNumber_1 : decode cX0_setNumber 1 = .ok (.iload_n 1, 1) := by decide +kernel
theorem dX0_setNumber_2 : decode cX0_setNumber 2 = .ok (.iload_n 2, 1) := by decide +kernel
theorem dX0_setNumber_3 : decode cX0_setNumber 3 = .ok (.invokevirtual 25, 3) := by decide +kernel
theorem dX0_setNumber_6 : decode cX0_setNumber 6 = .ok (.ifCond .eq 14, 3) := by decide +kernel
theorem dX0_setNumber_9 : decode cX0_setNumber 9 = .ok (.aload_n 0, 1) := by decide +kernel
theorem dX0_setNumber_10 : decode cX0_setNumber 10 = .ok (.getfield 21, 3) := by decide +kernel
theorem dX0_setNumber_13 : decode cX0_setNumber 13 = .ok (.iload_n 1, 1) := by decide +kernel
theorem dX0_setNumber_14 : decode cX0_setNumber 14 = .ok (.iload_n 2, 1) := by decide +kernel
theorem dX0_setNumber_15 : decode cX0_setNumber 15 = .ok (.invokestatic 29, 3) := by decide +kernel
theorem dX0_setNumber_18 : decode cX0_setNumber 18 = .ok (.iload_n 3, 1) := by decide +kernel
theorem dX0_setNumber_19 : decode cX0_setNumber 19 = .ok (.iastore, 1) := by decide +kernel
theorem dX0_setNumber_20 : decode cX0_setNumber 20 = .ok (.return_, 1) := by decide +kernel
theorem dX0_placeOf_0 : decode cX0_placeOf 0 = .ok (.iload_n 0, 1) := by decide +kernel
theorem dX0_placeOf_1 : decode cX0_placeOf 1 = .ok (.iconst 1, 1) := by decide +kernel
theorem dX0_placeOf_2 : decode cX0_placeOf 2 = .ok (.isub, 1) := by decide +kernel
theorem dX0_placeOf_3 : decode cX0_placeOf 3 = .ok (.iconst 5, 1) := by decide +kernel
theorem dX0_placeOf_4 : decode cX0_placeOf 4 = .ok (.imul, 1) := by decide +kernel
theorem dX0_placeOf_5 : decode cX0_placeOf 5 = .ok (.iload_n 1, 1) := by decide +kernel
theorem dX0_placeOf_6 : decode cX0_placeOf 6 = .ok (.iconst 1, 1) := by decide +kernel
theorem dX0_placeOf_7 : decode cX0_placeOf 7 = .ok (.isub, 1) := by decide +kernel
theorem dX0_placeOf_8 : decode cX0_placeOf 8 = .ok (.iadd, 1) := by decide +kernel
theorem dX0_placeOf_9 : decode cX0_placeOf 9 = .ok (.ireturn, 1) := by decide +kernel
theorem dX0_worthAt_0 : decode cX0_worthAt 0 = .ok (.aload_n 0, 1) := by decide +kernel
theorem dX0_worthAt_1 : decode cX0_worthAt 1 = .ok (.iload_n 1, 1) := by decide +kernel
theorem dX0_worthAt_2 : decode cX0_worthAt 2 = .ok (.iload_n 2, 1) := by decide +kernel
theorem dX0_worthAt_3 : decode cX0_worthAt 3 = .ok (.invokevirtual 33, 3) := by decide +kernel
theorem dX0_worthAt_6 : decode cX0_worthAt 6 = .ok (.istore_n 3, 1) := by decide +kernel
theorem dX0_worthAt_7 : decode cX0_worthAt 7 = .ok (.aload_n 0, 1) := by decide +kernel
theorem dX0_worthAt_8 : decode cX0_worthAt 8 = .ok (.getfield 18, 3) := by decide +kernel
theorem dX0_worthAt_11 : decode cX0_worthAt 11 = .ok (.iconst 1, 1) := by decide +kernel
theorem dX0_worthAt_12 : decode cX0_worthAt 12 = .ok (.if_icmp .eq 11, 3) := by decide +kernel
theorem dX0_worthAt_15 : decode cX0_worthAt 15 = .ok (.aload_n 0, 1) := by decide +kernel
theorem dX0_worthAt_16 : decode cX0_worthAt 16 = .ok (.getfield 18, 3) := by decide +kernel
theorem dX0_worthAt_19 : decode cX0_worthAt 19 = .ok (.iconst 2, 1) := by decide +kernel
theorem dX0_worthAt_20 : decode cX0_worthAt 20 = .ok (.if_icmp .ne 11, 3) := by decide +kernel
theorem dX0_worthAt_23 : decode cX0_worthAt 23 = .ok (.iload_n 3, 1) := by decide +kernel
theorem dX0_worthAt_24 : decode cX0_worthAt 24 = .ok (.iconst 1, 1) := by decide +kernel
theorem dX0_worthAt_25 : decode cX0_worthAt 25 = .ok (.invokestatic 36, 3) := by decide +kernel
theorem dX0_worthAt_28 : decode cX0_worthAt 28 = .ok (.goto 4, 3) := by decide +kernel
theorem dX0_worthAt_31 : decode cX0_worthAt 31 = .ok (.iload_n 3, 1) := by decide +kernel
theorem dX0_worthAt_32 : decode cX0_worthAt 32 = .ok (.ireturn, 1) := by decide +kernel
theorem dX0_clearTo_0 : decode cX0_clearTo 0 = .ok (.aload_n 0, 1) := by decide +kernel
theorem dX0_clearTo_1 : decode cX0_clearTo 1 = .ok (.iload_n 1, 1) := by decide +kernel
theorem dX0_clearTo_2 : decode cX0_clearTo 2 = .ok (.putfield 9, 3) := by decide +kernel
theorem dX0_clearTo_5 : decode cX0_clearTo 5 = .ok (.aload_n 0, 1) := by decide +kernel
theorem dX0_clearTo_6 : decode cX0_clearTo 6 = .ok (.iload_n 2, 1) := by decide +kernel
theorem dX0_clearTo_7 : decode cX0_clearTo 7 = .ok (.putfield 15, 3) := by decide +kernel
theorem dX0_clearTo_10 : decode cX0_clearTo 10 = .ok (.iconst 0, 1) := by decide +kernel
theorem dX0_clearTo_11 : decode cX0_clearTo 11 = .ok (.istore_n 3, 1) := by decide +kernel
theorem dX0_clearTo_12 : decode cX0_clearTo 12 = .ok (.iload_n 3, 1) := by decide +kernel
theorem dX0_clearTo_13 : decode cX0_clearTo 13 = .ok (.aload_n 0, 1) := by decide +kernel
theorem dX0_clearTo_14 : decode cX0_clearTo 14 = .ok (.getfield 21, 3) := by decide +kernel
theorem dX0_clearTo_17 : decode cX0_clearTo 17 = .ok (.arraylength, 1) := by decide +kernel
theorem dX0_clearTo_18 : decode cX0_clearTo 18 = .ok (.if_icmp .ge 16, 3) := by decide +kernel
theorem dX0_clearTo_21 : decode cX0_clearTo 21 = .ok (.aload_n 0, 1) := by decide +kernel
theorem dX0_clearTo_22 : decode cX0_clearTo 22 = .ok (.getfield 21, 3) := by decide +kernel
theorem dX0_clearTo_25 : decode cX0_clearTo 25 = .ok (.iload_n 3, 1) := by decide +kernel
theorem dX0_clearTo_26 : decode cX0_clearTo 26 = .ok (.iconst 0, 1) := by decide +kernel
theorem dX0_clearTo_27 : decode cX0_clearTo 27 = .ok (.iastore, 1) := by decide +kernel
theorem dX0_clearTo_28 : decode cX0_clearTo 28 = .ok (.iinc 3 1, 3) := by decide +kernel
theorem dX0_clearTo_31 : decode cX0_clearTo 31 = .ok (.goto (-19), 3) := by decide +kernel
theorem dX0_clearTo_34 : decode cX0_clearTo 34 = .ok (.return_, 1) := by decide +kernel
theorem dX0_copyFrom_0 : decode cX0_copyFrom 0 = .ok (.aload_n 0, 1) := by decide +kernel
theorem dX0_copyFrom_1 : decode cX0_copyFrom 1 = .ok (.aload_n 1, 1) := by decide +kernel
theorem dX0_copyFrom_2 : decode cX0_copyFrom 2 = .ok (.getfield 9, 3) := by decide +kernel
theorem dX0_copyFrom_5 : decode cX0_copyFrom 5 = .ok (.putfield 9, 3) := by decide +kernel
theorem dX0_copyFrom_8 : decode cX0_copyFrom 8 = .ok (.aload_n 0, 1) := by decide +kernel
theorem dX0_copyFrom_9 : decode cX0_copyFrom 9 = .ok (.aload_n 1, 1) := by decide +kernel
theorem dX0_copyFrom_10 : decode cX0_copyFrom 10 = .ok (.getfield 15, 3) := by decide +kernel
theorem dX0_copyFrom_13 : decode cX0_copyFrom 13 = .ok (.putfield 15, 3) := by decide +kernel
theorem dX0_copyFrom_16 : decode cX0_copyFrom 16 = .ok (.aload_n 0, 1) := by decide +kernel
theorem dX0_copyFrom_17 : decode cX0_copyFrom 17 = .ok (.aload_n 1, 1) := by decide +kernel
theorem dX0_copyFrom_18 : decode cX0_copyFrom 18 = .ok (.getfield 18, 3) := by decide +kernel
theorem dX0_copyFrom_21 : decode cX0_copyFrom 21 = .ok (.putfield 18, 3) := by decide +kernel
theorem dX0_copyFrom_24 : decode cX0_copyFrom 24 = .ok (.iconst 0, 1) := by decide +kernel
theorem dX0_copyFrom_25 : decode cX0_copyFrom 25 = .ok (.istore_n 2, 1) := by decide +kernel
theorem dX0_copyFrom_26 : decode cX0_copyFrom 26 = .ok (.iload_n 2, 1) := by decide +kernel
theorem dX0_copyFrom_27 : decode cX0_copyFrom 27 = .ok (.aload_n 0, 1) := by decide +kernel
theorem dX0_copyFrom_28 : decode cX0_copyFrom 28 = .ok (.getfield 21, 3) := by decide +kernel
theorem dX0_copyFrom_31 : decode cX0_copyFrom 31 = .ok (.arraylength, 1) := by decide +kernel
theorem dX0_copyFrom_32 : decode cX0_copyFrom 32 = .ok (.if_icmp .ge 21, 3) := by decide +kernel
theorem dX0_copyFrom_35 : decode cX0_copyFrom 35 = .ok (.aload_n 0, 1) := by decide +kernel
theorem dX0_copyFrom_36 : decode cX0_copyFrom 36 = .ok (.getfield 21, 3) := by decide +kernel
theorem dX0_copyFrom_39 : decode cX0_copyFrom 39 = .ok (.iload_n 2, 1) := by decide +kernel
theorem dX0_copyFrom_40 : decode cX0_copyFrom 40 = .ok (.aload_n 1, 1) := by decide +kernel
theorem dX0_copyFrom_41 : decode cX0_copyFrom 41 = .ok (.getfield 21, 3) := by decide +kernel
theorem dX0_copyFrom_44 : decode cX0_copyFrom 44 = .ok (.iload_n 2, 1) := by decide +kernel
theorem dX0_copyFrom_45 : decode cX0_copyFrom 45 = .ok (.iaload, 1) := by decide +kernel
theorem dX0_copyFrom_46 : decode cX0_copyFrom 46 = .ok (.iastore, 1) := by decide +kernel
theorem dX0_copyFrom_47 : decode cX0_copyFrom 47 = .ok (.iinc 2 1, 3) := by decide +kernel
theorem dX0_copyFrom_50 : decode cX0_copyFrom 50 = .ok (.goto (-24), 3) := by decide +kernel
theorem dX0_copyFrom_53 : decode cX0_copyFrom 53 = .ok (.return_, 1) := by decide +kernel
theorem dX0_filled_0 : decode cX0_filled 0 = .ok (.iconst 0, 1) := by decide +kernel
theorem dX0_filled_1 : decode cX0_filled 1 = .ok (.istore_n 1, 1) := by decide +kernel
theorem dX0_filled_2 : decode cX0_filled 2 = .ok (.iconst 0, 1) := by decide +kernel
theorem dX0_filled_3 : decode cX0_filled 3 = .ok (.istore_n 2, 1) := by decide +kernel
theorem dX0_filled_4 : decode cX0_filled 4 = .ok (.iload_n 2, 1) := by decide +kernel
theorem dX0_filled_5 : decode cX0_filled 5 = .ok (.aload_n 0, 1) := by decide +kernel
theorem dX0_filled_6 : decode cX0_filled 6 = .ok (.getfield 21, 3) := by decide +kernel
theorem dX0_filled_9 : decode cX0_filled 9 = .ok (.arraylength, 1) := by decide +kernel
theorem dX0_filled_10 : decode cX0_filled 10 = .ok (.if_icmp .ge 26, 3) := by decide +kernel
theorem dX0_filled_13 : decode cX0_filled 13 = .ok (.iload_n 1, 1) := by decide +kernel
theorem dX0_filled_14 : decode cX0_filled 14 = .ok (.aload_n 0, 1) := by decide +kernel
theorem dX0_filled_15 : decode cX0_filled 15 = .ok (.getfield 21, 3) := by decide +kernel
theorem dX0_filled_18 : decode cX0_filled 18 = .ok (.iload_n 2, 1) := by decide +kernel
theorem dX0_filled_19 : decode cX0_filled 19 = .ok (.iaload, 1) := by decide +kernel
theorem dX0_filled_20 : decode cX0_filled 20 = .ok (.ifCond .le 7, 3) := by decide +kernel
theorem dX0_filled_23 : decode cX0_filled 23 = .ok (.iconst 1, 1) := by decide +kernel
theorem dX0_filled_24 : decode cX0_filled 24 = .ok (.goto 4, 3) := by decide +kernel
theorem dX0_filled_27 : decode cX0_filled 27 = .ok (.iconst 0, 1) := by decide +kernel
theorem dX0_filled_28 : decode cX0_filled 28 = .ok (.iadd, 1) := by decide +kernel
theorem dX0_filled_29 : decode cX0_filled 29 = .ok (.istore_n 1, 1) := by decide +kernel
theorem dX0_filled_30 : decode cX0_filled 30 = .ok (.iinc 2 1, 3) := by decide +kernel
theorem dX0_filled_33 : decode cX0_filled 33 = .ok (.goto (-29), 3) := by decide +kernel
theorem dX0_filled_36 : decode cX0_filled 36 = .ok (.iload_n 1, 1) := by decide +kernel
theorem dX0_filled_37 : decode cX0_filled 37 = .ok (.ireturn, 1) := by decide +kernel
theorem dX0_total_0 : decode cX0_total 0 = .ok (.iconst 0, 1) := by decide +kernel
theorem dX0_total_1 : decode cX0_total 1 = .ok (.istore_n 1, 1) := by decide +kernel
theorem dX0_total_2 : decode cX0_total 2 = .ok (.iconst 0, 1) := by decide +kernel
theorem dX0_total_3 : decode cX0_total 3 = .ok (.istore_n 2, 1) := by decide +kernel
theorem dX0_total_4 : decode cX0_total 4 = .ok (.iload_n 2, 1) := by decide +kernel
theorem dX0_total_5 : decode cX0_total 5 = .ok (.aload_n 0, 1) := by decide +kernel
theorem dX0_total_6 : decode cX0_total 6 = .ok (.getfield 21, 3) := by decide +kernel
theorem dX0_total_9 : decode cX0_total 9 = .ok (.arraylength, 1) := by decide +kernel
theorem dX0_total_10 : decode cX0_total 10 = .ok (.if_icmp .ge 18, 3) := by decide +kernel
theorem dX0_total_13 : decode cX0_total 13 = .ok (.iload_n 1, 1) := by decide +kernel
theorem dX0_total_14 : decode cX0_total 14 = .ok (.aload_n 0, 1) := by decide +kernel
theorem dX0_total_15 : decode cX0_total 15 = .ok (.getfield 21, 3) := by decide +kernel
theorem dX0_total_18 : decode cX0_total 18 = .ok (.iload_n 2, 1) := by decide +kernel
theorem dX0_total_19 : decode cX0_total 19 = .ok (.iaload, 1) := by decide +kernel
theorem dX0_total_20 : decode cX0_total 20 = .ok (.iadd, 1) := by decide +kernel
theorem dX0_total_21 : decode cX0_total 21 = .ok (.istore_n 1, 1) := by decide +kernel
theorem dX0_total_22 : decode cX0_total 22 = .ok (.iinc 2 1, 3) := by decide +kernel
theorem dX0_total_25 : decode cX0_total 25 = .ok (.goto (-21), 3) := by decide +kernel
theorem dX0_total_28 : decode cX0_total 28 = .ok (.iload_n 1, 1) := by decide +kernel
theorem dX0_total_29 : decode cX0_total 29 = .ok (.ireturn, 1) := by decide +kernel
theorem dX0_differing_0 : decode cX0_differing 0 = .ok (.iconst 0, 1) := by decide +kernel
theorem dX0_differing_1 : decode cX0_differing 1 = .ok (.istore_n 2, 1) := by decide +kernel
theorem dX0_differing_2 : decode cX0_differing 2 = .ok (.iconst 0, 1) := by decide +kernel
theorem dX0_differing_3 : decode cX0_differing 3 = .ok (.istore_n 3, 1) := by decide +kernel
theorem dX0_differing_4 : decode cX0_differing 4 = .ok (.iload_n 3, 1) := by decide +kernel
theorem dX0_differing_5 : decode cX0_differing 5 = .ok (.aload_n 0, 1) := by decide +kernel
theorem dX0_differing_6 : decode cX0_differing 6 = .ok (.getfield 21, 3) := by decide +kernel
theorem dX0_differing_9 : decode cX0_differing 9 = .ok (.arraylength, 1) := by decide +kernel
theorem dX0_differing_10 : decode cX0_differing 10 = .ok (.if_icmp .ge 32, 3) := by decide +kernel
theorem dX0_differing_13 : decode cX0_differing 13 = .ok (.iload_n 2, 1) := by decide +kernel
theorem dX0_differing_14 : decode cX0_differing 14 = .ok (.aload_n 0, 1) := by decide +kernel
theorem dX0_differing_15 : decode cX0_differing 15 = .ok (.getfield 21, 3) := by decide +kernel
theorem dX0_differing_18 : decode cX0_differing 18 = .ok (.iload_n 3, 1) := by decide +kernel
theorem dX0_differing_19 : decode cX0_differing 19 = .ok (.iaload, 1) := by decide +kernel
theorem dX0_differing_20 : decode cX0_differing 20 = .ok (.aload_n 1, 1) := by decide +kernel
theorem dX0_differing_21 : decode cX0_differing 21 = .ok (.getfield 21, 3) := by decide +kernel
theorem dX0_differing_24 : decode cX0_differing 24 = .ok (.iload_n 3, 1) := by decide +kernel
theorem dX0_differing_25 : decode cX0_differing 25 = .ok (.iaload, 1) := by decide +kernel
theorem dX0_differing_26 : decode cX0_differing 26 = .ok (.if_icmp .eq 7, 3) := by decide +kernel
theorem dX0_differing_29 : decode cX0_differing 29 = .ok (.iconst 1, 1) := by decide +kernel
theorem dX0_differing_30 : decode cX0_differing 30 = .ok (.goto 4, 3) := by decide +kernel
theorem dX0_differing_33 : decode cX0_differing 33 = .ok (.iconst 0, 1) := by decide +kernel
theorem dX0_differing_34 : decode cX0_differing 34 = .ok (.iadd, 1) := by decide +kernel
theorem dX0_differing_35 : decode cX0_differing 35 = .ok (.istore_n 2, 1) := by decide +kernel
theorem dX0_differing_36 : decode cX0_differing 36 = .ok (.iinc 3 1, 3) := by decide +kernel
theorem dX0_differing_39 : decode cX0_differing 39 = .ok (.goto (-35), 3) := by decide +kernel
theorem dX0_differing_42 : decode cX0_differing 42 = .ok (.iload_n 2, 1) := by decide +kernel
theorem dX0_differing_43 : decode cX0_differing 43 = .ok (.ireturn, 1) := by decide +kernel
theorem dX0_canSpell_0 : decode cX0_canSpell 0 = .ok (.iload_n 1, 1) := by decide +kernel
theorem dX0_canSpell_1 : decode cX0_canSpell 1 = .ok (.ifCond .ge 5, 3) := by decide +kernel
theorem dX0_canSpell_4 : decode cX0_canSpell 4 = .ok (.iconst 0, 1) := by decide +kernel
theorem dX0_canSpell_5 : decode cX0_canSpell 5 = .ok (.ireturn, 1) := by decide +kernel
theorem dX0_canSpell_6 : decode cX0_canSpell 6 = .ok (.iload_n 1, 1) := by decide +kernel
theorem dX0_canSpell_7 : decode cX0_canSpell 7 = .ok (.istore_n 2, 1) := by decide +kernel
theorem dX0_canSpell_8 : decode cX0_canSpell 8 = .ok (.aload_n 0, 1) := by decide +kernel
theorem dX0_canSpell_9 : decode cX0_canSpell 9 = .ok (.getfield 9, 3) := by decide +kernel
theorem dX0_canSpell_12 : decode cX0_canSpell 12 = .ok (.istore_n 3, 1) := by decide +kernel
theorem dX0_canSpell_13 : decode cX0_canSpell 13 = .ok (.iload_n 3, 1) := by decide +kernel
theorem dX0_canSpell_14 : decode cX0_canSpell 14 = .ok (.iconst 1, 1) := by decide +kernel
theorem dX0_canSpell_15 : decode cX0_canSpell 15 = .ok (.if_icmp .lt 27, 3) := by decide +kernel
theorem dX0_canSpell_18 : decode cX0_canSpell 18 = .ok (.iload_n 2, 1) := by decide +kernel
theorem dX0_canSpell_19 : decode cX0_canSpell 19 = .ok (.bipush 10, 2) := by decide +kernel
theorem dX0_canSpell_21 : decode cX0_canSpell 21 = .ok (.irem, 1) := by decide +kernel
theorem dX0_canSpell_22 : decode cX0_canSpell 22 = .ok (.aload_n 0, 1) := by decide +kernel
theorem dX0_canSpell_23 : decode cX0_canSpell 23 = .ok (.getfield 15, 3) := by decide +kernel
theorem dX0_canSpell_26 : decode cX0_canSpell 26 = .ok (.if_icmp .le 5, 3) := by decide +kernel
theorem dX0_canSpell_29 : decode cX0_canSpell 29 = .ok (.iconst 0, 1) := by decide +kernel
theorem dX0_canSpell_30 : decode cX0_canSpell 30 = .ok (.ireturn, 1) := by decide +kernel
theorem dX0_canSpell_31 : decode cX0_canSpell 31 = .ok (.iload_n 2, 1) := by decide +kernel
theorem dX0_canSpell_32 : decode cX0_canSpell 32 = .ok (.bipush 10, 2) := by decide +kernel
theorem dX0_canSpell_34 : decode cX0_canSpell 34 = .ok (.idiv, 1) := by decide +kernel
theorem dX0_canSpell_35 : decode cX0_canSpell 35 = .ok (.istore_n 2, 1) := by decide +kernel
theorem dX0_canSpell_36 : decode cX0_canSpell 36 = .ok (.iinc 3 (-1), 3) := by decide +kernel
theorem dX0_canSpell_39 : decode cX0_canSpell 39 = .ok (.goto (-26), 3) := by decide +kernel
theorem dX0_canSpell_42 : decode cX0_canSpell 42 = .ok (.iload_n 2, 1) := by decide +kernel
theorem dX0_canSpell_43 : decode cX0_canSpell 43 = .ok (.ifCond .ne 7, 3) := by decide +kernel
theorem dX0_canSpell_46 : decode cX0_canSpell 46 = .ok (.iconst 1, 1) := by decide +kernel
theorem dX0_canSpell_47 : decode cX0_canSpell 47 = .ok (.goto 4, 3) := by decide +kernel
theorem dX0_canSpell_50 : decode cX0_canSpell 50 = .ok (.iconst 0, 1) := by decide +kernel
theorem dX0_canSpell_51 : decode cX0_canSpell 51 = .ok (.ireturn, 1) := by decide +kernel
theorem dX0_spell_0 : decode cX0_spell 0 = .ok (.aload_n 0, 1) := by decide +kernel
theorem dX0_spell_1 : decode cX0_spell 1 = .ok (.aload_n 0, 1) := by decide +kernel
theorem dX0_spell_2 : decode cX0_spell 2 = .ok (.getfield 9, 3) := by decide +kernel
theorem dX0_spell_5 : decode cX0_spell 5 = .ok (.aload_n 0, 1) := by decide +kernel
theorem dX0_spell_6 : decode cX0_spell 6 = .ok (.getfield 15, 3) := by decide +kernel
theorem dX0_spell_9 : decode cX0_spell 9 = .ok (.invokevirtual 41, 3) := by decide +kernel
theorem dX0_spell_12 : decode cX0_spell 12 = .ok (.iload_n 1, 1) := by decide +kernel
theorem dX0_spell_13 : decode cX0_spell 13 = .ok (.istore_n 2, 1) := by decide +kernel
theorem dX0_spell_14 : decode cX0_spell 14 = .ok (.aload_n 0, 1) := by decide +kernel
theorem dX0_spell_15 : decode cX0_spell 15 = .ok (.getfield 9, 3) := by decide +kernel
theorem dX0_spell_18 : decode cX0_spell 18 = .ok (.istore_n 3, 1) := by decide +kernel
theorem dX0_spell_19 : decode cX0_spell 19 = .ok (.iload_n 3, 1) := by decide +kernel
theorem dX0_spell_20 : decode cX0_spell 20 = .ok (.iconst 1, 1) := by decide +kernel
theorem dX0_spell_21 : decode cX0_spell 21 = .ok (.if_icmp .lt 24, 3) := by decide +kernel
theorem dX0_spell_24 : decode cX0_spell 24 = .ok (.aload_n 0, 1) := by decide +kernel
theorem dX0_spell_25 : decode cX0_spell 25 = .ok (.iload_n 3, 1) := by decide +kernel
theorem dX0_spell_26 : decode cX0_spell 26 = .ok (.iload_n 2, 1) := by decide +kernel
theorem dX0_spell_27 : decode cX0_spell 27 = .ok (.bipush 10, 2) := by decide +kernel
theorem dX0_spell_29 : decode cX0_spell 29 = .ok (.irem, 1) := by decide +kernel
theorem dX0_spell_30 : decode cX0_spell 30 = .ok (.iconst 1, 1) := by decide +kernel
theorem dX0_spell_31 : decode cX0_spell 31 = .ok (.invokevirtual 45, 3) := by decide +kernel
theorem dX0_spell_34 : decode cX0_spell 34 = .ok (.iload_n 2, 1) := by decide +kernel
theorem dX0_spell_35 : decode cX0_spell 35 = .ok (.bipush 10, 2) := by decide +kernel
theorem dX0_spell_37 : decode cX0_spell 37 = .ok (.idiv, 1) := by decide +kernel
theorem dX0_spell_38 : decode cX0_spell 38 = .ok (.istore_n 2, 1) := by decide +kernel
theorem dX0_spell_39 : decode cX0_spell 39 = .ok (.iinc 3 (-1), 3) := by decide +kernel
theorem dX0_spell_42 : decode cX0_spell 42 = .ok (.goto (-23), 3) := by decide +kernel
theorem dX0_spell_45 : decode cX0_spell 45 = .ok (.return_, 1) := by decide +kernel
theorem dX0_spelling_0 : decode cX0_spelling 0 = .ok (.iconst 0, 1) := by decide +kernel
theorem dX0_spelling_1 : decode cX0_spelling 1 = .ok (.istore_n 1, 1) := by decide +kernel
theorem dX0_spelling_2 : decode cX0_spelling 2 = .ok (.iconst 1, 1) := by decide +kernel
theorem dX0_spelling_3 : decode cX0_spelling 3 = .ok (.istore_n 2, 1) := by decide +kernel
theorem dX0_spelling_4 : decode cX0_spelling 4 = .ok (.iload_n 2, 1) := by decide +kernel
theorem dX0_spelling_5 : decode cX0_spelling 5 = .ok (.aload_n 0, 1) := by decide +kernel
theorem dX0_spelling_6 : decode cX0_spelling 6 = .ok (.getfield 9, 3) := by decide +kernel
theorem dX0_spelling_9 : decode cX0_spelling 9 = .ok (.if_icmp .gt 73, 3) := by decide +kernel
theorem dX0_spelling_12 : decode cX0_spelling 12 = .ok (.iconst 0, 1) := by decide +kernel
theorem dX0_spelling_13 : decode cX0_spelling 13 = .ok (.istore_n 3, 1) := by decide +kernel
theorem dX0_spelling_14 : decode cX0_spelling 14 = .ok (.iconst 1, 1) := by decide +kernel
theorem dX0_spelling_15 : decode cX0_spelling 15 = .ok (.istore 4, 2) := by decide +kernel
theorem dX0_spelling_17 : decode cX0_spelling 17 = .ok (.iload 4, 2) := by decide +kernel
theorem dX0_spelling_19 : decode cX0_spelling 19 = .ok (.aload_n 0, 1) := by decide +kernel
theorem dX0_spelling_20 : decode cX0_spelling 20 = .ok (.getfield 15, 3) := by decide +kernel
theorem dX0_spelling_23 : decode cX0_spelling 23 = .ok (.if_icmp .gt 46, 3) := by decide +kernel
theorem dX0_spelling_26 : decode cX0_spelling 26 = .ok (.aload_n 0, 1) := by decide +kernel
theorem dX0_spelling_27 : decode cX0_spelling 27 = .ok (.iload_n 2, 1) := by decide +kernel
theorem dX0_spelling_28 : decode cX0_spelling 28 = .ok (.iload 4, 2) := by decide +kernel
theorem dX0_spelling_30 : decode cX0_spelling 30 = .ok (.invokevirtual 33, 3) := by decide +kernel
theorem dX0_spelling_33 : decode cX0_spelling 33 = .ok (.istore 5, 2) := by decide +kernel
theorem dX0_spelling_35 : decode cX0_spelling 35 = .ok (.iload 5, 2) := by decide +kernel
theorem dX0_spelling_37 : decode cX0_spelling 37 = .ok (.iconst 1, 1) := by decide +kernel
theorem dX0_spelling_38 : decode cX0_spelling 38 = .ok (.if_icmp .gt 13, 3) := by decide +kernel
theorem dX0_spelling_41 : decode cX0_spelling 41 = .ok (.iload 5, 2) := by decide +kernel
theorem dX0_spelling_43 : decode cX0_spelling 43 = .ok (.iconst 1, 1) := by decide +kernel
theorem dX0_spelling_44 : decode cX0_spelling 44 = .ok (.if_icmp .ne 10, 3) := by decide +kernel
theorem dX0_spelling_47 : decode cX0_spelling 47 = .ok (.iload_n 3, 1) := by decide +kernel
theorem dX0_spelling_48 : decode cX0_spelling 48 = .ok (.ifCond .le 6, 3) := by decide +kernel
theorem dX0_spelling_51 : decode cX0_spelling 51 = .ok (.bipush (-2), 2) := by decide +kernel
theorem dX0_spelling_53 : decode cX0_spelling 53 = .ok (.ireturn, 1) := by decide +kernel
theorem dX0_spelling_54 : decode cX0_spelling 54 = .ok (.iload 5, 2) := by decide +kernel
theorem dX0_spelling_56 : decode cX0_spelling 56 = .ok (.iconst 1, 1) := by decide +kernel
theorem dX0_spelling_57 : decode cX0_spelling 57 = .ok (.if_icmp .ne 6, 3) := by decide +kernel
theorem dX0_spelling_60 : decode cX0_spelling 60 = .ok (.iload 4, 2) := by decide +kernel
theorem dX0_spelling_62 : decode cX0_spelling 62 = .ok (.istore_n 3, 1) := by decide +kernel
theorem dX0_spelling_63 : decode cX0_spelling 63 = .ok (.iinc 4 1, 3) := by decide +kernel
theorem dX0_spelling_66 : decode cX0_spelling 66 = .ok (.goto (-49), 3) := by decide +kernel
theorem dX0_spelling_69 : decode cX0_spelling 69 = .ok (.bipush 10, 2) := by decide +kernel
theorem dX0_spelling_71 : decode cX0_spelling 71 = .ok (.iload_n 1, 1) := by decide +kernel
theorem dX0_spelling_72 : decode cX0_spelling 72 = .ok (.imul, 1) := by decide +kernel
theorem dX0_spelling_73 : decode cX0_spelling 73 = .ok (.iload_n 3, 1) := by decide +kernel
theorem dX0_spelling_74 : decode cX0_spelling 74 = .ok (.iadd, 1) := by decide +kernel
theorem dX0_spelling_75 : decode cX0_spelling 75 = .ok (.istore_n 1, 1) := by decide +kernel
theorem dX0_spelling_76 : decode cX0_spelling 76 = .ok (.iinc 2 1, 3) := by decide +kernel
theorem dX0_spelling_79 : decode cX0_spelling 79 = .ok (.goto (-75), 3) := by decide +kernel
theorem dX0_spelling_82 : decode cX0_spelling 82 = .ok (.iload_n 1, 1) := by decide +kernel
theorem dX0_spelling_83 : decode cX0_spelling 83 = .ok (.ireturn, 1) := by decide +kernel
theorem dX0_isMarked_0 : decode cX0_isMarked 0 = .ok (.aload_n 0, 1) := by decide +kernel
theorem dX0_isMarked_1 : decode cX0_isMarked 1 = .ok (.invokevirtual 49, 3) := by decide +kernel
theorem dX0_isMarked_4 : decode cX0_isMarked 4 = .ok (.bipush (-2), 2) := by decide +kernel
theorem dX0_isMarked_6 : decode cX0_isMarked 6 = .ok (.if_icmp .ne 5, 3) := by decide +kernel
theorem dX0_isMarked_9 : decode cX0_isMarked 9 = .ok (.iconst 0, 1) := by decide +kernel
theorem dX0_isMarked_10 : decode cX0_isMarked 10 = .ok (.ireturn, 1) := by decide +kernel
theorem dX0_isMarked_11 : decode cX0_isMarked 11 = .ok (.iconst 1, 1) := by decide +kernel
theorem dX0_isMarked_12 : decode cX0_isMarked 12 = .ok (.istore_n 1, 1) := by decide +kernel
theorem dX0_isMarked_13 : decode cX0_isMarked 13 = .ok (.iload_n 1, 1) := by decide +kernel
theorem dX0_isMarked_14 : decode cX0_isMarked 14 = .ok (.aload_n 0, 1) := by decide +kernel
theorem dX0_isMarked_15 : decode cX0_isMarked 15 = .ok (.getfield 15, 3) := by decide +kernel
theorem dX0_isMarked_18 : decode cX0_isMarked 18 = .ok (.if_icmp .gt 43, 3) := by decide +kernel
theorem dX0_isMarked_21 : decode cX0_isMarked 21 = .ok (.iconst 0, 1) := by decide +kernel
theorem dX0_isMarked_22 : decode cX0_isMarked 22 = .ok (.istore_n 2, 1) := by decide +kernel
theorem dX0_isMarked_23 : decode cX0_isMarked 23 = .ok (.iconst 1, 1) := by decide +kernel
theorem dX0_isMarked_24 : decode cX0_isMarked 24 = .ok (.istore_n 3, 1) := by decide +kernel
theorem dX0_isMarked_25 : decode cX0_isMarked 25 = .ok (.iload_n 3, 1) := by decide +kernel
theorem dX0_isMarked_26 : decode cX0_isMarked 26 = .ok (.aload_n 0, 1) := by decide +kernel
theorem dX0_isMarked_27 : decode cX0_isMarked 27 = .ok (.getfield 9, 3) := by decide +kernel
theorem dX0_isMarked_30 : decode cX0_isMarked 30 = .ok (.if_icmp .gt 18, 3) := by decide +kernel
theorem dX0_isMarked_33 : decode cX0_isMarked 33 = .ok (.iload_n 2, 1) := by decide +kernel
theorem dX0_isMarked_34 : decode cX0_isMarked 34 = .ok (.aload_n 0, 1) := by decide +kernel
theorem dX0_isMarked_35 : decode cX0_isMarked 35 = .ok (.iload_n 3, 1) := by decide +kernel
theorem dX0_isMarked_36 : decode cX0_isMarked 36 = .ok (.iload_n 1, 1) := by decide +kernel
theorem dX0_isMarked_37 : decode cX0_isMarked 37 = .ok (.invokevirtual 33, 3) := by decide +kernel
theorem dX0_isMarked_40 : decode cX0_isMarked 40 = .ok (.iadd, 1) := by decide +kernel
theorem dX0_isMarked_41 : decode cX0_isMarked 41 = .ok (.istore_n 2, 1) := by decide +kernel
theorem dX0_isMarked_42 : decode cX0_isMarked 42 = .ok (.iinc 3 1, 3) := by decide +kernel
theorem dX0_isMarked_45 : decode cX0_isMarked 45 = .ok (.goto (-20), 3) := by decide +kernel
theorem dX0_isMarked_48 : decode cX0_isMarked 48 = .ok (.iload_n 2, 1) := by decide +kernel
theorem dX0_isMarked_49 : decode cX0_isMarked 49 = .ok (.iconst 1, 1) := by decide +kernel
theorem dX0_isMarked_50 : decode cX0_isMarked 50 = .ok (.if_icmp .le 5, 3) := by decide +kernel
theorem dX0_isMarked_53 : decode cX0_isMarked 53 = .ok (.iconst 0, 1) := by decide +kernel
theorem dX0_isMarked_54 : decode cX0_isMarked 54 = .ok (.ireturn, 1) := by decide +kernel
theorem dX0_isMarked_55 : decode cX0_isMarked 55 = .ok (.iinc 1 1, 3) := by decide +kernel
theorem dX0_isMarked_58 : decode cX0_isMarked 58 = .ok (.goto (-45), 3) := by decide +kernel
theorem dX0_isMarked_61 : decode cX0_isMarked 61 = .ok (.iconst 1, 1) := by decide +kernel
theorem dX0_isMarked_62 : decode cX0_isMarked 62 = .ok (.ireturn, 1) := by decide +kernel
theorem dX1_init_0 : decode cX1_init 0 = .ok (.aload_n 0, 1) := by decide +kernel
theorem dX1_init_1 : decode cX1_init 1 = .ok (.invokespecial 3, 3) := by decide +kernel
theorem dX1_init_4 : decode cX1_init 4 = .ok (.aload_n 0, 1) := by decide +kernel
theorem dX1_init_5 : decode cX1_init 5 = .ok (.bipush 36, 2) := by decide +kernel
theorem dX1_init_7 : decode cX1_init 7 = .ok (.anewarray 9, 3) := by decide +kernel
theorem dX1_init_10 : decode cX1_init 10 = .ok (.putfield 11, 3) := by decide +kernel
theorem dX1_init_13 : decode cX1_init 13 = .ok (.iconst 0, 1) := by decide +kernel
theorem dX1_init_14 : decode cX1_init 14 = .ok (.istore_n 1, 1) := by decide +kernel
theorem dX1_init_15 : decode cX1_init 15 = .ok (.iload_n 1, 1) := by decide +kernel
theorem dX1_init_16 : decode cX1_init 16 = .ok (.bipush 36, 2) := by decide +kernel
theorem dX1_init_18 : decode cX1_init 18 = .ok (.if_icmp .ge 22, 3) := by decide +kernel
theorem dX1_init_21 : decode cX1_init 21 = .ok (.aload_n 0, 1) := by decide +kernel
theorem dX1_init_22 : decode cX1_init 22 = .ok (.getfield 11, 3) := by decide +kernel
theorem dX1_init_25 : decode cX1_init 25 = .ok (.iload_n 1, 1) := by decide +kernel
theorem dX1_init_26 : decode cX1_init 26 = .ok (.new 9, 3) := by decide +kernel
theorem dX1_init_29 : decode cX1_init 29 = .ok (.dup, 1) := by decide +kernel
theorem dX1_init_30 : decode cX1_init 30 = .ok (.invokespecial 17, 3) := by decide +kernel
theorem dX1_init_33 : decode cX1_init 33 = .ok (.aastore, 1) := by decide +kernel
theorem dX1_init_34 : decode cX1_init 34 = .ok (.iinc 1 1, 3) := by decide +kernel
theorem dX1_init_37 : decode cX1_init 37 = .ok (.goto (-22), 3) := by decide +kernel
theorem dX1_init_40 : decode cX1_init 40 = .ok (.aload_n 0, 1) := by decide +kernel
theorem dX1_init_41 : decode cX1_init 41 = .ok (.new 9, 3) := by decide +kernel
theorem dX1_init_44 : decode cX1_init 44 = .ok (.dup, 1) := by decide +kernel
theorem dX1_init_45 : decode cX1_init 45 = .ok (.invokespecial 17, 3) := by decide +kernel
theorem dX1_init_48 : decode cX1_init 48 = .ok (.putfield 18, 3) := by decide +kernel
theorem dX1_init_51 : decode cX1_init 51 = .ok (.aload_n 0, 1) := by decide +kernel
theorem dX1_init_52 : decode cX1_init 52 = .ok (.iconst 0, 1) := by decide +kernel
theorem dX1_init_53 : decode cX1_init 53 = .ok (.putfield 22, 3) := by decide +kernel
theorem dX1_init_56 : decode cX1_init 56 = .ok (.aload_n 0, 1) := by decide +kernel
theorem dX1_init_57 : decode cX1_init 57 = .ok (.iconst 0, 1) := by decide +kernel
theorem dX1_init_58 : decode cX1_init 58 = .ok (.putfield 26, 3) := by decide +kernel
theorem dX1_init_61 : decode cX1_init 61 = .ok (.aload_n 0, 1) := by decide +kernel
theorem dX1_init_62 : decode cX1_init 62 = .ok (.bipush 36, 2) := by decide +kernel
theorem dX1_init_64 : decode cX1_init 64 = .ok (.newarray .int, 2) := by decide +kernel
theorem dX1_init_66 : decode cX1_init 66 = .ok (.putfield 29, 3) := by decide +kernel
theorem dX1_init_69 : decode cX1_init 69 = .ok (.aload_n 0, 1) := by decide +kernel
theorem dX1_init_70 : decode cX1_init 70 = .ok (.iconst 0, 1) := by decide +kernel
theorem dX1_init_71 : decode cX1_init 71 = .ok (.putfield 33, 3) := by decide +kernel
theorem dX1_init_74 : decode cX1_init 74 = .ok (.return_, 1) := by decide +kernel
theorem dX1_at_0 : decode cX1_at 0 = .ok (.iload_n 1, 1) := by decide +kernel
theorem dX1_at_1 : decode cX1_at 1 = .ok (.ifCond .lt 17, 3) := by decide +kernel
theorem dX1_at_4 : decode cX1_at 4 = .ok (.iload_n 1, 1) := by decide +kernel
theorem dX1_at_5 : decode cX1_at 5 = .ok (.iconst 5, 1) := by decide +kernel
theorem dX1_at_6 : decode cX1_at 6 = .ok (.if_icmp .gt 12, 3) := by decide +kernel
theorem dX1_at_9 : decode cX1_at 9 = .ok (.iload_n 2, 1) := by decide +kernel
theorem dX1_at_10 : decode cX1_at 10 = .ok (.ifCond .lt 8, 3) := by decide +kernel
theorem dX1_at_13 : decode cX1_at 13 = .ok (.iload_n 2, 1) := by decide +kernel
theorem dX1_at_14 : decode cX1_at 14 = .ok (.iconst 5, 1) := by decide +kernel
theorem dX1_at_15 : decode cX1_at 15 = .ok (.if_icmp .le 8, 3) := by decide +kernel
theorem dX1_at_18 : decode cX1_at 18 = .ok (.aload_n 0, 1) := by decide +kernel
theorem dX1_at_19 : decode cX1_at 19 = .ok (.getfield 18, 3) := by decide +kernel
theorem dX1_at_22 : decode cX1_at 22 = .ok (.areturn, 1) := by decide +kernel
theorem dX1_at_23 : decode cX1_at 23 = .ok (.aload_n 0, 1) := by decide +kernel
theorem dX1_at_24 : decode cX1_at 24 = .ok (.getfield 11, 3) := by decide +kernel
theorem dX1_at_27 : decode cX1_at 27 = .ok (.iload_n 1, 1) := by decide +kernel
theorem dX1_at_28 : decode cX1_at 28 = .ok (.bipush 6, 2) := by decide +kernel
theorem dX1_at_30 : decode cX1_at 30 = .ok (.imul, 1) := by decide +kernel
theorem dX1_at_31 : decode cX1_at 31 = .ok (.iload_n 2, 1) := by decide +kernel
theorem dX1_at_32 : decode cX1_at 32 = .ok (.iadd, 1) := by decide +kernel
theorem dX1_at_33 : decode cX1_at 33 = .ok (.aaload, 1) := by decide +kernel
theorem dX1_at_34 : decode cX1_at 34 = .ok (.areturn, 1) := by decide +kernel
theorem dX1_growOver_0 : decode cX1_growOver 0 = .ok (.aload_n 0, 1) := by decide +kernel
theorem dX1_growOver_1 : decode cX1_growOver 1 = .ok (.aload_n 1, 1) := by decide +kernel
theorem dX1_growOver_2 : decode cX1_growOver 2 = .ok (.getfield 36, 3) := by decide +kernel
theorem dX1_growOver_5 : decode cX1_growOver 5 = .ok (.putfield 22, 3) := by decide +kernel
theorem dX1_growOver_8 : decode cX1_growOver 8 = .ok (.aload_n 0, 1) := by decide +kernel
theorem dX1_growOver_9 : decode cX1_growOver 9 = .ok (.aload_n 1, 1) := by decide +kernel
theorem dX1_growOver_10 : decode cX1_growOver 10 = .ok (.getfield 39, 3) := by decide +kernel
theorem dX1_growOver_13 : decode cX1_growOver 13 = .ok (.putfield 26, 3) := by decide +kernel
theorem dX1_growOver_16 : decode cX1_growOver 16 = .ok (.aload_n 0, 1) := by decide +kernel
theorem dX1_growOver_17 : decode cX1_growOver 17 = .ok (.iconst 0, 1) := by decide +kernel
theorem dX1_growOver_18 : decode cX1_growOver 18 = .ok (.putfield 33, 3) := by decide +kernel
theorem dX1_growOver_21 : decode cX1_growOver 21 = .ok (.iconst 0, 1) := by decide +kernel
theorem dX1_growOver_22 : decode cX1_growOver 22 = .ok (.istore_n 2, 1) := by decide +kernel
theorem dX1_growOver_23 : decode cX1_growOver 23 = .ok (.iload_n 2, 1) := by decide +kernel
theorem dX1_growOver_24 : decode cX1_growOver 24 = .ok (.aload_n 0, 1) := by decide +kernel
theorem dX1_growOver_25 : decode cX1_growOver 25 = .ok (.getfield 22, 3) := by decide +kernel
theorem dX1_growOver_28 : decode cX1_growOver 28 = .ok (.if_icmp .gt 90, 3) := by decide +kernel
theorem dX1_growOver_31 : decode cX1_growOver 31 = .ok (.iconst 0, 1) := by decide +kernel
theorem dX1_growOver_32 : decode cX1_growOver 32 = .ok (.istore_n 3, 1) := by decide +kernel
theorem dX1_growOver_33 : decode cX1_growOver 33 = .ok (.iload_n 3, 1) := by decide +kernel
theorem dX1_growOver_34 : decode cX1_growOver 34 = .ok (.aload_n 0, 1) := by decide +kernel
theorem dX1_growOver_35 : decode cX1_growOver 35 = .ok (.getfield 26, 3) := by decide +kernel
theorem dX1_growOver_38 : decode cX1_growOver 38 = .ok (.if_icmp .gt 74, 3) := by decide +kernel
theorem dX1_growOver_41 : decode cX1_growOver 41 = .ok (.iload_n 2, 1) := by decide +kernel
theorem dX1_growOver_42 : decode cX1_growOver 42 = .ok (.ifCond .eq 7, 3) := by decide +kernel
theorem dX1_growOver_45 : decode cX1_growOver 45 = .ok (.iload_n 3, 1) := by decide +kernel
theorem dX1_growOver_46 : decode cX1_growOver 46 = .ok (.ifCond .ne 15, 3) := by decide +kernel
theorem dX1_growOver_49 : decode cX1_growOver 49 = .ok (.aload_n 0, 1) := by decide +kernel
theorem dX1_growOver_50 : decode cX1_growOver 50 = .ok (.iload_n 2, 1) := by decide +kernel
theorem dX1_growOver_51 : decode cX1_growOver 51 = .ok (.iload_n 3, 1) := by decide +kernel
theorem dX1_growOver_52 : decode cX1_growOver 52 = .ok (.invokevirtual 40, 3) := by decide +kernel
theorem dX1_growOver_55 : decode cX1_growOver 55 = .ok (.invokevirtual 44, 3) := by decide +kernel
theorem dX1_growOver_58 : decode cX1_growOver 58 = .ok (.goto 48, 3) := by decide +kernel
theorem dX1_growOver_61 : decode cX1_growOver 61 = .ok (.aload_n 0, 1) := by decide +kernel
theorem dX1_growOver_62 : decode cX1_growOver 62 = .ok (.iload_n 2, 1) := by decide +kernel
theorem dX1_growOver_63 : decode cX1_growOver 63 = .ok (.iload_n 3, 1) := by decide +kernel
theorem dX1_growOver_64 : decode cX1_growOver 64 = .ok (.invokevirtual 40, 3) := by decide +kernel
theorem dX1_growOver_67 : decode cX1_growOver 67 = .ok (.aload_n 0, 1) := by decide +kernel
theorem dX1_growOver_68 : decode cX1_growOver 68 = .ok (.iload_n 2, 1) := by decide +kernel
theorem dX1_growOver_69 : decode cX1_growOver 69 = .ok (.iconst 1, 1) := by decide +kernel
theorem dX1_growOver_70 : decode cX1_growOver 70 = .ok (.isub, 1) := by decide +kernel
theorem dX1_growOver_71 : decode cX1_growOver 71 = .ok (.iload_n 3, 1) := by decide +kernel
theorem dX1_growOver_72 : decode cX1_growOver 72 = .ok (.iconst 1, 1) := by decide +kernel
theorem dX1_growOver_73 : decode cX1_growOver 73 = .ok (.isub, 1) := by decide +kernel
theorem dX1_growOver_74 : decode cX1_growOver 74 = .ok (.invokevirtual 40, 3) := by decide +kernel
theorem dX1_growOver_77 : decode cX1_growOver 77 = .ok (.aload_n 0, 1) := by decide +kernel
theorem dX1_growOver_78 : decode cX1_growOver 78 = .ok (.iload_n 2, 1) := by decide +kernel
theorem dX1_growOver_79 : decode cX1_growOver 79 = .ok (.iconst 1, 1) := by decide +kernel
theorem dX1_growOver_80 : decode cX1_growOver 80 = .ok (.isub, 1) := by decide +kernel
theorem dX1_growOver_81 : decode cX1_growOver 81 = .ok (.iload_n 3, 1) := by decide +kernel
theorem dX1_growOver_82 : decode cX1_growOver 82 = .ok (.invokevirtual 40, 3) := by decide +kernel
theorem dX1_growOver_85 : decode cX1_growOver 85 = .ok (.aload_n 0, 1) := by decide +kernel
theorem dX1_growOver_86 : decode cX1_growOver 86 = .ok (.iload_n 2, 1) := by decide +kernel
theorem dX1_growOver_87 : decode cX1_growOver 87 = .ok (.iload_n 3, 1) := by decide +kernel
theorem dX1_growOver_88 : decode cX1_growOver 88 = .ok (.iconst 1, 1) := by decide +kernel
theorem dX1_growOver_89 : decode cX1_growOver 89 = .ok (.isub, 1) := by decide +kernel
theorem dX1_growOver_90 : decode cX1_growOver 90 = .ok (.invokevirtual 40, 3) := by decide +kernel
theorem dX1_growOver_93 : decode cX1_growOver 93 = .ok (.aload_n 1, 1) := by decide +kernel
theorem dX1_growOver_94 : decode cX1_growOver 94 = .ok (.iload_n 2, 1) := by decide +kernel
theorem dX1_growOver_95 : decode cX1_growOver 95 = .ok (.iload_n 3, 1) := by decide +kernel
theorem dX1_growOver_96 : decode cX1_growOver 96 = .ok (.invokevirtual 47, 3) := by decide +kernel
theorem dX1_growOver_99 : decode cX1_growOver 99 = .ok (.aload_n 1, 1) := by decide +kernel
theorem dX1_growOver_100 : decode cX1_growOver 100 = .ok (.getfield 51, 3) := by decide +kernel
theorem dX1_growOver_103 : decode cX1_growOver 103 = .ok (.invokevirtual 54, 3) := by decide +kernel
theorem dX1_growOver_106 : decode cX1_growOver 106 = .ok (.iinc 3 1, 3) := by decide +kernel
theorem dX1_growOver_109 : decode cX1_growOver 109 = .ok (.goto (-76), 3) := by decide +kernel
theorem dX1_growOver_112 : decode cX1_growOver 112 = .ok (.iinc 2 1, 3) := by decide +kernel
theorem dX1_growOver_115 : decode cX1_growOver 115 = .ok (.goto (-92), 3) := by decide +kernel
theorem dX1_growOver_118 : decode cX1_growOver 118 = .ok (.return_, 1) := by decide +kernel
theorem dX1_goBackInto_0 : decode cX1_goBackInto 0 = .ok (.iconst 0, 1) := by decide +kernel
theorem dX1_goBackInto_1 : decode cX1_goBackInto 1 = .ok (.istore_n 2, 1) := by decide +kernel
theorem dX1_goBackInto_2 : decode cX1_goBackInto 2 = .ok (.aload_n 0, 1) := by decide +kernel
theorem dX1_goBackInto_3 : decode cX1_goBackInto 3 = .ok (.getfield 22, 3) := by decide +kernel
theorem dX1_goBackInto_6 : decode cX1_goBackInto 6 = .ok (.istore_n 3, 1) := by decide +kernel
theorem dX1_goBackInto_7 : decode cX1_goBackInto 7 = .ok (.iload_n 3, 1) := by decide +kernel
theorem dX1_goBackInto_8 : decode cX1_goBackInto 8 = .ok (.iconst 1, 1) := by decide +kernel
theorem dX1_goBackInto_9 : decode cX1_goBackInto 9 = .ok (.if_icmp .lt 88, 3) := by decide +kernel
theorem dX1_goBackInto_12 : decode cX1_goBackInto 12 = .ok (.aload_n 0, 1) := by decide +kernel
theorem dX1_goBackInto_13 : decode cX1_goBackInto 13 = .ok (.getfield 26, 3) := by decide +kernel
theorem dX1_goBackInto_16 : decode cX1_goBackInto 16 = .ok (.istore 4, 2) := by decide +kernel
theorem dX1_goBackInto_18 : decode cX1_goBackInto 18 = .ok (.iload 4, 2) := by decide +kernel
theorem dX1_goBackInto_20 : decode cX1_goBackInto 20 = .ok (.iconst 1, 1) := by decide +kernel
theorem dX1_goBackInto_21 : decode cX1_goBackInto 21 = .ok (.if_icmp .lt 70, 3) := by decide +kernel
theorem dX1_goBackInto_24 : decode cX1_goBackInto 24 = .ok (.aload_n 0, 1) := by decide +kernel
theorem dX1_goBackInto_25 : decode cX1_goBackInto 25 = .ok (.iload_n 3, 1) := by decide +kernel
theorem dX1_goBackInto_26 : decode cX1_goBackInto 26 = .ok (.iconst 1, 1) := by decide +kernel
theorem dX1_goBackInto_27 : decode cX1_goBackInto 27 = .ok (.isub, 1) := by decide +kernel
theorem dX1_goBackInto_28 : decode cX1_goBackInto 28 = .ok (.iload 4, 2) := by decide +kernel
theorem dX1_goBackInto_30 : decode cX1_goBackInto 30 = .ok (.iconst 1, 1) := by decide +kernel
theorem dX1_goBackInto_31 : decode cX1_goBackInto 31 = .ok (.isub, 1) := by decide +kernel
theorem dX1_goBackInto_32 : decode cX1_goBackInto 32 = .ok (.invokevirtual 40, 3) := by decide +kernel
theorem dX1_goBackInto_35 : decode cX1_goBackInto 35 = .ok (.aload_n 0, 1) := by decide +kernel
theorem dX1_goBackInto_36 : decode cX1_goBackInto 36 = .ok (.iload_n 3, 1) := by decide +kernel
theorem dX1_goBackInto_37 : decode cX1_goBackInto 37 = .ok (.iload 4, 2) := by decide +kernel
theorem dX1_goBackInto_39 : decode cX1_goBackInto 39 = .ok (.invokevirtual 40, 3) := by decide +kernel
theorem dX1_goBackInto_42 : decode cX1_goBackInto 42 = .ok (.aload_n 0, 1) := by decide +kernel
theorem dX1_goBackInto_43 : decode cX1_goBackInto 43 = .ok (.iload_n 3, 1) := by decide +kernel
theorem dX1_goBackInto_44 : decode cX1_goBackInto 44 = .ok (.iconst 1, 1) := by decide +kernel
theorem dX1_goBackInto_45 : decode cX1_goBackInto 45 = .ok (.isub, 1) := by decide +kernel
theorem dX1_goBackInto_46 : decode cX1_goBackInto 46 = .ok (.iload 4, 2) := by decide +kernel
theorem dX1_goBackInto_48 : decode cX1_goBackInto 48 = .ok (.invokevirtual 40, 3) := by decide +kernel
theorem dX1_goBackInto_51 : decode cX1_goBackInto 51 = .ok (.aload_n 0, 1) := by decide +kernel
theorem dX1_goBackInto_52 : decode cX1_goBackInto 52 = .ok (.iload_n 3, 1) := by decide +kernel
theorem dX1_goBackInto_53 : decode cX1_goBackInto 53 = .ok (.iload 4, 2) := by decide +kernel
theorem dX1_goBackInto_55 : decode cX1_goBackInto 55 = .ok (.iconst 1, 1) := by decide +kernel
theorem dX1_goBackInto_56 : decode cX1_goBackInto 56 = .ok (.isub, 1) := by decide +kernel
theorem dX1_goBackInto_57 : decode cX1_goBackInto 57 = .ok (.invokevirtual 40, 3) := by decide +kernel
theorem dX1_goBackInto_60 : decode cX1_goBackInto 60 = .ok (.aload_n 1, 1) := by decide +kernel
theorem dX1_goBackInto_61 : decode cX1_goBackInto 61 = .ok (.getfield 51, 3) := by decide +kernel
theorem dX1_goBackInto_64 : decode cX1_goBackInto 64 = .ok (.invokevirtual 58, 3) := by decide +kernel
theorem dX1_goBackInto_67 : decode cX1_goBackInto 67 = .ok (.istore 5, 2) := by decide +kernel
theorem dX1_goBackInto_69 : decode cX1_goBackInto 69 = .ok (.aload_n 1, 1) := by decide +kernel
theorem dX1_goBackInto_70 : decode cX1_goBackInto 70 = .ok (.iload_n 3, 1) := by decide +kernel
theorem dX1_goBackInto_71 : decode cX1_goBackInto 71 = .ok (.iload 4, 2) := by decide +kernel
theorem dX1_goBackInto_73 : decode cX1_goBackInto 73 = .ok (.iload 5, 2) := by decide +kernel
theorem dX1_goBackInto_75 : decode cX1_goBackInto 75 = .ok (.invokevirtual 62, 3) := by decide +kernel
theorem dX1_goBackInto_78 : decode cX1_goBackInto 78 = .ok (.iload_n 2, 1) := by decide +kernel
theorem dX1_goBackInto_79 : decode cX1_goBackInto 79 = .ok (.iload 5, 2) := by decide +kernel
theorem dX1_goBackInto_81 : decode cX1_goBackInto 81 = .ok (.invokestatic 66, 3) := by decide +kernel
theorem dX1_goBackInto_84 : decode cX1_goBackInto 84 = .ok (.istore_n 2, 1) := by decide +kernel
theorem dX1_goBackInto_85 : decode cX1_goBackInto 85 = .ok (.iinc 4 (-1), 3) := by decide +kernel
theorem dX1_goBackInto_88 : decode cX1_goBackInto 88 = .ok (.goto (-70), 3) := by decide +kernel
theorem dX1_goBackInto_91 : decode cX1_goBackInto 91 = .ok (.iinc 3 (-1), 3) := by decide +kernel
theorem dX1_goBackInto_94 : decode cX1_goBackInto 94 = .ok (.goto (-87), 3) := by decide +kernel
theorem dX1_goBackInto_97 : decode cX1_goBackInto 97 = .ok (.iload_n 2, 1) := by decide +kernel
theorem dX1_goBackInto_98 : decode cX1_goBackInto 98 = .ok (.ireturn, 1) := by decide +kernel
theorem dX1_rimFits_0 : decode cX1_rimFits 0 = .ok (.iload_n 1, 1) := by decide +kernel
theorem dX1_rimFits_1 : decode cX1_rimFits 1 = .ok (.iconst 1, 1) := by decide +kernel
theorem dX1_rimFits_2 : decode cX1_rimFits 2 = .ok (.if_icmp .eq 8, 3) := by decide +kernel
theorem dX1_rimFits_5 : decode cX1_rimFits 5 = .ok (.iload_n 1, 1) := by decide +kernel
theorem dX1_rimFits_6 : decode cX1_rimFits 6 = .ok (.iconst 3, 1) := by decide +kernel
theorem dX1_rimFits_7 : decode cX1_rimFits 7 = .ok (.if_icmp .ne 7, 3) := by decide +kernel
theorem dX1_rimFits_10 : decode cX1_rimFits 10 = .ok (.iconst 1, 1) := by decide +kernel
theorem dX1_rimFits_11 : decode cX1_rimFits 11 = .ok (.goto 4, 3) := by decide +kernel
theorem dX1_rimFits_14 : decode cX1_rimFits 14 = .ok (.iconst 0, 1) := by decide +kernel
theorem dX1_rimFits_15 : decode cX1_rimFits 15 = .ok (.istore_n 2, 1) := by decide +kernel
theorem dX1_rimFits_16 : decode cX1_rimFits 16 = .ok (.iload_n 1, 1) := by decide +kernel
theorem dX1_rimFits_17 : decode cX1_rimFits 17 = .ok (.iconst 2, 1) := by decide +kernel
theorem dX1_rimFits_18 : decode cX1_rimFits 18 = .ok (.if_icmp .eq 8, 3) := by decide +kernel
theorem dX1_rimFits_21 : decode cX1_rimFits 21 = .ok (.iload_n 1, 1) := by decide +kernel
theorem dX1_rimFits_22 : decode cX1_rimFits 22 = .ok (.iconst 3, 1) := by decide +kernel
theorem dX1_rimFits_23 : decode cX1_rimFits 23 = .ok (.if_icmp .ne 7, 3) := by decide +kernel
theorem dX1_rimFits_26 : decode cX1_rimFits 26 = .ok (.iconst 1, 1) := by decide +kernel
theorem dX1_rimFits_27 : decode cX1_rimFits 27 = .ok (.goto 4, 3) := by decide +kernel
theorem dX1_rimFits_30 : decode cX1_rimFits 30 = .ok (.iconst 0, 1) := by decide +kernel
theorem dX1_rimFits_31 : decode cX1_rimFits 31 = .ok (.istore_n 3, 1) := by decide +kernel
theorem dX1_rimFits_32 : decode cX1_rimFits 32 = .ok (.iconst 1, 1) := by decide +kernel
theorem dX1_rimFits_33 : decode cX1_rimFits 33 = .ok (.istore 4, 2) := by decide +kernel
theorem dX1_rimFits_35 : decode cX1_rimFits 35 = .ok (.iload 4, 2) := by decide +kernel
theorem dX1_rimFits_37 : decode cX1_rimFits 37 = .ok (.aload_n 0, 1) := by decide +kernel
theorem dX1_rimFits_38 : decode cX1_rimFits 38 = .ok (.getfield 22, 3) := by decide +kernel
theorem dX1_rimFits_41 : decode cX1_rimFits 41 = .ok (.if_icmp .gt 40, 3) := by decide +kernel
theorem dX1_rimFits_44 : decode cX1_rimFits 44 = .ok (.aload_n 0, 1) := by decide +kernel
theorem dX1_rimFits_45 : decode cX1_rimFits 45 = .ok (.iload 4, 2) := by decide +kernel
theorem dX1_rimFits_47 : decode cX1_rimFits 47 = .ok (.aload_n 0, 1) := by decide +kernel
theorem dX1_rimFits_48 : decode cX1_rimFits 48 = .ok (.getfield 26, 3) := by decide +kernel
theorem dX1_rimFits_51 : decode cX1_rimFits 51 = .ok (.invokevirtual 40, 3) := by decide +kernel
theorem dX1_rimFits_54 : decode cX1_rimFits 54 = .ok (.aload_n 0, 1) := by decide +kernel
theorem dX1_rimFits_55 : decode cX1_rimFits 55 = .ok (.iload 4, 2) := by decide +kernel
theorem dX1_rimFits_57 : decode cX1_rimFits 57 = .ok (.iconst 1, 1) := by decide +kernel
theorem dX1_rimFits_58 : decode cX1_rimFits 58 = .ok (.isub, 1) := by decide +kernel
theorem dX1_rimFits_59 : decode cX1_rimFits 59 = .ok (.aload_n 0, 1) := by decide +kernel
theorem dX1_rimFits_60 : decode cX1_rimFits 60 = .ok (.getfield 26, 3) := by decide +kernel
theorem dX1_rimFits_63 : decode cX1_rimFits 63 = .ok (.invokevirtual 40, 3) := by decide +kernel
theorem dX1_rimFits_66 : decode cX1_rimFits 66 = .ok (.iload_n 2, 1) := by decide +kernel
theorem dX1_rimFits_67 : decode cX1_rimFits 67 = .ok (.invokevirtual 71, 3) := by decide +kernel
theorem dX1_rimFits_70 : decode cX1_rimFits 70 = .ok (.ifCond .ne 5, 3) := by decide +kernel
theorem dX1_rimFits_73 : decode cX1_rimFits 73 = .ok (.iconst 0, 1) := by decide +kernel
theorem dX1_rimFits_74 : decode cX1_rimFits 74 = .ok (.ireturn, 1) := by decide +kernel
theorem dX1_rimFits_75 : decode cX1_rimFits 75 = .ok (.iinc 4 1, 3) := by decide +kernel
theorem dX1_rimFits_78 : decode cX1_rimFits 78 = .ok (.goto (-43), 3) := by decide +kernel
theorem dX1_rimFits_81 : decode cX1_rimFits 81 = .ok (.iconst 1, 1) := by decide +kernel
theorem dX1_rimFits_82 : decode cX1_rimFits 82 = .ok (.istore 4, 2) := by decide +kernel
theorem dX1_rimFits_84 : decode cX1_rimFits 84 = .ok (.iload 4, 2) := by decide +kernel
theorem dX1_rimFits_86 : decode cX1_rimFits 86 = .ok (.aload_n 0, 1) := by decide +kernel
theorem dX1_rimFits_87 : decode cX1_rimFits 87 = .ok (.getfield 26, 3) := by decide +kernel
theorem dX1_rimFits_90 : decode cX1_rimFits 90 = .ok (.if_icmp .gt 40, 3) := by decide +kernel
theorem dX1_rimFits_93 : decode cX1_rimFits 93 = .ok (.aload_n 0, 1) := by decide +kernel
theorem dX1_rimFits_94 : decode cX1_rimFits 94 = .ok (.aload_n 0, 1) := by decide +kernel
theorem dX1_rimFits_95 : decode cX1_rimFits 95 = .ok (.getfield 22, 3) := by decide +kernel
theorem dX1_rimFits_98 : decode cX1_rimFits 98 = .ok (.iload 4, 2) := by decide +kernel
theorem dX1_rimFits_100 : decode cX1_rimFits 100 = .ok (.invokevirtual 40, 3) := by decide +kernel
theorem dX1_rimFits_103 : decode cX1_rimFits 103 = .ok (.aload_n 0, 1) := by decide +kernel
theorem dX1_rimFits_104 : decode cX1_rimFits 104 = .ok (.aload_n 0, 1) := by decide +kernel
theorem dX1_rimFits_105 : decode cX1_rimFits 105 = .ok (.getfield 22, 3) := by decide +kernel
theorem dX1_rimFits_108 : decode cX1_rimFits 108 = .ok (.iload 4, 2) := by decide +kernel
theorem dX1_rimFits_110 : decode cX1_rimFits 110 = .ok (.iconst 1, 1) := by decide +kernel
theorem dX1_rimFits_111 : decode cX1_rimFits 111 = .ok (.isub, 1) := by decide +kernel
theorem dX1_rimFits_112 : decode cX1_rimFits 112 = .ok (.invokevirtual 40, 3) := by decide +kernel
theorem dX1_rimFits_115 : decode cX1_rimFits 115 = .ok (.iload_n 3, 1) := by decide +kernel
theorem dX1_rimFits_116 : decode cX1_rimFits 116 = .ok (.invokevirtual 71, 3) := by decide +kernel
theorem dX1_rimFits_119 : decode cX1_rimFits 119 = .ok (.ifCond .ne 5, 3) := by decide +kernel
theorem dX1_rimFits_122 : decode cX1_rimFits 122 = .ok (.iconst 0, 1) := by decide +kernel
theorem dX1_rimFits_123 : decode cX1_rimFits 123 = .ok (.ireturn, 1) := by decide +kernel
theorem dX1_rimFits_124 : decode cX1_rimFits 124 = .ok (.iinc 4 1, 3) := by decide +kernel
theorem dX1_rimFits_127 : decode cX1_rimFits 127 = .ok (.goto (-43), 3) := by decide +kernel
theorem dX1_rimFits_130 : decode cX1_rimFits 130 = .ok (.iconst 1, 1) := by decide +kernel
theorem dX1_rimFits_131 : decode cX1_rimFits 131 = .ok (.ireturn, 1) := by decide +kernel
theorem dX1_cornerByOrder_0 : decode cX1_cornerByOrder 0 = .ok (.aload_n 0, 1) := by decide +kernel
theorem dX1_cornerByOrder_1 : decode cX1_cornerByOrder 1 = .ok (.invokevirtual 75, 3) := by decide +kernel
theorem dX1_cornerByOrder_4 : decode cX1_cornerByOrder 4 = .ok (.iload_n 1, 1) := by decide +kernel
theorem dX1_cornerByOrder_5 : decode cX1_cornerByOrder 5 = .ok (.ifCond .lt 20, 3) := by decide +kernel
theorem dX1_cornerByOrder_8 : decode cX1_cornerByOrder 8 = .ok (.iload_n 1, 1) := by decide +kernel
theorem dX1_cornerByOrder_9 : decode cX1_cornerByOrder 9 = .ok (.aload_n 0, 1) := by decide +kernel
theorem dX1_cornerByOrder_10 : decode cX1_cornerByOrder 10 = .ok (.getfield 33, 3) := by decide +kernel
theorem dX1_cornerByOrder_13 : decode cX1_cornerByOrder 13 = .ok (.if_icmp .ge 12, 3) := by decide +kernel
theorem dX1_cornerByOrder_16 : decode cX1_cornerByOrder 16 = .ok (.aload_n 0, 1) := by decide +kernel
theorem dX1_cornerByOrder_17 : decode cX1_cornerByOrder 17 = .ok (.getfield 29, 3) := by decide +kernel
theorem dX1_cornerByOrder_20 : decode cX1_cornerByOrder 20 = .ok (.iload_n 1, 1) := by decide +kernel
theorem dX1_cornerByOrder_21 : decode cX1_cornerByOrder 21 = .ok (.iaload, 1) := by decide +kernel
theorem dX1_cornerByOrder_22 : decode cX1_cornerByOrder 22 = .ok (.goto 5, 3) := by decide +kernel
theorem dX1_cornerByOrder_25 : decode cX1_cornerByOrder 25 = .ok (.bipush (-2), 2) := by decide +kernel
theorem dX1_cornerByOrder_27 : decode cX1_cornerByOrder 27 = .ok (.ireturn, 1) := by decide +kernel
theorem dX1_unlikeShapes_0 : decode cX1_unlikeShapes 0 = .ok (.aload_n 0, 1) := by decide +kernel
theorem dX1_unlikeShapes_1 : decode cX1_unlikeShapes 1 = .ok (.invokevirtual 75, 3) := by decide +kernel
theorem dX1_unlikeShapes_4 : decode cX1_unlikeShapes 4 = .ok (.iconst 0, 1) := by decide +kernel
theorem dX1_unlikeShapes_5 : decode cX1_unlikeShapes 5 = .ok (.istore_n 1, 1) := by decide +kernel
theorem dX1_unlikeShapes_6 : decode cX1_unlikeShapes 6 = .ok (.iconst 0, 1) := by decide +kernel
theorem dX1_unlikeShapes_7 : decode cX1_unlikeShapes 7 = .ok (.istore_n 2, 1) := by decide +kernel
theorem dX1_unlikeShapes_8 : decode cX1_unlikeShapes 8 = .ok (.iload_n 2, 1) := by decide +kernel
theorem dX1_unlikeShapes_9 : decode cX1_unlikeShapes 9 = .ok (.aload_n 0, 1) := by decide +kernel
theorem dX1_unlikeShapes_10 : decode cX1_unlikeShapes 10 = .ok (.getfield 33, 3) := by decide +kernel
theorem dX1_unlikeShapes_13 : decode cX1_unlikeShapes 13 = .ok (.if_icmp .ge 29, 3) := by decide +kernel
theorem dX1_unlikeShapes_16 : decode cX1_unlikeShapes 16 = .ok (.iload_n 1, 1) := by decide +kernel
theorem dX1_unlikeShapes_17 : decode cX1_unlikeShapes 17 = .ok (.iload_n 2, 1) := by decide +kernel
theorem dX1_unlikeShapes_18 : decode cX1_unlikeShapes 18 = .ok (.ifCond .eq 11, 3) := by decide +kernel
theorem dX1_unlikeShapes_21 : decode cX1_unlikeShapes 21 = .ok (.aload_n 0, 1) := by decide +kernel
theorem dX1_unlikeShapes_22 : decode cX1_unlikeShapes 22 = .ok (.iload_n 2, 1) := by decide +kernel
theorem dX1_unlikeShapes_23 : decode cX1_unlikeShapes 23 = .ok (.invokevirtual 78, 3) := by decide +kernel
theorem dX1_unlikeShapes_26 : decode cX1_unlikeShapes 26 = .ok (.ifCond .ne 7, 3) := by decide +kernel
theorem dX1_unlikeShapes_29 : decode cX1_unlikeShapes 29 = .ok (.iconst 1, 1) := by decide +kernel
theorem dX1_unlikeShapes_30 : decode cX1_unlikeShapes 30 = .ok (.goto 4, 3) := by decide +kernel
theorem dX1_unlikeShapes_33 : decode cX1_unlikeShapes 33 = .ok (.iconst 0, 1) := by decide +kernel
theorem dX1_unlikeShapes_34 : decode cX1_unlikeShapes 34 = .ok (.iadd, 1) := by decide +kernel
theorem dX1_unlikeShapes_35 : decode cX1_unlikeShapes 35 = .ok (.istore_n 1, 1) := by decide +kernel
theorem dX1_unlikeShapes_36 : decode cX1_unlikeShapes 36 = .ok (.iinc 2 1, 3) := by decide +kernel
theorem dX1_unlikeShapes_39 : decode cX1_unlikeShapes 39 = .ok (.goto (-31), 3) := by decide +kernel
theorem dX1_unlikeShapes_42 : decode cX1_unlikeShapes 42 = .ok (.iload_n 1, 1) := by decide +kernel
theorem dX1_unlikeShapes_43 : decode cX1_unlikeShapes 43 = .ok (.ireturn, 1) := by decide +kernel
theorem dX1_mostAlike_0 : decode cX1_mostAlike 0 = .ok (.aload_n 0, 1) := by decide +kernel
theorem dX1_mostAlike_1 : decode cX1_mostAlike 1 = .ok (.invokevirtual 75, 3) := by decide +kernel
theorem dX1_mostAlike_4 : decode cX1_mostAlike 4 = .ok (.iconst 0, 1) := by decide +kernel
theorem dX1_mostAlike_5 : decode cX1_mostAlike 5 = .ok (.istore_n 1, 1) := by decide +kernel
theorem dX1_mostAlike_6 : decode cX1_mostAlike 6 = .ok (.iconst 0, 1) := by decide +kernel
theorem dX1_mostAlike_7 : decode cX1_mostAlike 7 = .ok (.istore_n 2, 1) := by decide +kernel
theorem dX1_mostAlike_8 : decode cX1_mostAlike 8 = .ok (.iconst 0, 1) := by decide +kernel
theorem dX1_mostAlike_9 : decode cX1_mostAlike 9 = .ok (.istore_n 3, 1) := by decide +kernel
theorem dX1_mostAlike_10 : decode cX1_mostAlike 10 = .ok (.iload_n 3, 1) := by decide +kernel
theorem dX1_mostAlike_11 : decode cX1_mostAlike 11 = .ok (.aload_n 0, 1) := by decide +kernel
theorem dX1_mostAlike_12 : decode cX1_mostAlike 12 = .ok (.getfield 33, 3) := by decide +kernel
theorem dX1_mostAlike_15 : decode cX1_mostAlike 15 = .ok (.if_icmp .ge 35, 3) := by decide +kernel
theorem dX1_mostAlike_18 : decode cX1_mostAlike 18 = .ok (.iload_n 3, 1) := by decide +kernel
theorem dX1_mostAlike_19 : decode cX1_mostAlike 19 = .ok (.ifCond .le 17, 3) := by decide +kernel
theorem dX1_mostAlike_22 : decode cX1_mostAlike 22 = .ok (.aload_n 0, 1) := by decide +kernel
theorem dX1_mostAlike_23 : decode cX1_mostAlike 23 = .ok (.iload_n 3, 1) := by decide +kernel
theorem dX1_mostAlike_24 : decode cX1_mostAlike 24 = .ok (.invokevirtual 78, 3) := by decide +kernel
theorem dX1_mostAlike_27 : decode cX1_mostAlike 27 = .ok (.ifCond .eq 9, 3) := by decide +kernel
theorem dX1_mostAlike_30 : decode cX1_mostAlike 30 = .ok (.iload_n 2, 1) := by decide +kernel
theorem dX1_mostAlike_31 : decode cX1_mostAlike 31 = .ok (.iconst 1, 1) := by decide +kernel
theorem dX1_mostAlike_32 : decode cX1_mostAlike 32 = .ok (.iadd, 1) := by decide +kernel
theorem dX1_mostAlike_33 : decode cX1_mostAlike 33 = .ok (.goto 4, 3) := by decide +kernel
theorem dX1_mostAlike_36 : decode cX1_mostAlike 36 = .ok (.iconst 1, 1) := by decide +kernel
theorem dX1_mostAlike_37 : decode cX1_mostAlike 37 = .ok (.istore_n 2, 1) := by decide +kernel
theorem dX1_mostAlike_38 : decode cX1_mostAlike 38 = .ok (.iload_n 1, 1) := by decide +kernel
theorem dX1_mostAlike_39 : decode cX1_mostAlike 39 = .ok (.iload_n 2, 1) := by decide +kernel
theorem dX1_mostAlike_40 : decode cX1_mostAlike 40 = .ok (.invokestatic 66, 3) := by decide +kernel
theorem dX1_mostAlike_43 : decode cX1_mostAlike 43 = .ok (.istore_n 1, 1) := by decide +kernel
theorem dX1_mostAlike_44 : decode cX1_mostAlike 44 = .ok (.iinc 3 1, 3) := by decide +kernel
theorem dX1_mostAlike_47 : decode cX1_mostAlike 47 = .ok (.goto (-37), 3) := by decide +kernel
theorem dX1_mostAlike_50 : decode cX1_mostAlike 50 = .ok (.iload_n 1, 1) := by decide +kernel
theorem dX1_mostAlike_51 : decode cX1_mostAlike 51 = .ok (.ireturn, 1) := by decide +kernel
theorem dX1_isLikeTheOneAhead_0 : decode cX1_isLikeTheOneAhead 0 = .ok (.iload_n 1, 1) := by decide +kernel
theorem dX1_isLikeTheOneAhead_1 : decode cX1_isLikeTheOneAhead 1 = .ok (.ifCond .le 43, 3) := by decide +kernel
theorem dX1_isLikeTheOneAhead_4 : decode cX1_isLikeTheOneAhead 4 = .ok (.iload_n 1, 1) := by decide +kernel
theorem dX1_isLikeTheOneAhead_5 : decode cX1_isLikeTheOneAhead 5 = .ok (.aload_n 0, 1) := by decide +kernel
theorem dX1_isLikeTheOneAhead_6 : decode cX1_isLikeTheOneAhead 6 = .ok (.getfield 33, 3) := by decide +kernel
theorem dX1_isLikeTheOneAhead_9 : decode cX1_isLikeTheOneAhead 9 = .ok (.if_icmp .ge 35, 3) := by decide +kernel
theorem dX1_isLikeTheOneAhead_12 : decode cX1_isLikeTheOneAhead 12 = .ok (.aload_n 0, 1) := by decide +kernel
theorem dX1_isLikeTheOneAhead_13 : decode cX1_isLikeTheOneAhead 13 = .ok (.aload_n 0, 1) := by decide +kernel
theorem dX1_isLikeTheOneAhead_14 : decode cX1_isLikeTheOneAhead 14 = .ok (.getfield 29, 3) := by decide +kernel
theorem dX1_isLikeTheOneAhead_17 : decode cX1_isLikeTheOneAhead 17 = .ok (.iload_n 1, 1) := by decide +kernel
theorem dX1_isLikeTheOneAhead_18 : decode cX1_isLikeTheOneAhead 18 = .ok (.iaload, 1) := by decide +kernel
theorem dX1_isLikeTheOneAhead_19 : decode cX1_isLikeTheOneAhead 19 = .ok (.invokevirtual 82, 3) := by decide +kernel
theorem dX1_isLikeTheOneAhead_22 : decode cX1_isLikeTheOneAhead 22 = .ok (.aload_n 0, 1) := by decide +kernel
theorem dX1_isLikeTheOneAhead_23 : decode cX1_isLikeTheOneAhead 23 = .ok (.aload_n 0, 1) := by decide +kernel
theorem dX1_isLikeTheOneAhead_24 : decode cX1_isLikeTheOneAhead 24 = .ok (.getfield 29, 3) := by decide +kernel
theorem dX1_isLikeTheOneAhead_27 : decode cX1_isLikeTheOneAhead 27 = .ok (.iload_n 1, 1) := by decide +kernel
theorem dX1_isLikeTheOneAhead_28 : decode cX1_isLikeTheOneAhead 28 = .ok (.iconst 1, 1) := by decide +kernel
theorem dX1_isLikeTheOneAhead_29 : decode cX1_isLikeTheOneAhead 29 = .ok (.isub, 1) := by decide +kernel
theorem dX1_isLikeTheOneAhead_30 : decode cX1_isLikeTheOneAhead 30 = .ok (.iaload, 1) := by decide +kernel
theorem dX1_isLikeTheOneAhead_31 : decode cX1_isLikeTheOneAhead 31 = .ok (.invokevirtual 82, 3) := by decide +kernel
theorem dX1_isLikeTheOneAhead_34 : decode cX1_isLikeTheOneAhead 34 = .ok (.invokevirtual 86, 3) := by decide +kernel
theorem dX1_isLikeTheOneAhead_37 : decode cX1_isLikeTheOneAhead 37 = .ok (.ifCond .ne 7, 3) := by decide +kernel
theorem dX1_isLikeTheOneAhead_40 : decode cX1_isLikeTheOneAhead 40 = .ok (.iconst 1, 1) := by decide +kernel
theorem dX1_isLikeTheOneAhead_41 : decode cX1_isLikeTheOneAhead 41 = .ok (.goto 4, 3) := by decide +kernel
theorem dX1_isLikeTheOneAhead_44 : decode cX1_isLikeTheOneAhead 44 = .ok (.iconst 0, 1) := by decide +kernel
theorem dX1_isLikeTheOneAhead_45 : decode cX1_isLikeTheOneAhead 45 = .ok (.ireturn, 1) := by decide +kernel
theorem dX1_shapeOf_0 : decode cX1_shapeOf 0 = .ok (.aload_n 0, 1) := by decide +kernel
theorem dX1_shapeOf_1 : decode cX1_shapeOf 1 = .ok (.iload_n 1, 1) := by decide +kernel
theorem dX1_shapeOf_2 : decode cX1_shapeOf 2 = .ok (.bipush 10, 2) := by decide +kernel
theorem dX1_shapeOf_4 : decode cX1_shapeOf 4 = .ok (.idiv, 1) := by decide +kernel
theorem dX1_shapeOf_5 : decode cX1_shapeOf 5 = .ok (.iload_n 1, 1) := by decide +kernel
theorem dX1_shapeOf_6 : decode cX1_shapeOf 6 = .ok (.bipush 10, 2) := by decide +kernel
theorem dX1_shapeOf_8 : decode cX1_shapeOf 8 = .ok (.irem, 1) := by decide +kernel
theorem dX1_shapeOf_9 : decode cX1_shapeOf 9 = .ok (.invokevirtual 40, 3) := by decide +kernel
theorem dX1_shapeOf_12 : decode cX1_shapeOf 12 = .ok (.areturn, 1) := by decide +kernel
theorem dX1_putInOrder_0 : decode cX1_putInOrder 0 = .ok (.aload_n 0, 1) := by decide +kernel
theorem dX1_putInOrder_1 : decode cX1_putInOrder 1 = .ok (.getfield 33, 3) := by decide +kernel
theorem dX1_putInOrder_4 : decode cX1_putInOrder 4 = .ok (.ifCond .le 4, 3) := by decide +kernel
theorem dX1_putInOrder_7 : decode cX1_putInOrder 7 = .ok (.return_, 1) := by decide +kernel
theorem dX1_putInOrder_8 : decode cX1_putInOrder 8 = .ok (.iconst 0, 1) := by decide +kernel
theorem dX1_putInOrder_9 : decode cX1_putInOrder 9 = .ok (.istore_n 1, 1) := by decide +kernel
theorem dX1_putInOrder_10 : decode cX1_putInOrder 10 = .ok (.iload_n 1, 1) := by decide +kernel
theorem dX1_putInOrder_11 : decode cX1_putInOrder 11 = .ok (.aload_n 0, 1) := by decide +kernel
theorem dX1_putInOrder_12 : decode cX1_putInOrder 12 = .ok (.getfield 22, 3) := by decide +kernel
theorem dX1_putInOrder_15 : decode cX1_putInOrder 15 = .ok (.if_icmp .gt 35, 3) := by decide +kernel
theorem dX1_putInOrder_18 : decode cX1_putInOrder 18 = .ok (.iconst 0, 1) := by decide +kernel
theorem dX1_putInOrder_19 : decode cX1_putInOrder 19 = .ok (.istore_n 2, 1) := by decide +kernel
theorem dX1_putInOrder_20 : decode cX1_putInOrder 20 = .ok (.iload_n 2, 1) := by decide +kernel
theorem dX1_putInOrder_21 : decode cX1_putInOrder 21 = .ok (.aload_n 0, 1) := by decide +kernel
theorem dX1_putInOrder_22 : decode cX1_putInOrder 22 = .ok (.getfield 26, 3) := by decide +kernel
theorem dX1_putInOrder_25 : decode cX1_putInOrder 25 = .ok (.if_icmp .gt 19, 3) := by decide +kernel
theorem dX1_putInOrder_28 : decode cX1_putInOrder 28 = .ok (.aload_n 0, 1) := by decide +kernel
theorem dX1_putInOrder_29 : decode cX1_putInOrder 29 = .ok (.bipush 10, 2) := by decide +kernel
theorem dX1_putInOrder_31 : decode cX1_putInOrder 31 = .ok (.iload_n 1, 1) := by decide +kernel
theorem dX1_putInOrder_32 : decode cX1_putInOrder 32 = .ok (.imul, 1) := by decide +kernel
theorem dX1_putInOrder_33 : decode cX1_putInOrder 33 = .ok (.iload_n 2, 1) := by decide +kernel
theorem dX1_putInOrder_34 : decode cX1_putInOrder 34 = .ok (.iadd, 1) := by decide +kernel
theorem dX1_putInOrder_35 : decode cX1_putInOrder 35 = .ok (.invokevirtual 90, 3) := by decide +kernel
theorem dX1_putInOrder_38 : decode cX1_putInOrder 38 = .ok (.iinc 2 1, 3) := by decide +kernel
theorem dX1_putInOrder_41 : decode cX1_putInOrder 41 = .ok (.goto (-21), 3) := by decide +kernel
theorem dX1_putInOrder_44 : decode cX1_putInOrder 44 = .ok (.iinc 1 1, 3) := by decide +kernel
theorem dX1_putInOrder_47 : decode cX1_putInOrder 47 = .ok (.goto (-37), 3) := by decide +kernel
theorem dX1_putInOrder_50 : decode cX1_putInOrder 50 = .ok (.return_, 1) := by decide +kernel
theorem dX1_insert_0 : decode cX1_insert 0 = .ok (.aload_n 0, 1) := by decide +kernel
theorem dX1_insert_1 : decode cX1_insert 1 = .ok (.getfield 33, 3) := by decide +kernel
theorem dX1_insert_4 : decode cX1_insert 4 = .ok (.bipush 36, 2) := by decide +kernel
theorem dX1_insert_6 : decode cX1_insert 6 = .ok (.if_icmp .lt 4, 3) := by decide +kernel
theorem dX1_insert_9 : decode cX1_insert 9 = .ok (.return_, 1) := by decide +kernel
theorem dX1_insert_10 : decode cX1_insert 10 = .ok (.aload_n 0, 1) := by decide +kernel
theorem dX1_insert_11 : decode cX1_insert 11 = .ok (.getfield 33, 3) := by decide +kernel
theorem dX1_insert_14 : decode cX1_insert 14 = .ok (.istore_n 2, 1) := by decide +kernel
theorem dX1_insert_15 : decode cX1_insert 15 = .ok (.iload_n 2, 1) := by decide +kernel
theorem dX1_insert_16 : decode cX1_insert 16 = .ok (.ifCond .le 46, 3) := by decide +kernel
theorem dX1_insert_19 : decode cX1_insert 19 = .ok (.aload_n 0, 1) := by decide +kernel
theorem dX1_insert_20 : decode cX1_insert 20 = .ok (.iload_n 1, 1) := by decide +kernel
theorem dX1_insert_21 : decode cX1_insert 21 = .ok (.invokevirtual 82, 3) := by decide +kernel
theorem dX1_insert_24 : decode cX1_insert 24 = .ok (.aload_n 0, 1) := by decide +kernel
theorem dX1_insert_25 : decode cX1_insert 25 = .ok (.aload_n 0, 1) := by decide +kernel
theorem dX1_insert_26 : decode cX1_insert 26 = .ok (.getfield 29, 3) := by decide +kernel
theorem dX1_insert_29 : decode cX1_insert 29 = .ok (.iload_n 2, 1) := by decide +kernel
theorem dX1_insert_30 : decode cX1_insert 30 = .ok (.iconst 1, 1) := by decide +kernel
theorem dX1_insert_31 : decode cX1_insert 31 = .ok (.isub, 1) := by decide +kernel
theorem dX1_insert_32 : decode cX1_insert 32 = .ok (.iaload, 1) := by decide +kernel
theorem dX1_insert_33 : decode cX1_insert 33 = .ok (.invokevirtual 82, 3) := by decide +kernel
theorem dX1_insert_36 : decode cX1_insert 36 = .ok (.invokevirtual 86, 3) := by decide +kernel
theorem dX1_insert_39 : decode cX1_insert 39 = .ok (.ifCond .ge 23, 3) := by decide +kernel
theorem dX1_insert_42 : decode cX1_insert 42 = .ok (.aload_n 0, 1) := by decide +kernel
theorem dX1_insert_43 : decode cX1_insert 43 = .ok (.getfield 29, 3) := by decide +kernel
theorem dX1_insert_46 : decode cX1_insert 46 = .ok (.iload_n 2, 1) := by decide +kernel
theorem dX1_insert_47 : decode cX1_insert 47 = .ok (.aload_n 0, 1) := by decide +kernel
theorem dX1_insert_48 : decode cX1_insert 48 = .ok (.getfield 29, 3) := by decide +kernel
theorem dX1_insert_51 : decode cX1_insert 51 = .ok (.iload_n 2, 1) := by decide +kernel
theorem dX1_insert_52 : decode cX1_insert 52 = .ok (.iconst 1, 1) := by decide +kernel
theorem dX1_insert_53 : decode cX1_insert 53 = .ok (.isub, 1) := by decide +kernel
theorem dX1_insert_54 : decode cX1_insert 54 = .ok (.iaload, 1) := by decide +kernel
theorem dX1_insert_55 : decode cX1_insert 55 = .ok (.iastore, 1) := by decide +kernel
theorem dX1_insert_56 : decode cX1_insert 56 = .ok (.iinc 2 (-1), 3) := by decide +kernel
theorem dX1_insert_59 : decode cX1_insert 59 = .ok (.goto (-44), 3) := by decide +kernel
theorem dX1_insert_62 : decode cX1_insert 62 = .ok (.aload_n 0, 1) := by decide +kernel
theorem dX1_insert_63 : decode cX1_insert 63 = .ok (.getfield 29, 3) := by decide +kernel
theorem dX1_insert_66 : decode cX1_insert 66 = .ok (.iload_n 2, 1) := by decide +kernel
theorem dX1_insert_67 : decode cX1_insert 67 = .ok (.iload_n 1, 1) := by decide +kernel
theorem dX1_insert_68 : decode cX1_insert 68 = .ok (.iastore, 1) := by decide +kernel
theorem dX1_insert_69 : decode cX1_insert 69 = .ok (.aload_n 0, 1) := by decide +kernel
theorem dX1_insert_70 : decode cX1_insert 70 = .ok (.dup, 1) := by decide +kernel
theorem dX1_insert_71 : decode cX1_insert 71 = .ok (.getfield 33, 3) := by decide +kernel
theorem dX1_insert_74 : decode cX1_insert 74 = .ok (.iconst 1, 1) := by decide +kernel
theorem dX1_insert_75 : decode cX1_insert 75 = .ok (.iadd, 1) := by decide +kernel
theorem dX1_insert_76 : decode cX1_insert 76 = .ok (.putfield 33, 3) := by decide +kernel
theorem dX1_insert_79 : decode cX1_insert 79 = .ok (.return_, 1) := by decide +kernel
theorem dX2_init_0 : decode cX2_init 0 = .ok (.aload_n 0, 1) := by decide +kernel
theorem dX2_init_1 : decode cX2_init 1 = .ok (.invokespecial 3, 3) := by decide +kernel
theorem dX2_init_4 : decode cX2_init 4 = .ok (.aload_n 0, 1) := by decide +kernel
theorem dX2_init_5 : decode cX2_init 5 = .ok (.bipush 9, 2) := by decide +kernel
theorem dX2_init_7 : decode cX2_init 7 = .ok (.anewarray 9, 3) := by decide +kernel
theorem dX2_init_10 : decode cX2_init 10 = .ok (.putfield 11, 3) := by decide +kernel
theorem dX2_init_13 : decode cX2_init 13 = .ok (.iconst 0, 1) := by decide +kernel
theorem dX2_init_14 : decode cX2_init 14 = .ok (.istore_n 1, 1) := by decide +kernel
theorem dX2_init_15 : decode cX2_init 15 = .ok (.iload_n 1, 1) := by decide +kernel
theorem dX2_init_16 : decode cX2_init 16 = .ok (.bipush 8, 2) := by decide +kernel
theorem dX2_init_18 : decode cX2_init 18 = .ok (.if_icmp .gt 22, 3) := by decide +kernel
theorem dX2_init_21 : decode cX2_init 21 = .ok (.aload_n 0, 1) := by decide +kernel
theorem dX2_init_22 : decode cX2_init 22 = .ok (.getfield 11, 3) := by decide +kernel
theorem dX2_init_25 : decode cX2_init 25 = .ok (.iload_n 1, 1) := by decide +kernel
theorem dX2_init_26 : decode cX2_init 26 = .ok (.new 9, 3) := by decide +kernel
theorem dX2_init_29 : decode cX2_init 29 = .ok (.dup, 1) := by decide +kernel
theorem dX2_init_30 : decode cX2_init 30 = .ok (.invokespecial 17, 3) := by decide +kernel
theorem dX2_init_33 : decode cX2_init 33 = .ok (.aastore, 1) := by decide +kernel
theorem dX2_init_34 : decode cX2_init 34 = .ok (.iinc 1 1, 3) := by decide +kernel
theorem dX2_init_37 : decode cX2_init 37 = .ok (.goto (-22), 3) := by decide +kernel
theorem dX2_init_40 : decode cX2_init 40 = .ok (.aload_n 0, 1) := by decide +kernel
theorem dX2_init_41 : decode cX2_init 41 = .ok (.iconst 0, 1) := by decide +kernel
theorem dX2_init_42 : decode cX2_init 42 = .ok (.putfield 18, 3) := by decide +kernel
theorem dX2_init_45 : decode cX2_init 45 = .ok (.aload_n 0, 1) := by decide +kernel
theorem dX2_init_46 : decode cX2_init 46 = .ok (.iconst 0, 1) := by decide +kernel
theorem dX2_init_47 : decode cX2_init 47 = .ok (.putfield 22, 3) := by decide +kernel
theorem dX2_init_50 : decode cX2_init 50 = .ok (.return_, 1) := by decide +kernel
theorem dX2_undoable_0 : decode cX2_undoable 0 = .ok (.aload_n 0, 1) := by decide +kernel
theorem dX2_undoable_1 : decode cX2_undoable 1 = .ok (.getfield 18, 3) := by decide +kernel
theorem dX2_undoable_4 : decode cX2_undoable 4 = .ok (.ireturn, 1) := by decide +kernel
theorem dX2_redoable_0 : decode cX2_redoable 0 = .ok (.aload_n 0, 1) := by decide +kernel
theorem dX2_redoable_1 : decode cX2_redoable 1 = .ok (.getfield 22, 3) := by decide +kernel
theorem dX2_redoable_4 : decode cX2_redoable 4 = .ok (.aload_n 0, 1) := by decide +kernel
theorem dX2_redoable_5 : decode cX2_redoable 5 = .ok (.getfield 18, 3) := by decide +kernel
theorem dX2_redoable_8 : decode cX2_redoable 8 = .ok (.isub, 1) := by decide +kernel
theorem dX2_redoable_9 : decode cX2_redoable 9 = .ok (.ireturn, 1) := by decide +kernel
theorem dX2_forgetAll_0 : decode cX2_forgetAll 0 = .ok (.aload_n 0, 1) := by decide +kernel
theorem dX2_forgetAll_1 : decode cX2_forgetAll 1 = .ok (.iconst 0, 1) := by decide +kernel
theorem dX2_forgetAll_2 : decode cX2_forgetAll 2 = .ok (.putfield 18, 3) := by decide +kernel
theorem dX2_forgetAll_5 : decode cX2_forgetAll 5 = .ok (.aload_n 0, 1) := by decide +kernel
theorem dX2_forgetAll_6 : decode cX2_forgetAll 6 = .ok (.iconst 0, 1) := by decide +kernel
theorem dX2_forgetAll_7 : decode cX2_forgetAll 7 = .ok (.putfield 22, 3) := by decide +kernel
theorem dX2_forgetAll_10 : decode cX2_forgetAll 10 = .ok (.return_, 1) := by decide +kernel
theorem dX2_remember_0 : decode cX2_remember 0 = .ok (.aload_n 0, 1) := by decide +kernel
theorem dX2_remember_1 : decode cX2_remember 1 = .ok (.getfield 18, 3) := by decide +kernel
theorem dX2_remember_4 : decode cX2_remember 4 = .ok (.bipush 8, 2) := by decide +kernel
theorem dX2_remember_6 : decode cX2_remember 6 = .ok (.if_icmp .lt 7, 3) := by decide +kernel
theorem dX2_remember_9 : decode cX2_remember 9 = .ok (.aload_n 0, 1) := by decide +kernel
theorem dX2_remember_10 : decode cX2_remember 10 = .ok (.invokevirtual 25, 3) := by decide +kernel
theorem dX2_remember_13 : decode cX2_remember 13 = .ok (.aload_n 0, 1) := by decide +kernel
theorem dX2_remember_14 : decode cX2_remember 14 = .ok (.getfield 11, 3) := by decide +kernel
theorem dX2_remember_17 : decode cX2_remember 17 = .ok (.aload_n 0, 1) := by decide +kernel
theorem dX2_remember_18 : decode cX2_remember 18 = .ok (.getfield 18, 3) := by decide +kernel
theorem dX2_remember_21 : decode cX2_remember 21 = .ok (.aaload, 1) := by decide +kernel
theorem dX2_remember_22 : decode cX2_remember 22 = .ok (.aload_n 1, 1) := by decide +kernel
theorem dX2_remember_23 : decode cX2_remember 23 = .ok (.invokevirtual 28, 3) := by decide +kernel
theorem dX2_remember_26 : decode cX2_remember 26 = .ok (.aload_n 0, 1) := by decide +kernel
theorem dX2_remember_27 : decode cX2_remember 27 = .ok (.dup, 1) := by decide +kernel
theorem dX2_remember_28 : decode cX2_remember 28 = .ok (.getfield 18, 3) := by decide +kernel
theorem dX2_remember_31 : decode cX2_remember 31 = .ok (.iconst 1, 1) := by decide +kernel
theorem dX2_remember_32 : decode cX2_remember 32 = .ok (.iadd, 1) := by decide +kernel
theorem dX2_remember_33 : decode cX2_remember 33 = .ok (.putfield 18, 3) := by decide +kernel
theorem dX2_remember_36 : decode cX2_remember 36 = .ok (.aload_n 0, 1) := by decide +kernel
theorem dX2_remember_37 : decode cX2_remember 37 = .ok (.aload_n 0, 1) := by decide +kernel
theorem dX2_remember_38 : decode cX2_remember 38 = .ok (.getfield 18, 3) := by decide +kernel
theorem dX2_remember_41 : decode cX2_remember 41 = .ok (.putfield 22, 3) := by decide +kernel
theorem dX2_remember_44 : decode cX2_remember 44 = .ok (.return_, 1) := by decide +kernel
theorem dX2_forgetOldest_0 : decode cX2_forgetOldest 0 = .ok (.aload_n 0, 1) := by decide +kernel
theorem dX2_forgetOldest_1 : decode cX2_forgetOldest 1 = .ok (.getfield 11, 3) := by decide +kernel
theorem dX2_forgetOldest_4 : decode cX2_forgetOldest 4 = .ok (.iconst 0, 1) := by decide +kernel
theorem dX2_forgetOldest_5 : decode cX2_forgetOldest 5 = .ok (.aaload, 1) := by decide +kernel
theorem dX2_forgetOldest_6 : decode cX2_forgetOldest 6 = .ok (.astore_n 1, 1) := by decide +kernel
theorem dX2_forgetOldest_7 : decode cX2_forgetOldest 7 = .ok (.iconst 0, 1) := by decide +kernel
theorem dX2_forgetOldest_8 : decode cX2_forgetOldest 8 = .ok (.istore_n 2, 1) := by decide +kernel
theorem dX2_forgetOldest_9 : decode cX2_forgetOldest 9 = .ok (.iload_n 2, 1) := by decide +kernel
theorem dX2_forgetOldest_10 : decode cX2_forgetOldest 10 = .ok (.bipush 8, 2) := by decide +kernel
theorem dX2_forgetOldest_12 : decode cX2_forgetOldest 12 = .ok (.if_icmp .ge 23, 3) := by decide +kernel
theorem dX2_forgetOldest_15 : decode cX2_forgetOldest 15 = .ok (.aload_n 0, 1) := by decide +kernel
theorem dX2_forgetOldest_16 : decode cX2_forgetOldest 16 = .ok (.getfield 11, 3) := by decide +kernel
theorem dX2_forgetOldest_19 : decode cX2_forgetOldest 19 = .ok (.iload_n 2, 1) := by decide +kernel
theorem dX2_forgetOldest_20 : decode cX2_forgetOldest 20 = .ok (.aload_n 0, 1) := by decide +kernel
theorem dX2_forgetOldest_21 : decode cX2_forgetOldest 21 = .ok (.getfield 11, 3) := by decide +kernel
theorem dX2_forgetOldest_24 : decode cX2_forgetOldest 24 = .ok (.iload_n 2, 1) := by decide +kernel
theorem dX2_forgetOldest_25 : decode cX2_forgetOldest 25 = .ok (.iconst 1, 1) := by decide +kernel
theorem dX2_forgetOldest_26 : decode cX2_forgetOldest 26 = .ok (.iadd, 1) := by decide +kernel
theorem dX2_forgetOldest_27 : decode cX2_forgetOldest 27 = .ok (.aaload, 1) := by decide +kernel
theorem dX2_forgetOldest_28 : decode cX2_forgetOldest 28 = .ok (.aastore, 1) := by decide +kernel
theorem dX2_forgetOldest_29 : decode cX2_forgetOldest 29 = .ok (.iinc 2 1, 3) := by decide +kernel
theorem dX2_forgetOldest_32 : decode cX2_forgetOldest 32 = .ok (.goto (-23), 3) := by decide +kernel
theorem dX2_forgetOldest_35 : decode cX2_forgetOldest 35 = .ok (.aload_n 0, 1) := by decide +kernel
theorem dX2_forgetOldest_36 : decode cX2_forgetOldest 36 = .ok (.getfield 11, 3) := by decide +kernel
theorem dX2_forgetOldest_39 : decode cX2_forgetOldest 39 = .ok (.bipush 8, 2) := by decide +kernel
theorem dX2_forgetOldest_41 : decode cX2_forgetOldest 41 = .ok (.aload_n 1, 1) := by decide +kernel
theorem dX2_forgetOldest_42 : decode cX2_forgetOldest 42 = .ok (.aastore, 1) := by decide +kernel
theorem dX2_forgetOldest_43 : decode cX2_forgetOldest 43 = .ok (.aload_n 0, 1) := by decide +kernel
theorem dX2_forgetOldest_44 : decode cX2_forgetOldest 44 = .ok (.bipush 7, 2) := by decide +kernel
theorem dX2_forgetOldest_46 : decode cX2_forgetOldest 46 = .ok (.putfield 18, 3) := by decide +kernel
theorem dX2_forgetOldest_49 : decode cX2_forgetOldest 49 = .ok (.return_, 1) := by decide +kernel
theorem dX2_stepBack_0 : decode cX2_stepBack 0 = .ok (.aload_n 0, 1) := by decide +kernel
theorem dX2_stepBack_1 : decode cX2_stepBack 1 = .ok (.getfield 18, 3) := by decide +kernel
theorem dX2_stepBack_4 : decode cX2_stepBack 4 = .ok (.ifCond .le 39, 3) := by decide +kernel
theorem dX2_stepBack_7 : decode cX2_stepBack 7 = .ok (.aload_n 0, 1) := by decide +kernel
theorem dX2_stepBack_8 : decode cX2_stepBack 8 = .ok (.getfield 11, 3) := by decide +kernel
theorem dX2_stepBack_11 : decode cX2_stepBack 11 = .ok (.aload_n 0, 1) := by decide +kernel
theorem dX2_stepBack_12 : decode cX2_stepBack 12 = .ok (.getfield 18, 3) := by decide +kernel
theorem dX2_stepBack_15 : decode cX2_stepBack 15 = .ok (.aaload, 1) := by decide +kernel
theorem dX2_stepBack_16 : decode cX2_stepBack 16 = .ok (.aload_n 1, 1) := by decide +kernel
theorem dX2_stepBack_17 : decode cX2_stepBack 17 = .ok (.invokevirtual 28, 3) := by decide +kernel
theorem dX2_stepBack_20 : decode cX2_stepBack 20 = .ok (.aload_n 0, 1) := by decide +kernel
theorem dX2_stepBack_21 : decode cX2_stepBack 21 = .ok (.dup, 1) := by decide +kernel
theorem dX2_stepBack_22 : decode cX2_stepBack 22 = .ok (.getfield 18, 3) := by decide +kernel
theorem dX2_stepBack_25 : decode cX2_stepBack 25 = .ok (.iconst 1, 1) := by decide +kernel
theorem dX2_stepBack_26 : decode cX2_stepBack 26 = .ok (.isub, 1) := by decide +kernel
theorem dX2_stepBack_27 : decode cX2_stepBack 27 = .ok (.putfield 18, 3) := by decide +kernel
theorem dX2_stepBack_30 : decode cX2_stepBack 30 = .ok (.aload_n 1, 1) := by decide +kernel
theorem dX2_stepBack_31 : decode cX2_stepBack 31 = .ok (.aload_n 0, 1) := by decide +kernel
theorem dX2_stepBack_32 : decode cX2_stepBack 32 = .ok (.getfield 11, 3) := by decide +kernel
theorem dX2_stepBack_35 : decode cX2_stepBack 35 = .ok (.aload_n 0, 1) := by decide +kernel
theorem dX2_stepBack_36 : decode cX2_stepBack 36 = .ok (.getfield 18, 3) := by decide +kernel
theorem dX2_stepBack_39 : decode cX2_stepBack 39 = .ok (.aaload, 1) := by decide +kernel
theorem dX2_stepBack_40 : decode cX2_stepBack 40 = .ok (.invokevirtual 28, 3) := by decide +kernel
theorem dX2_stepBack_43 : decode cX2_stepBack 43 = .ok (.return_, 1) := by decide +kernel
theorem dX2_stepOn_0 : decode cX2_stepOn 0 = .ok (.aload_n 0, 1) := by decide +kernel
theorem dX2_stepOn_1 : decode cX2_stepOn 1 = .ok (.getfield 18, 3) := by decide +kernel
theorem dX2_stepOn_4 : decode cX2_stepOn 4 = .ok (.aload_n 0, 1) := by decide +kernel
theorem dX2_stepOn_5 : decode cX2_stepOn 5 = .ok (.getfield 22, 3) := by decide +kernel
theorem dX2_stepOn_8 : decode cX2_stepOn 8 = .ok (.if_icmp .ge 26, 3) := by decide +kernel
theorem dX2_stepOn_11 : decode cX2_stepOn 11 = .ok (.aload_n 0, 1) := by decide +kernel
theorem dX2_stepOn_12 : decode cX2_stepOn 12 = .ok (.dup, 1) := by decide +kernel
theorem dX2_stepOn_13 : decode cX2_stepOn 13 = .ok (.getfield 18, 3) := by decide +kernel
theorem dX2_stepOn_16 : decode cX2_stepOn 16 = .ok (.iconst 1, 1) := by decide +kernel
theorem dX2_stepOn_17 : decode cX2_stepOn 17 = .ok (.iadd, 1) := by decide +kernel
theorem dX2_stepOn_18 : decode cX2_stepOn 18 = .ok (.putfield 18, 3) := by decide +kernel
theorem dX2_stepOn_21 : decode cX2_stepOn 21 = .ok (.aload_n 1, 1) := by decide +kernel
theorem dX2_stepOn_22 : decode cX2_stepOn 22 = .ok (.aload_n 0, 1) := by decide +kernel
theorem dX2_stepOn_23 : decode cX2_stepOn 23 = .ok (.getfield 11, 3) := by decide +kernel
theorem dX2_stepOn_26 : decode cX2_stepOn 26 = .ok (.aload_n 0, 1) := by decide +kernel
theorem dX2_stepOn_27 : decode cX2_stepOn 27 = .ok (.getfield 18, 3) := by decide +kernel
theorem dX2_stepOn_30 : decode cX2_stepOn 30 = .ok (.aaload, 1) := by decide +kernel
theorem dX2_stepOn_31 : decode cX2_stepOn 31 = .ok (.invokevirtual 28, 3) := by decide +kernel
theorem dX2_stepOn_34 : decode cX2_stepOn 34 = .ok (.return_, 1) := by decide +kernel
theorem dX3_init_0 : decode cX3_init 0 = .ok (.aload_n 0, 1) := by decide +kernel
theorem dX3_init_1 : decode cX3_init 1 = .ok (.invokespecial 3, 3) := by decide +kernel
theorem dX3_init_4 : decode cX3_init 4 = .ok (.aload_n 0, 1) := by decide +kernel
theorem dX3_init_5 : decode cX3_init 5 = .ok (.iconst 0, 1) := by decide +kernel
theorem dX3_init_6 : decode cX3_init 6 = .ok (.putfield 9, 3) := by decide +kernel
theorem dX3_init_9 : decode cX3_init 9 = .ok (.aload_n 0, 1) := by decide +kernel
theorem dX3_init_10 : decode cX3_init 10 = .ok (.new 15, 3) := by decide +kernel
theorem dX3_init_13 : decode cX3_init 13 = .ok (.dup, 1) := by decide +kernel
theorem dX3_init_14 : decode cX3_init 14 = .ok (.invokespecial 17, 3) := by decide +kernel
theorem dX3_init_17 : decode cX3_init 17 = .ok (.putfield 18, 3) := by decide +kernel
theorem dX3_init_20 : decode cX3_init 20 = .ok (.aload_n 0, 1) := by decide +kernel
theorem dX3_init_21 : decode cX3_init 21 = .ok (.bipush 30, 2) := by decide +kernel
theorem dX3_init_23 : decode cX3_init 23 = .ok (.newarray .int, 2) := by decide +kernel
theorem dX3_init_25 : decode cX3_init 25 = .ok (.putfield 22, 3) := by decide +kernel
theorem dX3_init_28 : decode cX3_init 28 = .ok (.aload_n 0, 1) := by decide +kernel
theorem dX3_init_29 : decode cX3_init 29 = .ok (.iconst 0, 1) := by decide +kernel
theorem dX3_init_30 : decode cX3_init 30 = .ok (.putfield 26, 3) := by decide +kernel
theorem dX3_init_33 : decode cX3_init 33 = .ok (.return_, 1) := by decide +kernel
theorem dX3_hasShape_0 : decode cX3_hasShape 0 = .ok (.aload_n 0, 1) := by decide +kernel
theorem dX3_hasShape_1 : decode cX3_hasShape 1 = .ok (.getfield 9, 3) := by decide +kernel
theorem dX3_hasShape_4 : decode cX3_hasShape 4 = .ok (.iconst 1, 1) := by decide +kernel
theorem dX3_hasShape_5 : decode cX3_hasShape 5 = .ok (.if_icmp .eq 11, 3) := by decide +kernel
theorem dX3_hasShape_8 : decode cX3_hasShape 8 = .ok (.aload_n 0, 1) := by decide +kernel
theorem dX3_hasShape_9 : decode cX3_hasShape 9 = .ok (.getfield 9, 3) := by decide +kernel
theorem dX3_hasShape_12 : decode cX3_hasShape 12 = .ok (.iconst 2, 1) := by decide +kernel
theorem dX3_hasShape_13 : decode cX3_hasShape 13 = .ok (.if_icmp .ne 7, 3) := by decide +kernel
theorem dX3_hasShape_16 : decode cX3_hasShape 16 = .ok (.iconst 1, 1) := by decide +kernel
theorem dX3_hasShape_17 : decode cX3_hasShape 17 = .ok (.goto 4, 3) := by decide +kernel
theorem dX3_hasShape_20 : decode cX3_hasShape 20 = .ok (.iconst 0, 1) := by decide +kernel
theorem dX3_hasShape_21 : decode cX3_hasShape 21 = .ok (.ireturn, 1) := by decide +kernel
theorem dX3_hasRow_0 : decode cX3_hasRow 0 = .ok (.aload_n 0, 1) := by decide +kernel
theorem dX3_hasRow_1 : decode cX3_hasRow 1 = .ok (.getfield 9, 3) := by decide +kernel
theorem dX3_hasRow_4 : decode cX3_hasRow 4 = .ok (.iconst 3, 1) := by decide +kernel
theorem dX3_hasRow_5 : decode cX3_hasRow 5 = .ok (.if_icmp .ne 7, 3) := by decide +kernel
theorem dX3_hasRow_8 : decode cX3_hasRow 8 = .ok (.iconst 1, 1) := by decide +kernel
theorem dX3_hasRow_9 : decode cX3_hasRow 9 = .ok (.goto 4, 3) := by decide +kernel
theorem dX3_hasRow_12 : decode cX3_hasRow 12 = .ok (.iconst 0, 1) := by decide +kernel
theorem dX3_hasRow_13 : decode cX3_hasRow 13 = .ok (.ireturn, 1) := by decide +kernel
theorem dX3_hasPlace_0 : decode cX3_hasPlace 0 = .ok (.iload_n 1, 1) := by decide +kernel
theorem dX3_hasPlace_1 : decode cX3_hasPlace 1 = .ok (.ifCond .lt 15, 3) := by decide +kernel
theorem dX3_hasPlace_4 : decode cX3_hasPlace 4 = .ok (.iload_n 1, 1) := by decide +kernel
theorem dX3_hasPlace_5 : decode cX3_hasPlace 5 = .ok (.aload_n 0, 1) := by decide +kernel
theorem dX3_hasPlace_6 : decode cX3_hasPlace 6 = .ok (.getfield 26, 3) := by decide +kernel
theorem dX3_hasPlace_9 : decode cX3_hasPlace 9 = .ok (.if_icmp .ge 7, 3) := by decide +kernel
theorem dX3_hasPlace_12 : decode cX3_hasPlace 12 = .ok (.iconst 1, 1) := by decide +kernel
theorem dX3_hasPlace_13 : decode cX3_hasPlace 13 = .ok (.goto 4, 3) := by decide +kernel
theorem dX3_hasPlace_16 : decode cX3_hasPlace 16 = .ok (.iconst 0, 1) := by decide +kernel
theorem dX3_hasPlace_17 : decode cX3_hasPlace 17 = .ok (.ireturn, 1) := by decide +kernel
theorem dX3_refusal_0 : decode cX3_refusal 0 = .ok (.aload_n 0, 1) := by decide +kernel
theorem dX3_refusal_1 : decode cX3_refusal 1 = .ok (.getfield 9, 3) := by decide +kernel
theorem dX3_refusal_4 : decode cX3_refusal 4 = .ok (.ifCond .ne 8, 3) := by decide +kernel
theorem dX3_refusal_7 : decode cX3_refusal 7 = .ok (.bipush (-11), 2) := by decide +kernel
theorem dX3_refusal_9 : decode cX3_refusal 9 = .ok (.goto 5, 3) := by decide +kernel
theorem dX3_refusal_12 : decode cX3_refusal 12 = .ok (.bipush (-12), 2) := by decide +kernel
theorem dX3_refusal_14 : decode cX3_refusal 14 = .ok (.ireturn, 1) := by decide +kernel
theorem dX3_keepShape_0 : decode cX3_keepShape 0 = .ok (.aload_n 0, 1) := by decide +kernel
theorem dX3_keepShape_1 : decode cX3_keepShape 1 = .ok (.getfield 18, 3) := by decide +kernel
theorem dX3_keepShape_4 : decode cX3_keepShape 4 = .ok (.aload_n 1, 1) := by decide +kernel
theorem dX3_keepShape_5 : decode cX3_keepShape 5 = .ok (.invokevirtual 29, 3) := by decide +kernel
theorem dX3_keepShape_8 : decode cX3_keepShape 8 = .ok (.aload_n 0, 1) := by decide +kernel
theorem dX3_keepShape_9 : decode cX3_keepShape 9 = .ok (.aload_n 1, 1) := by decide +kernel
theorem dX3_keepShape_10 : decode cX3_keepShape 10 = .ok (.getfield 33, 3) := by decide +kernel
theorem dX3_keepShape_13 : decode cX3_keepShape 13 = .ok (.iconst 1, 1) := by decide +kernel
theorem dX3_keepShape_14 : decode cX3_keepShape 14 = .ok (.if_icmp .gt 7, 3) := by decide +kernel
theorem dX3_keepShape_17 : decode cX3_keepShape 17 = .ok (.iconst 1, 1) := by decide +kernel
theorem dX3_keepShape_18 : decode cX3_keepShape 18 = .ok (.goto 4, 3) := by decide +kernel
theorem dX3_keepShape_21 : decode cX3_keepShape 21 = .ok (.iconst 2, 1) := by decide +kernel
theorem dX3_keepShape_22 : decode cX3_keepShape 22 = .ok (.putfield 9, 3) := by decide +kernel
theorem dX3_keepShape_25 : decode cX3_keepShape 25 = .ok (.return_, 1) := by decide +kernel
theorem dX3_beginRow_0 : decode cX3_beginRow 0 = .ok (.aload_n 0, 1) := by decide +kernel
theorem dX3_beginRow_1 : decode cX3_beginRow 1 = .ok (.iconst 3, 1) := by decide +kernel
theorem dX3_beginRow_2 : decode cX3_beginRow 2 = .ok (.putfield 9, 3) := by decide +kernel
theorem dX3_beginRow_5 : decode cX3_beginRow 5 = .ok (.aload_n 0, 1) := by decide +kernel
theorem dX3_beginRow_6 : decode cX3_beginRow 6 = .ok (.iload_n 1, 1) := by decide +kernel
theorem dX3_beginRow_7 : decode cX3_beginRow 7 = .ok (.putfield 26, 3) := by decide +kernel
theorem dX3_beginRow_10 : decode cX3_beginRow 10 = .ok (.iconst 0, 1) := by decide +kernel
theorem dX3_beginRow_11 : decode cX3_beginRow 11 = .ok (.istore_n 2, 1) := by decide +kernel
theorem dX3_beginRow_12 : decode cX3_beginRow 12 = .ok (.iload_n 2, 1) := by decide +kernel
theorem dX3_beginRow_13 : decode cX3_beginRow 13 = .ok (.bipush 30, 2) := by decide +kernel
theorem dX3_beginRow_15 : decode cX3_beginRow 15 = .ok (.if_icmp .ge 16, 3) := by decide +kernel
theorem dX3_beginRow_18 : decode cX3_beginRow 18 = .ok (.aload_n 0, 1) := by decide +kernel
theorem dX3_beginRow_19 : decode cX3_beginRow 19 = .ok (.getfield 22, 3) := by decide +kernel
theorem dX3_beginRow_22 : decode cX3_beginRow 22 = .ok (.iload_n 2, 1) := by decide +kernel
theorem dX3_beginRow_23 : decode cX3_beginRow 23 = .ok (.iconst 0, 1) := by decide +kernel
theorem dX3_beginRow_24 : decode cX3_beginRow 24 = .ok (.iastore, 1) := by decide +kernel
theorem dX3_beginRow_25 : decode cX3_beginRow 25 = .ok (.iinc 2 1, 3) := by decide +kernel
theorem dX3_beginRow_28 : decode cX3_beginRow 28 = .ok (.goto (-16), 3) := by decide +kernel
theorem dX3_beginRow_31 : decode cX3_beginRow 31 = .ok (.return_, 1) := by decide +kernel
theorem dX3_firstOtherwise_0 : decode cX3_firstOtherwise 0 = .ok (.aload_n 0, 1) := by decide +kernel
theorem dX3_firstOtherwise_1 : decode cX3_firstOtherwise 1 = .ok (.getfield 26, 3) := by decide +kernel
theorem dX3_firstOtherwise_4 : decode cX3_firstOtherwise 4 = .ok (.aload_n 1, 1) := by decide +kernel
theorem dX3_firstOtherwise_5 : decode cX3_firstOtherwise 5 = .ok (.getfield 33, 3) := by decide +kernel
theorem dX3_firstOtherwise_8 : decode cX3_firstOtherwise 8 = .ok (.invokestatic 36, 3) := by decide +kernel
theorem dX3_firstOtherwise_11 : decode cX3_firstOtherwise 11 = .ok (.istore_n 2, 1) := by decide +kernel
theorem dX3_firstOtherwise_12 : decode cX3_firstOtherwise 12 = .ok (.iconst 0, 1) := by decide +kernel
theorem dX3_firstOtherwise_13 : decode cX3_firstOtherwise 13 = .ok (.istore_n 3, 1) := by decide +kernel
theorem dX3_firstOtherwise_14 : decode cX3_firstOtherwise 14 = .ok (.iload_n 3, 1) := by decide +kernel
theorem dX3_firstOtherwise_15 : decode cX3_firstOtherwise 15 = .ok (.iload_n 2, 1) := by decide +kernel
theorem dX3_firstOtherwise_16 : decode cX3_firstOtherwise 16 = .ok (.if_icmp .ge 41, 3) := by decide +kernel
theorem dX3_firstOtherwise_19 : decode cX3_firstOtherwise 19 = .ok (.aload_n 0, 1) := by decide +kernel
theorem dX3_firstOtherwise_20 : decode cX3_firstOtherwise 20 = .ok (.iload_n 3, 1) := by decide +kernel
theorem dX3_firstOtherwise_21 : decode cX3_firstOtherwise 21 = .ok (.invokevirtual 42, 3) := by decide +kernel
theorem dX3_firstOtherwise_24 : decode cX3_firstOtherwise 24 = .ok (.ifCond .eq 12, 3) := by decide +kernel
theorem dX3_firstOtherwise_27 : decode cX3_firstOtherwise 27 = .ok (.aload_n 0, 1) := by decide +kernel
theorem dX3_firstOtherwise_28 : decode cX3_firstOtherwise 28 = .ok (.getfield 22, 3) := by decide +kernel
theorem dX3_firstOtherwise_31 : decode cX3_firstOtherwise 31 = .ok (.iload_n 3, 1) := by decide +kernel
theorem dX3_firstOtherwise_32 : decode cX3_firstOtherwise 32 = .ok (.iaload, 1) := by decide +kernel
theorem dX3_firstOtherwise_33 : decode cX3_firstOtherwise 33 = .ok (.goto 4, 3) := by decide +kernel
theorem dX3_firstOtherwise_36 : decode cX3_firstOtherwise 36 = .ok (.iconst 0, 1) := by decide +kernel
theorem dX3_firstOtherwise_37 : decode cX3_firstOtherwise 37 = .ok (.istore 4, 2) := by decide +kernel
theorem dX3_firstOtherwise_39 : decode cX3_firstOtherwise 39 = .ok (.iload 4, 2) := by decide +kernel
theorem dX3_firstOtherwise_41 : decode cX3_firstOtherwise 41 = .ok (.aload_n 1, 1) := by decide +kernel
theorem dX3_firstOtherwise_42 : decode cX3_firstOtherwise 42 = .ok (.iload_n 3, 1) := by decide +kernel
theorem dX3_firstOtherwise_43 : decode cX3_firstOtherwise 43 = .ok (.invokevirtual 46, 3) := by decide +kernel
theorem dX3_firstOtherwise_46 : decode cX3_firstOtherwise 46 = .ok (.if_icmp .eq 5, 3) := by decide +kernel
theorem dX3_firstOtherwise_49 : decode cX3_firstOtherwise 49 = .ok (.iload_n 3, 1) := by decide +kernel
theorem dX3_firstOtherwise_50 : decode cX3_firstOtherwise 50 = .ok (.ireturn, 1) := by decide +kernel
theorem dX3_firstOtherwise_51 : decode cX3_firstOtherwise 51 = .ok (.iinc 3 1, 3) := by decide +kernel
theorem dX3_firstOtherwise_54 : decode cX3_firstOtherwise 54 = .ok (.goto (-40), 3) := by decide +kernel
theorem dX3_firstOtherwise_57 : decode cX3_firstOtherwise 57 = .ok (.bipush (-2), 2) := by decide +kernel
theorem dX3_firstOtherwise_59 : decode cX3_firstOtherwise 59 = .ok (.ireturn, 1) := by decide +kernel
theorem dX4_init_0 : decode cX4_init 0 = .ok (.aload_n 0, 1) := by decide +kernel
theorem dX4_init_1 : decode cX4_init 1 = .ok (.invokespecial 3, 3) := by decide +kernel
theorem dX4_init_4 : decode cX4_init 4 = .ok (.aload_n 0, 1) := by decide +kernel
theorem dX4_init_5 : decode cX4_init 5 = .ok (.bipush 6, 2) := by decide +kernel
theorem dX4_init_7 : decode cX4_init 7 = .ok (.bipush 6, 2) := by decide +kernel
theorem dX4_init_9 : decode cX4_init 9 = .ok (.multianewarray 9 2, 4) := by decide +kernel
theorem dX4_init_13 : decode cX4_init 13 = .ok (.putfield 11, 3) := by decide +kernel
theorem dX4_init_16 : decode cX4_init 16 = .ok (.return_, 1) := by decide +kernel
theorem dX4_bestRow_0 : decode cX4_bestRow 0 = .ok (.iload_n 2, 1) := by decide +kernel
theorem dX4_bestRow_1 : decode cX4_bestRow 1 = .ok (.iconst 1, 1) := by decide +kernel
theorem dX4_bestRow_2 : decode cX4_bestRow 2 = .ok (.if_icmp .eq 8, 3) := by decide +kernel
theorem dX4_bestRow_5 : decode cX4_bestRow 5 = .ok (.iload_n 2, 1) := by decide +kernel
theorem dX4_bestRow_6 : decode cX4_bestRow 6 = .ok (.iconst 3, 1) := by decide +kernel
theorem dX4_bestRow_7 : decode cX4_bestRow 7 = .ok (.if_icmp .ne 7, 3) := by decide +kernel
theorem dX4_bestRow_10 : decode cX4_bestRow 10 = .ok (.iconst 1, 1) := by decide +kernel
theorem dX4_bestRow_11 : decode cX4_bestRow 11 = .ok (.goto 4, 3) := by decide +kernel
theorem dX4_bestRow_14 : decode cX4_bestRow 14 = .ok (.iconst 0, 1) := by decide +kernel
theorem dX4_bestRow_15 : decode cX4_bestRow 15 = .ok (.istore 4, 2) := by decide +kernel
theorem dX4_bestRow_17 : decode cX4_bestRow 17 = .ok (.iload_n 2, 1) := by decide +kernel
theorem dX4_bestRow_18 : decode cX4_bestRow 18 = .ok (.iconst 2, 1) := by decide +kernel
theorem dX4_bestRow_19 : decode cX4_bestRow 19 = .ok (.if_icmp .lt 7, 3) := by decide +kernel
theorem dX4_bestRow_22 : decode cX4_bestRow 22 = .ok (.iconst 1, 1) := by decide +kernel
theorem dX4_bestRow_23 : decode cX4_bestRow 23 = .ok (.goto 4, 3) := by decide +kernel
theorem dX4_bestRow_26 : decode cX4_bestRow 26 = .ok (.iconst 0, 1) := by decide +kernel
theorem dX4_bestRow_27 : decode cX4_bestRow 27 = .ok (.istore 5, 2) := by decide +kernel
theorem dX4_bestRow_29 : decode cX4_bestRow 29 = .ok (.iconst 1, 1) := by decide +kernel
theorem dX4_bestRow_30 : decode cX4_bestRow 30 = .ok (.istore 6, 2) := by decide +kernel
theorem dX4_bestRow_32 : decode cX4_bestRow 32 = .ok (.iload 6, 2) := by decide +kernel
theorem dX4_bestRow_34 : decode cX4_bestRow 34 = .ok (.aload_n 1, 1) := by decide +kernel
theorem dX4_bestRow_35 : decode cX4_bestRow 35 = .ok (.getfield 16, 3) := by decide +kernel
theorem dX4_bestRow_38 : decode cX4_bestRow 38 = .ok (.if_icmp .gt 145, 3) := by decide +kernel
theorem dX4_bestRow_41 : decode cX4_bestRow 41 = .ok (.iconst 1, 1) := by decide +kernel
theorem dX4_bestRow_42 : decode cX4_bestRow 42 = .ok (.istore 7, 2) := by decide +kernel
theorem dX4_bestRow_44 : decode cX4_bestRow 44 = .ok (.iload 7, 2) := by decide +kernel
theorem dX4_bestRow_46 : decode cX4_bestRow 46 = .ok (.aload_n 1, 1) := by decide +kernel
theorem dX4_bestRow_47 : decode cX4_bestRow 47 = .ok (.getfield 22, 3) := by decide +kernel
theorem dX4_bestRow_50 : decode cX4_bestRow 50 = .ok (.if_icmp .gt 127, 3) := by decide +kernel
theorem dX4_bestRow_53 : decode cX4_bestRow 53 = .ok (.aload_n 1, 1) := by decide +kernel
theorem dX4_bestRow_54 : decode cX4_bestRow 54 = .ok (.iload 6, 2) := by decide +kernel
theorem dX4_bestRow_56 : decode cX4_bestRow 56 = .ok (.iload 5, 2) := by decide +kernel
theorem dX4_bestRow_58 : decode cX4_bestRow 58 = .ok (.ifCond .eq 15, 3) := by decide +kernel
theorem dX4_bestRow_61 : decode cX4_bestRow 61 = .ok (.aload_n 1, 1) := by decide +kernel
theorem dX4_bestRow_62 : decode cX4_bestRow 62 = .ok (.getfield 22, 3) := by decide +kernel
theorem dX4_bestRow_65 : decode cX4_bestRow 65 = .ok (.iconst 1, 1) := by decide +kernel
theorem dX4_bestRow_66 : decode cX4_bestRow 66 = .ok (.iadd, 1) := by decide +kernel
theorem dX4_bestRow_67 : decode cX4_bestRow 67 = .ok (.iload 7, 2) := by decide +kernel
theorem dX4_bestRow_69 : decode cX4_bestRow 69 = .ok (.isub, 1) := by decide +kernel
theorem dX4_bestRow_70 : decode cX4_bestRow 70 = .ok (.goto 5, 3) := by decide +kernel
theorem dX4_bestRow_73 : decode cX4_bestRow 73 = .ok (.iload 7, 2) := by decide +kernel
theorem dX4_bestRow_75 : decode cX4_bestRow 75 = .ok (.invokevirtual 25, 3) := by decide +kernel
theorem dX4_bestRow_78 : decode cX4_bestRow 78 = .ok (.istore 8, 2) := by decide +kernel
theorem dX4_bestRow_80 : decode cX4_bestRow 80 = .ok (.iload_n 3, 1) := by decide +kernel
theorem dX4_bestRow_81 : decode cX4_bestRow 81 = .ok (.ifCond .eq 12, 3) := by decide +kernel
theorem dX4_bestRow_84 : decode cX4_bestRow 84 = .ok (.iload 8, 2) := by decide +kernel
theorem dX4_bestRow_86 : decode cX4_bestRow 86 = .ok (.iconst 1, 1) := by decide +kernel
theorem dX4_bestRow_87 : decode cX4_bestRow 87 = .ok (.invokestatic 29, 3) := by decide +kernel
theorem dX4_bestRow_90 : decode cX4_bestRow 90 = .ok (.goto 5, 3) := by decide +kernel
theorem dX4_bestRow_93 : decode cX4_bestRow 93 = .ok (.iload 8, 2) := by decide +kernel
theorem dX4_bestRow_95 : decode cX4_bestRow 95 = .ok (.istore 9, 2) := by decide +kernel
theorem dX4_bestRow_97 : decode cX4_bestRow 97 = .ok (.aload_n 0, 1) := by decide +kernel
theorem dX4_bestRow_98 : decode cX4_bestRow 98 = .ok (.getfield 11, 3) := by decide +kernel
theorem dX4_bestRow_101 : decode cX4_bestRow 101 = .ok (.iload 6, 2) := by decide +kernel
theorem dX4_bestRow_103 : decode cX4_bestRow 103 = .ok (.iconst 1, 1) := by decide +kernel
theorem dX4_bestRow_104 : decode cX4_bestRow 104 = .ok (.isub, 1) := by decide +kernel
theorem dX4_bestRow_105 : decode cX4_bestRow 105 = .ok (.aaload, 1) := by decide +kernel
theorem dX4_bestRow_106 : decode cX4_bestRow 106 = .ok (.iload 7, 2) := by decide +kernel
theorem dX4_bestRow_108 : decode cX4_bestRow 108 = .ok (.iaload, 1) := by decide +kernel
theorem dX4_bestRow_109 : decode cX4_bestRow 109 = .ok (.aload_n 0, 1) := by decide +kernel
theorem dX4_bestRow_110 : decode cX4_bestRow 110 = .ok (.getfield 11, 3) := by decide +kernel
theorem dX4_bestRow_113 : decode cX4_bestRow 113 = .ok (.iload 6, 2) := by decide +kernel
theorem dX4_bestRow_115 : decode cX4_bestRow 115 = .ok (.aaload, 1) := by decide +kernel
theorem dX4_bestRow_116 : decode cX4_bestRow 116 = .ok (.iload 7, 2) := by decide +kernel
theorem dX4_bestRow_118 : decode cX4_bestRow 118 = .ok (.iconst 1, 1) := by decide +kernel
theorem dX4_bestRow_119 : decode cX4_bestRow 119 = .ok (.isub, 1) := by decide +kernel
theorem dX4_bestRow_120 : decode cX4_bestRow 120 = .ok (.iaload, 1) := by decide +kernel
theorem dX4_bestRow_121 : decode cX4_bestRow 121 = .ok (.invokestatic 34, 3) := by decide +kernel
theorem dX4_bestRow_124 : decode cX4_bestRow 124 = .ok (.istore 10, 2) := by decide +kernel
theorem dX4_bestRow_126 : decode cX4_bestRow 126 = .ok (.aload_n 0, 1) := by decide +kernel
theorem dX4_bestRow_127 : decode cX4_bestRow 127 = .ok (.getfield 11, 3) := by decide +kernel
theorem dX4_bestRow_130 : decode cX4_bestRow 130 = .ok (.iload 6, 2) := by decide +kernel
theorem dX4_bestRow_132 : decode cX4_bestRow 132 = .ok (.aaload, 1) := by decide +kernel
theorem dX4_bestRow_133 : decode cX4_bestRow 133 = .ok (.iload 7, 2) := by decide +kernel
theorem dX4_bestRow_135 : decode cX4_bestRow 135 = .ok (.iload 4, 2) := by decide +kernel
theorem dX4_bestRow_137 : decode cX4_bestRow 137 = .ok (.ifCond .eq 28, 3) := by decide +kernel
theorem dX4_bestRow_140 : decode cX4_bestRow 140 = .ok (.iload 10, 2) := by decide +kernel
theorem dX4_bestRow_142 : decode cX4_bestRow 142 = .ok (.aload_n 0, 1) := by decide +kernel
theorem dX4_bestRow_143 : decode cX4_bestRow 143 = .ok (.getfield 11, 3) := by decide +kernel
theorem dX4_bestRow_146 : decode cX4_bestRow 146 = .ok (.iload 6, 2) := by decide +kernel
theorem dX4_bestRow_148 : decode cX4_bestRow 148 = .ok (.iconst 1, 1) := by decide +kernel
theorem dX4_bestRow_149 : decode cX4_bestRow 149 = .ok (.isub, 1) := by decide +kernel
theorem dX4_bestRow_150 : decode cX4_bestRow 150 = .ok (.aaload, 1) := by decide +kernel
theorem dX4_bestRow_151 : decode cX4_bestRow 151 = .ok (.iload 7, 2) := by decide +kernel
theorem dX4_bestRow_153 : decode cX4_bestRow 153 = .ok (.iconst 1, 1) := by decide +kernel
theorem dX4_bestRow_154 : decode cX4_bestRow 154 = .ok (.isub, 1) := by decide +kernel
theorem dX4_bestRow_155 : decode cX4_bestRow 155 = .ok (.iaload, 1) := by decide +kernel
theorem dX4_bestRow_156 : decode cX4_bestRow 156 = .ok (.iload 9, 2) := by decide +kernel
theorem dX4_bestRow_158 : decode cX4_bestRow 158 = .ok (.iadd, 1) := by decide +kernel
theorem dX4_bestRow_159 : decode cX4_bestRow 159 = .ok (.invokestatic 34, 3) := by decide +kernel
theorem dX4_bestRow_162 : decode cX4_bestRow 162 = .ok (.goto 8, 3) := by decide +kernel
theorem dX4_bestRow_165 : decode cX4_bestRow 165 = .ok (.iload 10, 2) := by decide +kernel
theorem dX4_bestRow_167 : decode cX4_bestRow 167 = .ok (.iload 9, 2) := by decide +kernel
theorem dX4_bestRow_169 : decode cX4_bestRow 169 = .ok (.iadd, 1) := by decide +kernel
theorem dX4_bestRow_170 : decode cX4_bestRow 170 = .ok (.iastore, 1) := by decide +kernel
theorem dX4_bestRow_171 : decode cX4_bestRow 171 = .ok (.iinc 7 1, 3) := by decide +kernel
theorem dX4_bestRow_174 : decode cX4_bestRow 174 = .ok (.goto (-130), 3) := by decide +kernel
theorem dX4_bestRow_177 : decode cX4_bestRow 177 = .ok (.iinc 6 1, 3) := by decide +kernel
theorem dX4_bestRow_180 : decode cX4_bestRow 180 = .ok (.goto (-148), 3) := by decide +kernel
theorem dX4_bestRow_183 : decode cX4_bestRow 183 = .ok (.aload_n 0, 1) := by decide +kernel
theorem dX4_bestRow_184 : decode cX4_bestRow 184 = .ok (.getfield 11, 3) := by decide +kernel
theorem dX4_bestRow_187 : decode cX4_bestRow 187 = .ok (.aload_n 1, 1) := by decide +kernel
theorem dX4_bestRow_188 : decode cX4_bestRow 188 = .ok (.getfield 16, 3) := by decide +kernel
theorem dX4_bestRow_191 : decode cX4_bestRow 191 = .ok (.aaload, 1) := by decide +kernel
theorem dX4_bestRow_192 : decode cX4_bestRow 192 = .ok (.aload_n 1, 1) := by decide +kernel
theorem dX4_bestRow_193 : decode cX4_bestRow 193 = .ok (.getfield 22, 3) := by decide +kernel
theorem dX4_bestRow_196 : decode cX4_bestRow 196 = .ok (.iaload, 1) := by decide +kernel
theorem dX4_bestRow_197 : decode cX4_bestRow 197 = .ok (.ireturn, 1) := by decide +kernel
theorem dX5_init_0 : decode cX5_init 0 = .ok (.aload_n 0, 1) := by decide +kernel
theorem dX5_init_1 : decode cX5_init 1 = .ok (.invokespecial 3, 3) := by decide +kernel
theorem dX5_init_4 : decode cX5_init 4 = .ok (.aload_n 0, 1) := by decide +kernel
theorem dX5_init_5 : decode cX5_init 5 = .ok (.bipush 75, 2) := by decide +kernel
theorem dX5_init_7 : decode cX5_init 7 = .ok (.newarray .int, 2) := by decide +kernel
theorem dX5_init_9 : decode cX5_init 9 = .ok (.putfield 9, 3) := by decide +kernel
theorem dX5_init_12 : decode cX5_init 12 = .ok (.aload_n 0, 1) := by decide +kernel
theorem dX5_init_13 : decode cX5_init 13 = .ok (.iconst 0, 1) := by decide +kernel
theorem dX5_init_14 : decode cX5_init 14 = .ok (.putfield 15, 3) := by decide +kernel
theorem dX5_init_17 : decode cX5_init 17 = .ok (.aload_n 0, 1) := by decide +kernel
theorem dX5_init_18 : decode cX5_init 18 = .ok (.iconst 0, 1) := by decide +kernel
theorem dX5_init_19 : decode cX5_init 19 = .ok (.putfield 19, 3) := by decide +kernel
theorem dX5_init_22 : decode cX5_init 22 = .ok (.return_, 1) := by decide +kernel
theorem dX5_partAt_0 : decode cX5_partAt 0 = .ok (.iload_n 1, 1) := by decide +kernel
theorem dX5_partAt_1 : decode cX5_partAt 1 = .ok (.ifCond .lt 20, 3) := by decide +kernel
theorem dX5_partAt_4 : decode cX5_partAt 4 = .ok (.iload_n 1, 1) := by decide +kernel
theorem dX5_partAt_5 : decode cX5_partAt 5 = .ok (.aload_n 0, 1) := by decide +kernel
theorem dX5_partAt_6 : decode cX5_partAt 6 = .ok (.getfield 15, 3) := by decide +kernel
theorem dX5_partAt_9 : decode cX5_partAt 9 = .ok (.if_icmp .ge 12, 3) := by decide +kernel
theorem dX5_partAt_12 : decode cX5_partAt 12 = .ok (.aload_n 0, 1) := by decide +kernel
theorem dX5_partAt_13 : decode cX5_partAt 13 = .ok (.getfield 9, 3) := by decide +kernel
theorem dX5_partAt_16 : decode cX5_partAt 16 = .ok (.iload_n 1, 1) := by decide +kernel
theorem dX5_partAt_17 : decode cX5_partAt 17 = .ok (.iaload, 1) := by decide +kernel
theorem dX5_partAt_18 : decode cX5_partAt 18 = .ok (.goto 4, 3) := by decide +kernel
theorem dX5_partAt_21 : decode cX5_partAt 21 = .ok (.iconst 0, 1) := by decide +kernel
theorem dX5_partAt_22 : decode cX5_partAt 22 = .ok (.ireturn, 1) := by decide +kernel
theorem dX5_partsAbove_0 : decode cX5_partsAbove 0 = .ok (.iconst 0, 1) := by decide +kernel
theorem dX5_partsAbove_1 : decode cX5_partsAbove 1 = .ok (.istore_n 2, 1) := by decide +kernel
theorem dX5_partsAbove_2 : decode cX5_partsAbove 2 = .ok (.iconst 0, 1) := by decide +kernel
theorem dX5_partsAbove_3 : decode cX5_partsAbove 3 = .ok (.istore_n 3, 1) := by decide +kernel
theorem dX5_partsAbove_4 : decode cX5_partsAbove 4 = .ok (.iload_n 3, 1) := by decide +kernel
theorem dX5_partsAbove_5 : decode cX5_partsAbove 5 = .ok (.aload_n 0, 1) := by decide +kernel
theorem dX5_partsAbove_6 : decode cX5_partsAbove 6 = .ok (.getfield 15, 3) := by decide +kernel
theorem dX5_partsAbove_9 : decode cX5_partsAbove 9 = .ok (.if_icmp .ge 27, 3) := by decide +kernel
theorem dX5_partsAbove_12 : decode cX5_partsAbove 12 = .ok (.iload_n 2, 1) := by decide +kernel
theorem dX5_partsAbove_13 : decode cX5_partsAbove 13 = .ok (.aload_n 0, 1) := by decide +kernel
theorem dX5_partsAbove_14 : decode cX5_partsAbove 14 = .ok (.getfield 9, 3) := by decide +kernel
theorem dX5_partsAbove_17 : decode cX5_partsAbove 17 = .ok (.iload_n 3, 1) := by decide +kernel
theorem dX5_partsAbove_18 : decode cX5_partsAbove 18 = .ok (.iaload, 1) := by decide +kernel
theorem dX5_partsAbove_19 : decode cX5_partsAbove 19 = .ok (.iload_n 1, 1) := by decide +kernel
theorem dX5_partsAbove_20 : decode cX5_partsAbove 20 = .ok (.if_icmp .le 7, 3) := by decide +kernel
theorem dX5_partsAbove_23 : decode cX5_partsAbove 23 = .ok (.iconst 1, 1) := by decide +kernel
theorem dX5_partsAbove_24 : decode cX5_partsAbove 24 = .ok (.goto 4, 3) := by decide +kernel
theorem dX5_partsAbove_27 : decode cX5_partsAbove 27 = .ok (.iconst 0, 1) := by decide +kernel
theorem dX5_partsAbove_28 : decode cX5_partsAbove 28 = .ok (.iadd, 1) := by decide +kernel
theorem dX5_partsAbove_29 : decode cX5_partsAbove 29 = .ok (.istore_n 2, 1) := by decide +kernel
theorem dX5_partsAbove_30 : decode cX5_partsAbove 30 = .ok (.iinc 3 1, 3) := by decide +kernel
theorem dX5_partsAbove_33 : decode cX5_partsAbove 33 = .ok (.goto (-29), 3) := by decide +kernel
theorem dX5_partsAbove_36 : decode cX5_partsAbove 36 = .ok (.iload_n 2, 1) := by decide +kernel
theorem dX5_partsAbove_37 : decode cX5_partsAbove 37 = .ok (.ireturn, 1) := by decide +kernel
theorem dX5_makeEmpty_0 : decode cX5_makeEmpty 0 = .ok (.aload_n 0, 1) := by decide +kernel
theorem dX5_makeEmpty_1 : decode cX5_makeEmpty 1 = .ok (.iconst 0, 1) := by decide +kernel
theorem dX5_makeEmpty_2 : decode cX5_makeEmpty 2 = .ok (.putfield 15, 3) := by decide +kernel
theorem dX5_makeEmpty_5 : decode cX5_makeEmpty 5 = .ok (.aload_n 0, 1) := by decide +kernel
theorem dX5_makeEmpty_6 : decode cX5_makeEmpty 6 = .ok (.iconst 0, 1) := by decide +kernel
theorem dX5_makeEmpty_7 : decode cX5_makeEmpty 7 = .ok (.putfield 19, 3) := by decide +kernel
theorem dX5_makeEmpty_10 : decode cX5_makeEmpty 10 = .ok (.return_, 1) := by decide +kernel
theorem dX5_copyFrom_0 : decode cX5_copyFrom 0 = .ok (.aload_n 0, 1) := by decide +kernel
theorem dX5_copyFrom_1 : decode cX5_copyFrom 1 = .ok (.aload_n 1, 1) := by decide +kernel
theorem dX5_copyFrom_2 : decode cX5_copyFrom 2 = .ok (.getfield 15, 3) := by decide +kernel
theorem dX5_copyFrom_5 : decode cX5_copyFrom 5 = .ok (.putfield 15, 3) := by decide +kernel
theorem dX5_copyFrom_8 : decode cX5_copyFrom 8 = .ok (.aload_n 0, 1) := by decide +kernel
theorem dX5_copyFrom_9 : decode cX5_copyFrom 9 = .ok (.aload_n 1, 1) := by decide +kernel
theorem dX5_copyFrom_10 : decode cX5_copyFrom 10 = .ok (.getfield 19, 3) := by decide +kernel
theorem dX5_copyFrom_13 : decode cX5_copyFrom 13 = .ok (.putfield 19, 3) := by decide +kernel
theorem dX5_copyFrom_16 : decode cX5_copyFrom 16 = .ok (.iconst 0, 1) := by decide +kernel
theorem dX5_copyFrom_17 : decode cX5_copyFrom 17 = .ok (.istore_n 2, 1) := by decide +kernel
theorem dX5_copyFrom_18 : decode cX5_copyFrom 18 = .ok (.iload_n 2, 1) := by decide +kernel
theorem dX5_copyFrom_19 : decode cX5_copyFrom 19 = .ok (.aload_n 0, 1) := by decide +kernel
theorem dX5_copyFrom_20 : decode cX5_copyFrom 20 = .ok (.getfield 15, 3) := by decide +kernel
theorem dX5_copyFrom_23 : decode cX5_copyFrom 23 = .ok (.if_icmp .ge 21, 3) := by decide +kernel
theorem dX5_copyFrom_26 : decode cX5_copyFrom 26 = .ok (.aload_n 0, 1) := by decide +kernel
theorem dX5_copyFrom_27 : decode cX5_copyFrom 27 = .ok (.getfield 9, 3) := by decide +kernel
theorem dX5_copyFrom_30 : decode cX5_copyFrom 30 = .ok (.iload_n 2, 1) := by decide +kernel
theorem dX5_copyFrom_31 : decode cX5_copyFrom 31 = .ok (.aload_n 1, 1) := by decide +kernel
theorem dX5_copyFrom_32 : decode cX5_copyFrom 32 = .ok (.getfield 9, 3) := by decide +kernel
theorem dX5_copyFrom_35 : decode cX5_copyFrom 35 = .ok (.iload_n 2, 1) := by decide +kernel
theorem dX5_copyFrom_36 : decode cX5_copyFrom 36 = .ok (.iaload, 1) := by decide +kernel
theorem dX5_copyFrom_37 : decode cX5_copyFrom 37 = .ok (.iastore, 1) := by decide +kernel
theorem dX5_copyFrom_38 : decode cX5_copyFrom 38 = .ok (.iinc 2 1, 3) := by decide +kernel
theorem dX5_copyFrom_41 : decode cX5_copyFrom 41 = .ok (.goto (-23), 3) := by decide +kernel
theorem dX5_copyFrom_44 : decode cX5_copyFrom 44 = .ok (.return_, 1) := by decide +kernel
theorem dX5_growFrom_0 : decode cX5_growFrom 0 = .ok (.aload_n 0, 1) := by decide +kernel
theorem dX5_growFrom_1 : decode cX5_growFrom 1 = .ok (.invokevirtual 22, 3) := by decide +kernel
theorem dX5_growFrom_4 : decode cX5_growFrom 4 = .ok (.iload 4, 2) := by decide +kernel
theorem dX5_growFrom_6 : decode cX5_growFrom 6 = .ok (.istore 6, 2) := by decide +kernel
theorem dX5_growFrom_8 : decode cX5_growFrom 8 = .ok (.iconst 0, 1) := by decide +kernel
theorem dX5_growFrom_9 : decode cX5_growFrom 9 = .ok (.istore 7, 2) := by decide +kernel
theorem dX5_growFrom_11 : decode cX5_growFrom 11 = .ok (.iload 7, 2) := by decide +kernel
theorem dX5_growFrom_13 : decode cX5_growFrom 13 = .ok (.bipush 75, 2) := by decide +kernel
theorem dX5_growFrom_15 : decode cX5_growFrom 15 = .ok (.if_icmp .ge 100, 3) := by decide +kernel
theorem dX5_growFrom_18 : decode cX5_growFrom 18 = .ok (.aload_n 1, 1) := by decide +kernel
theorem dX5_growFrom_19 : decode cX5_growFrom 19 = .ok (.iload 7, 2) := by decide +kernel
theorem dX5_growFrom_21 : decode cX5_growFrom 21 = .ok (.invokevirtual 25, 3) := by decide +kernel
theorem dX5_growFrom_24 : decode cX5_growFrom 24 = .ok (.istore 8, 2) := by decide +kernel
theorem dX5_growFrom_26 : decode cX5_growFrom 26 = .ok (.aload_n 2, 1) := by decide +kernel
theorem dX5_growFrom_27 : decode cX5_growFrom 27 = .ok (.iload 7, 2) := by decide +kernel
theorem dX5_growFrom_29 : decode cX5_growFrom 29 = .ok (.invokevirtual 25, 3) := by decide +kernel
theorem dX5_growFrom_32 : decode cX5_growFrom 32 = .ok (.istore 9, 2) := by decide +kernel
theorem dX5_growFrom_34 : decode cX5_growFrom 34 = .ok (.aload_n 3, 1) := by decide +kernel
theorem dX5_growFrom_35 : decode cX5_growFrom 35 = .ok (.iload 7, 2) := by decide +kernel
theorem dX5_growFrom_37 : decode cX5_growFrom 37 = .ok (.invokevirtual 25, 3) := by decide +kernel
theorem dX5_growFrom_40 : decode cX5_growFrom 40 = .ok (.istore 10, 2) := by decide +kernel
theorem dX5_growFrom_42 : decode cX5_growFrom 42 = .ok (.iload 5, 2) := by decide +kernel
theorem dX5_growFrom_44 : decode cX5_growFrom 44 = .ok (.iload 8, 2) := by decide +kernel
theorem dX5_growFrom_46 : decode cX5_growFrom 46 = .ok (.iload 9, 2) := by decide +kernel
theorem dX5_growFrom_48 : decode cX5_growFrom 48 = .ok (.iload 10, 2) := by decide +kernel
theorem dX5_growFrom_50 : decode cX5_growFrom 50 = .ok (.iload 6, 2) := by decide +kernel
theorem dX5_growFrom_52 : decode cX5_growFrom 52 = .ok (.invokestatic 29, 3) := by decide +kernel
theorem dX5_growFrom_55 : decode cX5_growFrom 55 = .ok (.istore 11, 2) := by decide +kernel
theorem dX5_growFrom_57 : decode cX5_growFrom 57 = .ok (.iload 11, 2) := by decide +kernel
theorem dX5_growFrom_59 : decode cX5_growFrom 59 = .ok (.ifCond .gt 6, 3) := by decide +kernel
theorem dX5_growFrom_62 : decode cX5_growFrom 62 = .ok (.goto 53, 3) := by decide +kernel
theorem dX5_growFrom_65 : decode cX5_growFrom 65 = .ok (.aload_n 0, 1) := by decide +kernel
theorem dX5_growFrom_66 : decode cX5_growFrom 66 = .ok (.getfield 9, 3) := by decide +kernel
theorem dX5_growFrom_69 : decode cX5_growFrom 69 = .ok (.iload 7, 2) := by decide +kernel
theorem dX5_growFrom_71 : decode cX5_growFrom 71 = .ok (.iload 11, 2) := by decide +kernel
theorem dX5_growFrom_73 : decode cX5_growFrom 73 = .ok (.iastore, 1) := by decide +kernel
theorem dX5_growFrom_74 : decode cX5_growFrom 74 = .ok (.aload_n 0, 1) := by decide +kernel
theorem dX5_growFrom_75 : decode cX5_growFrom 75 = .ok (.iload 7, 2) := by decide +kernel
theorem dX5_growFrom_77 : decode cX5_growFrom 77 = .ok (.iconst 1, 1) := by decide +kernel
theorem dX5_growFrom_78 : decode cX5_growFrom 78 = .ok (.iadd, 1) := by decide +kernel
theorem dX5_growFrom_79 : decode cX5_growFrom 79 = .ok (.putfield 15, 3) := by decide +kernel
theorem dX5_growFrom_82 : decode cX5_growFrom 82 = .ok (.aload_n 0, 1) := by decide +kernel
theorem dX5_growFrom_83 : decode cX5_growFrom 83 = .ok (.dup, 1) := by decide +kernel
theorem dX5_growFrom_84 : decode cX5_growFrom 84 = .ok (.getfield 19, 3) := by decide +kernel
theorem dX5_growFrom_87 : decode cX5_growFrom 87 = .ok (.iload 11, 2) := by decide +kernel
theorem dX5_growFrom_89 : decode cX5_growFrom 89 = .ok (.iadd, 1) := by decide +kernel
theorem dX5_growFrom_90 : decode cX5_growFrom 90 = .ok (.putfield 19, 3) := by decide +kernel
theorem dX5_growFrom_93 : decode cX5_growFrom 93 = .ok (.iload 6, 2) := by decide +kernel
theorem dX5_growFrom_95 : decode cX5_growFrom 95 = .ok (.iload 9, 2) := by decide +kernel
theorem dX5_growFrom_97 : decode cX5_growFrom 97 = .ok (.iload 10, 2) := by decide +kernel
theorem dX5_growFrom_99 : decode cX5_growFrom 99 = .ok (.iadd, 1) := by decide +kernel
theorem dX5_growFrom_100 : decode cX5_growFrom 100 = .ok (.iload 8, 2) := by decide +kernel
theorem dX5_growFrom_102 : decode cX5_growFrom 102 = .ok (.isub, 1) := by decide +kernel
theorem dX5_growFrom_103 : decode cX5_growFrom 103 = .ok (.iload 11, 2) := by decide +kernel
theorem dX5_growFrom_105 : decode cX5_growFrom 105 = .ok (.isub, 1) := by decide +kernel
theorem dX5_growFrom_106 : decode cX5_growFrom 106 = .ok (.iadd, 1) := by decide +kernel
theorem dX5_growFrom_107 : decode cX5_growFrom 107 = .ok (.istore 6, 2) := by decide +kernel
theorem dX5_growFrom_109 : decode cX5_growFrom 109 = .ok (.iinc 7 1, 3) := by decide +kernel
theorem dX5_growFrom_112 : decode cX5_growFrom 112 = .ok (.goto (-101), 3) := by decide +kernel
theorem dX5_growFrom_115 : decode cX5_growFrom 115 = .ok (.return_, 1) := by decide +kernel
theorem dX5_grownPart_0 : decode cX5_grownPart 0 = .ok (.iload_n 0, 1) := by decide +kernel
theorem dX5_grownPart_1 : decode cX5_grownPart 1 = .ok (.tableswitch 54 0 2 #[27, 36, 45], 27) := by decide +kernel
theorem dX5_grownPart_28 : decode cX5_grownPart 28 = .ok (.iload_n 2, 1) := by decide +kernel
theorem dX5_grownPart_29 : decode cX5_grownPart 29 = .ok (.iload_n 3, 1) := by decide +kernel
theorem dX5_grownPart_30 : decode cX5_grownPart 30 = .ok (.invokestatic 33, 3) := by decide +kernel
theorem dX5_grownPart_33 : decode cX5_grownPart 33 = .ok (.iload 4, 2) := by decide +kernel
theorem dX5_grownPart_35 : decode cX5_grownPart 35 = .ok (.iadd, 1) := by decide +kernel
theorem dX5_grownPart_36 : decode cX5_grownPart 36 = .ok (.ireturn, 1) := by decide +kernel
theorem dX5_grownPart_37 : decode cX5_grownPart 37 = .ok (.iload_n 2, 1) := by decide +kernel
theorem dX5_grownPart_38 : decode cX5_grownPart 38 = .ok (.iload 4, 2) := by decide +kernel
theorem dX5_grownPart_40 : decode cX5_grownPart 40 = .ok (.iadd, 1) := by decide +kernel
theorem dX5_grownPart_41 : decode cX5_grownPart 41 = .ok (.iload_n 3, 1) := by decide +kernel
theorem dX5_grownPart_42 : decode cX5_grownPart 42 = .ok (.invokestatic 33, 3) := by decide +kernel
theorem dX5_grownPart_45 : decode cX5_grownPart 45 = .ok (.ireturn, 1) := by decide +kernel
theorem dX5_grownPart_46 : decode cX5_grownPart 46 = .ok (.iload_n 2, 1) := by decide +kernel
theorem dX5_grownPart_47 : decode cX5_grownPart 47 = .ok (.iload_n 3, 1) := by decide +kernel
theorem dX5_grownPart_48 : decode cX5_grownPart 48 = .ok (.iload 4, 2) := by decide +kernel
theorem dX5_grownPart_50 : decode cX5_grownPart 50 = .ok (.iadd, 1) := by decide +kernel
theorem dX5_grownPart_51 : decode cX5_grownPart 51 = .ok (.invokestatic 33, 3) := by decide +kernel
theorem dX5_grownPart_54 : decode cX5_grownPart 54 = .ok (.ireturn, 1) := by decide +kernel
theorem dX5_grownPart_55 : decode cX5_grownPart 55 = .ok (.iload_n 2, 1) := by decide +kernel
theorem dX5_grownPart_56 : decode cX5_grownPart 56 = .ok (.iload_n 3, 1) := by decide +kernel
theorem dX5_grownPart_57 : decode cX5_grownPart 57 = .ok (.invokestatic 33, 3) := by decide +kernel
theorem dX5_grownPart_60 : decode cX5_grownPart 60 = .ok (.iload 4, 2) := by decide +kernel
theorem dX5_grownPart_62 : decode cX5_grownPart 62 = .ok (.iload_n 1, 1) := by decide +kernel
theorem dX5_grownPart_63 : decode cX5_grownPart 63 = .ok (.iload_n 2, 1) := by decide +kernel
theorem dX5_grownPart_64 : decode cX5_grownPart 64 = .ok (.if_icmp .ne 12, 3) := by decide +kernel
theorem dX5_grownPart_67 : decode cX5_grownPart 67 = .ok (.iload_n 2, 1) := by decide +kernel
theorem dX5_grownPart_68 : decode cX5_grownPart 68 = .ok (.iload_n 3, 1) := by decide +kernel
theorem dX5_grownPart_69 : decode cX5_grownPart 69 = .ok (.if_icmp .ne 7, 3) := by decide +kernel
theorem dX5_grownPart_72 : decode cX5_grownPart 72 = .ok (.iconst 1, 1) := by decide +kernel
theorem dX5_grownPart_73 : decode cX5_grownPart 73 = .ok (.goto 4, 3) := by decide +kernel
theorem dX5_grownPart_76 : decode cX5_grownPart 76 = .ok (.iconst 0, 1) := by decide +kernel
theorem dX5_grownPart_77 : decode cX5_grownPart 77 = .ok (.invokestatic 39, 3) := by decide +kernel
theorem dX5_grownPart_80 : decode cX5_grownPart 80 = .ok (.iadd, 1) := by decide +kernel
theorem dX5_grownPart_81 : decode cX5_grownPart 81 = .ok (.ireturn, 1) := by decide +kernel
theorem dX5_goBackFrom_0 : decode cX5_goBackFrom 0 = .ok (.aload_n 0, 1) := by decide +kernel
theorem dX5_goBackFrom_1 : decode cX5_goBackFrom 1 = .ok (.aload_n 1, 1) := by decide +kernel
theorem dX5_goBackFrom_2 : decode cX5_goBackFrom 2 = .ok (.getfield 15, 3) := by decide +kernel
theorem dX5_goBackFrom_5 : decode cX5_goBackFrom 5 = .ok (.putfield 15, 3) := by decide +kernel
theorem dX5_goBackFrom_8 : decode cX5_goBackFrom 8 = .ok (.aload_n 0, 1) := by decide +kernel
theorem dX5_goBackFrom_9 : decode cX5_goBackFrom 9 = .ok (.iconst 0, 1) := by decide +kernel
theorem dX5_goBackFrom_10 : decode cX5_goBackFrom 10 = .ok (.putfield 19, 3) := by decide +kernel
theorem dX5_goBackFrom_13 : decode cX5_goBackFrom 13 = .ok (.iconst 0, 1) := by decide +kernel
theorem dX5_goBackFrom_14 : decode cX5_goBackFrom 14 = .ok (.istore 5, 2) := by decide +kernel
theorem dX5_goBackFrom_16 : decode cX5_goBackFrom 16 = .ok (.aload_n 1, 1) := by decide +kernel
theorem dX5_goBackFrom_17 : decode cX5_goBackFrom 17 = .ok (.getfield 15, 3) := by decide +kernel
theorem dX5_goBackFrom_20 : decode cX5_goBackFrom 20 = .ok (.iconst 1, 1) := by decide +kernel
theorem dX5_goBackFrom_21 : decode cX5_goBackFrom 21 = .ok (.isub, 1) := by decide +kernel
theorem dX5_goBackFrom_22 : decode cX5_goBackFrom 22 = .ok (.istore 6, 2) := by decide +kernel
theorem dX5_goBackFrom_24 : decode cX5_goBackFrom 24 = .ok (.iload 6, 2) := by decide +kernel
theorem dX5_goBackFrom_26 : decode cX5_goBackFrom 26 = .ok (.ifCond .lt 106, 3) := by decide +kernel
theorem dX5_goBackFrom_29 : decode cX5_goBackFrom 29 = .ok (.aload_n 1, 1) := by decide +kernel
theorem dX5_goBackFrom_30 : decode cX5_goBackFrom 30 = .ok (.iload 6, 2) := by decide +kernel
theorem dX5_goBackFrom_32 : decode cX5_goBackFrom 32 = .ok (.invokevirtual 25, 3) := by decide +kernel
theorem dX5_goBackFrom_35 : decode cX5_goBackFrom 35 = .ok (.istore 7, 2) := by decide +kernel
theorem dX5_goBackFrom_37 : decode cX5_goBackFrom 37 = .ok (.aload_n 2, 1) := by decide +kernel
theorem dX5_goBackFrom_38 : decode cX5_goBackFrom 38 = .ok (.iload 6, 2) := by decide +kernel
theorem dX5_goBackFrom_40 : decode cX5_goBackFrom 40 = .ok (.invokevirtual 25, 3) := by decide +kernel
theorem dX5_goBackFrom_43 : decode cX5_goBackFrom 43 = .ok (.istore 8, 2) := by decide +kernel
theorem dX5_goBackFrom_45 : decode cX5_goBackFrom 45 = .ok (.aload_n 3, 1) := by decide +kernel
theorem dX5_goBackFrom_46 : decode cX5_goBackFrom 46 = .ok (.iload 6, 2) := by decide +kernel
theorem dX5_goBackFrom_48 : decode cX5_goBackFrom 48 = .ok (.invokevirtual 25, 3) := by decide +kernel
theorem dX5_goBackFrom_51 : decode cX5_goBackFrom 51 = .ok (.istore 9, 2) := by decide +kernel
theorem dX5_goBackFrom_53 : decode cX5_goBackFrom 53 = .ok (.iload 4, 2) := by decide +kernel
theorem dX5_goBackFrom_55 : decode cX5_goBackFrom 55 = .ok (.iload 7, 2) := by decide +kernel
theorem dX5_goBackFrom_57 : decode cX5_goBackFrom 57 = .ok (.iload 8, 2) := by decide +kernel
theorem dX5_goBackFrom_59 : decode cX5_goBackFrom 59 = .ok (.iload 9, 2) := by decide +kernel
theorem dX5_goBackFrom_61 : decode cX5_goBackFrom 61 = .ok (.iload 5, 2) := by decide +kernel
theorem dX5_goBackFrom_63 : decode cX5_goBackFrom 63 = .ok (.invokestatic 42, 3) := by decide +kernel
theorem dX5_goBackFrom_66 : decode cX5_goBackFrom 66 = .ok (.istore 10, 2) := by decide +kernel
theorem dX5_goBackFrom_68 : decode cX5_goBackFrom 68 = .ok (.aload_n 0, 1) := by decide +kernel
theorem dX5_goBackFrom_69 : decode cX5_goBackFrom 69 = .ok (.getfield 9, 3) := by decide +kernel
theorem dX5_goBackFrom_72 : decode cX5_goBackFrom 72 = .ok (.iload 6, 2) := by decide +kernel
theorem dX5_goBackFrom_74 : decode cX5_goBackFrom 74 = .ok (.iload 10, 2) := by decide +kernel
theorem dX5_goBackFrom_76 : decode cX5_goBackFrom 76 = .ok (.iastore, 1) := by decide +kernel
theorem dX5_goBackFrom_77 : decode cX5_goBackFrom 77 = .ok (.aload_n 0, 1) := by decide +kernel
theorem dX5_goBackFrom_78 : decode cX5_goBackFrom 78 = .ok (.dup, 1) := by decide +kernel
theorem dX5_goBackFrom_79 : decode cX5_goBackFrom 79 = .ok (.getfield 19, 3) := by decide +kernel
theorem dX5_goBackFrom_82 : decode cX5_goBackFrom 82 = .ok (.iload 10, 2) := by decide +kernel
theorem dX5_goBackFrom_84 : decode cX5_goBackFrom 84 = .ok (.iadd, 1) := by decide +kernel
theorem dX5_goBackFrom_85 : decode cX5_goBackFrom 85 = .ok (.putfield 19, 3) := by decide +kernel
theorem dX5_goBackFrom_88 : decode cX5_goBackFrom 88 = .ok (.iload 10, 2) := by decide +kernel
theorem dX5_goBackFrom_90 : decode cX5_goBackFrom 90 = .ok (.ifCond .ne 20, 3) := by decide +kernel
theorem dX5_goBackFrom_93 : decode cX5_goBackFrom 93 = .ok (.aload_n 0, 1) := by decide +kernel
theorem dX5_goBackFrom_94 : decode cX5_goBackFrom 94 = .ok (.getfield 15, 3) := by decide +kernel
theorem dX5_goBackFrom_97 : decode cX5_goBackFrom 97 = .ok (.iload 6, 2) := by decide +kernel
theorem dX5_goBackFrom_99 : decode cX5_goBackFrom 99 = .ok (.iconst 1, 1) := by decide +kernel
theorem dX5_goBackFrom_100 : decode cX5_goBackFrom 100 = .ok (.iadd, 1) := by decide +kernel
theorem dX5_goBackFrom_101 : decode cX5_goBackFrom 101 = .ok (.if_icmp .ne 9, 3) := by decide +kernel
theorem dX5_goBackFrom_104 : decode cX5_goBackFrom 104 = .ok (.aload_n 0, 1) := by decide +kernel
theorem dX5_goBackFrom_105 : decode cX5_goBackFrom 105 = .ok (.iload 6, 2) := by decide +kernel
theorem dX5_goBackFrom_107 : decode cX5_goBackFrom 107 = .ok (.putfield 15, 3) := by decide +kernel
theorem dX5_goBackFrom_110 : decode cX5_goBackFrom 110 = .ok (.iload 5, 2) := by decide +kernel
theorem dX5_goBackFrom_112 : decode cX5_goBackFrom 112 = .ok (.iload 7, 2) := by decide +kernel
theorem dX5_goBackFrom_114 : decode cX5_goBackFrom 114 = .ok (.iload 10, 2) := by decide +kernel
theorem dX5_goBackFrom_116 : decode cX5_goBackFrom 116 = .ok (.iadd, 1) := by decide +kernel
theorem dX5_goBackFrom_117 : decode cX5_goBackFrom 117 = .ok (.iload 8, 2) := by decide +kernel
theorem dX5_goBackFrom_119 : decode cX5_goBackFrom 119 = .ok (.isub, 1) := by decide +kernel
theorem dX5_goBackFrom_120 : decode cX5_goBackFrom 120 = .ok (.iload 9, 2) := by decide +kernel
theorem dX5_goBackFrom_122 : decode cX5_goBackFrom 122 = .ok (.isub, 1) := by decide +kernel
theorem dX5_goBackFrom_123 : decode cX5_goBackFrom 123 = .ok (.iadd, 1) := by decide +kernel
theorem dX5_goBackFrom_124 : decode cX5_goBackFrom 124 = .ok (.istore 5, 2) := by decide +kernel
theorem dX5_goBackFrom_126 : decode cX5_goBackFrom 126 = .ok (.iinc 6 (-1), 3) := by decide +kernel
theorem dX5_goBackFrom_129 : decode cX5_goBackFrom 129 = .ok (.goto (-105), 3) := by decide +kernel
theorem dX5_goBackFrom_132 : decode cX5_goBackFrom 132 = .ok (.iload 5, 2) := by decide +kernel
theorem dX5_goBackFrom_134 : decode cX5_goBackFrom 134 = .ok (.ireturn, 1) := by decide +kernel
theorem dX5_formerPart_0 : decode cX5_formerPart 0 = .ok (.iload_n 0, 1) := by decide +kernel
theorem dX5_formerPart_1 : decode cX5_formerPart 1 = .ok (.tableswitch 54 0 2 #[27, 36, 45], 27) := by decide +kernel
theorem dX5_formerPart_28 : decode cX5_formerPart 28 = .ok (.iload_n 2, 1) := by decide +kernel
theorem dX5_formerPart_29 : decode cX5_formerPart 29 = .ok (.iload_n 3, 1) := by decide +kernel
theorem dX5_formerPart_30 : decode cX5_formerPart 30 = .ok (.invokestatic 39, 3) := by decide +kernel
theorem dX5_formerPart_33 : decode cX5_formerPart 33 = .ok (.iload 4, 2) := by decide +kernel
theorem dX5_formerPart_35 : decode cX5_formerPart 35 = .ok (.isub, 1) := by decide +kernel
theorem dX5_formerPart_36 : decode cX5_formerPart 36 = .ok (.ireturn, 1) := by decide +kernel
theorem dX5_formerPart_37 : decode cX5_formerPart 37 = .ok (.iload_n 2, 1) := by decide +kernel
theorem dX5_formerPart_38 : decode cX5_formerPart 38 = .ok (.iload_n 3, 1) := by decide +kernel
theorem dX5_formerPart_39 : decode cX5_formerPart 39 = .ok (.iload 4, 2) := by decide +kernel
theorem dX5_formerPart_41 : decode cX5_formerPart 41 = .ok (.isub, 1) := by decide +kernel
theorem dX5_formerPart_42 : decode cX5_formerPart 42 = .ok (.invokestatic 39, 3) := by decide +kernel
theorem dX5_formerPart_45 : decode cX5_formerPart 45 = .ok (.ireturn, 1) := by decide +kernel
theorem dX5_formerPart_46 : decode cX5_formerPart 46 = .ok (.iload_n 2, 1) := by decide +kernel
theorem dX5_formerPart_47 : decode cX5_formerPart 47 = .ok (.iload 4, 2) := by decide +kernel
theorem dX5_formerPart_49 : decode cX5_formerPart 49 = .ok (.isub, 1) := by decide +kernel
theorem dX5_formerPart_50 : decode cX5_formerPart 50 = .ok (.iload_n 3, 1) := by decide +kernel
theorem dX5_formerPart_51 : decode cX5_formerPart 51 = .ok (.invokestatic 39, 3) := by decide +kernel
theorem dX5_formerPart_54 : decode cX5_formerPart 54 = .ok (.ireturn, 1) := by decide +kernel
theorem dX5_formerPart_55 : decode cX5_formerPart 55 = .ok (.iload_n 2, 1) := by decide +kernel
theorem dX5_formerPart_56 : decode cX5_formerPart 56 = .ok (.iload_n 3, 1) := by decide +kernel
theorem dX5_formerPart_57 : decode cX5_formerPart 57 = .ok (.invokestatic 39, 3) := by decide +kernel
theorem dX5_formerPart_60 : decode cX5_formerPart 60 = .ok (.iload 4, 2) := by decide +kernel
theorem dX5_formerPart_62 : decode cX5_formerPart 62 = .ok (.iload_n 1, 1) := by decide +kernel
theorem dX5_formerPart_63 : decode cX5_formerPart 63 = .ok (.iload_n 2, 1) := by decide +kernel
theorem dX5_formerPart_64 : decode cX5_formerPart 64 = .ok (.if_icmp .ne 12, 3) := by decide +kernel
theorem dX5_formerPart_67 : decode cX5_formerPart 67 = .ok (.iload_n 2, 1) := by decide +kernel
theorem dX5_formerPart_68 : decode cX5_formerPart 68 = .ok (.iload_n 3, 1) := by decide +kernel
theorem dX5_formerPart_69 : decode cX5_formerPart 69 = .ok (.if_icmp .ne 7, 3) := by decide +kernel
theorem dX5_formerPart_72 : decode cX5_formerPart 72 = .ok (.iconst 1, 1) := by decide +kernel
theorem dX5_formerPart_73 : decode cX5_formerPart 73 = .ok (.goto 4, 3) := by decide +kernel
theorem dX5_formerPart_76 : decode cX5_formerPart 76 = .ok (.iconst 0, 1) := by decide +kernel
theorem dX5_formerPart_77 : decode cX5_formerPart 77 = .ok (.invokestatic 39, 3) := by decide +kernel
theorem dX5_formerPart_80 : decode cX5_formerPart 80 = .ok (.isub, 1) := by decide +kernel
theorem dX5_formerPart_81 : decode cX5_formerPart 81 = .ok (.ireturn, 1) := by decide +kernel
theorem dX5_goesOnFrom_0 : decode cX5_goesOnFrom 0 = .ok (.iload_n 2, 1) := by decide +kernel
theorem dX5_goesOnFrom_1 : decode cX5_goesOnFrom 1 = .ok (.ifCond .eq 11, 3) := by decide +kernel
theorem dX5_goesOnFrom_4 : decode cX5_goesOnFrom 4 = .ok (.aload_n 0, 1) := by decide +kernel
theorem dX5_goesOnFrom_5 : decode cX5_goesOnFrom 5 = .ok (.aload_n 1, 1) := by decide +kernel
theorem dX5_goesOnFrom_6 : decode cX5_goesOnFrom 6 = .ok (.invokevirtual 45, 3) := by decide +kernel
theorem dX5_goesOnFrom_9 : decode cX5_goesOnFrom 9 = .ok (.goto 8, 3) := by decide +kernel
theorem dX5_goesOnFrom_12 : decode cX5_goesOnFrom 12 = .ok (.aload_n 0, 1) := by decide +kernel
theorem dX5_goesOnFrom_13 : decode cX5_goesOnFrom 13 = .ok (.aload_n 1, 1) := by decide +kernel
theorem dX5_goesOnFrom_14 : decode cX5_goesOnFrom 14 = .ok (.invokevirtual 49, 3) := by decide +kernel
theorem dX5_goesOnFrom_17 : decode cX5_goesOnFrom 17 = .ok (.ireturn, 1) := by decide +kernel
theorem dX5_goesOnLevel_0 : decode cX5_goesOnLevel 0 = .ok (.aload_n 0, 1) := by decide +kernel
theorem dX5_goesOnLevel_1 : decode cX5_goesOnLevel 1 = .ok (.getfield 15, 3) := by decide +kernel
theorem dX5_goesOnLevel_4 : decode cX5_goesOnLevel 4 = .ok (.aload_n 1, 1) := by decide +kernel
theorem dX5_goesOnLevel_5 : decode cX5_goesOnLevel 5 = .ok (.getfield 15, 3) := by decide +kernel
theorem dX5_goesOnLevel_8 : decode cX5_goesOnLevel 8 = .ok (.invokestatic 33, 3) := by decide +kernel
theorem dX5_goesOnLevel_11 : decode cX5_goesOnLevel 11 = .ok (.istore_n 2, 1) := by decide +kernel
theorem dX5_goesOnLevel_12 : decode cX5_goesOnLevel 12 = .ok (.iconst 0, 1) := by decide +kernel
theorem dX5_goesOnLevel_13 : decode cX5_goesOnLevel 13 = .ok (.istore_n 3, 1) := by decide +kernel
theorem dX5_goesOnLevel_14 : decode cX5_goesOnLevel 14 = .ok (.iload_n 3, 1) := by decide +kernel
theorem dX5_goesOnLevel_15 : decode cX5_goesOnLevel 15 = .ok (.iload_n 2, 1) := by decide +kernel
theorem dX5_goesOnLevel_16 : decode cX5_goesOnLevel 16 = .ok (.if_icmp .ge 40, 3) := by decide +kernel
theorem dX5_goesOnLevel_19 : decode cX5_goesOnLevel 19 = .ok (.aload_n 1, 1) := by decide +kernel
theorem dX5_goesOnLevel_20 : decode cX5_goesOnLevel 20 = .ok (.iload_n 3, 1) := by decide +kernel
theorem dX5_goesOnLevel_21 : decode cX5_goesOnLevel 21 = .ok (.invokevirtual 25, 3) := by decide +kernel
theorem dX5_goesOnLevel_24 : decode cX5_goesOnLevel 24 = .ok (.istore 4, 2) := by decide +kernel
theorem dX5_goesOnLevel_26 : decode cX5_goesOnLevel 26 = .ok (.aload_n 0, 1) := by decide +kernel
theorem dX5_goesOnLevel_27 : decode cX5_goesOnLevel 27 = .ok (.iload_n 3, 1) := by decide +kernel
theorem dX5_goesOnLevel_28 : decode cX5_goesOnLevel 28 = .ok (.invokevirtual 25, 3) := by decide +kernel
theorem dX5_goesOnLevel_31 : decode cX5_goesOnLevel 31 = .ok (.iload 4, 2) := by decide +kernel
theorem dX5_goesOnLevel_33 : decode cX5_goesOnLevel 33 = .ok (.if_icmp .lt 15, 3) := by decide +kernel
theorem dX5_goesOnLevel_36 : decode cX5_goesOnLevel 36 = .ok (.iload 4, 2) := by decide +kernel
theorem dX5_goesOnLevel_38 : decode cX5_goesOnLevel 38 = .ok (.aload_n 0, 1) := by decide +kernel
theorem dX5_goesOnLevel_39 : decode cX5_goesOnLevel 39 = .ok (.iload_n 3, 1) := by decide +kernel
theorem dX5_goesOnLevel_40 : decode cX5_goesOnLevel 40 = .ok (.iconst 1, 1) := by decide +kernel
theorem dX5_goesOnLevel_41 : decode cX5_goesOnLevel 41 = .ok (.iadd, 1) := by decide +kernel
theorem dX5_goesOnLevel_42 : decode cX5_goesOnLevel 42 = .ok (.invokevirtual 25, 3) := by decide +kernel
theorem dX5_goesOnLevel_45 : decode cX5_goesOnLevel 45 = .ok (.if_icmp .ge 5, 3) := by decide +kernel
theorem dX5_goesOnLevel_48 : decode cX5_goesOnLevel 48 = .ok (.iconst 0, 1) := by decide +kernel
theorem dX5_goesOnLevel_49 : decode cX5_goesOnLevel 49 = .ok (.ireturn, 1) := by decide +kernel
theorem dX5_goesOnLevel_50 : decode cX5_goesOnLevel 50 = .ok (.iinc 3 1, 3) := by decide +kernel
theorem dX5_goesOnLevel_53 : decode cX5_goesOnLevel 53 = .ok (.goto (-39), 3) := by decide +kernel
theorem dX5_goesOnLevel_56 : decode cX5_goesOnLevel 56 = .ok (.iconst 1, 1) := by decide +kernel
theorem dX5_goesOnLevel_57 : decode cX5_goesOnLevel 57 = .ok (.ireturn, 1) := by decide +kernel
theorem dX5_goesOnUpright_0 : decode cX5_goesOnUpright 0 = .ok (.aload_n 0, 1) := by decide +kernel
theorem dX5_goesOnUpright_1 : decode cX5_goesOnUpright 1 = .ok (.getfield 15, 3) := by decide +kernel
theorem dX5_goesOnUpright_4 : decode cX5_goesOnUpright 4 = .ok (.aload_n 1, 1) := by decide +kernel
theorem dX5_goesOnUpright_5 : decode cX5_goesOnUpright 5 = .ok (.getfield 15, 3) := by decide +kernel
theorem dX5_goesOnUpright_8 : decode cX5_goesOnUpright 8 = .ok (.invokestatic 33, 3) := by decide +kernel
theorem dX5_goesOnUpright_11 : decode cX5_goesOnUpright 11 = .ok (.istore_n 2, 1) := by decide +kernel
theorem dX5_goesOnUpright_12 : decode cX5_goesOnUpright 12 = .ok (.iconst 0, 1) := by decide +kernel
theorem dX5_goesOnUpright_13 : decode cX5_goesOnUpright 13 = .ok (.istore_n 3, 1) := by decide +kernel
theorem dX5_goesOnUpright_14 : decode cX5_goesOnUpright 14 = .ok (.iload_n 3, 1) := by decide +kernel
theorem dX5_goesOnUpright_15 : decode cX5_goesOnUpright 15 = .ok (.iload_n 2, 1) := by decide +kernel
theorem dX5_goesOnUpright_16 : decode cX5_goesOnUpright 16 = .ok (.if_icmp .ge 35, 3) := by decide +kernel
theorem dX5_goesOnUpright_19 : decode cX5_goesOnUpright 19 = .ok (.aload_n 0, 1) := by decide +kernel
theorem dX5_goesOnUpright_20 : decode cX5_goesOnUpright 20 = .ok (.iload_n 3, 1) := by decide +kernel
theorem dX5_goesOnUpright_21 : decode cX5_goesOnUpright 21 = .ok (.invokevirtual 25, 3) := by decide +kernel
theorem dX5_goesOnUpright_24 : decode cX5_goesOnUpright 24 = .ok (.aload_n 1, 1) := by decide +kernel
theorem dX5_goesOnUpright_25 : decode cX5_goesOnUpright 25 = .ok (.iload_n 3, 1) := by decide +kernel
theorem dX5_goesOnUpright_26 : decode cX5_goesOnUpright 26 = .ok (.invokevirtual 25, 3) := by decide +kernel
theorem dX5_goesOnUpright_29 : decode cX5_goesOnUpright 29 = .ok (.isub, 1) := by decide +kernel
theorem dX5_goesOnUpright_30 : decode cX5_goesOnUpright 30 = .ok (.istore 4, 2) := by decide +kernel
theorem dX5_goesOnUpright_32 : decode cX5_goesOnUpright 32 = .ok (.iload 4, 2) := by decide +kernel
theorem dX5_goesOnUpright_34 : decode cX5_goesOnUpright 34 = .ok (.ifCond .lt 9, 3) := by decide +kernel
theorem dX5_goesOnUpright_37 : decode cX5_goesOnUpright 37 = .ok (.iload 4, 2) := by decide +kernel
theorem dX5_goesOnUpright_39 : decode cX5_goesOnUpright 39 = .ok (.iconst 1, 1) := by decide +kernel
theorem dX5_goesOnUpright_40 : decode cX5_goesOnUpright 40 = .ok (.if_icmp .le 5, 3) := by decide +kernel
theorem dX5_goesOnUpright_43 : decode cX5_goesOnUpright 43 = .ok (.iconst 0, 1) := by decide +kernel
theorem dX5_goesOnUpright_44 : decode cX5_goesOnUpright 44 = .ok (.ireturn, 1) := by decide +kernel
theorem dX5_goesOnUpright_45 : decode cX5_goesOnUpright 45 = .ok (.iinc 3 1, 3) := by decide +kernel
theorem dX5_goesOnUpright_48 : decode cX5_goesOnUpright 48 = .ok (.goto (-34), 3) := by decide +kernel
theorem dX5_goesOnUpright_51 : decode cX5_goesOnUpright 51 = .ok (.iconst 1, 1) := by decide +kernel
theorem dX5_goesOnUpright_52 : decode cX5_goesOnUpright 52 = .ok (.ireturn, 1) := by decide +kernel
theorem dX5_standardFillings_0 : decode cX5_standardFillings 0 = .ok (.lconst 1, 1) := by decide +kernel
theorem dX5_standardFillings_1 : decode cX5_standardFillings 1 = .ok (.lstore_n 1, 1) := by decide +kernel
theorem dX5_standardFillings_2 : decode cX5_standardFillings 2 = .ok (.iconst 2, 1) := by decide +kernel
theorem dX5_standardFillings_3 : decode cX5_standardFillings 3 = .ok (.istore_n 3, 1) := by decide +kernel
theorem dX5_standardFillings_4 : decode cX5_standardFillings 4 = .ok (.iload_n 3, 1) := by decide +kernel
theorem dX5_standardFillings_5 : decode cX5_standardFillings 5 = .ok (.aload_n 0, 1) := by decide +kernel
theorem dX5_standardFillings_6 : decode cX5_standardFillings 6 = .ok (.getfield 19, 3) := by decide +kernel
theorem dX5_standardFillings_9 : decode cX5_standardFillings 9 = .ok (.if_icmp .gt 14, 3) := by decide +kernel
theorem dX5_standardFillings_12 : decode cX5_standardFillings 12 = .ok (.lload_n 1, 1) := by decide +kernel
theorem dX5_standardFillings_13 : decode cX5_standardFillings 13 = .ok (.iload_n 3, 1) := by decide +kernel
theorem dX5_standardFillings_14 : decode cX5_standardFillings 14 = .ok (.i2l, 1) := by decide +kernel
theorem dX5_standardFillings_15 : decode cX5_standardFillings 15 = .ok (.lmul, 1) := by decide +kernel
theorem dX5_standardFillings_16 : decode cX5_standardFillings 16 = .ok (.lstore_n 1, 1) := by decide +kernel
theorem dX5_standardFillings_17 : decode cX5_standardFillings 17 = .ok (.iinc 3 1, 3) := by decide +kernel
theorem dX5_standardFillings_20 : decode cX5_standardFillings 20 = .ok (.goto (-16), 3) := by decide +kernel
theorem dX5_standardFillings_23 : decode cX5_standardFillings 23 = .ok (.lconst 1, 1) := by decide +kernel
theorem dX5_standardFillings_24 : decode cX5_standardFillings 24 = .ok (.lstore_n 3, 1) := by decide +kernel
theorem dX5_standardFillings_25 : decode cX5_standardFillings 25 = .ok (.iconst 0, 1) := by decide +kernel
theorem dX5_standardFillings_26 : decode cX5_standardFillings 26 = .ok (.istore 5, 2) := by decide +kernel
theorem dX5_standardFillings_28 : decode cX5_standardFillings 28 = .ok (.iload 5, 2) := by decide +kernel
theorem dX5_standardFillings_30 : decode cX5_standardFillings 30 = .ok (.aload_n 0, 1) := by decide +kernel
theorem dX5_standardFillings_31 : decode cX5_standardFillings 31 = .ok (.getfield 15, 3) := by decide +kernel
theorem dX5_standardFillings_34 : decode cX5_standardFillings 34 = .ok (.if_icmp .ge 56, 3) := by decide +kernel
theorem dX5_standardFillings_37 : decode cX5_standardFillings 37 = .ok (.iconst 0, 1) := by decide +kernel
theorem dX5_standardFillings_38 : decode cX5_standardFillings 38 = .ok (.istore 6, 2) := by decide +kernel
theorem dX5_standardFillings_40 : decode cX5_standardFillings 40 = .ok (.iload 6, 2) := by decide +kernel
theorem dX5_standardFillings_42 : decode cX5_standardFillings 42 = .ok (.aload_n 0, 1) := by decide +kernel
theorem dX5_standardFillings_43 : decode cX5_standardFillings 43 = .ok (.getfield 9, 3) := by decide +kernel
theorem dX5_standardFillings_46 : decode cX5_standardFillings 46 = .ok (.iload 5, 2) := by decide +kernel
theorem dX5_standardFillings_48 : decode cX5_standardFillings 48 = .ok (.iaload, 1) := by decide +kernel
theorem dX5_standardFillings_49 : decode cX5_standardFillings 49 = .ok (.if_icmp .ge 35, 3) := by decide +kernel
theorem dX5_standardFillings_52 : decode cX5_standardFillings 52 = .ok (.lload_n 3, 1) := by decide +kernel
theorem dX5_standardFillings_53 : decode cX5_standardFillings 53 = .ok (.aload_n 0, 1) := by decide +kernel
theorem dX5_standardFillings_54 : decode cX5_standardFillings 54 = .ok (.getfield 9, 3) := by decide +kernel
theorem dX5_standardFillings_57 : decode cX5_standardFillings 57 = .ok (.iload 5, 2) := by decide +kernel
theorem dX5_standardFillings_59 : decode cX5_standardFillings 59 = .ok (.iaload, 1) := by decide +kernel
theorem dX5_standardFillings_60 : decode cX5_standardFillings 60 = .ok (.iload 6, 2) := by decide +kernel
theorem dX5_standardFillings_62 : decode cX5_standardFillings 62 = .ok (.isub, 1) := by decide +kernel
theorem dX5_standardFillings_63 : decode cX5_standardFillings 63 = .ok (.aload_n 0, 1) := by decide +kernel
theorem dX5_standardFillings_64 : decode cX5_standardFillings 64 = .ok (.iload 6, 2) := by decide +kernel
theorem dX5_standardFillings_66 : decode cX5_standardFillings 66 = .ok (.invokevirtual 52, 3) := by decide +kernel
theorem dX5_standardFillings_69 : decode cX5_standardFillings 69 = .ok (.iadd, 1) := by decide +kernel
theorem dX5_standardFillings_70 : decode cX5_standardFillings 70 = .ok (.iload 5, 2) := by decide +kernel
theorem dX5_standardFillings_72 : decode cX5_standardFillings 72 = .ok (.isub, 1) := by decide +kernel
theorem dX5_standardFillings_73 : decode cX5_standardFillings 73 = .ok (.iconst 1, 1) := by decide +kernel
theorem dX5_standardFillings_74 : decode cX5_standardFillings 74 = .ok (.isub, 1) := by decide +kernel
theorem dX5_standardFillings_75 : decode cX5_standardFillings 75 = .ok (.i2l, 1) := by decide +kernel
theorem dX5_standardFillings_76 : decode cX5_standardFillings 76 = .ok (.lmul, 1) := by decide +kernel
theorem dX5_standardFillings_77 : decode cX5_standardFillings 77 = .ok (.lstore_n 3, 1) := by decide +kernel
theorem dX5_standardFillings_78 : decode cX5_standardFillings 78 = .ok (.iinc 6 1, 3) := by decide +kernel
theorem dX5_standardFillings_81 : decode cX5_standardFillings 81 = .ok (.goto (-41), 3) := by decide +kernel
theorem dX5_standardFillings_84 : decode cX5_standardFillings 84 = .ok (.iinc 5 1, 3) := by decide +kernel
theorem dX5_standardFillings_87 : decode cX5_standardFillings 87 = .ok (.goto (-59), 3) := by decide +kernel
theorem dX5_standardFillings_90 : decode cX5_standardFillings 90 = .ok (.lload_n 3, 1) := by decide +kernel
theorem dX5_standardFillings_91 : decode cX5_standardFillings 91 = .ok (.lconst 0, 1) := by decide +kernel
theorem dX5_standardFillings_92 : decode cX5_standardFillings 92 = .ok (.lcmp, 1) := by decide +kernel
theorem dX5_standardFillings_93 : decode cX5_standardFillings 93 = .ok (.ifCond .le 9, 3) := by decide +kernel
theorem dX5_standardFillings_96 : decode cX5_standardFillings 96 = .ok (.lload_n 1, 1) := by decide +kernel
theorem dX5_standardFillings_97 : decode cX5_standardFillings 97 = .ok (.lload_n 3, 1) := by decide +kernel
theorem dX5_standardFillings_98 : decode cX5_standardFillings 98 = .ok (.ldiv, 1) := by decide +kernel
theorem dX5_standardFillings_99 : decode cX5_standardFillings 99 = .ok (.goto 6, 3) := by decide +kernel
theorem dX5_standardFillings_102 : decode cX5_standardFillings 102 = .ok (.ldc2_w 55, 3) := by decide +kernel
theorem dX5_standardFillings_105 : decode cX5_standardFillings 105 = .ok (.lreturn, 1) := by decide +kernel
theorem dX5_productOrWide_0 : decode cX5_productOrWide 0 = .ok (.lconst 1, 1) := by decide +kernel
theorem dX5_productOrWide_1 : decode cX5_productOrWide 1 = .ok (.lstore_n 1, 1) := by decide +kernel
theorem dX5_productOrWide_2 : decode cX5_productOrWide 2 = .ok (.iconst 0, 1) := by decide +kernel
theorem dX5_productOrWide_3 : decode cX5_productOrWide 3 = .ok (.istore_n 3, 1) := by decide +kernel
theorem dX5_productOrWide_4 : decode cX5_productOrWide 4 = .ok (.iload_n 3, 1) := by decide +kernel
theorem dX5_productOrWide_5 : decode cX5_productOrWide 5 = .ok (.aload_n 0, 1) := by decide +kernel
theorem dX5_productOrWide_6 : decode cX5_productOrWide 6 = .ok (.getfield 15, 3) := by decide +kernel
theorem dX5_productOrWide_9 : decode cX5_productOrWide 9 = .ok (.if_icmp .ge 32, 3) := by decide +kernel
theorem dX5_productOrWide_12 : decode cX5_productOrWide 12 = .ok (.lload_n 1, 1) := by decide +kernel
theorem dX5_productOrWide_13 : decode cX5_productOrWide 13 = .ok (.aload_n 0, 1) := by decide +kernel
theorem dX5_productOrWide_14 : decode cX5_productOrWide 14 = .ok (.getfield 9, 3) := by decide +kernel
theorem dX5_productOrWide_17 : decode cX5_productOrWide 17 = .ok (.iload_n 3, 1) := by decide +kernel
theorem dX5_productOrWide_18 : decode cX5_productOrWide 18 = .ok (.iaload, 1) := by decide +kernel
theorem dX5_productOrWide_19 : decode cX5_productOrWide 19 = .ok (.iconst 1, 1) := by decide +kernel
theorem dX5_productOrWide_20 : decode cX5_productOrWide 20 = .ok (.iadd, 1) := by decide +kernel
theorem dX5_productOrWide_21 : decode cX5_productOrWide 21 = .ok (.i2l, 1) := by decide +kernel
theorem dX5_productOrWide_22 : decode cX5_productOrWide 22 = .ok (.lmul, 1) := by decide +kernel
theorem dX5_productOrWide_23 : decode cX5_productOrWide 23 = .ok (.lstore_n 1, 1) := by decide +kernel
theorem dX5_productOrWide_24 : decode cX5_productOrWide 24 = .ok (.lload_n 1, 1) := by decide +kernel
theorem dX5_productOrWide_25 : decode cX5_productOrWide 25 = .ok (.ldc2_w 57, 3) := by decide +kernel
theorem dX5_productOrWide_28 : decode cX5_productOrWide 28 = .ok (.lcmp, 1) := by decide +kernel
theorem dX5_productOrWide_29 : decode cX5_productOrWide 29 = .ok (.ifCond .le 6, 3) := by decide +kernel
theorem dX5_productOrWide_32 : decode cX5_productOrWide 32 = .ok (.bipush (-6), 2) := by decide +kernel
theorem dX5_productOrWide_34 : decode cX5_productOrWide 34 = .ok (.ireturn, 1) := by decide +kernel
theorem dX5_productOrWide_35 : decode cX5_productOrWide 35 = .ok (.iinc 3 1, 3) := by decide +kernel
theorem dX5_productOrWide_38 : decode cX5_productOrWide 38 = .ok (.goto (-34), 3) := by decide +kernel
theorem dX5_productOrWide_41 : decode cX5_productOrWide 41 = .ok (.lload_n 1, 1) := by decide +kernel
theorem dX5_productOrWide_42 : decode cX5_productOrWide 42 = .ok (.l2i, 1) := by decide +kernel
theorem dX5_productOrWide_43 : decode cX5_productOrWide 43 = .ok (.ireturn, 1) := by decide +kernel
theorem dX5_orderTo_0 : decode cX5_orderTo 0 = .ok (.aload_n 0, 1) := by decide +kernel
theorem dX5_orderTo_1 : decode cX5_orderTo 1 = .ok (.getfield 19, 3) := by decide +kernel
theorem dX5_orderTo_4 : decode cX5_orderTo 4 = .ok (.aload_n 1, 1) := by decide +kernel
theorem dX5_orderTo_5 : decode cX5_orderTo 5 = .ok (.getfield 19, 3) := by decide +kernel
theorem dX5_orderTo_8 : decode cX5_orderTo 8 = .ok (.if_icmp .eq 13, 3) := by decide +kernel
theorem dX5_orderTo_11 : decode cX5_orderTo 11 = .ok (.aload_n 1, 1) := by decide +kernel
theorem dX5_orderTo_12 : decode cX5_orderTo 12 = .ok (.getfield 19, 3) := by decide +kernel
theorem dX5_orderTo_15 : decode cX5_orderTo 15 = .ok (.aload_n 0, 1) := by decide +kernel
theorem dX5_orderTo_16 : decode cX5_orderTo 16 = .ok (.getfield 19, 3) := by decide +kernel
theorem dX5_orderTo_19 : decode cX5_orderTo 19 = .ok (.isub, 1) := by decide +kernel
theorem dX5_orderTo_20 : decode cX5_orderTo 20 = .ok (.ireturn, 1) := by decide +kernel
theorem dX5_orderTo_21 : decode cX5_orderTo 21 = .ok (.aload_n 0, 1) := by decide +kernel
theorem dX5_orderTo_22 : decode cX5_orderTo 22 = .ok (.getfield 15, 3) := by decide +kernel
theorem dX5_orderTo_25 : decode cX5_orderTo 25 = .ok (.aload_n 1, 1) := by decide +kernel
theorem dX5_orderTo_26 : decode cX5_orderTo 26 = .ok (.getfield 15, 3) := by decide +kernel
theorem dX5_orderTo_29 : decode cX5_orderTo 29 = .ok (.invokestatic 33, 3) := by decide +kernel
theorem dX5_orderTo_32 : decode cX5_orderTo 32 = .ok (.istore_n 2, 1) := by decide +kernel
theorem dX5_orderTo_33 : decode cX5_orderTo 33 = .ok (.iconst 0, 1) := by decide +kernel
theorem dX5_orderTo_34 : decode cX5_orderTo 34 = .ok (.istore_n 3, 1) := by decide +kernel
theorem dX5_orderTo_35 : decode cX5_orderTo 35 = .ok (.iload_n 3, 1) := by decide +kernel
theorem dX5_orderTo_36 : decode cX5_orderTo 36 = .ok (.iload_n 2, 1) := by decide +kernel
theorem dX5_orderTo_37 : decode cX5_orderTo 37 = .ok (.if_icmp .ge 34, 3) := by decide +kernel
theorem dX5_orderTo_40 : decode cX5_orderTo 40 = .ok (.aload_n 0, 1) := by decide +kernel
theorem dX5_orderTo_41 : decode cX5_orderTo 41 = .ok (.iload_n 3, 1) := by decide +kernel
theorem dX5_orderTo_42 : decode cX5_orderTo 42 = .ok (.invokevirtual 25, 3) := by decide +kernel
theorem dX5_orderTo_45 : decode cX5_orderTo 45 = .ok (.aload_n 1, 1) := by decide +kernel
theorem dX5_orderTo_46 : decode cX5_orderTo 46 = .ok (.iload_n 3, 1) := by decide +kernel
theorem dX5_orderTo_47 : decode cX5_orderTo 47 = .ok (.invokevirtual 25, 3) := by decide +kernel
theorem dX5_orderTo_50 : decode cX5_orderTo 50 = .ok (.if_icmp .eq 15, 3) := by decide +kernel
theorem dX5_orderTo_53 : decode cX5_orderTo 53 = .ok (.aload_n 1, 1) := by decide +kernel
theorem dX5_orderTo_54 : decode cX5_orderTo 54 = .ok (.iload_n 3, 1) := by decide +kernel
theorem dX5_orderTo_55 : decode cX5_orderTo 55 = .ok (.invokevirtual 25, 3) := by decide +kernel
theorem dX5_orderTo_58 : decode cX5_orderTo 58 = .ok (.aload_n 0, 1) := by decide +kernel
theorem dX5_orderTo_59 : decode cX5_orderTo 59 = .ok (.iload_n 3, 1) := by decide +kernel
theorem dX5_orderTo_60 : decode cX5_orderTo 60 = .ok (.invokevirtual 25, 3) := by decide +kernel
theorem dX5_orderTo_63 : decode cX5_orderTo 63 = .ok (.isub, 1) := by decide +kernel
theorem dX5_orderTo_64 : decode cX5_orderTo 64 = .ok (.ireturn, 1) := by decide +kernel
theorem dX5_orderTo_65 : decode cX5_orderTo 65 = .ok (.iinc 3 1, 3) := by decide +kernel
theorem dX5_orderTo_68 : decode cX5_orderTo 68 = .ok (.goto (-33), 3) := by decide +kernel
theorem dX5_orderTo_71 : decode cX5_orderTo 71 = .ok (.iconst 0, 1) := by decide +kernel
theorem dX5_orderTo_72 : decode cX5_orderTo 72 = .ok (.ireturn, 1) := by decide +kernel
theorem dX6_init_0 : decode cX6_init 0 = .ok (.aload_n 0, 1) := by decide +kernel
theorem dX6_init_1 : decode cX6_init 1 = .ok (.invokespecial 3, 3) := by decide +kernel
theorem dX6_init_4 : decode cX6_init 4 = .ok (.aload_n 0, 1) := by decide +kernel
theorem dX6_init_5 : decode cX6_init 5 = .ok (.bipush 60, 2) := by decide +kernel
theorem dX6_init_7 : decode cX6_init 7 = .ok (.newarray .int, 2) := by decide +kernel
theorem dX6_init_9 : decode cX6_init 9 = .ok (.putfield 9, 3) := by decide +kernel
theorem dX6_init_12 : decode cX6_init 12 = .ok (.aload_n 0, 1) := by decide +kernel
theorem dX6_init_13 : decode cX6_init 13 = .ok (.iconst 0, 1) := by decide +kernel
theorem dX6_init_14 : decode cX6_init 14 = .ok (.putfield 15, 3) := by decide +kernel
theorem dX6_init_17 : decode cX6_init 17 = .ok (.return_, 1) := by decide +kernel
theorem dX6_append_0 : decode cX6_append 0 = .ok (.aload_n 0, 1) := by decide +kernel
theorem dX6_append_1 : decode cX6_append 1 = .ok (.getfield 15, 3) := by decide +kernel
theorem dX6_append_4 : decode cX6_append 4 = .ok (.bipush 60, 2) := by decide +kernel
theorem dX6_append_6 : decode cX6_append 6 = .ok (.if_icmp .ge 23, 3) := by decide +kernel
theorem dX6_append_9 : decode cX6_append 9 = .ok (.aload_n 0, 1) := by decide +kernel
theorem dX6_append_10 : decode cX6_append 10 = .ok (.getfield 9, 3) := by decide +kernel
theorem dX6_append_13 : decode cX6_append 13 = .ok (.aload_n 0, 1) := by decide +kernel
theorem dX6_append_14 : decode cX6_append 14 = .ok (.getfield 15, 3) := by decide +kernel
theorem dX6_append_17 : decode cX6_append 17 = .ok (.iload_n 1, 1) := by decide +kernel
theorem dX6_append_18 : decode cX6_append 18 = .ok (.iastore, 1) := by decide +kernel
theorem dX6_append_19 : decode cX6_append 19 = .ok (.aload_n 0, 1) := by decide +kernel
theorem dX6_append_20 : decode cX6_append 20 = .ok (.dup, 1) := by decide +kernel
theorem dX6_append_21 : decode cX6_append 21 = .ok (.getfield 15, 3) := by decide +kernel
theorem dX6_append_24 : decode cX6_append 24 = .ok (.iconst 1, 1) := by decide +kernel
theorem dX6_append_25 : decode cX6_append 25 = .ok (.iadd, 1) := by decide +kernel
theorem dX6_append_26 : decode cX6_append 26 = .ok (.putfield 15, 3) := by decide +kernel
theorem dX6_append_29 : decode cX6_append 29 = .ok (.return_, 1) := by decide +kernel
theorem dX6_byteAt_0 : decode cX6_byteAt 0 = .ok (.iload_n 1, 1) := by decide +kernel
theorem dX6_byteAt_1 : decode cX6_byteAt 1 = .ok (.ifCond .lt 20, 3) := by decide +kernel
theorem dX6_byteAt_4 : decode cX6_byteAt 4 = .ok (.iload_n 1, 1) := by decide +kernel
theorem dX6_byteAt_5 : decode cX6_byteAt 5 = .ok (.aload_n 0, 1) := by decide +kernel
theorem dX6_byteAt_6 : decode cX6_byteAt 6 = .ok (.getfield 15, 3) := by decide +kernel
theorem dX6_byteAt_9 : decode cX6_byteAt 9 = .ok (.if_icmp .ge 12, 3) := by decide +kernel
theorem dX6_byteAt_12 : decode cX6_byteAt 12 = .ok (.aload_n 0, 1) := by decide +kernel
theorem dX6_byteAt_13 : decode cX6_byteAt 13 = .ok (.getfield 9, 3) := by decide +kernel
theorem dX6_byteAt_16 : decode cX6_byteAt 16 = .ok (.iload_n 1, 1) := by decide +kernel
theorem dX6_byteAt_17 : decode cX6_byteAt 17 = .ok (.iaload, 1) := by decide +kernel
theorem dX6_byteAt_18 : decode cX6_byteAt 18 = .ok (.goto 4, 3) := by decide +kernel
theorem dX6_byteAt_21 : decode cX6_byteAt 21 = .ok (.iconst (-1), 1) := by decide +kernel
theorem dX6_byteAt_22 : decode cX6_byteAt 22 = .ok (.ireturn, 1) := by decide +kernel
theorem dX6_hasFigure_0 : decode cX6_hasFigure 0 = .ok (.aload_n 0, 1) := by decide +kernel
theorem dX6_hasFigure_1 : decode cX6_hasFigure 1 = .ok (.iload_n 1, 1) := by decide +kernel
theorem dX6_hasFigure_2 : decode cX6_hasFigure 2 = .ok (.invokevirtual 19, 3) := by decide +kernel
theorem dX6_hasFigure_5 : decode cX6_hasFigure 5 = .ok (.iload_n 2, 1) := by decide +kernel
theorem dX6_hasFigure_6 : decode cX6_hasFigure 6 = .ok (.if_icmp .lt 16, 3) := by decide +kernel
theorem dX6_hasFigure_9 : decode cX6_hasFigure 9 = .ok (.aload_n 0, 1) := by decide +kernel
theorem dX6_hasFigure_10 : decode cX6_hasFigure 10 = .ok (.iload_n 1, 1) := by decide +kernel
theorem dX6_hasFigure_11 : decode cX6_hasFigure 11 = .ok (.invokevirtual 19, 3) := by decide +kernel
theorem dX6_hasFigure_14 : decode cX6_hasFigure 14 = .ok (.iload_n 3, 1) := by decide +kernel
theorem dX6_hasFigure_15 : decode cX6_hasFigure 15 = .ok (.if_icmp .gt 7, 3) := by decide +kernel
theorem dX6_hasFigure_18 : decode cX6_hasFigure 18 = .ok (.iconst 1, 1) := by decide +kernel
theorem dX6_hasFigure_19 : decode cX6_hasFigure 19 = .ok (.goto 4, 3) := by decide +kernel
theorem dX6_hasFigure_22 : decode cX6_hasFigure 22 = .ok (.iconst 0, 1) := by decide +kernel
theorem dX6_hasFigure_23 : decode cX6_hasFigure 23 = .ok (.ireturn, 1) := by decide +kernel
theorem dX6_figureAt_0 : decode cX6_figureAt 0 = .ok (.aload_n 0, 1) := by decide +kernel
theorem dX6_figureAt_1 : decode cX6_figureAt 1 = .ok (.iload_n 1, 1) := by decide +kernel
theorem dX6_figureAt_2 : decode cX6_figureAt 2 = .ok (.invokevirtual 19, 3) := by decide +kernel
theorem dX6_figureAt_5 : decode cX6_figureAt 5 = .ok (.bipush 48, 2) := by decide +kernel
theorem dX6_figureAt_7 : decode cX6_figureAt 7 = .ok (.isub, 1) := by decide +kernel
theorem dX6_figureAt_8 : decode cX6_figureAt 8 = .ok (.ireturn, 1) := by decide +kernel
theorem dX6_faultPlace_0 : decode cX6_faultPlace 0 = .ok (.iconst 0, 1) := by decide +kernel
theorem dX6_faultPlace_1 : decode cX6_faultPlace 1 = .ok (.istore_n 1, 1) := by decide +kernel
theorem dX6_faultPlace_2 : decode cX6_faultPlace 2 = .ok (.iload_n 1, 1) := by decide +kernel
theorem dX6_faultPlace_3 : decode cX6_faultPlace 3 = .ok (.iconst 2, 1) := by decide +kernel
theorem dX6_faultPlace_4 : decode cX6_faultPlace 4 = .ok (.if_icmp .ge 23, 3) := by decide +kernel
theorem dX6_faultPlace_7 : decode cX6_faultPlace 7 = .ok (.aload_n 0, 1) := by decide +kernel
theorem dX6_faultPlace_8 : decode cX6_faultPlace 8 = .ok (.iload_n 1, 1) := by decide +kernel
theorem dX6_faultPlace_9 : decode cX6_faultPlace 9 = .ok (.bipush 49, 2) := by decide +kernel
theorem dX6_faultPlace_11 : decode cX6_faultPlace 11 = .ok (.bipush 53, 2) := by decide +kernel
theorem dX6_faultPlace_13 : decode cX6_faultPlace 13 = .ok (.invokevirtual 23, 3) := by decide +kernel
theorem dX6_faultPlace_16 : decode cX6_faultPlace 16 = .ok (.ifCond .ne 5, 3) := by decide +kernel
theorem dX6_faultPlace_19 : decode cX6_faultPlace 19 = .ok (.iload_n 1, 1) := by decide +kernel
theorem dX6_faultPlace_20 : decode cX6_faultPlace 20 = .ok (.ireturn, 1) := by decide +kernel
theorem dX6_faultPlace_21 : decode cX6_faultPlace 21 = .ok (.iinc 1 1, 3) := by decide +kernel
theorem dX6_faultPlace_24 : decode cX6_faultPlace 24 = .ok (.goto (-22), 3) := by decide +kernel
theorem dX6_faultPlace_27 : decode cX6_faultPlace 27 = .ok (.aload_n 0, 1) := by decide +kernel
theorem dX6_faultPlace_28 : decode cX6_faultPlace 28 = .ok (.iconst 0, 1) := by decide +kernel
theorem dX6_faultPlace_29 : decode cX6_faultPlace 29 = .ok (.invokevirtual 27, 3) := by decide +kernel
theorem dX6_faultPlace_32 : decode cX6_faultPlace 32 = .ok (.iconst 1, 1) := by decide +kernel
theorem dX6_faultPlace_33 : decode cX6_faultPlace 33 = .ok (.iadd, 1) := by decide +kernel
theorem dX6_faultPlace_34 : decode cX6_faultPlace 34 = .ok (.istore_n 1, 1) := by decide +kernel
theorem dX6_faultPlace_35 : decode cX6_faultPlace 35 = .ok (.iconst 2, 1) := by decide +kernel
theorem dX6_faultPlace_36 : decode cX6_faultPlace 36 = .ok (.aload_n 0, 1) := by decide +kernel
theorem dX6_faultPlace_37 : decode cX6_faultPlace 37 = .ok (.iconst 1, 1) := by decide +kernel
theorem dX6_faultPlace_38 : decode cX6_faultPlace 38 = .ok (.invokevirtual 27, 3) := by decide +kernel
theorem dX6_faultPlace_41 : decode cX6_faultPlace 41 = .ok (.iload_n 1, 1) := by decide +kernel
theorem dX6_faultPlace_42 : decode cX6_faultPlace 42 = .ok (.imul, 1) := by decide +kernel
theorem dX6_faultPlace_43 : decode cX6_faultPlace 43 = .ok (.iadd, 1) := by decide +kernel
theorem dX6_faultPlace_44 : decode cX6_faultPlace 44 = .ok (.istore_n 2, 1) := by decide +kernel
theorem dX6_faultPlace_45 : decode cX6_faultPlace 45 = .ok (.iconst 0, 1) := by decide +kernel
theorem dX6_faultPlace_46 : decode cX6_faultPlace 46 = .ok (.istore_n 3, 1) := by decide +kernel
theorem dX6_faultPlace_47 : decode cX6_faultPlace 47 = .ok (.iconst 2, 1) := by decide +kernel
theorem dX6_faultPlace_48 : decode cX6_faultPlace 48 = .ok (.istore 4, 2) := by decide +kernel
theorem dX6_faultPlace_50 : decode cX6_faultPlace 50 = .ok (.iload 4, 2) := by decide +kernel
theorem dX6_faultPlace_52 : decode cX6_faultPlace 52 = .ok (.iload_n 2, 1) := by decide +kernel
theorem dX6_faultPlace_53 : decode cX6_faultPlace 53 = .ok (.if_icmp .ge 66, 3) := by decide +kernel
theorem dX6_faultPlace_56 : decode cX6_faultPlace 56 = .ok (.iload_n 3, 1) := by decide +kernel
theorem dX6_faultPlace_57 : decode cX6_faultPlace 57 = .ok (.ifCond .ne 22, 3) := by decide +kernel
theorem dX6_faultPlace_60 : decode cX6_faultPlace 60 = .ok (.aload_n 0, 1) := by decide +kernel
theorem dX6_faultPlace_61 : decode cX6_faultPlace 61 = .ok (.iload 4, 2) := by decide +kernel
theorem dX6_faultPlace_63 : decode cX6_faultPlace 63 = .ok (.invokevirtual 19, 3) := by decide +kernel
theorem dX6_faultPlace_66 : decode cX6_faultPlace 66 = .ok (.bipush 59, 2) := by decide +kernel
theorem dX6_faultPlace_68 : decode cX6_faultPlace 68 = .ok (.if_icmp .ne 7, 3) := by decide +kernel
theorem dX6_faultPlace_71 : decode cX6_faultPlace 71 = .ok (.iconst 1, 1) := by decide +kernel
theorem dX6_faultPlace_72 : decode cX6_faultPlace 72 = .ok (.goto 17, 3) := by decide +kernel
theorem dX6_faultPlace_75 : decode cX6_faultPlace 75 = .ok (.iconst 0, 1) := by decide +kernel
theorem dX6_faultPlace_76 : decode cX6_faultPlace 76 = .ok (.goto 13, 3) := by decide +kernel
theorem dX6_faultPlace_79 : decode cX6_faultPlace 79 = .ok (.aload_n 0, 1) := by decide +kernel
theorem dX6_faultPlace_80 : decode cX6_faultPlace 80 = .ok (.iload 4, 2) := by decide +kernel
theorem dX6_faultPlace_82 : decode cX6_faultPlace 82 = .ok (.bipush 48, 2) := by decide +kernel
theorem dX6_faultPlace_84 : decode cX6_faultPlace 84 = .ok (.bipush 51, 2) := by decide +kernel
theorem dX6_faultPlace_86 : decode cX6_faultPlace 86 = .ok (.invokevirtual 23, 3) := by decide +kernel
theorem dX6_faultPlace_89 : decode cX6_faultPlace 89 = .ok (.istore 5, 2) := by decide +kernel
theorem dX6_faultPlace_91 : decode cX6_faultPlace 91 = .ok (.iload 5, 2) := by decide +kernel
theorem dX6_faultPlace_93 : decode cX6_faultPlace 93 = .ok (.ifCond .ne 6, 3) := by decide +kernel
theorem dX6_faultPlace_96 : decode cX6_faultPlace 96 = .ok (.iload 4, 2) := by decide +kernel
theorem dX6_faultPlace_98 : decode cX6_faultPlace 98 = .ok (.ireturn, 1) := by decide +kernel
theorem dX6_faultPlace_99 : decode cX6_faultPlace 99 = .ok (.iload_n 3, 1) := by decide +kernel
theorem dX6_faultPlace_100 : decode cX6_faultPlace 100 = .ok (.ifCond .ne 9, 3) := by decide +kernel
theorem dX6_faultPlace_103 : decode cX6_faultPlace 103 = .ok (.iload_n 1, 1) := by decide +kernel
theorem dX6_faultPlace_104 : decode cX6_faultPlace 104 = .ok (.iconst 1, 1) := by decide +kernel
theorem dX6_faultPlace_105 : decode cX6_faultPlace 105 = .ok (.isub, 1) := by decide +kernel
theorem dX6_faultPlace_106 : decode cX6_faultPlace 106 = .ok (.goto 6, 3) := by decide +kernel
theorem dX6_faultPlace_109 : decode cX6_faultPlace 109 = .ok (.iload_n 3, 1) := by decide +kernel
theorem dX6_faultPlace_110 : decode cX6_faultPlace 110 = .ok (.iconst 1, 1) := by decide +kernel
theorem dX6_faultPlace_111 : decode cX6_faultPlace 111 = .ok (.isub, 1) := by decide +kernel
theorem dX6_faultPlace_112 : decode cX6_faultPlace 112 = .ok (.istore_n 3, 1) := by decide +kernel
theorem dX6_faultPlace_113 : decode cX6_faultPlace 113 = .ok (.iinc 4 1, 3) := by decide +kernel
theorem dX6_faultPlace_116 : decode cX6_faultPlace 116 = .ok (.goto (-66), 3) := by decide +kernel
theorem dX6_faultPlace_119 : decode cX6_faultPlace 119 = .ok (.aload_n 0, 1) := by decide +kernel
theorem dX6_faultPlace_120 : decode cX6_faultPlace 120 = .ok (.getfield 15, 3) := by decide +kernel
theorem dX6_faultPlace_123 : decode cX6_faultPlace 123 = .ok (.iload_n 2, 1) := by decide +kernel
theorem dX6_faultPlace_124 : decode cX6_faultPlace 124 = .ok (.if_icmp .le 7, 3) := by decide +kernel
theorem dX6_faultPlace_127 : decode cX6_faultPlace 127 = .ok (.iload_n 2, 1) := by decide +kernel
theorem dX6_faultPlace_128 : decode cX6_faultPlace 128 = .ok (.goto 4, 3) := by decide +kernel
theorem dX6_faultPlace_131 : decode cX6_faultPlace 131 = .ok (.iconst (-1), 1) := by decide +kernel
theorem dX6_faultPlace_132 : decode cX6_faultPlace 132 = .ok (.ireturn, 1) := by decide +kernel
theorem dX6_writeInto_0 : decode cX6_writeInto 0 = .ok (.aload_n 1, 1) := by decide +kernel
theorem dX6_writeInto_1 : decode cX6_writeInto 1 = .ok (.aload_n 0, 1) := by decide +kernel
theorem dX6_writeInto_2 : decode cX6_writeInto 2 = .ok (.iconst 0, 1) := by decide +kernel
theorem dX6_writeInto_3 : decode cX6_writeInto 3 = .ok (.invokevirtual 27, 3) := by decide +kernel
theorem dX6_writeInto_6 : decode cX6_writeInto 6 = .ok (.aload_n 0, 1) := by decide +kernel
theorem dX6_writeInto_7 : decode cX6_writeInto 7 = .ok (.iconst 1, 1) := by decide +kernel
theorem dX6_writeInto_8 : decode cX6_writeInto 8 = .ok (.invokevirtual 27, 3) := by decide +kernel
theorem dX6_writeInto_11 : decode cX6_writeInto 11 = .ok (.invokevirtual 30, 3) := by decide +kernel
theorem dX6_writeInto_14 : decode cX6_writeInto 14 = .ok (.iconst 2, 1) := by decide +kernel
theorem dX6_writeInto_15 : decode cX6_writeInto 15 = .ok (.istore_n 2, 1) := by decide +kernel
theorem dX6_writeInto_16 : decode cX6_writeInto 16 = .ok (.aload_n 1, 1) := by decide +kernel
theorem dX6_writeInto_17 : decode cX6_writeInto 17 = .ok (.getfield 36, 3) := by decide +kernel
theorem dX6_writeInto_20 : decode cX6_writeInto 20 = .ok (.istore_n 3, 1) := by decide +kernel
theorem dX6_writeInto_21 : decode cX6_writeInto 21 = .ok (.iload_n 3, 1) := by decide +kernel
theorem dX6_writeInto_22 : decode cX6_writeInto 22 = .ok (.iconst 1, 1) := by decide +kernel
theorem dX6_writeInto_23 : decode cX6_writeInto 23 = .ok (.if_icmp .lt 45, 3) := by decide +kernel
theorem dX6_writeInto_26 : decode cX6_writeInto 26 = .ok (.iinc 2 1, 3) := by decide +kernel
theorem dX6_writeInto_29 : decode cX6_writeInto 29 = .ok (.iconst 1, 1) := by decide +kernel
theorem dX6_writeInto_30 : decode cX6_writeInto 30 = .ok (.istore 4, 2) := by decide +kernel
theorem dX6_writeInto_32 : decode cX6_writeInto 32 = .ok (.iload 4, 2) := by decide +kernel
theorem dX6_writeInto_34 : decode cX6_writeInto 34 = .ok (.aload_n 1, 1) := by decide +kernel
theorem dX6_writeInto_35 : decode cX6_writeInto 35 = .ok (.getfield 39, 3) := by decide +kernel
theorem dX6_writeInto_38 : decode cX6_writeInto 38 = .ok (.if_icmp .gt 24, 3) := by decide +kernel
theorem dX6_writeInto_41 : decode cX6_writeInto 41 = .ok (.aload_n 1, 1) := by decide +kernel
theorem dX6_writeInto_42 : decode cX6_writeInto 42 = .ok (.iload 4, 2) := by decide +kernel
theorem dX6_writeInto_44 : decode cX6_writeInto 44 = .ok (.iload_n 3, 1) := by decide +kernel
theorem dX6_writeInto_45 : decode cX6_writeInto 45 = .ok (.aload_n 0, 1) := by decide +kernel
theorem dX6_writeInto_46 : decode cX6_writeInto 46 = .ok (.iload_n 2, 1) := by decide +kernel
theorem dX6_writeInto_47 : decode cX6_writeInto 47 = .ok (.invokevirtual 27, 3) := by decide +kernel
theorem dX6_writeInto_50 : decode cX6_writeInto 50 = .ok (.invokevirtual 42, 3) := by decide +kernel
theorem dX6_writeInto_53 : decode cX6_writeInto 53 = .ok (.iinc 2 1, 3) := by decide +kernel
theorem dX6_writeInto_56 : decode cX6_writeInto 56 = .ok (.iinc 4 1, 3) := by decide +kernel
theorem dX6_writeInto_59 : decode cX6_writeInto 59 = .ok (.goto (-27), 3) := by decide +kernel
theorem dX6_writeInto_62 : decode cX6_writeInto 62 = .ok (.iinc 3 (-1), 3) := by decide +kernel
theorem dX6_writeInto_65 : decode cX6_writeInto 65 = .ok (.goto (-44), 3) := by decide +kernel
theorem dX6_writeInto_68 : decode cX6_writeInto 68 = .ok (.return_, 1) := by decide +kernel
theorem dX7_init_0 : decode cX7_init 0 = .ok (.aload_n 0, 1) := by decide +kernel
theorem dX7_init_1 : decode cX7_init 1 = .ok (.invokespecial 5, 3) := by decide +kernel
theorem dX7_init_4 : decode cX7_init 4 = .ok (.aload_n 0, 1) := by decide +kernel
theorem dX7_init_5 : decode cX7_init 5 = .ok (.new 11, 3) := by decide +kernel
theorem dX7_init_8 : decode cX7_init 8 = .ok (.dup, 1) := by decide +kernel
theorem dX7_init_9 : decode cX7_init 9 = .ok (.invokespecial 13, 3) := by decide +kernel
theorem dX7_init_12 : decode cX7_init 12 = .ok (.putfield 14, 3) := by decide +kernel
theorem dX7_init_15 : decode cX7_init 15 = .ok (.aload_n 0, 1) := by decide +kernel
theorem dX7_init_16 : decode cX7_init 16 = .ok (.new 11, 3) := by decide +kernel
theorem dX7_init_19 : decode cX7_init 19 = .ok (.dup, 1) := by decide +kernel
theorem dX7_init_20 : decode cX7_init 20 = .ok (.invokespecial 13, 3) := by decide +kernel
theorem dX7_init_23 : decode cX7_init 23 = .ok (.putfield 18, 3) := by decide +kernel
theorem dX7_init_26 : decode cX7_init 26 = .ok (.aload_n 0, 1) := by decide +kernel
theorem dX7_init_27 : decode cX7_init 27 = .ok (.new 11, 3) := by decide +kernel
theorem dX7_init_30 : decode cX7_init 30 = .ok (.dup, 1) := by decide +kernel
theorem dX7_init_31 : decode cX7_init 31 = .ok (.invokespecial 13, 3) := by decide +kernel
theorem dX7_init_34 : decode cX7_init 34 = .ok (.putfield 21, 3) := by decide +kernel
theorem dX7_init_37 : decode cX7_init 37 = .ok (.aload_n 0, 1) := by decide +kernel
theorem dX7_init_38 : decode cX7_init 38 = .ok (.iconst 0, 1) := by decide +kernel
theorem dX7_init_39 : decode cX7_init 39 = .ok (.putfield 24, 3) := by decide +kernel
theorem dX7_init_42 : decode cX7_init 42 = .ok (.aload_n 0, 1) := by decide +kernel
theorem dX7_init_43 : decode cX7_init 43 = .ok (.new 28, 3) := by decide +kernel
theorem dX7_init_46 : decode cX7_init 46 = .ok (.dup, 1) := by decide +kernel
theorem dX7_init_47 : decode cX7_init 47 = .ok (.invokespecial 30, 3) := by decide +kernel
theorem dX7_init_50 : decode cX7_init 50 = .ok (.putfield 31, 3) := by decide +kernel
theorem dX7_init_53 : decode cX7_init 53 = .ok (.aload_n 0, 1) := by decide +kernel
theorem dX7_init_54 : decode cX7_init 54 = .ok (.iconst 0, 1) := by decide +kernel
theorem dX7_init_55 : decode cX7_init 55 = .ok (.putfield 35, 3) := by decide +kernel
theorem dX7_init_58 : decode cX7_init 58 = .ok (.aload_n 0, 1) := by decide +kernel
theorem dX7_init_59 : decode cX7_init 59 = .ok (.new 38, 3) := by decide +kernel
theorem dX7_init_62 : decode cX7_init 62 = .ok (.dup, 1) := by decide +kernel
theorem dX7_init_63 : decode cX7_init 63 = .ok (.invokespecial 40, 3) := by decide +kernel
theorem dX7_init_66 : decode cX7_init 66 = .ok (.putfield 41, 3) := by decide +kernel
theorem dX7_init_69 : decode cX7_init 69 = .ok (.aload_n 0, 1) := by decide +kernel
theorem dX7_init_70 : decode cX7_init 70 = .ok (.new 45, 3) := by decide +kernel
theorem dX7_init_73 : decode cX7_init 73 = .ok (.dup, 1) := by decide +kernel
theorem dX7_init_74 : decode cX7_init 74 = .ok (.invokespecial 47, 3) := by decide +kernel
theorem dX7_init_77 : decode cX7_init 77 = .ok (.putfield 48, 3) := by decide +kernel
theorem dX7_init_80 : decode cX7_init 80 = .ok (.aload_n 0, 1) := by decide +kernel
theorem dX7_init_81 : decode cX7_init 81 = .ok (.new 52, 3) := by decide +kernel
theorem dX7_init_84 : decode cX7_init 84 = .ok (.dup, 1) := by decide +kernel
theorem dX7_init_85 : decode cX7_init 85 = .ok (.invokespecial 54, 3) := by decide +kernel
theorem dX7_init_88 : decode cX7_init 88 = .ok (.putfield 55, 3) := by decide +kernel
theorem dX7_init_91 : decode cX7_init 91 = .ok (.aload_n 0, 1) := by decide +kernel
theorem dX7_init_92 : decode cX7_init 92 = .ok (.bipush 6, 2) := by decide +kernel
theorem dX7_init_94 : decode cX7_init 94 = .ok (.anewarray 59, 3) := by decide +kernel
theorem dX7_init_97 : decode cX7_init 97 = .ok (.putfield 61, 3) := by decide +kernel
theorem dX7_init_100 : decode cX7_init 100 = .ok (.iconst 0, 1) := by decide +kernel
theorem dX7_init_101 : decode cX7_init 101 = .ok (.istore_n 1, 1) := by decide +kernel
theorem dX7_init_102 : decode cX7_init 102 = .ok (.iload_n 1, 1) := by decide +kernel
theorem dX7_init_103 : decode cX7_init 103 = .ok (.bipush 6, 2) := by decide +kernel
theorem dX7_init_105 : decode cX7_init 105 = .ok (.if_icmp .ge 22, 3) := by decide +kernel
theorem dX7_init_108 : decode cX7_init 108 = .ok (.aload_n 0, 1) := by decide +kernel
theorem dX7_init_109 : decode cX7_init 109 = .ok (.getfield 61, 3) := by decide +kernel
theorem dX7_init_112 : decode cX7_init 112 = .ok (.iload_n 1, 1) := by decide +kernel
theorem dX7_init_113 : decode cX7_init 113 = .ok (.new 59, 3) := by decide +kernel
theorem dX7_init_116 : decode cX7_init 116 = .ok (.dup, 1) := by decide +kernel
theorem dX7_init_117 : decode cX7_init 117 = .ok (.invokespecial 65, 3) := by decide +kernel
theorem dX7_init_120 : decode cX7_init 120 = .ok (.aastore, 1) := by decide +kernel
theorem dX7_init_121 : decode cX7_init 121 = .ok (.iinc 1 1, 3) := by decide +kernel
theorem dX7_init_124 : decode cX7_init 124 = .ok (.goto (-22), 3) := by decide +kernel
theorem dX7_init_127 : decode cX7_init 127 = .ok (.return_, 1) := by decide +kernel
theorem dX7_grid_0 : decode cX7_grid 0 = .ok (.iload_n 1, 1) := by decide +kernel
theorem dX7_grid_1 : decode cX7_grid 1 = .ok (.invokestatic 66, 3) := by decide +kernel
theorem dX7_grid_4 : decode cX7_grid 4 = .ok (.ifCond .eq 10, 3) := by decide +kernel
theorem dX7_grid_7 : decode cX7_grid 7 = .ok (.iload_n 2, 1) := by decide +kernel
theorem dX7_grid_8 : decode cX7_grid 8 = .ok (.invokestatic 66, 3) := by decide +kernel
theorem dX7_grid_11 : decode cX7_grid 11 = .ok (.ifCond .ne 5, 3) := by decide +kernel
theorem dX7_grid_14 : decode cX7_grid 14 = .ok (.iconst (-1), 1) := by decide +kernel
theorem dX7_grid_15 : decode cX7_grid 15 = .ok (.ireturn, 1) := by decide +kernel
theorem dX7_grid_16 : decode cX7_grid 16 = .ok (.bipush 10, 2) := by decide +kernel
theorem dX7_grid_18 : decode cX7_grid 18 = .ok (.aload_n 0, 1) := by decide +kernel
theorem dX7_grid_19 : decode cX7_grid 19 = .ok (.getfield 14, 3) := by decide +kernel
theorem dX7_grid_22 : decode cX7_grid 22 = .ok (.getfield 70, 3) := by decide +kernel
theorem dX7_grid_25 : decode cX7_grid 25 = .ok (.imul, 1) := by decide +kernel
theorem dX7_grid_26 : decode cX7_grid 26 = .ok (.aload_n 0, 1) := by decide +kernel
theorem dX7_grid_27 : decode cX7_grid 27 = .ok (.getfield 14, 3) := by decide +kernel
theorem dX7_grid_30 : decode cX7_grid 30 = .ok (.getfield 74, 3) := by decide +kernel
theorem dX7_grid_33 : decode cX7_grid 33 = .ok (.iadd, 1) := by decide +kernel
theorem dX7_grid_34 : decode cX7_grid 34 = .ok (.istore_n 3, 1) := by decide +kernel
theorem dX7_grid_35 : decode cX7_grid 35 = .ok (.aload_n 0, 1) := by decide +kernel
theorem dX7_grid_36 : decode cX7_grid 36 = .ok (.invokevirtual 77, 3) := by decide +kernel
theorem dX7_grid_39 : decode cX7_grid 39 = .ok (.aload_n 0, 1) := by decide +kernel
theorem dX7_grid_40 : decode cX7_grid 40 = .ok (.getfield 14, 3) := by decide +kernel
theorem dX7_grid_43 : decode cX7_grid 43 = .ok (.iload_n 1, 1) := by decide +kernel
theorem dX7_grid_44 : decode cX7_grid 44 = .ok (.iload_n 2, 1) := by decide +kernel
theorem dX7_grid_45 : decode cX7_grid 45 = .ok (.invokevirtual 80, 3) := by decide +kernel
theorem dX7_grid_48 : decode cX7_grid 48 = .ok (.iload_n 3, 1) := by decide +kernel
theorem dX7_grid_49 : decode cX7_grid 49 = .ok (.ireturn, 1) := by decide +kernel
theorem dX7_put_0 : decode cX7_put 0 = .ok (.aload_n 0, 1) := by decide +kernel
theorem dX7_put_1 : decode cX7_put 1 = .ok (.getfield 14, 3) := by decide +kernel
theorem dX7_put_4 : decode cX7_put 4 = .ok (.iload_n 1, 1) := by decide +kernel
theorem dX7_put_5 : decode cX7_put 5 = .ok (.iload_n 2, 1) := by decide +kernel
theorem dX7_put_6 : decode cX7_put 6 = .ok (.invokevirtual 84, 3) := by decide +kernel
theorem dX7_put_9 : decode cX7_put 9 = .ok (.ifCond .eq 10, 3) := by decide +kernel
theorem dX7_put_12 : decode cX7_put 12 = .ok (.iload_n 3, 1) := by decide +kernel
theorem dX7_put_13 : decode cX7_put 13 = .ok (.invokestatic 88, 3) := by decide +kernel
theorem dX7_put_16 : decode cX7_put 16 = .ok (.ifCond .ne 5, 3) := by decide +kernel
theorem dX7_put_19 : decode cX7_put 19 = .ok (.iconst (-1), 1) := by decide +kernel
theorem dX7_put_20 : decode cX7_put 20 = .ok (.ireturn, 1) := by decide +kernel
theorem dX7_put_21 : decode cX7_put 21 = .ok (.aload_n 0, 1) := by decide +kernel
theorem dX7_put_22 : decode cX7_put 22 = .ok (.getfield 14, 3) := by decide +kernel
theorem dX7_put_25 : decode cX7_put 25 = .ok (.iload_n 1, 1) := by decide +kernel
theorem dX7_put_26 : decode cX7_put 26 = .ok (.iload_n 2, 1) := by decide +kernel
theorem dX7_put_27 : decode cX7_put 27 = .ok (.invokevirtual 91, 3) := by decide +kernel
theorem dX7_put_30 : decode cX7_put 30 = .ok (.istore 4, 2) := by decide +kernel
theorem dX7_put_32 : decode cX7_put 32 = .ok (.aload_n 0, 1) := by decide +kernel
theorem dX7_put_33 : decode cX7_put 33 = .ok (.invokevirtual 77, 3) := by decide +kernel
theorem dX7_put_36 : decode cX7_put 36 = .ok (.aload_n 0, 1) := by decide +kernel
theorem dX7_put_37 : decode cX7_put 37 = .ok (.getfield 14, 3) := by decide +kernel
theorem dX7_put_40 : decode cX7_put 40 = .ok (.iload_n 1, 1) := by decide +kernel
theorem dX7_put_41 : decode cX7_put 41 = .ok (.iload_n 2, 1) := by decide +kernel
theorem dX7_put_42 : decode cX7_put 42 = .ok (.iload_n 3, 1) := by decide +kernel
theorem dX7_put_43 : decode cX7_put 43 = .ok (.invokevirtual 95, 3) := by decide +kernel
theorem dX7_put_46 : decode cX7_put 46 = .ok (.iload 4, 2) := by decide +kernel
theorem dX7_put_48 : decode cX7_put 48 = .ok (.ireturn, 1) := by decide +kernel
theorem dX7_cell_0 : decode cX7_cell 0 = .ok (.aload_n 0, 1) := by decide +kernel
theorem dX7_cell_1 : decode cX7_cell 1 = .ok (.getfield 14, 3) := by decide +kernel
theorem dX7_cell_4 : decode cX7_cell 4 = .ok (.iload_n 1, 1) := by decide +kernel
theorem dX7_cell_5 : decode cX7_cell 5 = .ok (.iload_n 2, 1) := by decide +kernel
theorem dX7_cell_6 : decode cX7_cell 6 = .ok (.invokevirtual 84, 3) := by decide +kernel
theorem dX7_cell_9 : decode cX7_cell 9 = .ok (.ifCond .eq 15, 3) := by decide +kernel
theorem dX7_cell_12 : decode cX7_cell 12 = .ok (.aload_n 0, 1) := by decide +kernel
theorem dX7_cell_13 : decode cX7_cell 13 = .ok (.getfield 14, 3) := by decide +kernel
theorem dX7_cell_16 : decode cX7_cell 16 = .ok (.iload_n 1, 1) := by decide +kernel
theorem dX7_cell_17 : decode cX7_cell 17 = .ok (.iload_n 2, 1) := by decide +kernel
theorem dX7_cell_18 : decode cX7_cell 18 = .ok (.invokevirtual 91, 3) := by decide +kernel
theorem dX7_cell_21 : decode cX7_cell 21 = .ok (.goto 4, 3) := by decide +kernel
theorem dX7_cell_24 : decode cX7_cell 24 = .ok (.iconst (-1), 1) := by decide +kernel
theorem dX7_cell_25 : decode cX7_cell 25 = .ok (.ireturn, 1) := by decide +kernel
theorem dX7_rule_0 : decode cX7_rule 0 = .ok (.iload_n 1, 1) := by decide +kernel
theorem dX7_rule_1 : decode cX7_rule 1 = .ok (.invokestatic 99, 3) := by decide +kernel
theorem dX7_rule_4 : decode cX7_rule 4 = .ok (.ifCond .ne 5, 3) := by decide +kernel
theorem dX7_rule_7 : decode cX7_rule 7 = .ok (.iconst (-1), 1) := by decide +kernel
theorem dX7_rule_8 : decode cX7_rule 8 = .ok (.ireturn, 1) := by decide +kernel
theorem dX7_rule_9 : decode cX7_rule 9 = .ok (.aload_n 0, 1) := by decide +kernel
theorem dX7_rule_10 : decode cX7_rule 10 = .ok (.getfield 14, 3) := by decide +kernel
theorem dX7_rule_13 : decode cX7_rule 13 = .ok (.getfield 102, 3) := by decide +kernel
theorem dX7_rule_16 : decode cX7_rule 16 = .ok (.istore_n 2, 1) := by decide +kernel
theorem dX7_rule_17 : decode cX7_rule 17 = .ok (.aload_n 0, 1) := by decide +kernel
theorem dX7_rule_18 : decode cX7_rule 18 = .ok (.invokevirtual 77, 3) := by decide +kernel
theorem dX7_rule_21 : decode cX7_rule 21 = .ok (.aload_n 0, 1) := by decide +kernel
theorem dX7_rule_22 : decode cX7_rule 22 = .ok (.getfield 14, 3) := by decide +kernel
theorem dX7_rule_25 : decode cX7_rule 25 = .ok (.iload_n 1, 1) := by decide +kernel
theorem dX7_rule_26 : decode cX7_rule 26 = .ok (.putfield 102, 3) := by decide +kernel
theorem dX7_rule_29 : decode cX7_rule 29 = .ok (.iload_n 2, 1) := by decide +kernel
theorem dX7_rule_30 : decode cX7_rule 30 = .ok (.ireturn, 1) := by decide +kernel
theorem dX7_word_0 : decode cX7_word 0 = .ok (.aload_n 0, 1) := by decide +kernel
theorem dX7_word_1 : decode cX7_word 1 = .ok (.getfield 14, 3) := by decide +kernel
theorem dX7_word_4 : decode cX7_word 4 = .ok (.iload_n 1, 1) := by decide +kernel
theorem dX7_word_5 : decode cX7_word 5 = .ok (.invokevirtual 105, 3) := by decide +kernel
theorem dX7_word_8 : decode cX7_word 8 = .ok (.ifCond .ne 5, 3) := by decide +kernel
theorem dX7_word_11 : decode cX7_word 11 = .ok (.iconst (-1), 1) := by decide +kernel
theorem dX7_word_12 : decode cX7_word 12 = .ok (.ireturn, 1) := by decide +kernel
theorem dX7_word_13 : decode cX7_word 13 = .ok (.aload_n 0, 1) := by decide +kernel
theorem dX7_word_14 : decode cX7_word 14 = .ok (.invokevirtual 77, 3) := by decide +kernel
theorem dX7_word_17 : decode cX7_word 17 = .ok (.aload_n 0, 1) := by decide +kernel
theorem dX7_word_18 : decode cX7_word 18 = .ok (.getfield 14, 3) := by decide +kernel
theorem dX7_word_21 : decode cX7_word 21 = .ok (.iload_n 1, 1) := by decide +kernel
theorem dX7_word_22 : decode cX7_word 22 = .ok (.invokevirtual 108, 3) := by decide +kernel
theorem dX7_word_25 : decode cX7_word 25 = .ok (.aload_n 0, 1) := by decide +kernel
theorem dX7_word_26 : decode cX7_word 26 = .ok (.getfield 14, 3) := by decide +kernel
theorem dX7_word_29 : decode cX7_word 29 = .ok (.invokevirtual 112, 3) := by decide +kernel
theorem dX7_word_32 : decode cX7_word 32 = .ok (.ireturn, 1) := by decide +kernel
theorem dX7_spelled_0 : decode cX7_spelled 0 = .ok (.aload_n 0, 1) := by decide +kernel
theorem dX7_spelled_1 : decode cX7_spelled 1 = .ok (.getfield 14, 3) := by decide +kernel
theorem dX7_spelled_4 : decode cX7_spelled 4 = .ok (.invokevirtual 116, 3) := by decide +kernel
theorem dX7_spelled_7 : decode cX7_spelled 7 = .ok (.ireturn, 1) := by decide +kernel
theorem dX7_turn_0 : decode cX7_turn 0 = .ok (.iload_n 1, 1) := by decide +kernel
theorem dX7_turn_1 : decode cX7_turn 1 = .ok (.ifCond .lt 8, 3) := by decide +kernel
theorem dX7_turn_4 : decode cX7_turn 4 = .ok (.iload_n 1, 1) := by decide +kernel
theorem dX7_turn_5 : decode cX7_turn 5 = .ok (.iconst 2, 1) := by decide +kernel
theorem dX7_turn_6 : decode cX7_turn 6 = .ok (.if_icmp .le 5, 3) := by decide +kernel
theorem dX7_turn_9 : decode cX7_turn 9 = .ok (.iconst (-1), 1) := by decide +kernel
theorem dX7_turn_10 : decode cX7_turn 10 = .ok (.ireturn, 1) := by decide +kernel
theorem dX7_turn_11 : decode cX7_turn 11 = .ok (.aload_n 0, 1) := by decide +kernel
theorem dX7_turn_12 : decode cX7_turn 12 = .ok (.invokevirtual 77, 3) := by decide +kernel
theorem dX7_turn_15 : decode cX7_turn 15 = .ok (.aload_n 0, 1) := by decide +kernel
theorem dX7_turn_16 : decode cX7_turn 16 = .ok (.getfield 18, 3) := by decide +kernel
theorem dX7_turn_19 : decode cX7_turn 19 = .ok (.aload_n 0, 1) := by decide +kernel
theorem dX7_turn_20 : decode cX7_turn 20 = .ok (.getfield 14, 3) := by decide +kernel
theorem dX7_turn_23 : decode cX7_turn 23 = .ok (.invokevirtual 119, 3) := by decide +kernel
theorem dX7_turn_26 : decode cX7_turn 26 = .ok (.iload_n 1, 1) := by decide +kernel
theorem dX7_turn_27 : decode cX7_turn 27 = .ok (.ifCond .ne 24, 3) := by decide +kernel
theorem dX7_turn_30 : decode cX7_turn 30 = .ok (.aload_n 0, 1) := by decide +kernel
theorem dX7_turn_31 : decode cX7_turn 31 = .ok (.getfield 14, 3) := by decide +kernel
theorem dX7_turn_34 : decode cX7_turn 34 = .ok (.aload_n 0, 1) := by decide +kernel
theorem dX7_turn_35 : decode cX7_turn 35 = .ok (.getfield 18, 3) := by decide +kernel
theorem dX7_turn_38 : decode cX7_turn 38 = .ok (.getfield 74, 3) := by decide +kernel
theorem dX7_turn_41 : decode cX7_turn 41 = .ok (.aload_n 0, 1) := by decide +kernel
theorem dX7_turn_42 : decode cX7_turn 42 = .ok (.getfield 18, 3) := by decide +kernel
theorem dX7_turn_45 : decode cX7_turn 45 = .ok (.getfield 70, 3) := by decide +kernel
theorem dX7_turn_48 : decode cX7_turn 48 = .ok (.invokevirtual 80, 3) := by decide +kernel
theorem dX7_turn_51 : decode cX7_turn 51 = .ok (.iconst 1, 1) := by decide +kernel
theorem dX7_turn_52 : decode cX7_turn 52 = .ok (.istore_n 2, 1) := by decide +kernel
theorem dX7_turn_53 : decode cX7_turn 53 = .ok (.iload_n 2, 1) := by decide +kernel
theorem dX7_turn_54 : decode cX7_turn 54 = .ok (.aload_n 0, 1) := by decide +kernel
theorem dX7_turn_55 : decode cX7_turn 55 = .ok (.getfield 18, 3) := by decide +kernel
theorem dX7_turn_58 : decode cX7_turn 58 = .ok (.getfield 70, 3) := by decide +kernel
theorem dX7_turn_61 : decode cX7_turn 61 = .ok (.if_icmp .gt 107, 3) := by decide +kernel
theorem dX7_turn_64 : decode cX7_turn 64 = .ok (.iconst 1, 1) := by decide +kernel
theorem dX7_turn_65 : decode cX7_turn 65 = .ok (.istore_n 3, 1) := by decide +kernel
theorem dX7_turn_66 : decode cX7_turn 66 = .ok (.iload_n 3, 1) := by decide +kernel
theorem dX7_turn_67 : decode cX7_turn 67 = .ok (.aload_n 0, 1) := by decide +kernel
theorem dX7_turn_68 : decode cX7_turn 68 = .ok (.getfield 18, 3) := by decide +kernel
theorem dX7_turn_71 : decode cX7_turn 71 = .ok (.getfield 74, 3) := by decide +kernel
theorem dX7_turn_74 : decode cX7_turn 74 = .ok (.if_icmp .gt 88, 3) := by decide +kernel
theorem dX7_turn_77 : decode cX7_turn 77 = .ok (.aload_n 0, 1) := by decide +kernel
theorem dX7_turn_78 : decode cX7_turn 78 = .ok (.getfield 18, 3) := by decide +kernel
theorem dX7_turn_81 : decode cX7_turn 81 = .ok (.iload_n 2, 1) := by decide +kernel
theorem dX7_turn_82 : decode cX7_turn 82 = .ok (.iload_n 3, 1) := by decide +kernel
theorem dX7_turn_83 : decode cX7_turn 83 = .ok (.invokevirtual 91, 3) := by decide +kernel
theorem dX7_turn_86 : decode cX7_turn 86 = .ok (.istore 4, 2) := by decide +kernel
theorem dX7_turn_88 : decode cX7_turn 88 = .ok (.iload_n 1, 1) := by decide +kernel
theorem dX7_turn_89 : decode cX7_turn 89 = .ok (.ifCond .ne 17, 3) := by decide +kernel
theorem dX7_turn_92 : decode cX7_turn 92 = .ok (.aload_n 0, 1) := by decide +kernel
theorem dX7_turn_93 : decode cX7_turn 93 = .ok (.getfield 14, 3) := by decide +kernel
theorem dX7_turn_96 : decode cX7_turn 96 = .ok (.iload_n 3, 1) := by decide +kernel
theorem dX7_turn_97 : decode cX7_turn 97 = .ok (.iload_n 2, 1) := by decide +kernel
theorem dX7_turn_98 : decode cX7_turn 98 = .ok (.iload 4, 2) := by decide +kernel
theorem dX7_turn_100 : decode cX7_turn 100 = .ok (.invokevirtual 95, 3) := by decide +kernel
theorem dX7_turn_103 : decode cX7_turn 103 = .ok (.goto 53, 3) := by decide +kernel
theorem dX7_turn_106 : decode cX7_turn 106 = .ok (.iload_n 1, 1) := by decide +kernel
theorem dX7_turn_107 : decode cX7_turn 107 = .ok (.iconst 1, 1) := by decide +kernel
theorem dX7_turn_108 : decode cX7_turn 108 = .ok (.if_icmp .ne 27, 3) := by decide +kernel
theorem dX7_turn_111 : decode cX7_turn 111 = .ok (.aload_n 0, 1) := by decide +kernel
theorem dX7_turn_112 : decode cX7_turn 112 = .ok (.getfield 14, 3) := by decide +kernel
theorem dX7_turn_115 : decode cX7_turn 115 = .ok (.aload_n 0, 1) := by decide +kernel
theorem dX7_turn_116 : decode cX7_turn 116 = .ok (.getfield 18, 3) := by decide +kernel
theorem dX7_turn_119 : decode cX7_turn 119 = .ok (.getfield 70, 3) := by decide +kernel
theorem dX7_turn_122 : decode cX7_turn 122 = .ok (.iconst 1, 1) := by decide +kernel
theorem dX7_turn_123 : decode cX7_turn 123 = .ok (.iadd, 1) := by decide +kernel
theorem dX7_turn_124 : decode cX7_turn 124 = .ok (.iload_n 2, 1) := by decide +kernel
theorem dX7_turn_125 : decode cX7_turn 125 = .ok (.isub, 1) := by decide +kernel
theorem dX7_turn_126 : decode cX7_turn 126 = .ok (.iload_n 3, 1) := by decide +kernel
theorem dX7_turn_127 : decode cX7_turn 127 = .ok (.iload 4, 2) := by decide +kernel
theorem dX7_turn_129 : decode cX7_turn 129 = .ok (.invokevirtual 95, 3) := by decide +kernel
theorem dX7_turn_132 : decode cX7_turn 132 = .ok (.goto 24, 3) := by decide +kernel
theorem dX7_turn_135 : decode cX7_turn 135 = .ok (.aload_n 0, 1) := by decide +kernel
theorem dX7_turn_136 : decode cX7_turn 136 = .ok (.getfield 14, 3) := by decide +kernel
theorem dX7_turn_139 : decode cX7_turn 139 = .ok (.iload_n 2, 1) := by decide +kernel
theorem dX7_turn_140 : decode cX7_turn 140 = .ok (.aload_n 0, 1) := by decide +kernel
theorem dX7_turn_141 : decode cX7_turn 141 = .ok (.getfield 18, 3) := by decide +kernel
theorem dX7_turn_144 : decode cX7_turn 144 = .ok (.getfield 74, 3) := by decide +kernel
theorem dX7_turn_147 : decode cX7_turn 147 = .ok (.iconst 1, 1) := by decide +kernel
theorem dX7_turn_148 : decode cX7_turn 148 = .ok (.iadd, 1) := by decide +kernel
theorem dX7_turn_149 : decode cX7_turn 149 = .ok (.iload_n 3, 1) := by decide +kernel
theorem dX7_turn_150 : decode cX7_turn 150 = .ok (.isub, 1) := by decide +kernel
theorem dX7_turn_151 : decode cX7_turn 151 = .ok (.iload 4, 2) := by decide +kernel
theorem dX7_turn_153 : decode cX7_turn 153 = .ok (.invokevirtual 95, 3) := by decide +kernel
theorem dX7_turn_156 : decode cX7_turn 156 = .ok (.iinc 3 1, 3) := by decide +kernel
theorem dX7_turn_159 : decode cX7_turn 159 = .ok (.goto (-93), 3) := by decide +kernel
theorem dX7_turn_162 : decode cX7_turn 162 = .ok (.iinc 2 1, 3) := by decide +kernel
theorem dX7_turn_165 : decode cX7_turn 165 = .ok (.goto (-112), 3) := by decide +kernel
theorem dX7_turn_168 : decode cX7_turn 168 = .ok (.aload_n 0, 1) := by decide +kernel
theorem dX7_turn_169 : decode cX7_turn 169 = .ok (.getfield 14, 3) := by decide +kernel
theorem dX7_turn_172 : decode cX7_turn 172 = .ok (.invokevirtual 112, 3) := by decide +kernel
theorem dX7_turn_175 : decode cX7_turn 175 = .ok (.ireturn, 1) := by decide +kernel
theorem dX7_part_0 : decode cX7_part 0 = .ok (.aload_n 0, 1) := by decide +kernel
theorem dX7_part_1 : decode cX7_part 1 = .ok (.getfield 14, 3) := by decide +kernel
theorem dX7_part_4 : decode cX7_part 4 = .ok (.iload_n 1, 1) := by decide +kernel
theorem dX7_part_5 : decode cX7_part 5 = .ok (.iload_n 2, 1) := by decide +kernel
theorem dX7_part_6 : decode cX7_part 6 = .ok (.invokevirtual 123, 3) := by decide +kernel
theorem dX7_part_9 : decode cX7_part 9 = .ok (.ifCond .eq 10, 3) := by decide +kernel
theorem dX7_part_12 : decode cX7_part 12 = .ok (.iload_n 3, 1) := by decide +kernel
theorem dX7_part_13 : decode cX7_part 13 = .ok (.invokestatic 126, 3) := by decide +kernel
theorem dX7_part_16 : decode cX7_part 16 = .ok (.ifCond .ne 5, 3) := by decide +kernel
theorem dX7_part_19 : decode cX7_part 19 = .ok (.iconst (-1), 1) := by decide +kernel
theorem dX7_part_20 : decode cX7_part 20 = .ok (.ireturn, 1) := by decide +kernel
theorem dX7_part_21 : decode cX7_part 21 = .ok (.aload_n 0, 1) := by decide +kernel
theorem dX7_part_22 : decode cX7_part 22 = .ok (.iload_n 1, 1) := by decide +kernel
theorem dX7_part_23 : decode cX7_part 23 = .ok (.iload_n 2, 1) := by decide +kernel
theorem dX7_part_24 : decode cX7_part 24 = .ok (.invokevirtual 129, 3) := by decide +kernel
theorem dX7_part_27 : decode cX7_part 27 = .ok (.iload_n 3, 1) := by decide +kernel
theorem dX7_part_28 : decode cX7_part 28 = .ok (.invokevirtual 133, 3) := by decide +kernel
theorem dX7_part_31 : decode cX7_part 31 = .ok (.ireturn, 1) := by decide +kernel
theorem dX7_shape_0 : decode cX7_shape 0 = .ok (.aload_n 0, 1) := by decide +kernel
theorem dX7_shape_1 : decode cX7_shape 1 = .ok (.getfield 14, 3) := by decide +kernel
theorem dX7_shape_4 : decode cX7_shape 4 = .ok (.iload_n 1, 1) := by decide +kernel
theorem dX7_shape_5 : decode cX7_shape 5 = .ok (.iload_n 2, 1) := by decide +kernel
theorem dX7_shape_6 : decode cX7_shape 6 = .ok (.invokevirtual 123, 3) := by decide +kernel
theorem dX7_shape_9 : decode cX7_shape 9 = .ok (.ifCond .eq 12, 3) := by decide +kernel
theorem dX7_shape_12 : decode cX7_shape 12 = .ok (.iload_n 3, 1) := by decide +kernel
theorem dX7_shape_13 : decode cX7_shape 13 = .ok (.ifCond .lt 8, 3) := by decide +kernel
theorem dX7_shape_16 : decode cX7_shape 16 = .ok (.iload_n 3, 1) := by decide +kernel
theorem dX7_shape_17 : decode cX7_shape 17 = .ok (.iconst 1, 1) := by decide +kernel
theorem dX7_shape_18 : decode cX7_shape 18 = .ok (.if_icmp .le 5, 3) := by decide +kernel
theorem dX7_shape_21 : decode cX7_shape 21 = .ok (.iconst (-1), 1) := by decide +kernel
theorem dX7_shape_22 : decode cX7_shape 22 = .ok (.ireturn, 1) := by decide +kernel
theorem dX7_shape_23 : decode cX7_shape 23 = .ok (.aload_n 0, 1) := by decide +kernel
theorem dX7_shape_24 : decode cX7_shape 24 = .ok (.iload_n 1, 1) := by decide +kernel
theorem dX7_shape_25 : decode cX7_shape 25 = .ok (.iload_n 2, 1) := by decide +kernel
theorem dX7_shape_26 : decode cX7_shape 26 = .ok (.invokevirtual 129, 3) := by decide +kernel
theorem dX7_shape_29 : decode cX7_shape 29 = .ok (.astore 4, 2) := by decide +kernel
theorem dX7_shape_31 : decode cX7_shape 31 = .ok (.iload_n 3, 1) := by decide +kernel
theorem dX7_shape_32 : decode cX7_shape 32 = .ok (.ifCond .ne 11, 3) := by decide +kernel
theorem dX7_shape_35 : decode cX7_shape 35 = .ok (.aload 4, 2) := by decide +kernel
theorem dX7_shape_37 : decode cX7_shape 37 = .ok (.getfield 139, 3) := by decide +kernel
theorem dX7_shape_40 : decode cX7_shape 40 = .ok (.goto 8, 3) := by decide +kernel
theorem dX7_shape_43 : decode cX7_shape 43 = .ok (.aload 4, 2) := by decide +kernel
theorem dX7_shape_45 : decode cX7_shape 45 = .ok (.getfield 142, 3) := by decide +kernel
theorem dX7_shape_48 : decode cX7_shape 48 = .ok (.ireturn, 1) := by decide +kernel
theorem dX7_turned_0 : decode cX7_turned 0 = .ok (.aload_n 0, 1) := by decide +kernel
theorem dX7_turned_1 : decode cX7_turned 1 = .ok (.getfield 14, 3) := by decide +kernel
theorem dX7_turned_4 : decode cX7_turned 4 = .ok (.iload_n 1, 1) := by decide +kernel
theorem dX7_turned_5 : decode cX7_turned 5 = .ok (.iload_n 2, 1) := by decide +kernel
theorem dX7_turned_6 : decode cX7_turned 6 = .ok (.invokevirtual 123, 3) := by decide +kernel
theorem dX7_turned_9 : decode cX7_turned 9 = .ok (.ifCond .eq 10, 3) := by decide +kernel
theorem dX7_turned_12 : decode cX7_turned 12 = .ok (.iload_n 3, 1) := by decide +kernel
theorem dX7_turned_13 : decode cX7_turned 13 = .ok (.invokestatic 126, 3) := by decide +kernel
theorem dX7_turned_16 : decode cX7_turned 16 = .ok (.ifCond .ne 5, 3) := by decide +kernel
theorem dX7_turned_19 : decode cX7_turned 19 = .ok (.iconst (-1), 1) := by decide +kernel
theorem dX7_turned_20 : decode cX7_turned 20 = .ok (.ireturn, 1) := by decide +kernel
theorem dX7_turned_21 : decode cX7_turned 21 = .ok (.aload_n 0, 1) := by decide +kernel
theorem dX7_turned_22 : decode cX7_turned 22 = .ok (.iload_n 1, 1) := by decide +kernel
theorem dX7_turned_23 : decode cX7_turned 23 = .ok (.iload_n 2, 1) := by decide +kernel
theorem dX7_turned_24 : decode cX7_turned 24 = .ok (.invokevirtual 129, 3) := by decide +kernel
theorem dX7_turned_27 : decode cX7_turned 27 = .ok (.iload_n 3, 1) := by decide +kernel
theorem dX7_turned_28 : decode cX7_turned 28 = .ok (.invokevirtual 145, 3) := by decide +kernel
theorem dX7_turned_31 : decode cX7_turned 31 = .ok (.ireturn, 1) := by decide +kernel
theorem dX7_standard_0 : decode cX7_standard 0 = .ok (.aload_n 0, 1) := by decide +kernel
theorem dX7_standard_1 : decode cX7_standard 1 = .ok (.getfield 14, 3) := by decide +kernel
theorem dX7_standard_4 : decode cX7_standard 4 = .ok (.iload_n 1, 1) := by decide +kernel
theorem dX7_standard_5 : decode cX7_standard 5 = .ok (.iload_n 2, 1) := by decide +kernel
theorem dX7_standard_6 : decode cX7_standard 6 = .ok (.invokevirtual 123, 3) := by decide +kernel
theorem dX7_standard_9 : decode cX7_standard 9 = .ok (.ifCond .ne 7, 3) := by decide +kernel
theorem dX7_standard_12 : decode cX7_standard 12 = .ok (.ldc2_w 148, 3) := by decide +kernel
theorem dX7_standard_15 : decode cX7_standard 15 = .ok (.lreturn, 1) := by decide +kernel
theorem dX7_standard_16 : decode cX7_standard 16 = .ok (.aload_n 0, 1) := by decide +kernel
theorem dX7_standard_17 : decode cX7_standard 17 = .ok (.iload_n 1, 1) := by decide +kernel
theorem dX7_standard_18 : decode cX7_standard 18 = .ok (.iload_n 2, 1) := by decide +kernel
theorem dX7_standard_19 : decode cX7_standard 19 = .ok (.invokevirtual 129, 3) := by decide +kernel
theorem dX7_standard_22 : decode cX7_standard 22 = .ok (.astore_n 3, 1) := by decide +kernel
theorem dX7_standard_23 : decode cX7_standard 23 = .ok (.aload_n 3, 1) := by decide +kernel
theorem dX7_standard_24 : decode cX7_standard 24 = .ok (.getfield 139, 3) := by decide +kernel
theorem dX7_standard_27 : decode cX7_standard 27 = .ok (.bipush 20, 2) := by decide +kernel
theorem dX7_standard_29 : decode cX7_standard 29 = .ok (.if_icmp .le 9, 3) := by decide +kernel
theorem dX7_standard_32 : decode cX7_standard 32 = .ok (.ldc2_w 148, 3) := by decide +kernel
theorem dX7_standard_35 : decode cX7_standard 35 = .ok (.goto 7, 3) := by decide +kernel
theorem dX7_standard_38 : decode cX7_standard 38 = .ok (.aload_n 3, 1) := by decide +kernel
theorem dX7_standard_39 : decode cX7_standard 39 = .ok (.invokevirtual 150, 3) := by decide +kernel
theorem dX7_standard_42 : decode cX7_standard 42 = .ok (.lreturn, 1) := by decide +kernel
theorem dX7_product_0 : decode cX7_product 0 = .ok (.aload_n 0, 1) := by decide +kernel
theorem dX7_product_1 : decode cX7_product 1 = .ok (.getfield 14, 3) := by decide +kernel
theorem dX7_product_4 : decode cX7_product 4 = .ok (.iload_n 1, 1) := by decide +kernel
theorem dX7_product_5 : decode cX7_product 5 = .ok (.iload_n 2, 1) := by decide +kernel
theorem dX7_product_6 : decode cX7_product 6 = .ok (.invokevirtual 123, 3) := by decide +kernel
theorem dX7_product_9 : decode cX7_product 9 = .ok (.ifCond .ne 5, 3) := by decide +kernel
theorem dX7_product_12 : decode cX7_product 12 = .ok (.iconst (-1), 1) := by decide +kernel
theorem dX7_product_13 : decode cX7_product 13 = .ok (.ireturn, 1) := by decide +kernel
theorem dX7_product_14 : decode cX7_product 14 = .ok (.aload_n 0, 1) := by decide +kernel
theorem dX7_product_15 : decode cX7_product 15 = .ok (.iload_n 1, 1) := by decide +kernel
theorem dX7_product_16 : decode cX7_product 16 = .ok (.iload_n 2, 1) := by decide +kernel
theorem dX7_product_17 : decode cX7_product 17 = .ok (.invokevirtual 129, 3) := by decide +kernel
theorem dX7_product_20 : decode cX7_product 20 = .ok (.invokevirtual 154, 3) := by decide +kernel
theorem dX7_product_23 : decode cX7_product 23 = .ok (.ireturn, 1) := by decide +kernel
theorem dX7_filling_0 : decode cX7_filling 0 = .ok (.iload_n 1, 1) := by decide +kernel
theorem dX7_filling_1 : decode cX7_filling 1 = .ok (.ifCond .lt 22, 3) := by decide +kernel
theorem dX7_filling_4 : decode cX7_filling 4 = .ok (.iload_n 1, 1) := by decide +kernel
theorem dX7_filling_5 : decode cX7_filling 5 = .ok (.iconst 1, 1) := by decide +kernel
theorem dX7_filling_6 : decode cX7_filling 6 = .ok (.if_icmp .gt 17, 3) := by decide +kernel
theorem dX7_filling_9 : decode cX7_filling 9 = .ok (.iload_n 2, 1) := by decide +kernel
theorem dX7_filling_10 : decode cX7_filling 10 = .ok (.invokestatic 126, 3) := by decide +kernel
theorem dX7_filling_13 : decode cX7_filling 13 = .ok (.ifCond .eq 10, 3) := by decide +kernel
theorem dX7_filling_16 : decode cX7_filling 16 = .ok (.iload_n 3, 1) := by decide +kernel
theorem dX7_filling_17 : decode cX7_filling 17 = .ok (.invokestatic 126, 3) := by decide +kernel
theorem dX7_filling_20 : decode cX7_filling 20 = .ok (.ifCond .ne 5, 3) := by decide +kernel
theorem dX7_filling_23 : decode cX7_filling 23 = .ok (.iconst (-1), 1) := by decide +kernel
theorem dX7_filling_24 : decode cX7_filling 24 = .ok (.ireturn, 1) := by decide +kernel
theorem dX7_filling_25 : decode cX7_filling 25 = .ok (.iload_n 1, 1) := by decide +kernel
theorem dX7_filling_26 : decode cX7_filling 26 = .ok (.ifCond .ne 13, 3) := by decide +kernel
theorem dX7_filling_29 : decode cX7_filling 29 = .ok (.aload_n 0, 1) := by decide +kernel
theorem dX7_filling_30 : decode cX7_filling 30 = .ok (.getfield 14, 3) := by decide +kernel
theorem dX7_filling_33 : decode cX7_filling 33 = .ok (.getfield 74, 3) := by decide +kernel
theorem dX7_filling_36 : decode cX7_filling 36 = .ok (.goto 10, 3) := by decide +kernel
theorem dX7_filling_39 : decode cX7_filling 39 = .ok (.aload_n 0, 1) := by decide +kernel
theorem dX7_filling_40 : decode cX7_filling 40 = .ok (.getfield 14, 3) := by decide +kernel
theorem dX7_filling_43 : decode cX7_filling 43 = .ok (.getfield 70, 3) := by decide +kernel
theorem dX7_filling_46 : decode cX7_filling 46 = .ok (.istore 4, 2) := by decide +kernel
theorem dX7_filling_48 : decode cX7_filling 48 = .ok (.iconst 0, 1) := by decide +kernel
theorem dX7_filling_49 : decode cX7_filling 49 = .ok (.istore 5, 2) := by decide +kernel
theorem dX7_filling_51 : decode cX7_filling 51 = .ok (.iload 5, 2) := by decide +kernel
theorem dX7_filling_53 : decode cX7_filling 53 = .ok (.iload 4, 2) := by decide +kernel
theorem dX7_filling_55 : decode cX7_filling 55 = .ok (.if_icmp .gt 57, 3) := by decide +kernel
theorem dX7_filling_58 : decode cX7_filling 58 = .ok (.iload_n 1, 1) := by decide +kernel
theorem dX7_filling_59 : decode cX7_filling 59 = .ok (.ifCond .ne 19, 3) := by decide +kernel
theorem dX7_filling_62 : decode cX7_filling 62 = .ok (.aload_n 0, 1) := by decide +kernel
theorem dX7_filling_63 : decode cX7_filling 63 = .ok (.aload_n 0, 1) := by decide +kernel
theorem dX7_filling_64 : decode cX7_filling 64 = .ok (.getfield 14, 3) := by decide +kernel
theorem dX7_filling_67 : decode cX7_filling 67 = .ok (.getfield 70, 3) := by decide +kernel
theorem dX7_filling_70 : decode cX7_filling 70 = .ok (.iload 5, 2) := by decide +kernel
theorem dX7_filling_72 : decode cX7_filling 72 = .ok (.invokevirtual 129, 3) := by decide +kernel
theorem dX7_filling_75 : decode cX7_filling 75 = .ok (.goto 16, 3) := by decide +kernel
theorem dX7_filling_78 : decode cX7_filling 78 = .ok (.aload_n 0, 1) := by decide +kernel
theorem dX7_filling_79 : decode cX7_filling 79 = .ok (.iload 5, 2) := by decide +kernel
theorem dX7_filling_81 : decode cX7_filling 81 = .ok (.aload_n 0, 1) := by decide +kernel
theorem dX7_filling_82 : decode cX7_filling 82 = .ok (.getfield 14, 3) := by decide +kernel
theorem dX7_filling_85 : decode cX7_filling 85 = .ok (.getfield 74, 3) := by decide +kernel
theorem dX7_filling_88 : decode cX7_filling 88 = .ok (.invokevirtual 129, 3) := by decide +kernel
theorem dX7_filling_91 : decode cX7_filling 91 = .ok (.astore 6, 2) := by decide +kernel
theorem dX7_filling_93 : decode cX7_filling 93 = .ok (.aload 6, 2) := by decide +kernel
theorem dX7_filling_95 : decode cX7_filling 95 = .ok (.iload_n 2, 1) := by decide +kernel
theorem dX7_filling_96 : decode cX7_filling 96 = .ok (.invokevirtual 133, 3) := by decide +kernel
theorem dX7_filling_99 : decode cX7_filling 99 = .ok (.iload_n 3, 1) := by decide +kernel
theorem dX7_filling_100 : decode cX7_filling 100 = .ok (.if_icmp .le 6, 3) := by decide +kernel
theorem dX7_filling_103 : decode cX7_filling 103 = .ok (.iload 5, 2) := by decide +kernel
theorem dX7_filling_105 : decode cX7_filling 105 = .ok (.ireturn, 1) := by decide +kernel
theorem dX7_filling_106 : decode cX7_filling 106 = .ok (.iinc 5 1, 3) := by decide +kernel
theorem dX7_filling_109 : decode cX7_filling 109 = .ok (.goto (-58), 3) := by decide +kernel
theorem dX7_filling_112 : decode cX7_filling 112 = .ok (.bipush (-2), 2) := by decide +kernel
theorem dX7_filling_114 : decode cX7_filling 114 = .ok (.ireturn, 1) := by decide +kernel
theorem dX7_along_0 : decode cX7_along 0 = .ok (.aload_n 0, 1) := by decide +kernel
theorem dX7_along_1 : decode cX7_along 1 = .ok (.getfield 14, 3) := by decide +kernel
theorem dX7_along_4 : decode cX7_along 4 = .ok (.getfield 70, 3) := by decide +kernel
theorem dX7_along_7 : decode cX7_along 7 = .ok (.aload_n 0, 1) := by decide +kernel
theorem dX7_along_8 : decode cX7_along 8 = .ok (.getfield 14, 3) := by decide +kernel
theorem dX7_along_11 : decode cX7_along 11 = .ok (.getfield 74, 3) := by decide +kernel
theorem dX7_along_14 : decode cX7_along 14 = .ok (.iadd, 1) := by decide +kernel
theorem dX7_along_15 : decode cX7_along 15 = .ok (.istore_n 3, 1) := by decide +kernel
theorem dX7_along_16 : decode cX7_along 16 = .ok (.iload_n 1, 1) := by decide +kernel
theorem dX7_along_17 : decode cX7_along 17 = .ok (.ifCond .lt 9, 3) := by decide +kernel
theorem dX7_along_20 : decode cX7_along 20 = .ok (.iload_n 1, 1) := by decide +kernel
theorem dX7_along_21 : decode cX7_along 21 = .ok (.iload_n 3, 1) := by decide +kernel
theorem dX7_along_22 : decode cX7_along 22 = .ok (.ishr, 1) := by decide +kernel
theorem dX7_along_23 : decode cX7_along 23 = .ok (.ifCond .eq 7, 3) := by decide +kernel
theorem dX7_along_26 : decode cX7_along 26 = .ok (.iconst 1, 1) := by decide +kernel
theorem dX7_along_27 : decode cX7_along 27 = .ok (.goto 4, 3) := by decide +kernel
theorem dX7_along_30 : decode cX7_along 30 = .ok (.iconst 0, 1) := by decide +kernel
theorem dX7_along_31 : decode cX7_along 31 = .ok (.istore 4, 2) := by decide +kernel
theorem dX7_along_33 : decode cX7_along 33 = .ok (.iload 4, 2) := by decide +kernel
theorem dX7_along_35 : decode cX7_along 35 = .ok (.ifCond .ne 26, 3) := by decide +kernel
theorem dX7_along_38 : decode cX7_along 38 = .ok (.iload_n 1, 1) := by decide +kernel
theorem dX7_along_39 : decode cX7_along 39 = .ok (.invokestatic 157, 3) := by decide +kernel
theorem dX7_along_42 : decode cX7_along 42 = .ok (.aload_n 0, 1) := by decide +kernel
theorem dX7_along_43 : decode cX7_along 43 = .ok (.getfield 14, 3) := by decide +kernel
theorem dX7_along_46 : decode cX7_along 46 = .ok (.getfield 74, 3) := by decide +kernel
theorem dX7_along_49 : decode cX7_along 49 = .ok (.if_icmp .ne 12, 3) := by decide +kernel
theorem dX7_along_52 : decode cX7_along 52 = .ok (.iload_n 2, 1) := by decide +kernel
theorem dX7_along_53 : decode cX7_along 53 = .ok (.ifCond .lt 8, 3) := by decide +kernel
theorem dX7_along_56 : decode cX7_along 56 = .ok (.iload_n 2, 1) := by decide +kernel
theorem dX7_along_57 : decode cX7_along 57 = .ok (.iload_n 3, 1) := by decide +kernel
theorem dX7_along_58 : decode cX7_along 58 = .ok (.if_icmp .le 5, 3) := by decide +kernel
theorem dX7_along_61 : decode cX7_along 61 = .ok (.iconst (-1), 1) := by decide +kernel
theorem dX7_along_62 : decode cX7_along 62 = .ok (.ireturn, 1) := by decide +kernel
theorem dX7_along_63 : decode cX7_along 63 = .ok (.iload_n 1, 1) := by decide +kernel
theorem dX7_along_64 : decode cX7_along 64 = .ok (.iconst 1, 1) := by decide +kernel
theorem dX7_along_65 : decode cX7_along 65 = .ok (.iload_n 2, 1) := by decide +kernel
theorem dX7_along_66 : decode cX7_along 66 = .ok (.ishl, 1) := by decide +kernel
theorem dX7_along_67 : decode cX7_along 67 = .ok (.iconst 1, 1) := by decide +kernel
theorem dX7_along_68 : decode cX7_along 68 = .ok (.isub, 1) := by decide +kernel
theorem dX7_along_69 : decode cX7_along 69 = .ok (.iand, 1) := by decide +kernel
theorem dX7_along_70 : decode cX7_along 70 = .ok (.invokestatic 157, 3) := by decide +kernel
theorem dX7_along_73 : decode cX7_along 73 = .ok (.istore 5, 2) := by decide +kernel
theorem dX7_along_75 : decode cX7_along 75 = .ok (.aload_n 0, 1) := by decide +kernel
theorem dX7_along_76 : decode cX7_along 76 = .ok (.iload_n 2, 1) := by decide +kernel
theorem dX7_along_77 : decode cX7_along 77 = .ok (.iload 5, 2) := by decide +kernel
theorem dX7_along_79 : decode cX7_along 79 = .ok (.isub, 1) := by decide +kernel
theorem dX7_along_80 : decode cX7_along 80 = .ok (.aload_n 0, 1) := by decide +kernel
theorem dX7_along_81 : decode cX7_along 81 = .ok (.getfield 14, 3) := by decide +kernel
theorem dX7_along_84 : decode cX7_along 84 = .ok (.getfield 74, 3) := by decide +kernel
theorem dX7_along_87 : decode cX7_along 87 = .ok (.iload 5, 2) := by decide +kernel
theorem dX7_along_89 : decode cX7_along 89 = .ok (.isub, 1) := by decide +kernel
theorem dX7_along_90 : decode cX7_along 90 = .ok (.invokevirtual 129, 3) := by decide +kernel
theorem dX7_along_93 : decode cX7_along 93 = .ok (.getfield 139, 3) := by decide +kernel
theorem dX7_along_96 : decode cX7_along 96 = .ok (.ireturn, 1) := by decide +kernel
theorem dX7_fits_0 : decode cX7_fits 0 = .ok (.iload_n 1, 1) := by decide +kernel
theorem dX7_fits_1 : decode cX7_fits 1 = .ok (.invokestatic 99, 3) := by decide +kernel
theorem dX7_fits_4 : decode cX7_fits 4 = .ok (.ifCond .ne 5, 3) := by decide +kernel
theorem dX7_fits_7 : decode cX7_fits 7 = .ok (.iconst (-1), 1) := by decide +kernel
theorem dX7_fits_8 : decode cX7_fits 8 = .ok (.ireturn, 1) := by decide +kernel
theorem dX7_fits_9 : decode cX7_fits 9 = .ok (.aload_n 0, 1) := by decide +kernel
theorem dX7_fits_10 : decode cX7_fits 10 = .ok (.invokevirtual 162, 3) := by decide +kernel
theorem dX7_fits_13 : decode cX7_fits 13 = .ok (.iload_n 1, 1) := by decide +kernel
theorem dX7_fits_14 : decode cX7_fits 14 = .ok (.invokevirtual 166, 3) := by decide +kernel
theorem dX7_fits_17 : decode cX7_fits 17 = .ok (.ifCond .eq 7, 3) := by decide +kernel
theorem dX7_fits_20 : decode cX7_fits 20 = .ok (.iconst 1, 1) := by decide +kernel
theorem dX7_fits_21 : decode cX7_fits 21 = .ok (.goto 4, 3) := by decide +kernel
theorem dX7_fits_24 : decode cX7_fits 24 = .ok (.iconst 0, 1) := by decide +kernel
theorem dX7_fits_25 : decode cX7_fits 25 = .ok (.ireturn, 1) := by decide +kernel
theorem dX7_back_0 : decode cX7_back 0 = .ok (.iload_n 1, 1) := by decide +kernel
theorem dX7_back_1 : decode cX7_back 1 = .ok (.invokestatic 99, 3) := by decide +kernel
theorem dX7_back_4 : decode cX7_back 4 = .ok (.ifCond .ne 5, 3) := by decide +kernel
theorem dX7_back_7 : decode cX7_back 7 = .ok (.iconst (-1), 1) := by decide +kernel
theorem dX7_back_8 : decode cX7_back 8 = .ok (.ireturn, 1) := by decide +kernel
theorem dX7_back_9 : decode cX7_back 9 = .ok (.aload_n 0, 1) := by decide +kernel
theorem dX7_back_10 : decode cX7_back 10 = .ok (.invokevirtual 162, 3) := by decide +kernel
theorem dX7_back_13 : decode cX7_back 13 = .ok (.iload_n 1, 1) := by decide +kernel
theorem dX7_back_14 : decode cX7_back 14 = .ok (.invokevirtual 166, 3) := by decide +kernel
theorem dX7_back_17 : decode cX7_back 17 = .ok (.ifCond .ne 6, 3) := by decide +kernel
theorem dX7_back_20 : decode cX7_back 20 = .ok (.bipush (-5), 2) := by decide +kernel
theorem dX7_back_22 : decode cX7_back 22 = .ok (.ireturn, 1) := by decide +kernel
theorem dX7_back_23 : decode cX7_back 23 = .ok (.aload_n 0, 1) := by decide +kernel
theorem dX7_back_24 : decode cX7_back 24 = .ok (.iconst 0, 1) := by decide +kernel
theorem dX7_back_25 : decode cX7_back 25 = .ok (.putfield 35, 3) := by decide +kernel
theorem dX7_back_28 : decode cX7_back 28 = .ok (.aload_n 0, 1) := by decide +kernel
theorem dX7_back_29 : decode cX7_back 29 = .ok (.getfield 18, 3) := by decide +kernel
theorem dX7_back_32 : decode cX7_back 32 = .ok (.aload_n 0, 1) := by decide +kernel
theorem dX7_back_33 : decode cX7_back 33 = .ok (.getfield 14, 3) := by decide +kernel
theorem dX7_back_36 : decode cX7_back 36 = .ok (.invokevirtual 119, 3) := by decide +kernel
theorem dX7_back_39 : decode cX7_back 39 = .ok (.aload_n 0, 1) := by decide +kernel
theorem dX7_back_40 : decode cX7_back 40 = .ok (.getfield 18, 3) := by decide +kernel
theorem dX7_back_43 : decode cX7_back 43 = .ok (.iload_n 1, 1) := by decide +kernel
theorem dX7_back_44 : decode cX7_back 44 = .ok (.putfield 102, 3) := by decide +kernel
theorem dX7_back_47 : decode cX7_back 47 = .ok (.aload_n 0, 1) := by decide +kernel
theorem dX7_back_48 : decode cX7_back 48 = .ok (.getfield 31, 3) := by decide +kernel
theorem dX7_back_51 : decode cX7_back 51 = .ok (.aload_n 0, 1) := by decide +kernel
theorem dX7_back_52 : decode cX7_back 52 = .ok (.getfield 18, 3) := by decide +kernel
theorem dX7_back_55 : decode cX7_back 55 = .ok (.invokevirtual 169, 3) := by decide +kernel
theorem dX7_back_58 : decode cX7_back 58 = .ok (.iconst 3, 1) := by decide +kernel
theorem dX7_back_59 : decode cX7_back 59 = .ok (.if_icmp .le 6, 3) := by decide +kernel
theorem dX7_back_62 : decode cX7_back 62 = .ok (.bipush (-5), 2) := by decide +kernel
theorem dX7_back_64 : decode cX7_back 64 = .ok (.ireturn, 1) := by decide +kernel
theorem dX7_back_65 : decode cX7_back 65 = .ok (.aload_n 0, 1) := by decide +kernel
theorem dX7_back_66 : decode cX7_back 66 = .ok (.getfield 14, 3) := by decide +kernel
theorem dX7_back_69 : decode cX7_back 69 = .ok (.aload_n 0, 1) := by decide +kernel
theorem dX7_back_70 : decode cX7_back 70 = .ok (.getfield 18, 3) := by decide +kernel
theorem dX7_back_73 : decode cX7_back 73 = .ok (.invokevirtual 173, 3) := by decide +kernel
theorem dX7_back_76 : decode cX7_back 76 = .ok (.istore_n 2, 1) := by decide +kernel
theorem dX7_back_77 : decode cX7_back 77 = .ok (.aload_n 0, 1) := by decide +kernel
theorem dX7_back_78 : decode cX7_back 78 = .ok (.invokevirtual 77, 3) := by decide +kernel
theorem dX7_back_81 : decode cX7_back 81 = .ok (.aload_n 0, 1) := by decide +kernel
theorem dX7_back_82 : decode cX7_back 82 = .ok (.getfield 14, 3) := by decide +kernel
theorem dX7_back_85 : decode cX7_back 85 = .ok (.aload_n 0, 1) := by decide +kernel
theorem dX7_back_86 : decode cX7_back 86 = .ok (.getfield 18, 3) := by decide +kernel
theorem dX7_back_89 : decode cX7_back 89 = .ok (.invokevirtual 119, 3) := by decide +kernel
theorem dX7_back_92 : decode cX7_back 92 = .ok (.iload_n 2, 1) := by decide +kernel
theorem dX7_back_93 : decode cX7_back 93 = .ok (.ireturn, 1) := by decide +kernel
theorem dX7_longest_0 : decode cX7_longest 0 = .ok (.iload_n 1, 1) := by decide +kernel
theorem dX7_longest_1 : decode cX7_longest 1 = .ok (.ifCond .lt 17, 3) := by decide +kernel
theorem dX7_longest_4 : decode cX7_longest 4 = .ok (.iload_n 1, 1) := by decide +kernel
theorem dX7_longest_5 : decode cX7_longest 5 = .ok (.iconst 4, 1) := by decide +kernel
theorem dX7_longest_6 : decode cX7_longest 6 = .ok (.if_icmp .ge 12, 3) := by decide +kernel
theorem dX7_longest_9 : decode cX7_longest 9 = .ok (.iload_n 2, 1) := by decide +kernel
theorem dX7_longest_10 : decode cX7_longest 10 = .ok (.ifCond .lt 8, 3) := by decide +kernel
theorem dX7_longest_13 : decode cX7_longest 13 = .ok (.iload_n 2, 1) := by decide +kernel
theorem dX7_longest_14 : decode cX7_longest 14 = .ok (.iconst 1, 1) := by decide +kernel
theorem dX7_longest_15 : decode cX7_longest 15 = .ok (.if_icmp .le 5, 3) := by decide +kernel
theorem dX7_longest_18 : decode cX7_longest 18 = .ok (.iconst (-1), 1) := by decide +kernel
theorem dX7_longest_19 : decode cX7_longest 19 = .ok (.ireturn, 1) := by decide +kernel
theorem dX7_longest_20 : decode cX7_longest 20 = .ok (.aload_n 0, 1) := by decide +kernel
theorem dX7_longest_21 : decode cX7_longest 21 = .ok (.getfield 41, 3) := by decide +kernel
theorem dX7_longest_24 : decode cX7_longest 24 = .ok (.aload_n 0, 1) := by decide +kernel
theorem dX7_longest_25 : decode cX7_longest 25 = .ok (.getfield 14, 3) := by decide +kernel
theorem dX7_longest_28 : decode cX7_longest 28 = .ok (.iload_n 1, 1) := by decide +kernel
theorem dX7_longest_29 : decode cX7_longest 29 = .ok (.iload_n 2, 1) := by decide +kernel
theorem dX7_longest_30 : decode cX7_longest 30 = .ok (.iconst 1, 1) := by decide +kernel
theorem dX7_longest_31 : decode cX7_longest 31 = .ok (.if_icmp .ne 7, 3) := by decide +kernel
theorem dX7_longest_34 : decode cX7_longest 34 = .ok (.iconst 1, 1) := by decide +kernel
theorem dX7_longest_35 : decode cX7_longest 35 = .ok (.goto 4, 3) := by decide +kernel
theorem dX7_longest_38 : decode cX7_longest 38 = .ok (.iconst 0, 1) := by decide +kernel
theorem dX7_longest_39 : decode cX7_longest 39 = .ok (.invokevirtual 176, 3) := by decide +kernel
theorem dX7_longest_42 : decode cX7_longest 42 = .ok (.ireturn, 1) := by decide +kernel
theorem dX7_union_0 : decode cX7_union 0 = .ok (.iload_n 1, 1) := by decide +kernel
theorem dX7_union_1 : decode cX7_union 1 = .ok (.iconst 1, 1) := by decide +kernel
theorem dX7_union_2 : decode cX7_union 2 = .ok (.if_icmp .lt 18, 3) := by decide +kernel
theorem dX7_union_5 : decode cX7_union 5 = .ok (.iload_n 1, 1) := by decide +kernel
theorem dX7_union_6 : decode cX7_union 6 = .ok (.iconst 5, 1) := by decide +kernel
theorem dX7_union_7 : decode cX7_union 7 = .ok (.if_icmp .gt 13, 3) := by decide +kernel
theorem dX7_union_10 : decode cX7_union 10 = .ok (.iload_n 2, 1) := by decide +kernel
theorem dX7_union_11 : decode cX7_union 11 = .ok (.iconst 1, 1) := by decide +kernel
theorem dX7_union_12 : decode cX7_union 12 = .ok (.if_icmp .eq 10, 3) := by decide +kernel
theorem dX7_union_15 : decode cX7_union 15 = .ok (.iload_n 2, 1) := by decide +kernel
theorem dX7_union_16 : decode cX7_union 16 = .ok (.iconst 3, 1) := by decide +kernel
theorem dX7_union_17 : decode cX7_union 17 = .ok (.if_icmp .eq 5, 3) := by decide +kernel
theorem dX7_union_20 : decode cX7_union 20 = .ok (.iconst (-1), 1) := by decide +kernel
theorem dX7_union_21 : decode cX7_union 21 = .ok (.ireturn, 1) := by decide +kernel
theorem dX7_union_22 : decode cX7_union 22 = .ok (.aload_n 0, 1) := by decide +kernel
theorem dX7_union_23 : decode cX7_union 23 = .ok (.getfield 14, 3) := by decide +kernel
theorem dX7_union_26 : decode cX7_union 26 = .ok (.invokevirtual 180, 3) := by decide +kernel
theorem dX7_union_29 : decode cX7_union 29 = .ok (.ifCond .ne 6, 3) := by decide +kernel
theorem dX7_union_32 : decode cX7_union 32 = .ok (.bipush (-5), 2) := by decide +kernel
theorem dX7_union_34 : decode cX7_union 34 = .ok (.ireturn, 1) := by decide +kernel
theorem dX7_union_35 : decode cX7_union 35 = .ok (.aload_n 0, 1) := by decide +kernel
theorem dX7_union_36 : decode cX7_union 36 = .ok (.aload_n 0, 1) := by decide +kernel
theorem dX7_union_37 : decode cX7_union 37 = .ok (.getfield 14, 3) := by decide +kernel
theorem dX7_union_40 : decode cX7_union 40 = .ok (.getfield 70, 3) := by decide +kernel
theorem dX7_union_43 : decode cX7_union 43 = .ok (.aload_n 0, 1) := by decide +kernel
theorem dX7_union_44 : decode cX7_union 44 = .ok (.getfield 14, 3) := by decide +kernel
theorem dX7_union_47 : decode cX7_union 47 = .ok (.getfield 74, 3) := by decide +kernel
theorem dX7_union_50 : decode cX7_union 50 = .ok (.invokevirtual 129, 3) := by decide +kernel
theorem dX7_union_53 : decode cX7_union 53 = .ok (.astore_n 3, 1) := by decide +kernel
theorem dX7_union_54 : decode cX7_union 54 = .ok (.iconst 0, 1) := by decide +kernel
theorem dX7_union_55 : decode cX7_union 55 = .ok (.istore 4, 2) := by decide +kernel
theorem dX7_union_57 : decode cX7_union 57 = .ok (.iconst 0, 1) := by decide +kernel
theorem dX7_union_58 : decode cX7_union 58 = .ok (.istore 5, 2) := by decide +kernel
theorem dX7_union_60 : decode cX7_union 60 = .ok (.iload 5, 2) := by decide +kernel
theorem dX7_union_62 : decode cX7_union 62 = .ok (.iload_n 1, 1) := by decide +kernel
theorem dX7_union_63 : decode cX7_union 63 = .ok (.if_icmp .ge 34, 3) := by decide +kernel
theorem dX7_union_66 : decode cX7_union 66 = .ok (.iload 4, 2) := by decide +kernel
theorem dX7_union_68 : decode cX7_union 68 = .ok (.iload_n 2, 1) := by decide +kernel
theorem dX7_union_69 : decode cX7_union 69 = .ok (.iconst 1, 1) := by decide +kernel
theorem dX7_union_70 : decode cX7_union 70 = .ok (.if_icmp .ne 12, 3) := by decide +kernel
theorem dX7_union_73 : decode cX7_union 73 = .ok (.aload_n 3, 1) := by decide +kernel
theorem dX7_union_74 : decode cX7_union 74 = .ok (.iload 5, 2) := by decide +kernel
theorem dX7_union_76 : decode cX7_union 76 = .ok (.invokevirtual 133, 3) := by decide +kernel
theorem dX7_union_79 : decode cX7_union 79 = .ok (.goto 9, 3) := by decide +kernel
theorem dX7_union_82 : decode cX7_union 82 = .ok (.aload_n 3, 1) := by decide +kernel
theorem dX7_union_83 : decode cX7_union 83 = .ok (.iload 5, 2) := by decide +kernel
theorem dX7_union_85 : decode cX7_union 85 = .ok (.invokevirtual 145, 3) := by decide +kernel
theorem dX7_union_88 : decode cX7_union 88 = .ok (.iadd, 1) := by decide +kernel
theorem dX7_union_89 : decode cX7_union 89 = .ok (.istore 4, 2) := by decide +kernel
theorem dX7_union_91 : decode cX7_union 91 = .ok (.iinc 5 1, 3) := by decide +kernel
theorem dX7_union_94 : decode cX7_union 94 = .ok (.goto (-34), 3) := by decide +kernel
theorem dX7_union_97 : decode cX7_union 97 = .ok (.iload 4, 2) := by decide +kernel
theorem dX7_union_99 : decode cX7_union 99 = .ok (.ireturn, 1) := by decide +kernel
theorem dX7_corner_0 : decode cX7_corner 0 = .ok (.iload_n 1, 1) := by decide +kernel
theorem dX7_corner_1 : decode cX7_corner 1 = .ok (.ifCond .ge 7, 3) := by decide +kernel
theorem dX7_corner_4 : decode cX7_corner 4 = .ok (.iconst (-1), 1) := by decide +kernel
theorem dX7_corner_5 : decode cX7_corner 5 = .ok (.goto 11, 3) := by decide +kernel
theorem dX7_corner_8 : decode cX7_corner 8 = .ok (.aload_n 0, 1) := by decide +kernel
theorem dX7_corner_9 : decode cX7_corner 9 = .ok (.invokevirtual 162, 3) := by decide +kernel
theorem dX7_corner_12 : decode cX7_corner 12 = .ok (.iload_n 1, 1) := by decide +kernel
theorem dX7_corner_13 : decode cX7_corner 13 = .ok (.invokevirtual 184, 3) := by decide +kernel
theorem dX7_corner_16 : decode cX7_corner 16 = .ok (.ireturn, 1) := by decide +kernel
theorem dX7_unlike_0 : decode cX7_unlike 0 = .ok (.iload_n 1, 1) := by decide +kernel
theorem dX7_unlike_1 : decode cX7_unlike 1 = .ok (.ifCond .lt 8, 3) := by decide +kernel
theorem dX7_unlike_4 : decode cX7_unlike 4 = .ok (.iload_n 1, 1) := by decide +kernel
theorem dX7_unlike_5 : decode cX7_unlike 5 = .ok (.iconst 1, 1) := by decide +kernel
theorem dX7_unlike_6 : decode cX7_unlike 6 = .ok (.if_icmp .le 5, 3) := by decide +kernel
theorem dX7_unlike_9 : decode cX7_unlike 9 = .ok (.iconst (-1), 1) := by decide +kernel
theorem dX7_unlike_10 : decode cX7_unlike 10 = .ok (.ireturn, 1) := by decide +kernel
theorem dX7_unlike_11 : decode cX7_unlike 11 = .ok (.iload_n 1, 1) := by decide +kernel
theorem dX7_unlike_12 : decode cX7_unlike 12 = .ok (.ifCond .ne 13, 3) := by decide +kernel
theorem dX7_unlike_15 : decode cX7_unlike 15 = .ok (.aload_n 0, 1) := by decide +kernel
theorem dX7_unlike_16 : decode cX7_unlike 16 = .ok (.invokevirtual 162, 3) := by decide +kernel
theorem dX7_unlike_19 : decode cX7_unlike 19 = .ok (.invokevirtual 187, 3) := by decide +kernel
theorem dX7_unlike_22 : decode cX7_unlike 22 = .ok (.goto 10, 3) := by decide +kernel
theorem dX7_unlike_25 : decode cX7_unlike 25 = .ok (.aload_n 0, 1) := by decide +kernel
theorem dX7_unlike_26 : decode cX7_unlike 26 = .ok (.invokevirtual 162, 3) := by decide +kernel
theorem dX7_unlike_29 : decode cX7_unlike 29 = .ok (.invokevirtual 190, 3) := by decide +kernel
theorem dX7_unlike_32 : decode cX7_unlike 32 = .ok (.ireturn, 1) := by decide +kernel
theorem dX7_undo_0 : decode cX7_undo 0 = .ok (.aload_n 0, 1) := by decide +kernel
theorem dX7_undo_1 : decode cX7_undo 1 = .ok (.getfield 48, 3) := by decide +kernel
theorem dX7_undo_4 : decode cX7_undo 4 = .ok (.invokevirtual 193, 3) := by decide +kernel
theorem dX7_undo_7 : decode cX7_undo 7 = .ok (.ifCond .ne 6, 3) := by decide +kernel
theorem dX7_undo_10 : decode cX7_undo 10 = .ok (.bipush (-5), 2) := by decide +kernel
theorem dX7_undo_12 : decode cX7_undo 12 = .ok (.ireturn, 1) := by decide +kernel
theorem dX7_undo_13 : decode cX7_undo 13 = .ok (.aload_n 0, 1) := by decide +kernel
theorem dX7_undo_14 : decode cX7_undo 14 = .ok (.getfield 48, 3) := by decide +kernel
theorem dX7_undo_17 : decode cX7_undo 17 = .ok (.aload_n 0, 1) := by decide +kernel
theorem dX7_undo_18 : decode cX7_undo 18 = .ok (.getfield 14, 3) := by decide +kernel
theorem dX7_undo_21 : decode cX7_undo 21 = .ok (.invokevirtual 196, 3) := by decide +kernel
theorem dX7_undo_24 : decode cX7_undo 24 = .ok (.aload_n 0, 1) := by decide +kernel
theorem dX7_undo_25 : decode cX7_undo 25 = .ok (.iconst 0, 1) := by decide +kernel
theorem dX7_undo_26 : decode cX7_undo 26 = .ok (.putfield 35, 3) := by decide +kernel
theorem dX7_undo_29 : decode cX7_undo 29 = .ok (.aload_n 0, 1) := by decide +kernel
theorem dX7_undo_30 : decode cX7_undo 30 = .ok (.getfield 48, 3) := by decide +kernel
theorem dX7_undo_33 : decode cX7_undo 33 = .ok (.invokevirtual 193, 3) := by decide +kernel
theorem dX7_undo_36 : decode cX7_undo 36 = .ok (.ireturn, 1) := by decide +kernel
theorem dX7_again_0 : decode cX7_again 0 = .ok (.aload_n 0, 1) := by decide +kernel
theorem dX7_again_1 : decode cX7_again 1 = .ok (.getfield 48, 3) := by decide +kernel
theorem dX7_again_4 : decode cX7_again 4 = .ok (.invokevirtual 199, 3) := by decide +kernel
theorem dX7_again_7 : decode cX7_again 7 = .ok (.ifCond .ne 6, 3) := by decide +kernel
theorem dX7_again_10 : decode cX7_again 10 = .ok (.bipush (-5), 2) := by decide +kernel
theorem dX7_again_12 : decode cX7_again 12 = .ok (.ireturn, 1) := by decide +kernel
theorem dX7_again_13 : decode cX7_again 13 = .ok (.aload_n 0, 1) := by decide +kernel
theorem dX7_again_14 : decode cX7_again 14 = .ok (.getfield 48, 3) := by decide +kernel
theorem dX7_again_17 : decode cX7_again 17 = .ok (.aload_n 0, 1) := by decide +kernel
theorem dX7_again_18 : decode cX7_again 18 = .ok (.getfield 14, 3) := by decide +kernel
theorem dX7_again_21 : decode cX7_again 21 = .ok (.invokevirtual 202, 3) := by decide +kernel
theorem dX7_again_24 : decode cX7_again 24 = .ok (.aload_n 0, 1) := by decide +kernel
theorem dX7_again_25 : decode cX7_again 25 = .ok (.iconst 0, 1) := by decide +kernel
theorem dX7_again_26 : decode cX7_again 26 = .ok (.putfield 35, 3) := by decide +kernel
theorem dX7_again_29 : decode cX7_again 29 = .ok (.aload_n 0, 1) := by decide +kernel
theorem dX7_again_30 : decode cX7_again 30 = .ok (.getfield 48, 3) := by decide +kernel
theorem dX7_again_33 : decode cX7_again 33 = .ok (.invokevirtual 199, 3) := by decide +kernel
theorem dX7_again_36 : decode cX7_again 36 = .ok (.ireturn, 1) := by decide +kernel
theorem dX7_feed_0 : decode cX7_feed 0 = .ok (.iload_n 2, 1) := by decide +kernel
theorem dX7_feed_1 : decode cX7_feed 1 = .ok (.iconst 1, 1) := by decide +kernel
theorem dX7_feed_2 : decode cX7_feed 2 = .ok (.if_icmp .lt 8, 3) := by decide +kernel
theorem dX7_feed_5 : decode cX7_feed 5 = .ok (.iload_n 2, 1) := by decide +kernel
theorem dX7_feed_6 : decode cX7_feed 6 = .ok (.iconst 4, 1) := by decide +kernel
theorem dX7_feed_7 : decode cX7_feed 7 = .ok (.if_icmp .le 5, 3) := by decide +kernel
theorem dX7_feed_10 : decode cX7_feed 10 = .ok (.iconst (-1), 1) := by decide +kernel
theorem dX7_feed_11 : decode cX7_feed 11 = .ok (.ireturn, 1) := by decide +kernel
theorem dX7_feed_12 : decode cX7_feed 12 = .ok (.aload_n 0, 1) := by decide +kernel
theorem dX7_feed_13 : decode cX7_feed 13 = .ok (.getfield 55, 3) := by decide +kernel
theorem dX7_feed_16 : decode cX7_feed 16 = .ok (.getfield 205, 3) := by decide +kernel
theorem dX7_feed_19 : decode cX7_feed 19 = .ok (.iload_n 2, 1) := by decide +kernel
theorem dX7_feed_20 : decode cX7_feed 20 = .ok (.iadd, 1) := by decide +kernel
theorem dX7_feed_21 : decode cX7_feed 21 = .ok (.bipush 60, 2) := by decide +kernel
theorem dX7_feed_23 : decode cX7_feed 23 = .ok (.if_icmp .le 6, 3) := by decide +kernel
theorem dX7_feed_26 : decode cX7_feed 26 = .ok (.bipush (-3), 2) := by decide +kernel
theorem dX7_feed_28 : decode cX7_feed 28 = .ok (.ireturn, 1) := by decide +kernel
theorem dX7_feed_29 : decode cX7_feed 29 = .ok (.iload_n 2, 1) := by decide +kernel
theorem dX7_feed_30 : decode cX7_feed 30 = .ok (.iconst 1, 1) := by decide +kernel
theorem dX7_feed_31 : decode cX7_feed 31 = .ok (.isub, 1) := by decide +kernel
theorem dX7_feed_32 : decode cX7_feed 32 = .ok (.istore_n 3, 1) := by decide +kernel
theorem dX7_feed_33 : decode cX7_feed 33 = .ok (.iload_n 3, 1) := by decide +kernel
theorem dX7_feed_34 : decode cX7_feed 34 = .ok (.ifCond .lt 26, 3) := by decide +kernel
theorem dX7_feed_37 : decode cX7_feed 37 = .ok (.aload_n 0, 1) := by decide +kernel
theorem dX7_feed_38 : decode cX7_feed 38 = .ok (.getfield 55, 3) := by decide +kernel
theorem dX7_feed_41 : decode cX7_feed 41 = .ok (.iload_n 1, 1) := by decide +kernel
theorem dX7_feed_42 : decode cX7_feed 42 = .ok (.bipush 8, 2) := by decide +kernel
theorem dX7_feed_44 : decode cX7_feed 44 = .ok (.iload_n 3, 1) := by decide +kernel
theorem dX7_feed_45 : decode cX7_feed 45 = .ok (.imul, 1) := by decide +kernel
theorem dX7_feed_46 : decode cX7_feed 46 = .ok (.iushr, 1) := by decide +kernel
theorem dX7_feed_47 : decode cX7_feed 47 = .ok (.sipush 255, 3) := by decide +kernel
theorem dX7_feed_50 : decode cX7_feed 50 = .ok (.iand, 1) := by decide +kernel
theorem dX7_feed_51 : decode cX7_feed 51 = .ok (.invokevirtual 206, 3) := by decide +kernel
theorem dX7_feed_54 : decode cX7_feed 54 = .ok (.iinc 3 (-1), 3) := by decide +kernel
theorem dX7_feed_57 : decode cX7_feed 57 = .ok (.goto (-24), 3) := by decide +kernel
theorem dX7_feed_60 : decode cX7_feed 60 = .ok (.aload_n 0, 1) := by decide +kernel
theorem dX7_feed_61 : decode cX7_feed 61 = .ok (.getfield 55, 3) := by decide +kernel
theorem dX7_feed_64 : decode cX7_feed 64 = .ok (.getfield 205, 3) := by decide +kernel
theorem dX7_feed_67 : decode cX7_feed 67 = .ok (.ireturn, 1) := by decide +kernel
theorem dX7_wipe_0 : decode cX7_wipe 0 = .ok (.aload_n 0, 1) := by decide +kernel
theorem dX7_wipe_1 : decode cX7_wipe 1 = .ok (.getfield 55, 3) := by decide +kernel
theorem dX7_wipe_4 : decode cX7_wipe 4 = .ok (.getfield 205, 3) := by decide +kernel
theorem dX7_wipe_7 : decode cX7_wipe 7 = .ok (.istore_n 1, 1) := by decide +kernel
theorem dX7_wipe_8 : decode cX7_wipe 8 = .ok (.aload_n 0, 1) := by decide +kernel
theorem dX7_wipe_9 : decode cX7_wipe 9 = .ok (.getfield 55, 3) := by decide +kernel
theorem dX7_wipe_12 : decode cX7_wipe 12 = .ok (.iconst 0, 1) := by decide +kernel
theorem dX7_wipe_13 : decode cX7_wipe 13 = .ok (.putfield 205, 3) := by decide +kernel
theorem dX7_wipe_16 : decode cX7_wipe 16 = .ok (.iload_n 1, 1) := by decide +kernel
theorem dX7_wipe_17 : decode cX7_wipe 17 = .ok (.ireturn, 1) := by decide +kernel
theorem dX7_read_0 : decode cX7_read 0 = .ok (.aload_n 0, 1) := by decide +kernel
theorem dX7_read_1 : decode cX7_read 1 = .ok (.getfield 55, 3) := by decide +kernel
theorem dX7_read_4 : decode cX7_read 4 = .ok (.invokevirtual 209, 3) := by decide +kernel
theorem dX7_read_7 : decode cX7_read 7 = .ok (.istore_n 1, 1) := by decide +kernel
theorem dX7_read_8 : decode cX7_read 8 = .ok (.iload_n 1, 1) := by decide +kernel
theorem dX7_read_9 : decode cX7_read 9 = .ok (.ifCond .ge 18, 3) := by decide +kernel
theorem dX7_read_12 : decode cX7_read 12 = .ok (.aload_n 0, 1) := by decide +kernel
theorem dX7_read_13 : decode cX7_read 13 = .ok (.invokevirtual 77, 3) := by decide +kernel
theorem dX7_read_16 : decode cX7_read 16 = .ok (.aload_n 0, 1) := by decide +kernel
theorem dX7_read_17 : decode cX7_read 17 = .ok (.getfield 55, 3) := by decide +kernel
theorem dX7_read_20 : decode cX7_read 20 = .ok (.aload_n 0, 1) := by decide +kernel
theorem dX7_read_21 : decode cX7_read 21 = .ok (.getfield 14, 3) := by decide +kernel
theorem dX7_read_24 : decode cX7_read 24 = .ok (.invokevirtual 212, 3) := by decide +kernel
theorem dX7_read_27 : decode cX7_read 27 = .ok (.aload_n 0, 1) := by decide +kernel
theorem dX7_read_28 : decode cX7_read 28 = .ok (.getfield 55, 3) := by decide +kernel
theorem dX7_read_31 : decode cX7_read 31 = .ok (.iconst 0, 1) := by decide +kernel
theorem dX7_read_32 : decode cX7_read 32 = .ok (.putfield 205, 3) := by decide +kernel
theorem dX7_read_35 : decode cX7_read 35 = .ok (.iload_n 1, 1) := by decide +kernel
theorem dX7_read_36 : decode cX7_read 36 = .ok (.ifCond .ge 13, 3) := by decide +kernel
theorem dX7_read_39 : decode cX7_read 39 = .ok (.aload_n 0, 1) := by decide +kernel
theorem dX7_read_40 : decode cX7_read 40 = .ok (.getfield 14, 3) := by decide +kernel
theorem dX7_read_43 : decode cX7_read 43 = .ok (.invokevirtual 112, 3) := by decide +kernel
theorem dX7_read_46 : decode cX7_read 46 = .ok (.goto 8, 3) := by decide +kernel
theorem dX7_read_49 : decode cX7_read 49 = .ok (.sipush (-1000), 3) := by decide +kernel
theorem dX7_read_52 : decode cX7_read 52 = .ok (.iload_n 1, 1) := by decide +kernel
theorem dX7_read_53 : decode cX7_read 53 = .ok (.isub, 1) := by decide +kernel
theorem dX7_read_54 : decode cX7_read 54 = .ok (.ireturn, 1) := by decide +kernel
theorem dX7_hold_0 : decode cX7_hold 0 = .ok (.iload_n 1, 1) := by decide +kernel
theorem dX7_hold_1 : decode cX7_hold 1 = .ok (.invokestatic 215, 3) := by decide +kernel
theorem dX7_hold_4 : decode cX7_hold 4 = .ok (.ifCond .eq 15, 3) := by decide +kernel
theorem dX7_hold_7 : decode cX7_hold 7 = .ok (.aload_n 0, 1) := by decide +kernel
theorem dX7_hold_8 : decode cX7_hold 8 = .ok (.getfield 14, 3) := by decide +kernel
theorem dX7_hold_11 : decode cX7_hold 11 = .ok (.iload_n 2, 1) := by decide +kernel
theorem dX7_hold_12 : decode cX7_hold 12 = .ok (.iload_n 3, 1) := by decide +kernel
theorem dX7_hold_13 : decode cX7_hold 13 = .ok (.invokevirtual 123, 3) := by decide +kernel
theorem dX7_hold_16 : decode cX7_hold 16 = .ok (.ifCond .ne 5, 3) := by decide +kernel
theorem dX7_hold_19 : decode cX7_hold 19 = .ok (.iconst (-1), 1) := by decide +kernel
theorem dX7_hold_20 : decode cX7_hold 20 = .ok (.ireturn, 1) := by decide +kernel
theorem dX7_hold_21 : decode cX7_hold 21 = .ok (.aload_n 0, 1) := by decide +kernel
theorem dX7_hold_22 : decode cX7_hold 22 = .ok (.iload_n 2, 1) := by decide +kernel
theorem dX7_hold_23 : decode cX7_hold 23 = .ok (.iload_n 3, 1) := by decide +kernel
theorem dX7_hold_24 : decode cX7_hold 24 = .ok (.invokevirtual 129, 3) := by decide +kernel
theorem dX7_hold_27 : decode cX7_hold 27 = .ok (.astore 4, 2) := by decide +kernel
theorem dX7_hold_29 : decode cX7_hold 29 = .ok (.aload_n 0, 1) := by decide +kernel
theorem dX7_hold_30 : decode cX7_hold 30 = .ok (.getfield 61, 3) := by decide +kernel
theorem dX7_hold_33 : decode cX7_hold 33 = .ok (.iload_n 1, 1) := by decide +kernel
theorem dX7_hold_34 : decode cX7_hold 34 = .ok (.aaload, 1) := by decide +kernel
theorem dX7_hold_35 : decode cX7_hold 35 = .ok (.aload 4, 2) := by decide +kernel
theorem dX7_hold_37 : decode cX7_hold 37 = .ok (.invokevirtual 218, 3) := by decide +kernel
theorem dX7_hold_40 : decode cX7_hold 40 = .ok (.aload 4, 2) := by decide +kernel
theorem dX7_hold_42 : decode cX7_hold 42 = .ok (.getfield 139, 3) := by decide +kernel
theorem dX7_hold_45 : decode cX7_hold 45 = .ok (.ireturn, 1) := by decide +kernel
theorem dX7_drop_0 : decode cX7_drop 0 = .ok (.iload_n 1, 1) := by decide +kernel
theorem dX7_drop_1 : decode cX7_drop 1 = .ok (.invokestatic 215, 3) := by decide +kernel
theorem dX7_drop_4 : decode cX7_drop 4 = .ok (.ifCond .ne 5, 3) := by decide +kernel
theorem dX7_drop_7 : decode cX7_drop 7 = .ok (.iconst (-1), 1) := by decide +kernel
theorem dX7_drop_8 : decode cX7_drop 8 = .ok (.ireturn, 1) := by decide +kernel
theorem dX7_drop_9 : decode cX7_drop 9 = .ok (.aload_n 0, 1) := by decide +kernel
theorem dX7_drop_10 : decode cX7_drop 10 = .ok (.getfield 61, 3) := by decide +kernel
theorem dX7_drop_13 : decode cX7_drop 13 = .ok (.iload_n 1, 1) := by decide +kernel
theorem dX7_drop_14 : decode cX7_drop 14 = .ok (.aaload, 1) := by decide +kernel
theorem dX7_drop_15 : decode cX7_drop 15 = .ok (.getfield 222, 3) := by decide +kernel
theorem dX7_drop_18 : decode cX7_drop 18 = .ok (.istore_n 2, 1) := by decide +kernel
theorem dX7_drop_19 : decode cX7_drop 19 = .ok (.aload_n 0, 1) := by decide +kernel
theorem dX7_drop_20 : decode cX7_drop 20 = .ok (.getfield 61, 3) := by decide +kernel
theorem dX7_drop_23 : decode cX7_drop 23 = .ok (.iload_n 1, 1) := by decide +kernel
theorem dX7_drop_24 : decode cX7_drop 24 = .ok (.aaload, 1) := by decide +kernel
theorem dX7_drop_25 : decode cX7_drop 25 = .ok (.iconst 0, 1) := by decide +kernel
theorem dX7_drop_26 : decode cX7_drop 26 = .ok (.putfield 222, 3) := by decide +kernel
theorem dX7_drop_29 : decode cX7_drop 29 = .ok (.iload_n 2, 1) := by decide +kernel
theorem dX7_drop_30 : decode cX7_drop 30 = .ok (.ireturn, 1) := by decide +kernel
theorem dX7_taken_0 : decode cX7_taken 0 = .ok (.iload_n 1, 1) := by decide +kernel
theorem dX7_taken_1 : decode cX7_taken 1 = .ok (.invokestatic 215, 3) := by decide +kernel
theorem dX7_taken_4 : decode cX7_taken 4 = .ok (.ifCond .eq 12, 3) := by decide +kernel
theorem dX7_taken_7 : decode cX7_taken 7 = .ok (.iload_n 2, 1) := by decide +kernel
theorem dX7_taken_8 : decode cX7_taken 8 = .ok (.ifCond .lt 8, 3) := by decide +kernel
theorem dX7_taken_11 : decode cX7_taken 11 = .ok (.iload_n 2, 1) := by decide +kernel
theorem dX7_taken_12 : decode cX7_taken 12 = .ok (.iconst 2, 1) := by decide +kernel
theorem dX7_taken_13 : decode cX7_taken 13 = .ok (.if_icmp .le 5, 3) := by decide +kernel
theorem dX7_taken_16 : decode cX7_taken 16 = .ok (.iconst (-1), 1) := by decide +kernel
theorem dX7_taken_17 : decode cX7_taken 17 = .ok (.ireturn, 1) := by decide +kernel
theorem dX7_taken_18 : decode cX7_taken 18 = .ok (.aload_n 0, 1) := by decide +kernel
theorem dX7_taken_19 : decode cX7_taken 19 = .ok (.getfield 61, 3) := by decide +kernel
theorem dX7_taken_22 : decode cX7_taken 22 = .ok (.iload_n 1, 1) := by decide +kernel
theorem dX7_taken_23 : decode cX7_taken 23 = .ok (.aaload, 1) := by decide +kernel
theorem dX7_taken_24 : decode cX7_taken 24 = .ok (.astore_n 3, 1) := by decide +kernel
theorem dX7_taken_25 : decode cX7_taken 25 = .ok (.aload_n 3, 1) := by decide +kernel
theorem dX7_taken_26 : decode cX7_taken 26 = .ok (.invokevirtual 225, 3) := by decide +kernel
theorem dX7_taken_29 : decode cX7_taken 29 = .ok (.ifCond .ne 8, 3) := by decide +kernel
theorem dX7_taken_32 : decode cX7_taken 32 = .ok (.aload_n 3, 1) := by decide +kernel
theorem dX7_taken_33 : decode cX7_taken 33 = .ok (.invokevirtual 228, 3) := by decide +kernel
theorem dX7_taken_36 : decode cX7_taken 36 = .ok (.ireturn, 1) := by decide +kernel
theorem dX7_taken_37 : decode cX7_taken 37 = .ok (.iload_n 2, 1) := by decide +kernel
theorem dX7_taken_38 : decode cX7_taken 38 = .ok (.ifCond .ne 11, 3) := by decide +kernel
theorem dX7_taken_41 : decode cX7_taken 41 = .ok (.aload_n 3, 1) := by decide +kernel
theorem dX7_taken_42 : decode cX7_taken 42 = .ok (.getfield 231, 3) := by decide +kernel
theorem dX7_taken_45 : decode cX7_taken 45 = .ok (.getfield 139, 3) := by decide +kernel
theorem dX7_taken_48 : decode cX7_taken 48 = .ok (.ireturn, 1) := by decide +kernel
theorem dX7_taken_49 : decode cX7_taken 49 = .ok (.aload_n 3, 1) := by decide +kernel
theorem dX7_taken_50 : decode cX7_taken 50 = .ok (.getfield 222, 3) := by decide +kernel
theorem dX7_taken_53 : decode cX7_taken 53 = .ok (.iload_n 2, 1) := by decide +kernel
theorem dX7_taken_54 : decode cX7_taken 54 = .ok (.if_icmp .eq 6, 3) := by decide +kernel
theorem dX7_taken_57 : decode cX7_taken 57 = .ok (.bipush (-12), 2) := by decide +kernel
theorem dX7_taken_59 : decode cX7_taken 59 = .ok (.ireturn, 1) := by decide +kernel
theorem dX7_taken_60 : decode cX7_taken 60 = .ok (.iload_n 2, 1) := by decide +kernel
theorem dX7_taken_61 : decode cX7_taken 61 = .ok (.iconst 1, 1) := by decide +kernel
theorem dX7_taken_62 : decode cX7_taken 62 = .ok (.if_icmp .ne 14, 3) := by decide +kernel
theorem dX7_taken_65 : decode cX7_taken 65 = .ok (.aload_n 3, 1) := by decide +kernel
theorem dX7_taken_66 : decode cX7_taken 66 = .ok (.getfield 231, 3) := by decide +kernel
theorem dX7_taken_69 : decode cX7_taken 69 = .ok (.iconst 0, 1) := by decide +kernel
theorem dX7_taken_70 : decode cX7_taken 70 = .ok (.invokevirtual 133, 3) := by decide +kernel
theorem dX7_taken_73 : decode cX7_taken 73 = .ok (.goto 10, 3) := by decide +kernel
theorem dX7_taken_76 : decode cX7_taken 76 = .ok (.aload_n 3, 1) := by decide +kernel
theorem dX7_taken_77 : decode cX7_taken 77 = .ok (.getfield 231, 3) := by decide +kernel
theorem dX7_taken_80 : decode cX7_taken 80 = .ok (.getfield 142, 3) := by decide +kernel
theorem dX7_taken_83 : decode cX7_taken 83 = .ok (.ireturn, 1) := by decide +kernel
theorem dX7_was_0 : decode cX7_was 0 = .ok (.iload_n 1, 1) := by decide +kernel
theorem dX7_was_1 : decode cX7_was 1 = .ok (.invokestatic 215, 3) := by decide +kernel
theorem dX7_was_4 : decode cX7_was 4 = .ok (.ifCond .eq 10, 3) := by decide +kernel
theorem dX7_was_7 : decode cX7_was 7 = .ok (.iload_n 2, 1) := by decide +kernel
theorem dX7_was_8 : decode cX7_was 8 = .ok (.invokestatic 126, 3) := by decide +kernel
theorem dX7_was_11 : decode cX7_was 11 = .ok (.ifCond .ne 5, 3) := by decide +kernel
theorem dX7_was_14 : decode cX7_was 14 = .ok (.iconst (-1), 1) := by decide +kernel
theorem dX7_was_15 : decode cX7_was 15 = .ok (.ireturn, 1) := by decide +kernel
theorem dX7_was_16 : decode cX7_was 16 = .ok (.aload_n 0, 1) := by decide +kernel
theorem dX7_was_17 : decode cX7_was 17 = .ok (.getfield 61, 3) := by decide +kernel
theorem dX7_was_20 : decode cX7_was 20 = .ok (.iload_n 1, 1) := by decide +kernel
theorem dX7_was_21 : decode cX7_was 21 = .ok (.aaload, 1) := by decide +kernel
theorem dX7_was_22 : decode cX7_was 22 = .ok (.astore_n 3, 1) := by decide +kernel
theorem dX7_was_23 : decode cX7_was 23 = .ok (.aload_n 3, 1) := by decide +kernel
theorem dX7_was_24 : decode cX7_was 24 = .ok (.invokevirtual 225, 3) := by decide +kernel
theorem dX7_was_27 : decode cX7_was 27 = .ok (.ifCond .eq 14, 3) := by decide +kernel
theorem dX7_was_30 : decode cX7_was 30 = .ok (.aload_n 3, 1) := by decide +kernel
theorem dX7_was_31 : decode cX7_was 31 = .ok (.getfield 231, 3) := by decide +kernel
theorem dX7_was_34 : decode cX7_was 34 = .ok (.iload_n 2, 1) := by decide +kernel
theorem dX7_was_35 : decode cX7_was 35 = .ok (.invokevirtual 133, 3) := by decide +kernel
theorem dX7_was_38 : decode cX7_was 38 = .ok (.goto 7, 3) := by decide +kernel
theorem dX7_was_41 : decode cX7_was 41 = .ok (.aload_n 3, 1) := by decide +kernel
theorem dX7_was_42 : decode cX7_was 42 = .ok (.invokevirtual 228, 3) := by decide +kernel
theorem dX7_was_45 : decode cX7_was 45 = .ok (.ireturn, 1) := by decide +kernel
theorem dX7_row_0 : decode cX7_row 0 = .ok (.iload_n 1, 1) := by decide +kernel
theorem dX7_row_1 : decode cX7_row 1 = .ok (.invokestatic 215, 3) := by decide +kernel
theorem dX7_row_4 : decode cX7_row 4 = .ok (.ifCond .eq 9, 3) := by decide +kernel
theorem dX7_row_7 : decode cX7_row 7 = .ok (.iload_n 2, 1) := by decide +kernel
theorem dX7_row_8 : decode cX7_row 8 = .ok (.bipush 30, 2) := by decide +kernel
theorem dX7_row_10 : decode cX7_row 10 = .ok (.if_icmp .le 5, 3) := by decide +kernel
theorem dX7_row_13 : decode cX7_row 13 = .ok (.iconst (-1), 1) := by decide +kernel
theorem dX7_row_14 : decode cX7_row 14 = .ok (.ireturn, 1) := by decide +kernel
theorem dX7_row_15 : decode cX7_row 15 = .ok (.iload_n 2, 1) := by decide +kernel
theorem dX7_row_16 : decode cX7_row 16 = .ok (.ifCond .ge 6, 3) := by decide +kernel
theorem dX7_row_19 : decode cX7_row 19 = .ok (.bipush (-14), 2) := by decide +kernel
theorem dX7_row_21 : decode cX7_row 21 = .ok (.ireturn, 1) := by decide +kernel
theorem dX7_row_22 : decode cX7_row 22 = .ok (.aload_n 0, 1) := by decide +kernel
theorem dX7_row_23 : decode cX7_row 23 = .ok (.getfield 61, 3) := by decide +kernel
theorem dX7_row_26 : decode cX7_row 26 = .ok (.iload_n 1, 1) := by decide +kernel
theorem dX7_row_27 : decode cX7_row 27 = .ok (.aaload, 1) := by decide +kernel
theorem dX7_row_28 : decode cX7_row 28 = .ok (.iload_n 2, 1) := by decide +kernel
theorem dX7_row_29 : decode cX7_row 29 = .ok (.invokevirtual 235, 3) := by decide +kernel
theorem dX7_row_32 : decode cX7_row 32 = .ok (.iload_n 2, 1) := by decide +kernel
theorem dX7_row_33 : decode cX7_row 33 = .ok (.ireturn, 1) := by decide +kernel
theorem dX7_set_0 : decode cX7_set 0 = .ok (.iload_n 1, 1) := by decide +kernel
theorem dX7_set_1 : decode cX7_set 1 = .ok (.invokestatic 215, 3) := by decide +kernel
theorem dX7_set_4 : decode cX7_set 4 = .ok (.ifCond .ne 5, 3) := by decide +kernel
theorem dX7_set_7 : decode cX7_set 7 = .ok (.iconst (-1), 1) := by decide +kernel
theorem dX7_set_8 : decode cX7_set 8 = .ok (.ireturn, 1) := by decide +kernel
theorem dX7_set_9 : decode cX7_set 9 = .ok (.aload_n 0, 1) := by decide +kernel
theorem dX7_set_10 : decode cX7_set 10 = .ok (.getfield 61, 3) := by decide +kernel
theorem dX7_set_13 : decode cX7_set 13 = .ok (.iload_n 1, 1) := by decide +kernel
theorem dX7_set_14 : decode cX7_set 14 = .ok (.aaload, 1) := by decide +kernel
theorem dX7_set_15 : decode cX7_set 15 = .ok (.astore 4, 2) := by decide +kernel
theorem dX7_set_17 : decode cX7_set 17 = .ok (.aload 4, 2) := by decide +kernel
theorem dX7_set_19 : decode cX7_set 19 = .ok (.invokevirtual 238, 3) := by decide +kernel
theorem dX7_set_22 : decode cX7_set 22 = .ok (.ifCond .ne 9, 3) := by decide +kernel
theorem dX7_set_25 : decode cX7_set 25 = .ok (.aload 4, 2) := by decide +kernel
theorem dX7_set_27 : decode cX7_set 27 = .ok (.invokevirtual 228, 3) := by decide +kernel
theorem dX7_set_30 : decode cX7_set 30 = .ok (.ireturn, 1) := by decide +kernel
theorem dX7_set_31 : decode cX7_set 31 = .ok (.aload 4, 2) := by decide +kernel
theorem dX7_set_33 : decode cX7_set 33 = .ok (.iload_n 2, 1) := by decide +kernel
theorem dX7_set_34 : decode cX7_set 34 = .ok (.invokevirtual 241, 3) := by decide +kernel
theorem dX7_set_37 : decode cX7_set 37 = .ok (.ifCond .ne 6, 3) := by decide +kernel
theorem dX7_set_40 : decode cX7_set 40 = .ok (.bipush (-13), 2) := by decide +kernel
theorem dX7_set_42 : decode cX7_set 42 = .ok (.ireturn, 1) := by decide +kernel
theorem dX7_set_43 : decode cX7_set 43 = .ok (.aload 4, 2) := by decide +kernel
theorem dX7_set_45 : decode cX7_set 45 = .ok (.getfield 244, 3) := by decide +kernel
theorem dX7_set_48 : decode cX7_set 48 = .ok (.iload_n 2, 1) := by decide +kernel
theorem dX7_set_49 : decode cX7_set 49 = .ok (.iload_n 3, 1) := by decide +kernel
theorem dX7_set_50 : decode cX7_set 50 = .ok (.iastore, 1) := by decide +kernel
theorem dX7_set_51 : decode cX7_set 51 = .ok (.iconst 1, 1) := by decide +kernel
theorem dX7_set_52 : decode cX7_set 52 = .ok (.ireturn, 1) := by decide +kernel
theorem dX7_get_0 : decode cX7_get 0 = .ok (.iload_n 1, 1) := by decide +kernel
theorem dX7_get_1 : decode cX7_get 1 = .ok (.invokestatic 215, 3) := by decide +kernel
theorem dX7_get_4 : decode cX7_get 4 = .ok (.ifCond .eq 28, 3) := by decide +kernel
theorem dX7_get_7 : decode cX7_get 7 = .ok (.aload_n 0, 1) := by decide +kernel
theorem dX7_get_8 : decode cX7_get 8 = .ok (.getfield 61, 3) := by decide +kernel
theorem dX7_get_11 : decode cX7_get 11 = .ok (.iload_n 1, 1) := by decide +kernel
theorem dX7_get_12 : decode cX7_get 12 = .ok (.aaload, 1) := by decide +kernel
theorem dX7_get_13 : decode cX7_get 13 = .ok (.invokevirtual 238, 3) := by decide +kernel
theorem dX7_get_16 : decode cX7_get 16 = .ok (.ifCond .eq 16, 3) := by decide +kernel
theorem dX7_get_19 : decode cX7_get 19 = .ok (.aload_n 0, 1) := by decide +kernel
theorem dX7_get_20 : decode cX7_get 20 = .ok (.getfield 61, 3) := by decide +kernel
theorem dX7_get_23 : decode cX7_get 23 = .ok (.iload_n 1, 1) := by decide +kernel
theorem dX7_get_24 : decode cX7_get 24 = .ok (.aaload, 1) := by decide +kernel
theorem dX7_get_25 : decode cX7_get 25 = .ok (.iload_n 2, 1) := by decide +kernel
theorem dX7_get_26 : decode cX7_get 26 = .ok (.invokevirtual 241, 3) := by decide +kernel
theorem dX7_get_29 : decode cX7_get 29 = .ok (.ifCond .ne 7, 3) := by decide +kernel
theorem dX7_get_32 : decode cX7_get 32 = .ok (.ldc2_w 148, 3) := by decide +kernel
theorem dX7_get_35 : decode cX7_get 35 = .ok (.lreturn, 1) := by decide +kernel
theorem dX7_get_36 : decode cX7_get 36 = .ok (.aload_n 0, 1) := by decide +kernel
theorem dX7_get_37 : decode cX7_get 37 = .ok (.getfield 61, 3) := by decide +kernel
theorem dX7_get_40 : decode cX7_get 40 = .ok (.iload_n 1, 1) := by decide +kernel
theorem dX7_get_41 : decode cX7_get 41 = .ok (.aaload, 1) := by decide +kernel
theorem dX7_get_42 : decode cX7_get 42 = .ok (.getfield 244, 3) := by decide +kernel
theorem dX7_get_45 : decode cX7_get 45 = .ok (.iload_n 2, 1) := by decide +kernel
theorem dX7_get_46 : decode cX7_get 46 = .ok (.iaload, 1) := by decide +kernel
theorem dX7_get_47 : decode cX7_get 47 = .ok (.i2l, 1) := by decide +kernel
theorem dX7_get_48 : decode cX7_get 48 = .ok (.lreturn, 1) := by decide +kernel
theorem dX7_judge_0 : decode cX7_judge 0 = .ok (.iload_n 1, 1) := by decide +kernel
theorem dX7_judge_1 : decode cX7_judge 1 = .ok (.invokestatic 215, 3) := by decide +kernel
theorem dX7_judge_4 : decode cX7_judge 4 = .ok (.ifCond .eq 15, 3) := by decide +kernel
theorem dX7_judge_7 : decode cX7_judge 7 = .ok (.aload_n 0, 1) := by decide +kernel
theorem dX7_judge_8 : decode cX7_judge 8 = .ok (.getfield 14, 3) := by decide +kernel
theorem dX7_judge_11 : decode cX7_judge 11 = .ok (.iload_n 2, 1) := by decide +kernel
theorem dX7_judge_12 : decode cX7_judge 12 = .ok (.iload_n 3, 1) := by decide +kernel
theorem dX7_judge_13 : decode cX7_judge 13 = .ok (.invokevirtual 123, 3) := by decide +kernel
theorem dX7_judge_16 : decode cX7_judge 16 = .ok (.ifCond .ne 5, 3) := by decide +kernel
theorem dX7_judge_19 : decode cX7_judge 19 = .ok (.iconst (-1), 1) := by decide +kernel
theorem dX7_judge_20 : decode cX7_judge 20 = .ok (.ireturn, 1) := by decide +kernel
theorem dX7_judge_21 : decode cX7_judge 21 = .ok (.aload_n 0, 1) := by decide +kernel
theorem dX7_judge_22 : decode cX7_judge 22 = .ok (.getfield 61, 3) := by decide +kernel
theorem dX7_judge_25 : decode cX7_judge 25 = .ok (.iload_n 1, 1) := by decide +kernel
theorem dX7_judge_26 : decode cX7_judge 26 = .ok (.aaload, 1) := by decide +kernel
theorem dX7_judge_27 : decode cX7_judge 27 = .ok (.astore 4, 2) := by decide +kernel
theorem dX7_judge_29 : decode cX7_judge 29 = .ok (.aload 4, 2) := by decide +kernel
theorem dX7_judge_31 : decode cX7_judge 31 = .ok (.invokevirtual 238, 3) := by decide +kernel
theorem dX7_judge_34 : decode cX7_judge 34 = .ok (.ifCond .eq 17, 3) := by decide +kernel
theorem dX7_judge_37 : decode cX7_judge 37 = .ok (.aload 4, 2) := by decide +kernel
theorem dX7_judge_39 : decode cX7_judge 39 = .ok (.aload_n 0, 1) := by decide +kernel
theorem dX7_judge_40 : decode cX7_judge 40 = .ok (.iload_n 2, 1) := by decide +kernel
theorem dX7_judge_41 : decode cX7_judge 41 = .ok (.iload_n 3, 1) := by decide +kernel
theorem dX7_judge_42 : decode cX7_judge 42 = .ok (.invokevirtual 129, 3) := by decide +kernel
theorem dX7_judge_45 : decode cX7_judge 45 = .ok (.invokevirtual 248, 3) := by decide +kernel
theorem dX7_judge_48 : decode cX7_judge 48 = .ok (.goto 8, 3) := by decide +kernel
theorem dX7_judge_51 : decode cX7_judge 51 = .ok (.aload 4, 2) := by decide +kernel
theorem dX7_judge_53 : decode cX7_judge 53 = .ok (.invokevirtual 228, 3) := by decide +kernel
theorem dX7_judge_56 : decode cX7_judge 56 = .ok (.ireturn, 1) := by decide +kernel
theorem dX7_image_0 : decode cX7_image 0 = .ok (.aload_n 0, 1) := by decide +kernel
theorem dX7_image_1 : decode cX7_image 1 = .ok (.getfield 21, 3) := by decide +kernel
theorem dX7_image_4 : decode cX7_image 4 = .ok (.aload_n 0, 1) := by decide +kernel
theorem dX7_image_5 : decode cX7_image 5 = .ok (.getfield 14, 3) := by decide +kernel
theorem dX7_image_8 : decode cX7_image 8 = .ok (.invokevirtual 119, 3) := by decide +kernel
theorem dX7_image_11 : decode cX7_image 11 = .ok (.aload_n 0, 1) := by decide +kernel
theorem dX7_image_12 : decode cX7_image 12 = .ok (.iconst 1, 1) := by decide +kernel
theorem dX7_image_13 : decode cX7_image 13 = .ok (.putfield 24, 3) := by decide +kernel
theorem dX7_image_16 : decode cX7_image 16 = .ok (.aload_n 0, 1) := by decide +kernel
theorem dX7_image_17 : decode cX7_image 17 = .ok (.getfield 21, 3) := by decide +kernel
theorem dX7_image_20 : decode cX7_image 20 = .ok (.invokevirtual 112, 3) := by decide +kernel
theorem dX7_image_23 : decode cX7_image 23 = .ok (.ireturn, 1) := by decide +kernel
theorem dX7_restore_0 : decode cX7_restore 0 = .ok (.aload_n 0, 1) := by decide +kernel
theorem dX7_restore_1 : decode cX7_restore 1 = .ok (.getfield 24, 3) := by decide +kernel
theorem dX7_restore_4 : decode cX7_restore 4 = .ok (.ifCond .ne 6, 3) := by decide +kernel
theorem dX7_restore_7 : decode cX7_restore 7 = .ok (.bipush (-5), 2) := by decide +kernel
theorem dX7_restore_9 : decode cX7_restore 9 = .ok (.ireturn, 1) := by decide +kernel
theorem dX7_restore_10 : decode cX7_restore 10 = .ok (.aload_n 0, 1) := by decide +kernel
theorem dX7_restore_11 : decode cX7_restore 11 = .ok (.getfield 14, 3) := by decide +kernel
theorem dX7_restore_14 : decode cX7_restore 14 = .ok (.aload_n 0, 1) := by decide +kernel
theorem dX7_restore_15 : decode cX7_restore 15 = .ok (.getfield 21, 3) := by decide +kernel
theorem dX7_restore_18 : decode cX7_restore 18 = .ok (.invokevirtual 119, 3) := by decide +kernel
theorem dX7_restore_21 : decode cX7_restore 21 = .ok (.aload_n 0, 1) := by decide +kernel
theorem dX7_restore_22 : decode cX7_restore 22 = .ok (.iconst 0, 1) := by decide +kernel
theorem dX7_restore_23 : decode cX7_restore 23 = .ok (.putfield 35, 3) := by decide +kernel
theorem dX7_restore_26 : decode cX7_restore 26 = .ok (.aload_n 0, 1) := by decide +kernel
theorem dX7_restore_27 : decode cX7_restore 27 = .ok (.getfield 48, 3) := by decide +kernel
theorem dX7_restore_30 : decode cX7_restore 30 = .ok (.invokevirtual 252, 3) := by decide +kernel
theorem dX7_restore_33 : decode cX7_restore 33 = .ok (.aload_n 0, 1) := by decide +kernel
theorem dX7_restore_34 : decode cX7_restore 34 = .ok (.getfield 14, 3) := by decide +kernel
theorem dX7_restore_37 : decode cX7_restore 37 = .ok (.invokevirtual 112, 3) := by decide +kernel
theorem dX7_restore_40 : decode cX7_restore 40 = .ok (.ireturn, 1) := by decide +kernel
theorem dX7_count_0 : decode cX7_count 0 = .ok (.iload_n 1, 1) := by decide +kernel
theorem dX7_count_1 : decode cX7_count 1 = .ok (.tableswitch 99 0 6 #[43, 51, 59, 67, 75, 83, 91], 43) := by decide +kernel
theorem dX7_count_44 : decode cX7_count 44 = .ok (.aload_n 0, 1) := by decide +kernel
theorem dX7_count_45 : decode cX7_count 45 = .ok (.getfield 14, 3) := by decide +kernel
theorem dX7_count_48 : decode cX7_count 48 = .ok (.getfield 70, 3) := by decide +kernel
theorem dX7_count_51 : decode cX7_count 51 = .ok (.ireturn, 1) := by decide +kernel
theorem dX7_count_52 : decode cX7_count 52 = .ok (.aload_n 0, 1) := by decide +kernel
theorem dX7_count_53 : decode cX7_count 53 = .ok (.getfield 14, 3) := by decide +kernel
theorem dX7_count_56 : decode cX7_count 56 = .ok (.getfield 74, 3) := by decide +kernel
theorem dX7_count_59 : decode cX7_count 59 = .ok (.ireturn, 1) := by decide +kernel
theorem dX7_count_60 : decode cX7_count 60 = .ok (.aload_n 0, 1) := by decide +kernel
theorem dX7_count_61 : decode cX7_count 61 = .ok (.getfield 14, 3) := by decide +kernel
theorem dX7_count_64 : decode cX7_count 64 = .ok (.getfield 102, 3) := by decide +kernel
theorem dX7_count_67 : decode cX7_count 67 = .ok (.ireturn, 1) := by decide +kernel
theorem dX7_count_68 : decode cX7_count 68 = .ok (.aload_n 0, 1) := by decide +kernel
theorem dX7_count_69 : decode cX7_count 69 = .ok (.getfield 48, 3) := by decide +kernel
theorem dX7_count_72 : decode cX7_count 72 = .ok (.invokevirtual 193, 3) := by decide +kernel
theorem dX7_count_75 : decode cX7_count 75 = .ok (.ireturn, 1) := by decide +kernel
theorem dX7_count_76 : decode cX7_count 76 = .ok (.aload_n 0, 1) := by decide +kernel
theorem dX7_count_77 : decode cX7_count 77 = .ok (.getfield 48, 3) := by decide +kernel
theorem dX7_count_80 : decode cX7_count 80 = .ok (.invokevirtual 199, 3) := by decide +kernel
theorem dX7_count_83 : decode cX7_count 83 = .ok (.ireturn, 1) := by decide +kernel
theorem dX7_count_84 : decode cX7_count 84 = .ok (.aload_n 0, 1) := by decide +kernel
theorem dX7_count_85 : decode cX7_count 85 = .ok (.getfield 55, 3) := by decide +kernel
theorem dX7_count_88 : decode cX7_count 88 = .ok (.getfield 205, 3) := by decide +kernel
theorem dX7_count_91 : decode cX7_count 91 = .ok (.ireturn, 1) := by decide +kernel
theorem dX7_count_92 : decode cX7_count 92 = .ok (.aload_n 0, 1) := by decide +kernel
theorem dX7_count_93 : decode cX7_count 93 = .ok (.getfield 14, 3) := by decide +kernel
theorem dX7_count_96 : decode cX7_count 96 = .ok (.invokevirtual 255, 3) := by decide +kernel
theorem dX7_count_99 : decode cX7_count 99 = .ok (.ireturn, 1) := by decide +kernel
theorem dX7_count_100 : decode cX7_count 100 = .ok (.iconst (-1), 1) := by decide +kernel
theorem dX7_count_101 : decode cX7_count 101 = .ok (.ireturn, 1) := by decide +kernel
theorem dX7_isSide_0 : decode cX7_isSide 0 = .ok (.iload_n 0, 1) := by decide +kernel
theorem dX7_isSide_1 : decode cX7_isSide 1 = .ok (.iconst 1, 1) := by decide +kernel
theorem dX7_isSide_2 : decode cX7_isSide 2 = .ok (.if_icmp .lt 12, 3) := by decide +kernel
theorem dX7_isSide_5 : decode cX7_isSide 5 = .ok (.iload_n 0, 1) := by decide +kernel
theorem dX7_isSide_6 : decode cX7_isSide 6 = .ok (.iconst 5, 1) := by decide +kernel
theorem dX7_isSide_7 : decode cX7_isSide 7 = .ok (.if_icmp .gt 7, 3) := by decide +kernel
theorem dX7_isSide_10 : decode cX7_isSide 10 = .ok (.iconst 1, 1) := by decide +kernel
theorem dX7_isSide_11 : decode cX7_isSide 11 = .ok (.goto 4, 3) := by decide +kernel
theorem dX7_isSide_14 : decode cX7_isSide 14 = .ok (.iconst 0, 1) := by decide +kernel
theorem dX7_isSide_15 : decode cX7_isSide 15 = .ok (.ireturn, 1) := by decide +kernel
theorem dX7_isNumber_0 : decode cX7_isNumber 0 = .ok (.iload_n 0, 1) := by decide +kernel
theorem dX7_isNumber_1 : decode cX7_isNumber 1 = .ok (.ifCond .lt 12, 3) := by decide +kernel
theorem dX7_isNumber_4 : decode cX7_isNumber 4 = .ok (.iload_n 0, 1) := by decide +kernel
theorem dX7_isNumber_5 : decode cX7_isNumber 5 = .ok (.iconst 3, 1) := by decide +kernel
theorem dX7_isNumber_6 : decode cX7_isNumber 6 = .ok (.if_icmp .gt 7, 3) := by decide +kernel
theorem dX7_isNumber_9 : decode cX7_isNumber 9 = .ok (.iconst 1, 1) := by decide +kernel
theorem dX7_isNumber_10 : decode cX7_isNumber 10 = .ok (.goto 4, 3) := by decide +kernel
theorem dX7_isNumber_13 : decode cX7_isNumber 13 = .ok (.iconst 0, 1) := by decide +kernel
theorem dX7_isNumber_14 : decode cX7_isNumber 14 = .ok (.ireturn, 1) := by decide +kernel
theorem dX7_isRule_0 : decode cX7_isRule 0 = .ok (.iload_n 0, 1) := by decide +kernel
theorem dX7_isRule_1 : decode cX7_isRule 1 = .ok (.ifCond .lt 12, 3) := by decide +kernel
theorem dX7_isRule_4 : decode cX7_isRule 4 = .ok (.iload_n 0, 1) := by decide +kernel
theorem dX7_isRule_5 : decode cX7_isRule 5 = .ok (.iconst 4, 1) := by decide +kernel
theorem dX7_isRule_6 : decode cX7_isRule 6 = .ok (.if_icmp .ge 7, 3) := by decide +kernel
theorem dX7_isRule_9 : decode cX7_isRule 9 = .ok (.iconst 1, 1) := by decide +kernel
theorem dX7_isRule_10 : decode cX7_isRule 10 = .ok (.goto 4, 3) := by decide +kernel
theorem dX7_isRule_13 : decode cX7_isRule 13 = .ok (.iconst 0, 1) := by decide +kernel
theorem dX7_isRule_14 : decode cX7_isRule 14 = .ok (.ireturn, 1) := by decide +kernel
theorem dX7_isPlace_0 : decode cX7_isPlace 0 = .ok (.iload_n 0, 1) := by decide +kernel
theorem dX7_isPlace_1 : decode cX7_isPlace 1 = .ok (.ifCond .lt 13, 3) := by decide +kernel
theorem dX7_isPlace_4 : decode cX7_isPlace 4 = .ok (.iload_n 0, 1) := by decide +kernel
theorem dX7_isPlace_5 : decode cX7_isPlace 5 = .ok (.bipush 100, 2) := by decide +kernel
theorem dX7_isPlace_7 : decode cX7_isPlace 7 = .ok (.if_icmp .ge 7, 3) := by decide +kernel
theorem dX7_isPlace_10 : decode cX7_isPlace 10 = .ok (.iconst 1, 1) := by decide +kernel
theorem dX7_isPlace_11 : decode cX7_isPlace 11 = .ok (.goto 4, 3) := by decide +kernel
theorem dX7_isPlace_14 : decode cX7_isPlace 14 = .ok (.iconst 0, 1) := by decide +kernel
theorem dX7_isPlace_15 : decode cX7_isPlace 15 = .ok (.ireturn, 1) := by decide +kernel
theorem dX7_isHolder_0 : decode cX7_isHolder 0 = .ok (.iload_n 0, 1) := by decide +kernel
theorem dX7_isHolder_1 : decode cX7_isHolder 1 = .ok (.ifCond .lt 13, 3) := by decide +kernel
theorem dX7_isHolder_4 : decode cX7_isHolder 4 = .ok (.iload_n 0, 1) := by decide +kernel
theorem dX7_isHolder_5 : decode cX7_isHolder 5 = .ok (.bipush 6, 2) := by decide +kernel
theorem dX7_isHolder_7 : decode cX7_isHolder 7 = .ok (.if_icmp .ge 7, 3) := by decide +kernel
theorem dX7_isHolder_10 : decode cX7_isHolder 10 = .ok (.iconst 1, 1) := by decide +kernel
theorem dX7_isHolder_11 : decode cX7_isHolder 11 = .ok (.goto 4, 3) := by decide +kernel
theorem dX7_isHolder_14 : decode cX7_isHolder 14 = .ok (.iconst 0, 1) := by decide +kernel
theorem dX7_isHolder_15 : decode cX7_isHolder 15 = .ok (.ireturn, 1) := by decide +kernel
theorem dX7_beginDeed_0 : decode cX7_beginDeed 0 = .ok (.aload_n 0, 1) := by decide +kernel
theorem dX7_beginDeed_1 : decode cX7_beginDeed 1 = .ok (.getfield 48, 3) := by decide +kernel
theorem dX7_beginDeed_4 : decode cX7_beginDeed 4 = .ok (.aload_n 0, 1) := by decide +kernel
theorem dX7_beginDeed_5 : decode cX7_beginDeed 5 = .ok (.getfield 14, 3) := by decide +kernel
theorem dX7_beginDeed_8 : decode cX7_beginDeed 8 = .ok (.invokevirtual 258, 3) := by decide +kernel
theorem dX7_beginDeed_11 : decode cX7_beginDeed 11 = .ok (.aload_n 0, 1) := by decide +kernel
theorem dX7_beginDeed_12 : decode cX7_beginDeed 12 = .ok (.iconst 0, 1) := by decide +kernel
theorem dX7_beginDeed_13 : decode cX7_beginDeed 13 = .ok (.putfield 35, 3) := by decide +kernel
theorem dX7_beginDeed_16 : decode cX7_beginDeed 16 = .ok (.return_, 1) := by decide +kernel
theorem dX7_grownCorners_0 : decode cX7_grownCorners 0 = .ok (.aload_n 0, 1) := by decide +kernel
theorem dX7_grownCorners_1 : decode cX7_grownCorners 1 = .ok (.getfield 35, 3) := by decide +kernel
theorem dX7_grownCorners_4 : decode cX7_grownCorners 4 = .ok (.ifCond .ne 19, 3) := by decide +kernel
theorem dX7_grownCorners_7 : decode cX7_grownCorners 7 = .ok (.aload_n 0, 1) := by decide +kernel
theorem dX7_grownCorners_8 : decode cX7_grownCorners 8 = .ok (.getfield 31, 3) := by decide +kernel
theorem dX7_grownCorners_11 : decode cX7_grownCorners 11 = .ok (.aload_n 0, 1) := by decide +kernel
theorem dX7_grownCorners_12 : decode cX7_grownCorners 12 = .ok (.getfield 14, 3) := by decide +kernel
theorem dX7_grownCorners_15 : decode cX7_grownCorners 15 = .ok (.invokevirtual 261, 3) := by decide +kernel
theorem dX7_grownCorners_18 : decode cX7_grownCorners 18 = .ok (.aload_n 0, 1) := by decide +kernel
theorem dX7_grownCorners_19 : decode cX7_grownCorners 19 = .ok (.iconst 1, 1) := by decide +kernel
theorem dX7_grownCorners_20 : decode cX7_grownCorners 20 = .ok (.putfield 35, 3) := by decide +kernel
theorem dX7_grownCorners_23 : decode cX7_grownCorners 23 = .ok (.aload_n 0, 1) := by decide +kernel
theorem dX7_grownCorners_24 : decode cX7_grownCorners 24 = .ok (.getfield 31, 3) := by decide +kernel
theorem dX7_grownCorners_27 : decode cX7_grownCorners 27 = .ok (.areturn, 1) := by decide +kernel
theorem dX7_shapeAt_0 : decode cX7_shapeAt 0 = .ok (.aload_n 0, 1) := by decide +kernel
theorem dX7_shapeAt_1 : decode cX7_shapeAt 1 = .ok (.invokevirtual 162, 3) := by decide +kernel
theorem dX7_shapeAt_4 : decode cX7_shapeAt 4 = .ok (.iload_n 1, 1) := by decide +kernel
theorem dX7_shapeAt_5 : decode cX7_shapeAt 5 = .ok (.iload_n 2, 1) := by decide +kernel
theorem dX7_shapeAt_6 : decode cX7_shapeAt 6 = .ok (.invokevirtual 264, 3) := by decide +kernel
theorem dX7_shapeAt_9 : decode cX7_shapeAt 9 = .ok (.areturn, 1) := by decide +kernel
theorem dX8_init_0 : decode cX8_init 0 = .ok (.aload_n 0, 1) := by decide +kernel
theorem dX8_init_1 : decode cX8_init 1 = .ok (.invokespecial 3, 3) := by decide +kernel
theorem dX8_init_4 : decode cX8_init 4 = .ok (.aload_n 0, 1) := by decide +kernel
theorem dX8_init_5 : decode cX8_init 5 = .ok (.iconst 3, 1) := by decide +kernel
theorem dX8_init_6 : decode cX8_init 6 = .ok (.putfield 9, 3) := by decide +kernel
theorem dX8_init_9 : decode cX8_init 9 = .ok (.aload_n 0, 1) := by decide +kernel
theorem dX8_init_10 : decode cX8_init 10 = .ok (.iconst 3, 1) := by decide +kernel
theorem dX8_init_11 : decode cX8_init 11 = .ok (.putfield 15, 3) := by decide +kernel
theorem dX8_init_14 : decode cX8_init 14 = .ok (.aload_n 0, 1) := by decide +kernel
theorem dX8_init_15 : decode cX8_init 15 = .ok (.bipush 25, 2) := by decide +kernel
theorem dX8_init_17 : decode cX8_init 17 = .ok (.newarray .int, 2) := by decide +kernel
theorem dX8_init_19 : decode cX8_init 19 = .ok (.putfield 18, 3) := by decide +kernel
theorem dX8_init_22 : decode cX8_init 22 = .ok (.aload_n 0, 1) := by decide +kernel
theorem dX8_init_23 : decode cX8_init 23 = .ok (.sipush 252, 3) := by decide +kernel
theorem dX8_init_26 : decode cX8_init 26 = .ok (.newarray .int, 2) := by decide +kernel
theorem dX8_init_28 : decode cX8_init 28 = .ok (.putfield 22, 3) := by decide +kernel
theorem dX8_init_31 : decode cX8_init 31 = .ok (.aload_n 0, 1) := by decide +kernel
theorem dX8_init_32 : decode cX8_init 32 = .ok (.sipush 252, 3) := by decide +kernel
theorem dX8_init_35 : decode cX8_init 35 = .ok (.newarray .int, 2) := by decide +kernel
theorem dX8_init_37 : decode cX8_init 37 = .ok (.putfield 25, 3) := by decide +kernel
theorem dX8_init_40 : decode cX8_init 40 = .ok (.aload_n 0, 1) := by decide +kernel
theorem dX8_init_41 : decode cX8_init 41 = .ok (.bipush 25, 2) := by decide +kernel
theorem dX8_init_43 : decode cX8_init 43 = .ok (.newarray .int, 2) := by decide +kernel
theorem dX8_init_45 : decode cX8_init 45 = .ok (.putfield 28, 3) := by decide +kernel
theorem dX8_init_48 : decode cX8_init 48 = .ok (.aload_n 0, 1) := by decide +kernel
theorem dX8_init_49 : decode cX8_init 49 = .ok (.sipush 2880, 3) := by decide +kernel
theorem dX8_init_52 : decode cX8_init 52 = .ok (.newarray .int, 2) := by decide +kernel
theorem dX8_init_54 : decode cX8_init 54 = .ok (.putfield 31, 3) := by decide +kernel
theorem dX8_init_57 : decode cX8_init 57 = .ok (.aload_n 0, 1) := by decide +kernel
theorem dX8_init_58 : decode cX8_init 58 = .ok (.bipush 25, 2) := by decide +kernel
theorem dX8_init_60 : decode cX8_init 60 = .ok (.newarray .int, 2) := by decide +kernel
theorem dX8_init_62 : decode cX8_init 62 = .ok (.putfield 34, 3) := by decide +kernel
theorem dX8_init_65 : decode cX8_init 65 = .ok (.aload_n 0, 1) := by decide +kernel
theorem dX8_init_66 : decode cX8_init 66 = .ok (.bipush 6, 2) := by decide +kernel
theorem dX8_init_68 : decode cX8_init 68 = .ok (.newarray .int, 2) := by decide +kernel
theorem dX8_init_70 : decode cX8_init 70 = .ok (.putfield 37, 3) := by decide +kernel
theorem dX8_init_73 : decode cX8_init 73 = .ok (.aload_n 0, 1) := by decide +kernel
theorem dX8_init_74 : decode cX8_init 74 = .ok (.bipush 6, 2) := by decide +kernel
theorem dX8_init_76 : decode cX8_init 76 = .ok (.newarray .int, 2) := by decide +kernel
theorem dX8_init_78 : decode cX8_init 78 = .ok (.putfield 40, 3) := by decide +kernel
theorem dX8_init_81 : decode cX8_init 81 = .ok (.aload_n 0, 1) := by decide +kernel
theorem dX8_init_82 : decode cX8_init 82 = .ok (.bipush 60, 2) := by decide +kernel
theorem dX8_init_84 : decode cX8_init 84 = .ok (.newarray .int, 2) := by decide +kernel
theorem dX8_init_86 : decode cX8_init 86 = .ok (.putfield 43, 3) := by decide +kernel
theorem dX8_init_89 : decode cX8_init 89 = .ok (.aload_n 0, 1) := by decide +kernel
theorem dX8_init_90 : decode cX8_init 90 = .ok (.bipush 6, 2) := by decide +kernel
theorem dX8_init_92 : decode cX8_init 92 = .ok (.newarray .int, 2) := by decide +kernel
theorem dX8_init_94 : decode cX8_init 94 = .ok (.putfield 46, 3) := by decide +kernel
theorem dX8_init_97 : decode cX8_init 97 = .ok (.aload_n 0, 1) := by decide +kernel
theorem dX8_init_98 : decode cX8_init 98 = .ok (.bipush 6, 2) := by decide +kernel
theorem dX8_init_100 : decode cX8_init 100 = .ok (.newarray .int, 2) := by decide +kernel
theorem dX8_init_102 : decode cX8_init 102 = .ok (.putfield 49, 3) := by decide +kernel
theorem dX8_init_105 : decode cX8_init 105 = .ok (.aload_n 0, 1) := by decide +kernel
theorem dX8_init_106 : decode cX8_init 106 = .ok (.sipush 480, 3) := by decide +kernel
theorem dX8_init_109 : decode cX8_init 109 = .ok (.newarray .int, 2) := by decide +kernel
theorem dX8_init_111 : decode cX8_init 111 = .ok (.putfield 52, 3) := by decide +kernel
theorem dX8_init_114 : decode cX8_init 114 = .ok (.aload_n 0, 1) := by decide +kernel
theorem dX8_init_115 : decode cX8_init 115 = .ok (.bipush 28, 2) := by decide +kernel
theorem dX8_init_117 : decode cX8_init 117 = .ok (.newarray .int, 2) := by decide +kernel
theorem dX8_init_119 : decode cX8_init 119 = .ok (.putfield 55, 3) := by decide +kernel
theorem dX8_init_122 : decode cX8_init 122 = .ok (.return_, 1) := by decide +kernel
theorem dX8_in_0 : decode cX8_in 0 = .ok (.lload_n 0, 1) := by decide +kernel
theorem dX8_in_1 : decode cX8_in 1 = .ok (.lload_n 2, 1) := by decide +kernel
theorem dX8_in_2 : decode cX8_in 2 = .ok (.lcmp, 1) := by decide +kernel
theorem dX8_in_3 : decode cX8_in 3 = .ok (.ifCond .lt 14, 3) := by decide +kernel
theorem dX8_in_6 : decode cX8_in 6 = .ok (.lload_n 0, 1) := by decide +kernel
theorem dX8_in_7 : decode cX8_in 7 = .ok (.lload 4, 2) := by decide +kernel
theorem dX8_in_9 : decode cX8_in 9 = .ok (.lcmp, 1) := by decide +kernel
theorem dX8_in_10 : decode cX8_in 10 = .ok (.ifCond .gt 7, 3) := by decide +kernel
theorem dX8_in_13 : decode cX8_in 13 = .ok (.iconst 1, 1) := by decide +kernel
theorem dX8_in_14 : decode cX8_in 14 = .ok (.goto 4, 3) := by decide +kernel
theorem dX8_in_17 : decode cX8_in 17 = .ok (.iconst 0, 1) := by decide +kernel
theorem dX8_in_18 : decode cX8_in 18 = .ok (.ireturn, 1) := by decide +kernel
theorem dX8_at_0 : decode cX8_at 0 = .ok (.iconst 5, 1) := by decide +kernel
theorem dX8_at_1 : decode cX8_at 1 = .ok (.iload_n 0, 1) := by decide +kernel
theorem dX8_at_2 : decode cX8_at 2 = .ok (.iconst 1, 1) := by decide +kernel
theorem dX8_at_3 : decode cX8_at 3 = .ok (.isub, 1) := by decide +kernel
theorem dX8_at_4 : decode cX8_at 4 = .ok (.imul, 1) := by decide +kernel
theorem dX8_at_5 : decode cX8_at 5 = .ok (.iload_n 1, 1) := by decide +kernel
theorem dX8_at_6 : decode cX8_at 6 = .ok (.iadd, 1) := by decide +kernel
theorem dX8_at_7 : decode cX8_at 7 = .ok (.iconst 1, 1) := by decide +kernel
theorem dX8_at_8 : decode cX8_at 8 = .ok (.isub, 1) := by decide +kernel
theorem dX8_at_9 : decode cX8_at 9 = .ok (.ireturn, 1) := by decide +kernel
theorem dX8_isCell_0 : decode cX8_isCell 0 = .ok (.iload_n 1, 1) := by decide +kernel
theorem dX8_isCell_1 : decode cX8_isCell 1 = .ok (.i2l, 1) := by decide +kernel
theorem dX8_isCell_2 : decode cX8_isCell 2 = .ok (.lconst 1, 1) := by decide +kernel
theorem dX8_isCell_3 : decode cX8_isCell 3 = .ok (.aload_n 0, 1) := by decide +kernel
theorem dX8_isCell_4 : decode cX8_isCell 4 = .ok (.getfield 9, 3) := by decide +kernel
theorem dX8_isCell_7 : decode cX8_isCell 7 = .ok (.i2l, 1) := by decide +kernel
theorem dX8_isCell_8 : decode cX8_isCell 8 = .ok (.invokestatic 58, 3) := by decide +kernel
theorem dX8_isCell_11 : decode cX8_isCell 11 = .ok (.ifCond .eq 21, 3) := by decide +kernel
theorem dX8_isCell_14 : decode cX8_isCell 14 = .ok (.iload_n 2, 1) := by decide +kernel
theorem dX8_isCell_15 : decode cX8_isCell 15 = .ok (.i2l, 1) := by decide +kernel
theorem dX8_isCell_16 : decode cX8_isCell 16 = .ok (.lconst 1, 1) := by decide +kernel
theorem dX8_isCell_17 : decode cX8_isCell 17 = .ok (.aload_n 0, 1) := by decide +kernel
theorem dX8_isCell_18 : decode cX8_isCell 18 = .ok (.getfield 15, 3) := by decide +kernel
theorem dX8_isCell_21 : decode cX8_isCell 21 = .ok (.i2l, 1) := by decide +kernel
theorem dX8_isCell_22 : decode cX8_isCell 22 = .ok (.invokestatic 58, 3) := by decide +kernel
theorem dX8_isCell_25 : decode cX8_isCell 25 = .ok (.ifCond .eq 7, 3) := by decide +kernel
theorem dX8_isCell_28 : decode cX8_isCell 28 = .ok (.iconst 1, 1) := by decide +kernel
theorem dX8_isCell_29 : decode cX8_isCell 29 = .ok (.goto 4, 3) := by decide +kernel
theorem dX8_isCell_32 : decode cX8_isCell 32 = .ok (.iconst 0, 1) := by decide +kernel
theorem dX8_isCell_33 : decode cX8_isCell 33 = .ok (.ireturn, 1) := by decide +kernel
theorem dX8_isCorner_0 : decode cX8_isCorner 0 = .ok (.iload_n 1, 1) := by decide +kernel
theorem dX8_isCorner_1 : decode cX8_isCorner 1 = .ok (.i2l, 1) := by decide +kernel
theorem dX8_isCorner_2 : decode cX8_isCorner 2 = .ok (.lconst 0, 1) := by decide +kernel
theorem dX8_isCorner_3 : decode cX8_isCorner 3 = .ok (.aload_n 0, 1) := by decide +kernel
theorem dX8_isCorner_4 : decode cX8_isCorner 4 = .ok (.getfield 9, 3) := by decide +kernel
theorem dX8_isCorner_7 : decode cX8_isCorner 7 = .ok (.i2l, 1) := by decide +kernel
theorem dX8_isCorner_8 : decode cX8_isCorner 8 = .ok (.invokestatic 58, 3) := by decide +kernel
theorem dX8_isCorner_11 : decode cX8_isCorner 11 = .ok (.ifCond .eq 21, 3) := by decide +kernel
theorem dX8_isCorner_14 : decode cX8_isCorner 14 = .ok (.iload_n 2, 1) := by decide +kernel
theorem dX8_isCorner_15 : decode cX8_isCorner 15 = .ok (.i2l, 1) := by decide +kernel
theorem dX8_isCorner_16 : decode cX8_isCorner 16 = .ok (.lconst 0, 1) := by decide +kernel
theorem dX8_isCorner_17 : decode cX8_isCorner 17 = .ok (.aload_n 0, 1) := by decide +kernel
theorem dX8_isCorner_18 : decode cX8_isCorner 18 = .ok (.getfield 15, 3) := by decide +kernel
theorem dX8_isCorner_21 : decode cX8_isCorner 21 = .ok (.i2l, 1) := by decide +kernel
theorem dX8_isCorner_22 : decode cX8_isCorner 22 = .ok (.invokestatic 58, 3) := by decide +kernel
theorem dX8_isCorner_25 : decode cX8_isCorner 25 = .ok (.ifCond .eq 7, 3) := by decide +kernel
theorem dX8_isCorner_28 : decode cX8_isCorner 28 = .ok (.iconst 1, 1) := by decide +kernel
theorem dX8_isCorner_29 : decode cX8_isCorner 29 = .ok (.goto 4, 3) := by decide +kernel
theorem dX8_isCorner_32 : decode cX8_isCorner 32 = .ok (.iconst 0, 1) := by decide +kernel
theorem dX8_isCorner_33 : decode cX8_isCorner 33 = .ok (.ireturn, 1) := by decide +kernel
theorem dX8_filled_0 : decode cX8_filled 0 = .ok (.iconst 0, 1) := by decide +kernel
theorem dX8_filled_1 : decode cX8_filled 1 = .ok (.istore_n 1, 1) := by decide +kernel
theorem dX8_filled_2 : decode cX8_filled 2 = .ok (.iconst 0, 1) := by decide +kernel
theorem dX8_filled_3 : decode cX8_filled 3 = .ok (.istore_n 2, 1) := by decide +kernel
theorem dX8_filled_4 : decode cX8_filled 4 = .ok (.iload_n 2, 1) := by decide +kernel
theorem dX8_filled_5 : decode cX8_filled 5 = .ok (.bipush 25, 2) := by decide +kernel
theorem dX8_filled_7 : decode cX8_filled 7 = .ok (.if_icmp .ge 26, 3) := by decide +kernel
theorem dX8_filled_10 : decode cX8_filled 10 = .ok (.iload_n 1, 1) := by decide +kernel
theorem dX8_filled_11 : decode cX8_filled 11 = .ok (.aload_n 0, 1) := by decide +kernel
theorem dX8_filled_12 : decode cX8_filled 12 = .ok (.getfield 18, 3) := by decide +kernel
theorem dX8_filled_15 : decode cX8_filled 15 = .ok (.iload_n 2, 1) := by decide +kernel
theorem dX8_filled_16 : decode cX8_filled 16 = .ok (.iaload, 1) := by decide +kernel
theorem dX8_filled_17 : decode cX8_filled 17 = .ok (.ifCond .le 7, 3) := by decide +kernel
theorem dX8_filled_20 : decode cX8_filled 20 = .ok (.iconst 1, 1) := by decide +kernel
theorem dX8_filled_21 : decode cX8_filled 21 = .ok (.goto 4, 3) := by decide +kernel
theorem dX8_filled_24 : decode cX8_filled 24 = .ok (.iconst 0, 1) := by decide +kernel
theorem dX8_filled_25 : decode cX8_filled 25 = .ok (.iadd, 1) := by decide +kernel
theorem dX8_filled_26 : decode cX8_filled 26 = .ok (.istore_n 1, 1) := by decide +kernel
theorem dX8_filled_27 : decode cX8_filled 27 = .ok (.iinc 2 1, 3) := by decide +kernel
theorem dX8_filled_30 : decode cX8_filled 30 = .ok (.goto (-26), 3) := by decide +kernel
theorem dX8_filled_33 : decode cX8_filled 33 = .ok (.iload_n 1, 1) := by decide +kernel
theorem dX8_filled_34 : decode cX8_filled 34 = .ok (.ireturn, 1) := by decide +kernel
theorem dX8_lays_0 : decode cX8_lays 0 = .ok (.aload_n 1, 1) := by decide +kernel
theorem dX8_lays_1 : decode cX8_lays 1 = .ok (.iload_n 2, 1) := by decide +kernel
theorem dX8_lays_2 : decode cX8_lays 2 = .ok (.bipush 28, 2) := by decide +kernel
theorem dX8_lays_4 : decode cX8_lays 4 = .ok (.imul, 1) := by decide +kernel
theorem dX8_lays_5 : decode cX8_lays 5 = .ok (.aload_n 0, 1) := by decide +kernel
theorem dX8_lays_6 : decode cX8_lays 6 = .ok (.getfield 9, 3) := by decide +kernel
theorem dX8_lays_9 : decode cX8_lays 9 = .ok (.iastore, 1) := by decide +kernel
theorem dX8_lays_10 : decode cX8_lays 10 = .ok (.aload_n 1, 1) := by decide +kernel
theorem dX8_lays_11 : decode cX8_lays 11 = .ok (.iload_n 2, 1) := by decide +kernel
theorem dX8_lays_12 : decode cX8_lays 12 = .ok (.bipush 28, 2) := by decide +kernel
theorem dX8_lays_14 : decode cX8_lays 14 = .ok (.imul, 1) := by decide +kernel
theorem dX8_lays_15 : decode cX8_lays 15 = .ok (.iconst 1, 1) := by decide +kernel
theorem dX8_lays_16 : decode cX8_lays 16 = .ok (.iadd, 1) := by decide +kernel
theorem dX8_lays_17 : decode cX8_lays 17 = .ok (.aload_n 0, 1) := by decide +kernel
theorem dX8_lays_18 : decode cX8_lays 18 = .ok (.getfield 15, 3) := by decide +kernel
theorem dX8_lays_21 : decode cX8_lays 21 = .ok (.iastore, 1) := by decide +kernel
theorem dX8_lays_22 : decode cX8_lays 22 = .ok (.aload_n 1, 1) := by decide +kernel
theorem dX8_lays_23 : decode cX8_lays 23 = .ok (.iload_n 2, 1) := by decide +kernel
theorem dX8_lays_24 : decode cX8_lays 24 = .ok (.bipush 28, 2) := by decide +kernel
theorem dX8_lays_26 : decode cX8_lays 26 = .ok (.imul, 1) := by decide +kernel
theorem dX8_lays_27 : decode cX8_lays 27 = .ok (.iconst 2, 1) := by decide +kernel
theorem dX8_lays_28 : decode cX8_lays 28 = .ok (.iadd, 1) := by decide +kernel
theorem dX8_lays_29 : decode cX8_lays 29 = .ok (.aload_n 0, 1) := by decide +kernel
theorem dX8_lays_30 : decode cX8_lays 30 = .ok (.getfield 62, 3) := by decide +kernel
theorem dX8_lays_33 : decode cX8_lays 33 = .ok (.iastore, 1) := by decide +kernel
theorem dX8_lays_34 : decode cX8_lays 34 = .ok (.iconst 0, 1) := by decide +kernel
theorem dX8_lays_35 : decode cX8_lays 35 = .ok (.istore_n 3, 1) := by decide +kernel
theorem dX8_lays_36 : decode cX8_lays 36 = .ok (.iload_n 3, 1) := by decide +kernel
theorem dX8_lays_37 : decode cX8_lays 37 = .ok (.bipush 25, 2) := by decide +kernel
theorem dX8_lays_39 : decode cX8_lays 39 = .ok (.if_icmp .ge 25, 3) := by decide +kernel
theorem dX8_lays_42 : decode cX8_lays 42 = .ok (.aload_n 1, 1) := by decide +kernel
theorem dX8_lays_43 : decode cX8_lays 43 = .ok (.iload_n 2, 1) := by decide +kernel
theorem dX8_lays_44 : decode cX8_lays 44 = .ok (.bipush 28, 2) := by decide +kernel
theorem dX8_lays_46 : decode cX8_lays 46 = .ok (.imul, 1) := by decide +kernel
theorem dX8_lays_47 : decode cX8_lays 47 = .ok (.iconst 3, 1) := by decide +kernel
theorem dX8_lays_48 : decode cX8_lays 48 = .ok (.iadd, 1) := by decide +kernel
theorem dX8_lays_49 : decode cX8_lays 49 = .ok (.iload_n 3, 1) := by decide +kernel
theorem dX8_lays_50 : decode cX8_lays 50 = .ok (.iadd, 1) := by decide +kernel
theorem dX8_lays_51 : decode cX8_lays 51 = .ok (.aload_n 0, 1) := by decide +kernel
theorem dX8_lays_52 : decode cX8_lays 52 = .ok (.getfield 18, 3) := by decide +kernel
theorem dX8_lays_55 : decode cX8_lays 55 = .ok (.iload_n 3, 1) := by decide +kernel
theorem dX8_lays_56 : decode cX8_lays 56 = .ok (.iaload, 1) := by decide +kernel
theorem dX8_lays_57 : decode cX8_lays 57 = .ok (.iastore, 1) := by decide +kernel
theorem dX8_lays_58 : decode cX8_lays 58 = .ok (.iinc 3 1, 3) := by decide +kernel
theorem dX8_lays_61 : decode cX8_lays 61 = .ok (.goto (-25), 3) := by decide +kernel
theorem dX8_lays_64 : decode cX8_lays 64 = .ok (.return_, 1) := by decide +kernel
theorem dX8_takes_0 : decode cX8_takes 0 = .ok (.aload_n 0, 1) := by decide +kernel
theorem dX8_takes_1 : decode cX8_takes 1 = .ok (.aload_n 1, 1) := by decide +kernel
theorem dX8_takes_2 : decode cX8_takes 2 = .ok (.iload_n 2, 1) := by decide +kernel
theorem dX8_takes_3 : decode cX8_takes 3 = .ok (.bipush 28, 2) := by decide +kernel
theorem dX8_takes_5 : decode cX8_takes 5 = .ok (.imul, 1) := by decide +kernel
theorem dX8_takes_6 : decode cX8_takes 6 = .ok (.iaload, 1) := by decide +kernel
theorem dX8_takes_7 : decode cX8_takes 7 = .ok (.putfield 9, 3) := by decide +kernel
theorem dX8_takes_10 : decode cX8_takes 10 = .ok (.aload_n 0, 1) := by decide +kernel
theorem dX8_takes_11 : decode cX8_takes 11 = .ok (.aload_n 1, 1) := by decide +kernel
theorem dX8_takes_12 : decode cX8_takes 12 = .ok (.iload_n 2, 1) := by decide +kernel
theorem dX8_takes_13 : decode cX8_takes 13 = .ok (.bipush 28, 2) := by decide +kernel
theorem dX8_takes_15 : decode cX8_takes 15 = .ok (.imul, 1) := by decide +kernel
theorem dX8_takes_16 : decode cX8_takes 16 = .ok (.iconst 1, 1) := by decide +kernel
theorem dX8_takes_17 : decode cX8_takes 17 = .ok (.iadd, 1) := by decide +kernel
theorem dX8_takes_18 : decode cX8_takes 18 = .ok (.iaload, 1) := by decide +kernel
theorem dX8_takes_19 : decode cX8_takes 19 = .ok (.putfield 15, 3) := by decide +kernel
theorem dX8_takes_22 : decode cX8_takes 22 = .ok (.aload_n 0, 1) := by decide +kernel
theorem dX8_takes_23 : decode cX8_takes 23 = .ok (.aload_n 1, 1) := by decide +kernel
theorem dX8_takes_24 : decode cX8_takes 24 = .ok (.iload_n 2, 1) := by decide +kernel
theorem dX8_takes_25 : decode cX8_takes 25 = .ok (.bipush 28, 2) := by decide +kernel
theorem dX8_takes_27 : decode cX8_takes 27 = .ok (.imul, 1) := by decide +kernel
theorem dX8_takes_28 : decode cX8_takes 28 = .ok (.iconst 2, 1) := by decide +kernel
theorem dX8_takes_29 : decode cX8_takes 29 = .ok (.iadd, 1) := by decide +kernel
theorem dX8_takes_30 : decode cX8_takes 30 = .ok (.iaload, 1) := by decide +kernel
theorem dX8_takes_31 : decode cX8_takes 31 = .ok (.putfield 62, 3) := by decide +kernel
theorem dX8_takes_34 : decode cX8_takes 34 = .ok (.iconst 0, 1) := by decide +kernel
theorem dX8_takes_35 : decode cX8_takes 35 = .ok (.istore_n 3, 1) := by decide +kernel
theorem dX8_takes_36 : decode cX8_takes 36 = .ok (.iload_n 3, 1) := by decide +kernel
theorem dX8_takes_37 : decode cX8_takes 37 = .ok (.bipush 25, 2) := by decide +kernel
theorem dX8_takes_39 : decode cX8_takes 39 = .ok (.if_icmp .ge 25, 3) := by decide +kernel
theorem dX8_takes_42 : decode cX8_takes 42 = .ok (.aload_n 0, 1) := by decide +kernel
theorem dX8_takes_43 : decode cX8_takes 43 = .ok (.getfield 18, 3) := by decide +kernel
theorem dX8_takes_46 : decode cX8_takes 46 = .ok (.iload_n 3, 1) := by decide +kernel
theorem dX8_takes_47 : decode cX8_takes 47 = .ok (.aload_n 1, 1) := by decide +kernel
theorem dX8_takes_48 : decode cX8_takes 48 = .ok (.iload_n 2, 1) := by decide +kernel
theorem dX8_takes_49 : decode cX8_takes 49 = .ok (.bipush 28, 2) := by decide +kernel
theorem dX8_takes_51 : decode cX8_takes 51 = .ok (.imul, 1) := by decide +kernel
theorem dX8_takes_52 : decode cX8_takes 52 = .ok (.iconst 3, 1) := by decide +kernel
theorem dX8_takes_53 : decode cX8_takes 53 = .ok (.iadd, 1) := by decide +kernel
theorem dX8_takes_54 : decode cX8_takes 54 = .ok (.iload_n 3, 1) := by decide +kernel
theorem dX8_takes_55 : decode cX8_takes 55 = .ok (.iadd, 1) := by decide +kernel
theorem dX8_takes_56 : decode cX8_takes 56 = .ok (.iaload, 1) := by decide +kernel
theorem dX8_takes_57 : decode cX8_takes 57 = .ok (.iastore, 1) := by decide +kernel
theorem dX8_takes_58 : decode cX8_takes 58 = .ok (.iinc 3 1, 3) := by decide +kernel
theorem dX8_takes_61 : decode cX8_takes 61 = .ok (.goto (-25), 3) := by decide +kernel
theorem dX8_takes_64 : decode cX8_takes 64 = .ok (.return_, 1) := by decide +kernel
theorem dX8_does_0 : decode cX8_does 0 = .ok (.aload_n 0, 1) := by decide +kernel
theorem dX8_does_1 : decode cX8_does 1 = .ok (.getfield 65, 3) := by decide +kernel
theorem dX8_does_4 : decode cX8_does 4 = .ok (.bipush 8, 2) := by decide +kernel
theorem dX8_does_6 : decode cX8_does 6 = .ok (.if_icmp .ne 43, 3) := by decide +kernel
theorem dX8_does_9 : decode cX8_does 9 = .ok (.iconst 0, 1) := by decide +kernel
theorem dX8_does_10 : decode cX8_does 10 = .ok (.istore_n 1, 1) := by decide +kernel
theorem dX8_does_11 : decode cX8_does 11 = .ok (.iload_n 1, 1) := by decide +kernel
theorem dX8_does_12 : decode cX8_does 12 = .ok (.sipush 196, 3) := by decide +kernel
theorem dX8_does_15 : decode cX8_does 15 = .ok (.if_icmp .ge 24, 3) := by decide +kernel
theorem dX8_does_18 : decode cX8_does 18 = .ok (.aload_n 0, 1) := by decide +kernel
theorem dX8_does_19 : decode cX8_does 19 = .ok (.getfield 22, 3) := by decide +kernel
theorem dX8_does_22 : decode cX8_does 22 = .ok (.iload_n 1, 1) := by decide +kernel
theorem dX8_does_23 : decode cX8_does 23 = .ok (.aload_n 0, 1) := by decide +kernel
theorem dX8_does_24 : decode cX8_does 24 = .ok (.getfield 22, 3) := by decide +kernel
theorem dX8_does_27 : decode cX8_does 27 = .ok (.iload_n 1, 1) := by decide +kernel
theorem dX8_does_28 : decode cX8_does 28 = .ok (.bipush 28, 2) := by decide +kernel
theorem dX8_does_30 : decode cX8_does 30 = .ok (.iadd, 1) := by decide +kernel
theorem dX8_does_31 : decode cX8_does 31 = .ok (.iaload, 1) := by decide +kernel
theorem dX8_does_32 : decode cX8_does 32 = .ok (.iastore, 1) := by decide +kernel
theorem dX8_does_33 : decode cX8_does 33 = .ok (.iinc 1 1, 3) := by decide +kernel
theorem dX8_does_36 : decode cX8_does 36 = .ok (.goto (-25), 3) := by decide +kernel
theorem dX8_does_39 : decode cX8_does 39 = .ok (.aload_n 0, 1) := by decide +kernel
theorem dX8_does_40 : decode cX8_does 40 = .ok (.dup, 1) := by decide +kernel
theorem dX8_does_41 : decode cX8_does 41 = .ok (.getfield 65, 3) := by decide +kernel
theorem dX8_does_44 : decode cX8_does 44 = .ok (.iconst 1, 1) := by decide +kernel
theorem dX8_does_45 : decode cX8_does 45 = .ok (.isub, 1) := by decide +kernel
theorem dX8_does_46 : decode cX8_does 46 = .ok (.putfield 65, 3) := by decide +kernel
theorem dX8_does_49 : decode cX8_does 49 = .ok (.aload_n 0, 1) := by decide +kernel
theorem dX8_does_50 : decode cX8_does 50 = .ok (.aload_n 0, 1) := by decide +kernel
theorem dX8_does_51 : decode cX8_does 51 = .ok (.getfield 22, 3) := by decide +kernel
theorem dX8_does_54 : decode cX8_does 54 = .ok (.aload_n 0, 1) := by decide +kernel
theorem dX8_does_55 : decode cX8_does 55 = .ok (.getfield 65, 3) := by decide +kernel
theorem dX8_does_58 : decode cX8_does 58 = .ok (.invokevirtual 68, 3) := by decide +kernel
theorem dX8_does_61 : decode cX8_does 61 = .ok (.aload_n 0, 1) := by decide +kernel
theorem dX8_does_62 : decode cX8_does 62 = .ok (.dup, 1) := by decide +kernel
theorem dX8_does_63 : decode cX8_does 63 = .ok (.getfield 65, 3) := by decide +kernel
theorem dX8_does_66 : decode cX8_does 66 = .ok (.iconst 1, 1) := by decide +kernel
theorem dX8_does_67 : decode cX8_does 67 = .ok (.iadd, 1) := by decide +kernel
theorem dX8_does_68 : decode cX8_does 68 = .ok (.putfield 65, 3) := by decide +kernel
theorem dX8_does_71 : decode cX8_does 71 = .ok (.aload_n 0, 1) := by decide +kernel
theorem dX8_does_72 : decode cX8_does 72 = .ok (.iconst 0, 1) := by decide +kernel
theorem dX8_does_73 : decode cX8_does 73 = .ok (.putfield 72, 3) := by decide +kernel
theorem dX8_does_76 : decode cX8_does 76 = .ok (.return_, 1) := by decide +kernel
theorem dX8_undo_0 : decode cX8_undo 0 = .ok (.aload_n 0, 1) := by decide +kernel
theorem dX8_undo_1 : decode cX8_undo 1 = .ok (.getfield 65, 3) := by decide +kernel
theorem dX8_undo_4 : decode cX8_undo 4 = .ok (.ifCond .ne 6, 3) := by decide +kernel
theorem dX8_undo_7 : decode cX8_undo 7 = .ok (.bipush (-5), 2) := by decide +kernel
theorem dX8_undo_9 : decode cX8_undo 9 = .ok (.ireturn, 1) := by decide +kernel
theorem dX8_undo_10 : decode cX8_undo 10 = .ok (.aload_n 0, 1) := by decide +kernel
theorem dX8_undo_11 : decode cX8_undo 11 = .ok (.aload_n 0, 1) := by decide +kernel
theorem dX8_undo_12 : decode cX8_undo 12 = .ok (.getfield 25, 3) := by decide +kernel
theorem dX8_undo_15 : decode cX8_undo 15 = .ok (.aload_n 0, 1) := by decide +kernel
theorem dX8_undo_16 : decode cX8_undo 16 = .ok (.getfield 72, 3) := by decide +kernel
theorem dX8_undo_19 : decode cX8_undo 19 = .ok (.invokevirtual 68, 3) := by decide +kernel
theorem dX8_undo_22 : decode cX8_undo 22 = .ok (.aload_n 0, 1) := by decide +kernel
theorem dX8_undo_23 : decode cX8_undo 23 = .ok (.dup, 1) := by decide +kernel
theorem dX8_undo_24 : decode cX8_undo 24 = .ok (.getfield 72, 3) := by decide +kernel
theorem dX8_undo_27 : decode cX8_undo 27 = .ok (.iconst 1, 1) := by decide +kernel
theorem dX8_undo_28 : decode cX8_undo 28 = .ok (.iadd, 1) := by decide +kernel
theorem dX8_undo_29 : decode cX8_undo 29 = .ok (.putfield 72, 3) := by decide +kernel
theorem dX8_undo_32 : decode cX8_undo 32 = .ok (.aload_n 0, 1) := by decide +kernel
theorem dX8_undo_33 : decode cX8_undo 33 = .ok (.dup, 1) := by decide +kernel
theorem dX8_undo_34 : decode cX8_undo 34 = .ok (.getfield 65, 3) := by decide +kernel
theorem dX8_undo_37 : decode cX8_undo 37 = .ok (.iconst 1, 1) := by decide +kernel
theorem dX8_undo_38 : decode cX8_undo 38 = .ok (.isub, 1) := by decide +kernel
theorem dX8_undo_39 : decode cX8_undo 39 = .ok (.putfield 65, 3) := by decide +kernel
theorem dX8_undo_42 : decode cX8_undo 42 = .ok (.aload_n 0, 1) := by decide +kernel
theorem dX8_undo_43 : decode cX8_undo 43 = .ok (.aload_n 0, 1) := by decide +kernel
theorem dX8_undo_44 : decode cX8_undo 44 = .ok (.getfield 22, 3) := by decide +kernel
theorem dX8_undo_47 : decode cX8_undo 47 = .ok (.aload_n 0, 1) := by decide +kernel
theorem dX8_undo_48 : decode cX8_undo 48 = .ok (.getfield 65, 3) := by decide +kernel
theorem dX8_undo_51 : decode cX8_undo 51 = .ok (.invokevirtual 75, 3) := by decide +kernel
theorem dX8_undo_54 : decode cX8_undo 54 = .ok (.aload_n 0, 1) := by decide +kernel
theorem dX8_undo_55 : decode cX8_undo 55 = .ok (.getfield 65, 3) := by decide +kernel
theorem dX8_undo_58 : decode cX8_undo 58 = .ok (.ireturn, 1) := by decide +kernel
theorem dX8_again_0 : decode cX8_again 0 = .ok (.aload_n 0, 1) := by decide +kernel
theorem dX8_again_1 : decode cX8_again 1 = .ok (.getfield 72, 3) := by decide +kernel
theorem dX8_again_4 : decode cX8_again 4 = .ok (.ifCond .ne 6, 3) := by decide +kernel
theorem dX8_again_7 : decode cX8_again 7 = .ok (.bipush (-5), 2) := by decide +kernel
theorem dX8_again_9 : decode cX8_again 9 = .ok (.ireturn, 1) := by decide +kernel
theorem dX8_again_10 : decode cX8_again 10 = .ok (.aload_n 0, 1) := by decide +kernel
theorem dX8_again_11 : decode cX8_again 11 = .ok (.aload_n 0, 1) := by decide +kernel
theorem dX8_again_12 : decode cX8_again 12 = .ok (.getfield 22, 3) := by decide +kernel
theorem dX8_again_15 : decode cX8_again 15 = .ok (.aload_n 0, 1) := by decide +kernel
theorem dX8_again_16 : decode cX8_again 16 = .ok (.getfield 65, 3) := by decide +kernel
theorem dX8_again_19 : decode cX8_again 19 = .ok (.invokevirtual 68, 3) := by decide +kernel
theorem dX8_again_22 : decode cX8_again 22 = .ok (.aload_n 0, 1) := by decide +kernel
theorem dX8_again_23 : decode cX8_again 23 = .ok (.dup, 1) := by decide +kernel
theorem dX8_again_24 : decode cX8_again 24 = .ok (.getfield 65, 3) := by decide +kernel
theorem dX8_again_27 : decode cX8_again 27 = .ok (.iconst 1, 1) := by decide +kernel
theorem dX8_again_28 : decode cX8_again 28 = .ok (.iadd, 1) := by decide +kernel
theorem dX8_again_29 : decode cX8_again 29 = .ok (.putfield 65, 3) := by decide +kernel
theorem dX8_again_32 : decode cX8_again 32 = .ok (.aload_n 0, 1) := by decide +kernel
theorem dX8_again_33 : decode cX8_again 33 = .ok (.dup, 1) := by decide +kernel
theorem dX8_again_34 : decode cX8_again 34 = .ok (.getfield 72, 3) := by decide +kernel
theorem dX8_again_37 : decode cX8_again 37 = .ok (.iconst 1, 1) := by decide +kernel
theorem dX8_again_38 : decode cX8_again 38 = .ok (.isub, 1) := by decide +kernel
theorem dX8_again_39 : decode cX8_again 39 = .ok (.putfield 72, 3) := by decide +kernel
theorem dX8_again_42 : decode cX8_again 42 = .ok (.aload_n 0, 1) := by decide +kernel
theorem dX8_again_43 : decode cX8_again 43 = .ok (.aload_n 0, 1) := by decide +kernel
theorem dX8_again_44 : decode cX8_again 44 = .ok (.getfield 25, 3) := by decide +kernel
theorem dX8_again_47 : decode cX8_again 47 = .ok (.aload_n 0, 1) := by decide +kernel
theorem dX8_again_48 : decode cX8_again 48 = .ok (.getfield 72, 3) := by decide +kernel
theorem dX8_again_51 : decode cX8_again 51 = .ok (.invokevirtual 75, 3) := by decide +kernel
theorem dX8_again_54 : decode cX8_again 54 = .ok (.aload_n 0, 1) := by decide +kernel
theorem dX8_again_55 : decode cX8_again 55 = .ok (.getfield 72, 3) := by decide +kernel
theorem dX8_again_58 : decode cX8_again 58 = .ok (.ireturn, 1) := by decide +kernel
theorem dX8_empties_0 : decode cX8_empties 0 = .ok (.iconst 0, 1) := by decide +kernel
theorem dX8_empties_1 : decode cX8_empties 1 = .ok (.istore_n 1, 1) := by decide +kernel
theorem dX8_empties_2 : decode cX8_empties 2 = .ok (.iload_n 1, 1) := by decide +kernel
theorem dX8_empties_3 : decode cX8_empties 3 = .ok (.bipush 25, 2) := by decide +kernel
theorem dX8_empties_5 : decode cX8_empties 5 = .ok (.if_icmp .ge 16, 3) := by decide +kernel
theorem dX8_empties_8 : decode cX8_empties 8 = .ok (.aload_n 0, 1) := by decide +kernel
theorem dX8_empties_9 : decode cX8_empties 9 = .ok (.getfield 18, 3) := by decide +kernel
theorem dX8_empties_12 : decode cX8_empties 12 = .ok (.iload_n 1, 1) := by decide +kernel
theorem dX8_empties_13 : decode cX8_empties 13 = .ok (.iconst 0, 1) := by decide +kernel
theorem dX8_empties_14 : decode cX8_empties 14 = .ok (.iastore, 1) := by decide +kernel
theorem dX8_empties_15 : decode cX8_empties 15 = .ok (.iinc 1 1, 3) := by decide +kernel
theorem dX8_empties_18 : decode cX8_empties 18 = .ok (.goto (-16), 3) := by decide +kernel
theorem dX8_empties_21 : decode cX8_empties 21 = .ok (.return_, 1) := by decide +kernel
theorem dX8_grid_0 : decode cX8_grid 0 = .ok (.iload_n 1, 1) := by decide +kernel
theorem dX8_grid_1 : decode cX8_grid 1 = .ok (.i2l, 1) := by decide +kernel
theorem dX8_grid_2 : decode cX8_grid 2 = .ok (.lconst 1, 1) := by decide +kernel
theorem dX8_grid_3 : decode cX8_grid 3 = .ok (.ldc2_w 78, 3) := by decide +kernel
theorem dX8_grid_6 : decode cX8_grid 6 = .ok (.invokestatic 58, 3) := by decide +kernel
theorem dX8_grid_9 : decode cX8_grid 9 = .ok (.ifCond .eq 15, 3) := by decide +kernel
theorem dX8_grid_12 : decode cX8_grid 12 = .ok (.iload_n 2, 1) := by decide +kernel
theorem dX8_grid_13 : decode cX8_grid 13 = .ok (.i2l, 1) := by decide +kernel
theorem dX8_grid_14 : decode cX8_grid 14 = .ok (.lconst 1, 1) := by decide +kernel
theorem dX8_grid_15 : decode cX8_grid 15 = .ok (.ldc2_w 78, 3) := by decide +kernel
theorem dX8_grid_18 : decode cX8_grid 18 = .ok (.invokestatic 58, 3) := by decide +kernel
theorem dX8_grid_21 : decode cX8_grid 21 = .ok (.ifCond .ne 5, 3) := by decide +kernel
theorem dX8_grid_24 : decode cX8_grid 24 = .ok (.iconst (-1), 1) := by decide +kernel
theorem dX8_grid_25 : decode cX8_grid 25 = .ok (.ireturn, 1) := by decide +kernel
theorem dX8_grid_26 : decode cX8_grid 26 = .ok (.bipush 10, 2) := by decide +kernel
theorem dX8_grid_28 : decode cX8_grid 28 = .ok (.aload_n 0, 1) := by decide +kernel
theorem dX8_grid_29 : decode cX8_grid 29 = .ok (.getfield 9, 3) := by decide +kernel
theorem dX8_grid_32 : decode cX8_grid 32 = .ok (.imul, 1) := by decide +kernel
theorem dX8_grid_33 : decode cX8_grid 33 = .ok (.aload_n 0, 1) := by decide +kernel
theorem dX8_grid_34 : decode cX8_grid 34 = .ok (.getfield 15, 3) := by decide +kernel
theorem dX8_grid_37 : decode cX8_grid 37 = .ok (.iadd, 1) := by decide +kernel
theorem dX8_grid_38 : decode cX8_grid 38 = .ok (.istore_n 3, 1) := by decide +kernel
theorem dX8_grid_39 : decode cX8_grid 39 = .ok (.aload_n 0, 1) := by decide +kernel
theorem dX8_grid_40 : decode cX8_grid 40 = .ok (.invokevirtual 80, 3) := by decide +kernel
theorem dX8_grid_43 : decode cX8_grid 43 = .ok (.aload_n 0, 1) := by decide +kernel
theorem dX8_grid_44 : decode cX8_grid 44 = .ok (.iload_n 1, 1) := by decide +kernel
theorem dX8_grid_45 : decode cX8_grid 45 = .ok (.putfield 9, 3) := by decide +kernel
theorem dX8_grid_48 : decode cX8_grid 48 = .ok (.aload_n 0, 1) := by decide +kernel
theorem dX8_grid_49 : decode cX8_grid 49 = .ok (.iload_n 2, 1) := by decide +kernel
theorem dX8_grid_50 : decode cX8_grid 50 = .ok (.putfield 15, 3) := by decide +kernel
theorem dX8_grid_53 : decode cX8_grid 53 = .ok (.aload_n 0, 1) := by decide +kernel
theorem dX8_grid_54 : decode cX8_grid 54 = .ok (.invokevirtual 83, 3) := by decide +kernel
theorem dX8_grid_57 : decode cX8_grid 57 = .ok (.iload_n 3, 1) := by decide +kernel
theorem dX8_grid_58 : decode cX8_grid 58 = .ok (.ireturn, 1) := by decide +kernel
theorem dX8_put_0 : decode cX8_put 0 = .ok (.aload_n 0, 1) := by decide +kernel
theorem dX8_put_1 : decode cX8_put 1 = .ok (.iload_n 1, 1) := by decide +kernel
theorem dX8_put_2 : decode cX8_put 2 = .ok (.iload_n 2, 1) := by decide +kernel
theorem dX8_put_3 : decode cX8_put 3 = .ok (.invokevirtual 86, 3) := by decide +kernel
theorem dX8_put_6 : decode cX8_put 6 = .ok (.ifCond .eq 15, 3) := by decide +kernel
theorem dX8_put_9 : decode cX8_put 9 = .ok (.iload_n 3, 1) := by decide +kernel
theorem dX8_put_10 : decode cX8_put 10 = .ok (.i2l, 1) := by decide +kernel
theorem dX8_put_11 : decode cX8_put 11 = .ok (.lconst 0, 1) := by decide +kernel
theorem dX8_put_12 : decode cX8_put 12 = .ok (.ldc2_w 90, 3) := by decide +kernel
theorem dX8_put_15 : decode cX8_put 15 = .ok (.invokestatic 58, 3) := by decide +kernel
theorem dX8_put_18 : decode cX8_put 18 = .ok (.ifCond .ne 5, 3) := by decide +kernel
theorem dX8_put_21 : decode cX8_put 21 = .ok (.iconst (-1), 1) := by decide +kernel
theorem dX8_put_22 : decode cX8_put 22 = .ok (.ireturn, 1) := by decide +kernel
theorem dX8_put_23 : decode cX8_put 23 = .ok (.aload_n 0, 1) := by decide +kernel
theorem dX8_put_24 : decode cX8_put 24 = .ok (.getfield 18, 3) := by decide +kernel
theorem dX8_put_27 : decode cX8_put 27 = .ok (.iload_n 1, 1) := by decide +kernel
theorem dX8_put_28 : decode cX8_put 28 = .ok (.iload_n 2, 1) := by decide +kernel
theorem dX8_put_29 : decode cX8_put 29 = .ok (.invokestatic 92, 3) := by decide +kernel
theorem dX8_put_32 : decode cX8_put 32 = .ok (.iaload, 1) := by decide +kernel
theorem dX8_put_33 : decode cX8_put 33 = .ok (.istore 4, 2) := by decide +kernel
theorem dX8_put_35 : decode cX8_put 35 = .ok (.aload_n 0, 1) := by decide +kernel
theorem dX8_put_36 : decode cX8_put 36 = .ok (.invokevirtual 80, 3) := by decide +kernel
theorem dX8_put_39 : decode cX8_put 39 = .ok (.aload_n 0, 1) := by decide +kernel
theorem dX8_put_40 : decode cX8_put 40 = .ok (.getfield 18, 3) := by decide +kernel
theorem dX8_put_43 : decode cX8_put 43 = .ok (.iload_n 1, 1) := by decide +kernel
theorem dX8_put_44 : decode cX8_put 44 = .ok (.iload_n 2, 1) := by decide +kernel
theorem dX8_put_45 : decode cX8_put 45 = .ok (.invokestatic 92, 3) := by decide +kernel
theorem dX8_put_48 : decode cX8_put 48 = .ok (.iload_n 3, 1) := by decide +kernel
theorem dX8_put_49 : decode cX8_put 49 = .ok (.iastore, 1) := by decide +kernel
theorem dX8_put_50 : decode cX8_put 50 = .ok (.iload 4, 2) := by decide +kernel
theorem dX8_put_52 : decode cX8_put 52 = .ok (.ireturn, 1) := by decide +kernel
theorem dX8_cell_0 : decode cX8_cell 0 = .ok (.aload_n 0, 1) := by decide +kernel
theorem dX8_cell_1 : decode cX8_cell 1 = .ok (.iload_n 1, 1) := by decide +kernel
theorem dX8_cell_2 : decode cX8_cell 2 = .ok (.iload_n 2, 1) := by decide +kernel
theorem dX8_cell_3 : decode cX8_cell 3 = .ok (.invokevirtual 86, 3) := by decide +kernel
theorem dX8_cell_6 : decode cX8_cell 6 = .ok (.ifCond .eq 16, 3) := by decide +kernel
theorem dX8_cell_9 : decode cX8_cell 9 = .ok (.aload_n 0, 1) := by decide +kernel
theorem dX8_cell_10 : decode cX8_cell 10 = .ok (.getfield 18, 3) := by decide +kernel
theorem dX8_cell_13 : decode cX8_cell 13 = .ok (.iload_n 1, 1) := by decide +kernel
theorem dX8_cell_14 : decode cX8_cell 14 = .ok (.iload_n 2, 1) := by decide +kernel
theorem dX8_cell_15 : decode cX8_cell 15 = .ok (.invokestatic 92, 3) := by decide +kernel
theorem dX8_cell_18 : decode cX8_cell 18 = .ok (.iaload, 1) := by decide +kernel
theorem dX8_cell_19 : decode cX8_cell 19 = .ok (.goto 4, 3) := by decide +kernel
theorem dX8_cell_22 : decode cX8_cell 22 = .ok (.iconst (-1), 1) := by decide +kernel
theorem dX8_cell_23 : decode cX8_cell 23 = .ok (.ireturn, 1) := by decide +kernel
theorem dX8_rule_0 : decode cX8_rule 0 = .ok (.iload_n 1, 1) := by decide +kernel
theorem dX8_rule_1 : decode cX8_rule 1 = .ok (.i2l, 1) := by decide +kernel
theorem dX8_rule_2 : decode cX8_rule 2 = .ok (.lconst 0, 1) := by decide +kernel
theorem dX8_rule_3 : decode cX8_rule 3 = .ok (.ldc2_w 90, 3) := by decide +kernel
theorem dX8_rule_6 : decode cX8_rule 6 = .ok (.invokestatic 58, 3) := by decide +kernel
theorem dX8_rule_9 : decode cX8_rule 9 = .ok (.ifCond .ne 5, 3) := by decide +kernel
theorem dX8_rule_12 : decode cX8_rule 12 = .ok (.iconst (-1), 1) := by decide +kernel
theorem dX8_rule_13 : decode cX8_rule 13 = .ok (.ireturn, 1) := by decide +kernel
theorem dX8_rule_14 : decode cX8_rule 14 = .ok (.aload_n 0, 1) := by decide +kernel
theorem dX8_rule_15 : decode cX8_rule 15 = .ok (.getfield 62, 3) := by decide +kernel
theorem dX8_rule_18 : decode cX8_rule 18 = .ok (.istore_n 2, 1) := by decide +kernel
theorem dX8_rule_19 : decode cX8_rule 19 = .ok (.aload_n 0, 1) := by decide +kernel
theorem dX8_rule_20 : decode cX8_rule 20 = .ok (.invokevirtual 80, 3) := by decide +kernel
theorem dX8_rule_23 : decode cX8_rule 23 = .ok (.aload_n 0, 1) := by decide +kernel
theorem dX8_rule_24 : decode cX8_rule 24 = .ok (.iload_n 1, 1) := by decide +kernel
theorem dX8_rule_25 : decode cX8_rule 25 = .ok (.putfield 62, 3) := by decide +kernel
theorem dX8_rule_28 : decode cX8_rule 28 = .ok (.iload_n 2, 1) := by decide +kernel
theorem dX8_rule_29 : decode cX8_rule 29 = .ok (.ireturn, 1) := by decide +kernel
theorem dX8_power_0 : decode cX8_power 0 = .ok (.iconst 1, 1) := by decide +kernel
theorem dX8_power_1 : decode cX8_power 1 = .ok (.istore_n 1, 1) := by decide +kernel
theorem dX8_power_2 : decode cX8_power 2 = .ok (.iconst 0, 1) := by decide +kernel
theorem dX8_power_3 : decode cX8_power 3 = .ok (.istore_n 2, 1) := by decide +kernel
theorem dX8_power_4 : decode cX8_power 4 = .ok (.iload_n 2, 1) := by decide +kernel
theorem dX8_power_5 : decode cX8_power 5 = .ok (.iload_n 0, 1) := by decide +kernel
theorem dX8_power_6 : decode cX8_power 6 = .ok (.if_icmp .ge 14, 3) := by decide +kernel
theorem dX8_power_9 : decode cX8_power 9 = .ok (.iload_n 1, 1) := by decide +kernel
theorem dX8_power_10 : decode cX8_power 10 = .ok (.bipush 10, 2) := by decide +kernel
theorem dX8_power_12 : decode cX8_power 12 = .ok (.imul, 1) := by decide +kernel
theorem dX8_power_13 : decode cX8_power 13 = .ok (.istore_n 1, 1) := by decide +kernel
theorem dX8_power_14 : decode cX8_power 14 = .ok (.iinc 2 1, 3) := by decide +kernel
theorem dX8_power_17 : decode cX8_power 17 = .ok (.goto (-13), 3) := by decide +kernel
theorem dX8_power_20 : decode cX8_power 20 = .ok (.iload_n 1, 1) := by decide +kernel
theorem dX8_power_21 : decode cX8_power 21 = .ok (.ireturn, 1) := by decide +kernel
theorem dX8_word_0 : decode cX8_word 0 = .ok (.iload_n 1, 1) := by decide +kernel
theorem dX8_word_1 : decode cX8_word 1 = .ok (.i2l, 1) := by decide +kernel
theorem dX8_word_2 : decode cX8_word 2 = .ok (.lconst 0, 1) := by decide +kernel
theorem dX8_word_3 : decode cX8_word 3 = .ok (.aload_n 0, 1) := by decide +kernel
theorem dX8_word_4 : decode cX8_word 4 = .ok (.getfield 9, 3) := by decide +kernel
theorem dX8_word_7 : decode cX8_word 7 = .ok (.invokestatic 96, 3) := by decide +kernel
theorem dX8_word_10 : decode cX8_word 10 = .ok (.iconst 1, 1) := by decide +kernel
theorem dX8_word_11 : decode cX8_word 11 = .ok (.isub, 1) := by decide +kernel
theorem dX8_word_12 : decode cX8_word 12 = .ok (.i2l, 1) := by decide +kernel
theorem dX8_word_13 : decode cX8_word 13 = .ok (.invokestatic 58, 3) := by decide +kernel
theorem dX8_word_16 : decode cX8_word 16 = .ok (.ifCond .ne 5, 3) := by decide +kernel
theorem dX8_word_19 : decode cX8_word 19 = .ok (.iconst (-1), 1) := by decide +kernel
theorem dX8_word_20 : decode cX8_word 20 = .ok (.ireturn, 1) := by decide +kernel
theorem dX8_word_21 : decode cX8_word 21 = .ok (.iconst 1, 1) := by decide +kernel
theorem dX8_word_22 : decode cX8_word 22 = .ok (.istore_n 2, 1) := by decide +kernel
theorem dX8_word_23 : decode cX8_word 23 = .ok (.iload_n 2, 1) := by decide +kernel
theorem dX8_word_24 : decode cX8_word 24 = .ok (.aload_n 0, 1) := by decide +kernel
theorem dX8_word_25 : decode cX8_word 25 = .ok (.getfield 9, 3) := by decide +kernel
theorem dX8_word_28 : decode cX8_word 28 = .ok (.if_icmp .gt 32, 3) := by decide +kernel
theorem dX8_word_31 : decode cX8_word 31 = .ok (.iload_n 1, 1) := by decide +kernel
theorem dX8_word_32 : decode cX8_word 32 = .ok (.aload_n 0, 1) := by decide +kernel
theorem dX8_word_33 : decode cX8_word 33 = .ok (.getfield 9, 3) := by decide +kernel
theorem dX8_word_36 : decode cX8_word 36 = .ok (.iload_n 2, 1) := by decide +kernel
theorem dX8_word_37 : decode cX8_word 37 = .ok (.isub, 1) := by decide +kernel
theorem dX8_word_38 : decode cX8_word 38 = .ok (.invokestatic 96, 3) := by decide +kernel
theorem dX8_word_41 : decode cX8_word 41 = .ok (.idiv, 1) := by decide +kernel
theorem dX8_word_42 : decode cX8_word 42 = .ok (.bipush 10, 2) := by decide +kernel
theorem dX8_word_44 : decode cX8_word 44 = .ok (.irem, 1) := by decide +kernel
theorem dX8_word_45 : decode cX8_word 45 = .ok (.aload_n 0, 1) := by decide +kernel
theorem dX8_word_46 : decode cX8_word 46 = .ok (.getfield 15, 3) := by decide +kernel
theorem dX8_word_49 : decode cX8_word 49 = .ok (.if_icmp .le 5, 3) := by decide +kernel
theorem dX8_word_52 : decode cX8_word 52 = .ok (.iconst (-1), 1) := by decide +kernel
theorem dX8_word_53 : decode cX8_word 53 = .ok (.ireturn, 1) := by decide +kernel
theorem dX8_word_54 : decode cX8_word 54 = .ok (.iinc 2 1, 3) := by decide +kernel
theorem dX8_word_57 : decode cX8_word 57 = .ok (.goto (-34), 3) := by decide +kernel
theorem dX8_word_60 : decode cX8_word 60 = .ok (.aload_n 0, 1) := by decide +kernel
theorem dX8_word_61 : decode cX8_word 61 = .ok (.invokevirtual 80, 3) := by decide +kernel
theorem dX8_word_64 : decode cX8_word 64 = .ok (.aload_n 0, 1) := by decide +kernel
theorem dX8_word_65 : decode cX8_word 65 = .ok (.invokevirtual 83, 3) := by decide +kernel
theorem dX8_word_68 : decode cX8_word 68 = .ok (.iconst 1, 1) := by decide +kernel
theorem dX8_word_69 : decode cX8_word 69 = .ok (.istore_n 2, 1) := by decide +kernel
theorem dX8_word_70 : decode cX8_word 70 = .ok (.iload_n 2, 1) := by decide +kernel
theorem dX8_word_71 : decode cX8_word 71 = .ok (.aload_n 0, 1) := by decide +kernel
theorem dX8_word_72 : decode cX8_word 72 = .ok (.getfield 9, 3) := by decide +kernel
theorem dX8_word_75 : decode cX8_word 75 = .ok (.if_icmp .gt 39, 3) := by decide +kernel
theorem dX8_word_78 : decode cX8_word 78 = .ok (.iload_n 1, 1) := by decide +kernel
theorem dX8_word_79 : decode cX8_word 79 = .ok (.aload_n 0, 1) := by decide +kernel
theorem dX8_word_80 : decode cX8_word 80 = .ok (.getfield 9, 3) := by decide +kernel
theorem dX8_word_83 : decode cX8_word 83 = .ok (.iload_n 2, 1) := by decide +kernel
theorem dX8_word_84 : decode cX8_word 84 = .ok (.isub, 1) := by decide +kernel
theorem dX8_word_85 : decode cX8_word 85 = .ok (.invokestatic 96, 3) := by decide +kernel
theorem dX8_word_88 : decode cX8_word 88 = .ok (.idiv, 1) := by decide +kernel
theorem dX8_word_89 : decode cX8_word 89 = .ok (.bipush 10, 2) := by decide +kernel
theorem dX8_word_91 : decode cX8_word 91 = .ok (.irem, 1) := by decide +kernel
theorem dX8_word_92 : decode cX8_word 92 = .ok (.istore_n 3, 1) := by decide +kernel
theorem dX8_word_93 : decode cX8_word 93 = .ok (.iload_n 3, 1) := by decide +kernel
theorem dX8_word_94 : decode cX8_word 94 = .ok (.ifCond .le 14, 3) := by decide +kernel
theorem dX8_word_97 : decode cX8_word 97 = .ok (.aload_n 0, 1) := by decide +kernel
theorem dX8_word_98 : decode cX8_word 98 = .ok (.getfield 18, 3) := by decide +kernel
theorem dX8_word_101 : decode cX8_word 101 = .ok (.iload_n 2, 1) := by decide +kernel
theorem dX8_word_102 : decode cX8_word 102 = .ok (.iload_n 3, 1) := by decide +kernel
theorem dX8_word_103 : decode cX8_word 103 = .ok (.invokestatic 92, 3) := by decide +kernel
theorem dX8_word_106 : decode cX8_word 106 = .ok (.iconst 1, 1) := by decide +kernel
theorem dX8_word_107 : decode cX8_word 107 = .ok (.iastore, 1) := by decide +kernel
theorem dX8_word_108 : decode cX8_word 108 = .ok (.iinc 2 1, 3) := by decide +kernel
theorem dX8_word_111 : decode cX8_word 111 = .ok (.goto (-41), 3) := by decide +kernel
theorem dX8_word_114 : decode cX8_word 114 = .ok (.aload_n 0, 1) := by decide +kernel
theorem dX8_word_115 : decode cX8_word 115 = .ok (.invokevirtual 100, 3) := by decide +kernel
theorem dX8_word_118 : decode cX8_word 118 = .ok (.ireturn, 1) := by decide +kernel
theorem dX8_spelled_0 : decode cX8_spelled 0 = .ok (.iconst 0, 1) := by decide +kernel
theorem dX8_spelled_1 : decode cX8_spelled 1 = .ok (.istore_n 1, 1) := by decide +kernel
theorem dX8_spelled_2 : decode cX8_spelled 2 = .ok (.iconst 1, 1) := by decide +kernel
theorem dX8_spelled_3 : decode cX8_spelled 3 = .ok (.istore_n 2, 1) := by decide +kernel
theorem dX8_spelled_4 : decode cX8_spelled 4 = .ok (.iload_n 2, 1) := by decide +kernel
theorem dX8_spelled_5 : decode cX8_spelled 5 = .ok (.aload_n 0, 1) := by decide +kernel
theorem dX8_spelled_6 : decode cX8_spelled 6 = .ok (.getfield 9, 3) := by decide +kernel
theorem dX8_spelled_9 : decode cX8_spelled 9 = .ok (.if_icmp .gt 73, 3) := by decide +kernel
theorem dX8_spelled_12 : decode cX8_spelled 12 = .ok (.iconst 0, 1) := by decide +kernel
theorem dX8_spelled_13 : decode cX8_spelled 13 = .ok (.istore_n 3, 1) := by decide +kernel
theorem dX8_spelled_14 : decode cX8_spelled 14 = .ok (.iconst 1, 1) := by decide +kernel
theorem dX8_spelled_15 : decode cX8_spelled 15 = .ok (.istore 4, 2) := by decide +kernel
theorem dX8_spelled_17 : decode cX8_spelled 17 = .ok (.iload 4, 2) := by decide +kernel
theorem dX8_spelled_19 : decode cX8_spelled 19 = .ok (.aload_n 0, 1) := by decide +kernel
theorem dX8_spelled_20 : decode cX8_spelled 20 = .ok (.getfield 15, 3) := by decide +kernel
theorem dX8_spelled_23 : decode cX8_spelled 23 = .ok (.if_icmp .gt 46, 3) := by decide +kernel
theorem dX8_spelled_26 : decode cX8_spelled 26 = .ok (.aload_n 0, 1) := by decide +kernel
theorem dX8_spelled_27 : decode cX8_spelled 27 = .ok (.getfield 18, 3) := by decide +kernel
theorem dX8_spelled_30 : decode cX8_spelled 30 = .ok (.iload_n 2, 1) := by decide +kernel
theorem dX8_spelled_31 : decode cX8_spelled 31 = .ok (.iload 4, 2) := by decide +kernel
theorem dX8_spelled_33 : decode cX8_spelled 33 = .ok (.invokestatic 92, 3) := by decide +kernel
theorem dX8_spelled_36 : decode cX8_spelled 36 = .ok (.iaload, 1) := by decide +kernel
theorem dX8_spelled_37 : decode cX8_spelled 37 = .ok (.istore 5, 2) := by decide +kernel
theorem dX8_spelled_39 : decode cX8_spelled 39 = .ok (.iload 5, 2) := by decide +kernel
theorem dX8_spelled_41 : decode cX8_spelled 41 = .ok (.ifCond .ne 6, 3) := by decide +kernel
theorem dX8_spelled_44 : decode cX8_spelled 44 = .ok (.goto 19, 3) := by decide +kernel
theorem dX8_spelled_47 : decode cX8_spelled 47 = .ok (.iload 5, 2) := by decide +kernel
theorem dX8_spelled_49 : decode cX8_spelled 49 = .ok (.iconst 1, 1) := by decide +kernel
theorem dX8_spelled_50 : decode cX8_spelled 50 = .ok (.if_icmp .gt 7, 3) := by decide +kernel
theorem dX8_spelled_53 : decode cX8_spelled 53 = .ok (.iload_n 3, 1) := by decide +kernel
theorem dX8_spelled_54 : decode cX8_spelled 54 = .ok (.ifCond .le 6, 3) := by decide +kernel
theorem dX8_spelled_57 : decode cX8_spelled 57 = .ok (.bipush (-2), 2) := by decide +kernel
theorem dX8_spelled_59 : decode cX8_spelled 59 = .ok (.ireturn, 1) := by decide +kernel
theorem dX8_spelled_60 : decode cX8_spelled 60 = .ok (.iload 4, 2) := by decide +kernel
theorem dX8_spelled_62 : decode cX8_spelled 62 = .ok (.istore_n 3, 1) := by decide +kernel
theorem dX8_spelled_63 : decode cX8_spelled 63 = .ok (.iinc 4 1, 3) := by decide +kernel
theorem dX8_spelled_66 : decode cX8_spelled 66 = .ok (.goto (-49), 3) := by decide +kernel
theorem dX8_spelled_69 : decode cX8_spelled 69 = .ok (.bipush 10, 2) := by decide +kernel
theorem dX8_spelled_71 : decode cX8_spelled 71 = .ok (.iload_n 1, 1) := by decide +kernel
theorem dX8_spelled_72 : decode cX8_spelled 72 = .ok (.imul, 1) := by decide +kernel
theorem dX8_spelled_73 : decode cX8_spelled 73 = .ok (.iload_n 3, 1) := by decide +kernel
theorem dX8_spelled_74 : decode cX8_spelled 74 = .ok (.iadd, 1) := by decide +kernel
theorem dX8_spelled_75 : decode cX8_spelled 75 = .ok (.istore_n 1, 1) := by decide +kernel
theorem dX8_spelled_76 : decode cX8_spelled 76 = .ok (.iinc 2 1, 3) := by decide +kernel
theorem dX8_spelled_79 : decode cX8_spelled 79 = .ok (.goto (-75), 3) := by decide +kernel
theorem dX8_spelled_82 : decode cX8_spelled 82 = .ok (.iload_n 1, 1) := by decide +kernel
theorem dX8_spelled_83 : decode cX8_spelled 83 = .ok (.ireturn, 1) := by decide +kernel
theorem dX8_turn_0 : decode cX8_turn 0 = .ok (.iload_n 1, 1) := by decide +kernel
theorem dX8_turn_1 : decode cX8_turn 1 = .ok (.i2l, 1) := by decide +kernel
theorem dX8_turn_2 : decode cX8_turn 2 = .ok (.lconst 0, 1) := by decide +kernel
theorem dX8_turn_3 : decode cX8_turn 3 = .ok (.ldc2_w 104, 3) := by decide +kernel
theorem dX8_turn_6 : decode cX8_turn 6 = .ok (.invokestatic 58, 3) := by decide +kernel
theorem dX8_turn_9 : decode cX8_turn 9 = .ok (.ifCond .ne 5, 3) := by decide +kernel
theorem dX8_turn_12 : decode cX8_turn 12 = .ok (.iconst (-1), 1) := by decide +kernel
theorem dX8_turn_13 : decode cX8_turn 13 = .ok (.ireturn, 1) := by decide +kernel
theorem dX8_turn_14 : decode cX8_turn 14 = .ok (.aload_n 0, 1) := by decide +kernel
theorem dX8_turn_15 : decode cX8_turn 15 = .ok (.invokevirtual 80, 3) := by decide +kernel
theorem dX8_turn_18 : decode cX8_turn 18 = .ok (.iconst 0, 1) := by decide +kernel
theorem dX8_turn_19 : decode cX8_turn 19 = .ok (.istore_n 2, 1) := by decide +kernel
theorem dX8_turn_20 : decode cX8_turn 20 = .ok (.iload_n 2, 1) := by decide +kernel
theorem dX8_turn_21 : decode cX8_turn 21 = .ok (.bipush 25, 2) := by decide +kernel
theorem dX8_turn_23 : decode cX8_turn 23 = .ok (.if_icmp .ge 16, 3) := by decide +kernel
theorem dX8_turn_26 : decode cX8_turn 26 = .ok (.aload_n 0, 1) := by decide +kernel
theorem dX8_turn_27 : decode cX8_turn 27 = .ok (.getfield 28, 3) := by decide +kernel
theorem dX8_turn_30 : decode cX8_turn 30 = .ok (.iload_n 2, 1) := by decide +kernel
theorem dX8_turn_31 : decode cX8_turn 31 = .ok (.iconst 0, 1) := by decide +kernel
theorem dX8_turn_32 : decode cX8_turn 32 = .ok (.iastore, 1) := by decide +kernel
theorem dX8_turn_33 : decode cX8_turn 33 = .ok (.iinc 2 1, 3) := by decide +kernel
theorem dX8_turn_36 : decode cX8_turn 36 = .ok (.goto (-16), 3) := by decide +kernel
theorem dX8_turn_39 : decode cX8_turn 39 = .ok (.iconst 1, 1) := by decide +kernel
theorem dX8_turn_40 : decode cX8_turn 40 = .ok (.istore_n 2, 1) := by decide +kernel
theorem dX8_turn_41 : decode cX8_turn 41 = .ok (.iload_n 2, 1) := by decide +kernel
theorem dX8_turn_42 : decode cX8_turn 42 = .ok (.aload_n 0, 1) := by decide +kernel
theorem dX8_turn_43 : decode cX8_turn 43 = .ok (.getfield 9, 3) := by decide +kernel
theorem dX8_turn_46 : decode cX8_turn 46 = .ok (.if_icmp .gt 88, 3) := by decide +kernel
theorem dX8_turn_49 : decode cX8_turn 49 = .ok (.iconst 1, 1) := by decide +kernel
theorem dX8_turn_50 : decode cX8_turn 50 = .ok (.istore_n 3, 1) := by decide +kernel
theorem dX8_turn_51 : decode cX8_turn 51 = .ok (.iload_n 3, 1) := by decide +kernel
theorem dX8_turn_52 : decode cX8_turn 52 = .ok (.aload_n 0, 1) := by decide +kernel
theorem dX8_turn_53 : decode cX8_turn 53 = .ok (.getfield 15, 3) := by decide +kernel
theorem dX8_turn_56 : decode cX8_turn 56 = .ok (.if_icmp .gt 72, 3) := by decide +kernel
theorem dX8_turn_59 : decode cX8_turn 59 = .ok (.iload_n 1, 1) := by decide +kernel
theorem dX8_turn_60 : decode cX8_turn 60 = .ok (.ifCond .ne 11, 3) := by decide +kernel
theorem dX8_turn_63 : decode cX8_turn 63 = .ok (.iload_n 3, 1) := by decide +kernel
theorem dX8_turn_64 : decode cX8_turn 64 = .ok (.iload_n 2, 1) := by decide +kernel
theorem dX8_turn_65 : decode cX8_turn 65 = .ok (.invokestatic 92, 3) := by decide +kernel
theorem dX8_turn_68 : decode cX8_turn 68 = .ok (.goto 35, 3) := by decide +kernel
theorem dX8_turn_71 : decode cX8_turn 71 = .ok (.iload_n 1, 1) := by decide +kernel
theorem dX8_turn_72 : decode cX8_turn 72 = .ok (.iconst 1, 1) := by decide +kernel
theorem dX8_turn_73 : decode cX8_turn 73 = .ok (.if_icmp .ne 18, 3) := by decide +kernel
theorem dX8_turn_76 : decode cX8_turn 76 = .ok (.aload_n 0, 1) := by decide +kernel
theorem dX8_turn_77 : decode cX8_turn 77 = .ok (.getfield 9, 3) := by decide +kernel
theorem dX8_turn_80 : decode cX8_turn 80 = .ok (.iconst 1, 1) := by decide +kernel
theorem dX8_turn_81 : decode cX8_turn 81 = .ok (.iadd, 1) := by decide +kernel
theorem dX8_turn_82 : decode cX8_turn 82 = .ok (.iload_n 2, 1) := by decide +kernel
theorem dX8_turn_83 : decode cX8_turn 83 = .ok (.isub, 1) := by decide +kernel
theorem dX8_turn_84 : decode cX8_turn 84 = .ok (.iload_n 3, 1) := by decide +kernel
theorem dX8_turn_85 : decode cX8_turn 85 = .ok (.invokestatic 92, 3) := by decide +kernel
theorem dX8_turn_88 : decode cX8_turn 88 = .ok (.goto 15, 3) := by decide +kernel
theorem dX8_turn_91 : decode cX8_turn 91 = .ok (.iload_n 2, 1) := by decide +kernel
theorem dX8_turn_92 : decode cX8_turn 92 = .ok (.aload_n 0, 1) := by decide +kernel
theorem dX8_turn_93 : decode cX8_turn 93 = .ok (.getfield 15, 3) := by decide +kernel
theorem dX8_turn_96 : decode cX8_turn 96 = .ok (.iconst 1, 1) := by decide +kernel
theorem dX8_turn_97 : decode cX8_turn 97 = .ok (.iadd, 1) := by decide +kernel
theorem dX8_turn_98 : decode cX8_turn 98 = .ok (.iload_n 3, 1) := by decide +kernel
theorem dX8_turn_99 : decode cX8_turn 99 = .ok (.isub, 1) := by decide +kernel
theorem dX8_turn_100 : decode cX8_turn 100 = .ok (.invokestatic 92, 3) := by decide +kernel
theorem dX8_turn_103 : decode cX8_turn 103 = .ok (.istore 4, 2) := by decide +kernel
theorem dX8_turn_105 : decode cX8_turn 105 = .ok (.aload_n 0, 1) := by decide +kernel
theorem dX8_turn_106 : decode cX8_turn 106 = .ok (.getfield 28, 3) := by decide +kernel
theorem dX8_turn_109 : decode cX8_turn 109 = .ok (.iload 4, 2) := by decide +kernel
theorem dX8_turn_111 : decode cX8_turn 111 = .ok (.aload_n 0, 1) := by decide +kernel
theorem dX8_turn_112 : decode cX8_turn 112 = .ok (.getfield 18, 3) := by decide +kernel
theorem dX8_turn_115 : decode cX8_turn 115 = .ok (.iload_n 2, 1) := by decide +kernel
theorem dX8_turn_116 : decode cX8_turn 116 = .ok (.iload_n 3, 1) := by decide +kernel
theorem dX8_turn_117 : decode cX8_turn 117 = .ok (.invokestatic 92, 3) := by decide +kernel
theorem dX8_turn_120 : decode cX8_turn 120 = .ok (.iaload, 1) := by decide +kernel
theorem dX8_turn_121 : decode cX8_turn 121 = .ok (.iastore, 1) := by decide +kernel
theorem dX8_turn_122 : decode cX8_turn 122 = .ok (.iinc 3 1, 3) := by decide +kernel
theorem dX8_turn_125 : decode cX8_turn 125 = .ok (.goto (-74), 3) := by decide +kernel
theorem dX8_turn_128 : decode cX8_turn 128 = .ok (.iinc 2 1, 3) := by decide +kernel
theorem dX8_turn_131 : decode cX8_turn 131 = .ok (.goto (-90), 3) := by decide +kernel
theorem dX8_turn_134 : decode cX8_turn 134 = .ok (.iconst 0, 1) := by decide +kernel
theorem dX8_turn_135 : decode cX8_turn 135 = .ok (.istore_n 2, 1) := by decide +kernel
theorem dX8_turn_136 : decode cX8_turn 136 = .ok (.iload_n 2, 1) := by decide +kernel
theorem dX8_turn_137 : decode cX8_turn 137 = .ok (.bipush 25, 2) := by decide +kernel
theorem dX8_turn_139 : decode cX8_turn 139 = .ok (.if_icmp .ge 21, 3) := by decide +kernel
theorem dX8_turn_142 : decode cX8_turn 142 = .ok (.aload_n 0, 1) := by decide +kernel
theorem dX8_turn_143 : decode cX8_turn 143 = .ok (.getfield 18, 3) := by decide +kernel
theorem dX8_turn_146 : decode cX8_turn 146 = .ok (.iload_n 2, 1) := by decide +kernel
theorem dX8_turn_147 : decode cX8_turn 147 = .ok (.aload_n 0, 1) := by decide +kernel
theorem dX8_turn_148 : decode cX8_turn 148 = .ok (.getfield 28, 3) := by decide +kernel
theorem dX8_turn_151 : decode cX8_turn 151 = .ok (.iload_n 2, 1) := by decide +kernel
theorem dX8_turn_152 : decode cX8_turn 152 = .ok (.iaload, 1) := by decide +kernel
theorem dX8_turn_153 : decode cX8_turn 153 = .ok (.iastore, 1) := by decide +kernel
theorem dX8_turn_154 : decode cX8_turn 154 = .ok (.iinc 2 1, 3) := by decide +kernel
theorem dX8_turn_157 : decode cX8_turn 157 = .ok (.goto (-21), 3) := by decide +kernel
theorem dX8_turn_160 : decode cX8_turn 160 = .ok (.iload_n 1, 1) := by decide +kernel
theorem dX8_turn_161 : decode cX8_turn 161 = .ok (.ifCond .ne 21, 3) := by decide +kernel
theorem dX8_turn_164 : decode cX8_turn 164 = .ok (.aload_n 0, 1) := by decide +kernel
theorem dX8_turn_165 : decode cX8_turn 165 = .ok (.getfield 9, 3) := by decide +kernel
theorem dX8_turn_168 : decode cX8_turn 168 = .ok (.istore_n 2, 1) := by decide +kernel
theorem dX8_turn_169 : decode cX8_turn 169 = .ok (.aload_n 0, 1) := by decide +kernel
theorem dX8_turn_170 : decode cX8_turn 170 = .ok (.aload_n 0, 1) := by decide +kernel
theorem dX8_turn_171 : decode cX8_turn 171 = .ok (.getfield 15, 3) := by decide +kernel
theorem dX8_turn_174 : decode cX8_turn 174 = .ok (.putfield 9, 3) := by decide +kernel
theorem dX8_turn_177 : decode cX8_turn 177 = .ok (.aload_n 0, 1) := by decide +kernel
theorem dX8_turn_178 : decode cX8_turn 178 = .ok (.iload_n 2, 1) := by decide +kernel
theorem dX8_turn_179 : decode cX8_turn 179 = .ok (.putfield 15, 3) := by decide +kernel
theorem dX8_turn_182 : decode cX8_turn 182 = .ok (.aload_n 0, 1) := by decide +kernel
theorem dX8_turn_183 : decode cX8_turn 183 = .ok (.invokevirtual 100, 3) := by decide +kernel
theorem dX8_turn_186 : decode cX8_turn 186 = .ok (.ireturn, 1) := by decide +kernel
theorem dX8_from_0 : decode cX8_from 0 = .ok (.bipush 80, 2) := by decide +kernel
theorem dX8_from_2 : decode cX8_from 2 = .ok (.bipush 6, 2) := by decide +kernel
theorem dX8_from_4 : decode cX8_from 4 = .ok (.iload_n 0, 1) := by decide +kernel
theorem dX8_from_5 : decode cX8_from 5 = .ok (.imul, 1) := by decide +kernel
theorem dX8_from_6 : decode cX8_from 6 = .ok (.iload_n 1, 1) := by decide +kernel
theorem dX8_from_7 : decode cX8_from 7 = .ok (.iadd, 1) := by decide +kernel
theorem dX8_from_8 : decode cX8_from 8 = .ok (.imul, 1) := by decide +kernel
theorem dX8_from_9 : decode cX8_from 9 = .ok (.ireturn, 1) := by decide +kernel
theorem dX8_grows_0 : decode cX8_grows 0 = .ok (.iload_n 1, 1) := by decide +kernel
theorem dX8_grows_1 : decode cX8_grows 1 = .ok (.iload_n 2, 1) := by decide +kernel
theorem dX8_grows_2 : decode cX8_grows 2 = .ok (.invokestatic 106, 3) := by decide +kernel
theorem dX8_grows_5 : decode cX8_grows 5 = .ok (.istore_n 3, 1) := by decide +kernel
theorem dX8_grows_6 : decode cX8_grows 6 = .ok (.iload_n 1, 1) := by decide +kernel
theorem dX8_grows_7 : decode cX8_grows 7 = .ok (.iconst 1, 1) := by decide +kernel
theorem dX8_grows_8 : decode cX8_grows 8 = .ok (.isub, 1) := by decide +kernel
theorem dX8_grows_9 : decode cX8_grows 9 = .ok (.iload_n 2, 1) := by decide +kernel
theorem dX8_grows_10 : decode cX8_grows 10 = .ok (.iconst 1, 1) := by decide +kernel
theorem dX8_grows_11 : decode cX8_grows 11 = .ok (.isub, 1) := by decide +kernel
theorem dX8_grows_12 : decode cX8_grows 12 = .ok (.invokestatic 106, 3) := by decide +kernel
theorem dX8_grows_15 : decode cX8_grows 15 = .ok (.istore 4, 2) := by decide +kernel
theorem dX8_grows_17 : decode cX8_grows 17 = .ok (.iload_n 1, 1) := by decide +kernel
theorem dX8_grows_18 : decode cX8_grows 18 = .ok (.iconst 1, 1) := by decide +kernel
theorem dX8_grows_19 : decode cX8_grows 19 = .ok (.isub, 1) := by decide +kernel
theorem dX8_grows_20 : decode cX8_grows 20 = .ok (.iload_n 2, 1) := by decide +kernel
theorem dX8_grows_21 : decode cX8_grows 21 = .ok (.invokestatic 106, 3) := by decide +kernel
theorem dX8_grows_24 : decode cX8_grows 24 = .ok (.istore 5, 2) := by decide +kernel
theorem dX8_grows_26 : decode cX8_grows 26 = .ok (.iload_n 1, 1) := by decide +kernel
theorem dX8_grows_27 : decode cX8_grows 27 = .ok (.iload_n 2, 1) := by decide +kernel
theorem dX8_grows_28 : decode cX8_grows 28 = .ok (.iconst 1, 1) := by decide +kernel
theorem dX8_grows_29 : decode cX8_grows 29 = .ok (.isub, 1) := by decide +kernel
theorem dX8_grows_30 : decode cX8_grows 30 = .ok (.invokestatic 106, 3) := by decide +kernel
theorem dX8_grows_33 : decode cX8_grows 33 = .ok (.istore 6, 2) := by decide +kernel
theorem dX8_grows_35 : decode cX8_grows 35 = .ok (.aload_n 0, 1) := by decide +kernel
theorem dX8_grows_36 : decode cX8_grows 36 = .ok (.getfield 18, 3) := by decide +kernel
theorem dX8_grows_39 : decode cX8_grows 39 = .ok (.iload_n 1, 1) := by decide +kernel
theorem dX8_grows_40 : decode cX8_grows 40 = .ok (.iload_n 2, 1) := by decide +kernel
theorem dX8_grows_41 : decode cX8_grows 41 = .ok (.invokestatic 92, 3) := by decide +kernel
theorem dX8_grows_44 : decode cX8_grows 44 = .ok (.iaload, 1) := by decide +kernel
theorem dX8_grows_45 : decode cX8_grows 45 = .ok (.istore 7, 2) := by decide +kernel
theorem dX8_grows_47 : decode cX8_grows 47 = .ok (.aload_n 0, 1) := by decide +kernel
theorem dX8_grows_48 : decode cX8_grows 48 = .ok (.getfield 62, 3) := by decide +kernel
theorem dX8_grows_51 : decode cX8_grows 51 = .ok (.iconst 1, 1) := by decide +kernel
theorem dX8_grows_52 : decode cX8_grows 52 = .ok (.if_icmp .eq 11, 3) := by decide +kernel
theorem dX8_grows_55 : decode cX8_grows 55 = .ok (.aload_n 0, 1) := by decide +kernel
theorem dX8_grows_56 : decode cX8_grows 56 = .ok (.getfield 62, 3) := by decide +kernel
theorem dX8_grows_59 : decode cX8_grows 59 = .ok (.iconst 2, 1) := by decide +kernel
theorem dX8_grows_60 : decode cX8_grows 60 = .ok (.if_icmp .ne 13, 3) := by decide +kernel
theorem dX8_grows_63 : decode cX8_grows 63 = .ok (.iload 7, 2) := by decide +kernel
theorem dX8_grows_65 : decode cX8_grows 65 = .ok (.iconst 1, 1) := by decide +kernel
theorem dX8_grows_66 : decode cX8_grows 66 = .ok (.if_icmp .le 7, 3) := by decide +kernel
theorem dX8_grows_69 : decode cX8_grows 69 = .ok (.iconst 1, 1) := by decide +kernel
theorem dX8_grows_70 : decode cX8_grows 70 = .ok (.goto 5, 3) := by decide +kernel
theorem dX8_grows_73 : decode cX8_grows 73 = .ok (.iload 7, 2) := by decide +kernel
theorem dX8_grows_75 : decode cX8_grows 75 = .ok (.istore 7, 2) := by decide +kernel
theorem dX8_grows_77 : decode cX8_grows 77 = .ok (.iconst 1, 1) := by decide +kernel
theorem dX8_grows_78 : decode cX8_grows 78 = .ok (.istore 8, 2) := by decide +kernel
theorem dX8_grows_80 : decode cX8_grows 80 = .ok (.iconst 0, 1) := by decide +kernel
theorem dX8_grows_81 : decode cX8_grows 81 = .ok (.istore 9, 2) := by decide +kernel
theorem dX8_grows_83 : decode cX8_grows 83 = .ok (.iload 9, 2) := by decide +kernel
theorem dX8_grows_85 : decode cX8_grows 85 = .ok (.bipush 80, 2) := by decide +kernel
theorem dX8_grows_87 : decode cX8_grows 87 = .ok (.if_icmp .ge 315, 3) := by decide +kernel
theorem dX8_grows_90 : decode cX8_grows 90 = .ok (.aload_n 0, 1) := by decide +kernel
theorem dX8_grows_91 : decode cX8_grows 91 = .ok (.getfield 31, 3) := by decide +kernel
theorem dX8_grows_94 : decode cX8_grows 94 = .ok (.iload_n 3, 1) := by decide +kernel
theorem dX8_grows_95 : decode cX8_grows 95 = .ok (.iload 9, 2) := by decide +kernel
theorem dX8_grows_97 : decode cX8_grows 97 = .ok (.iadd, 1) := by decide +kernel
theorem dX8_grows_98 : decode cX8_grows 98 = .ok (.iconst 0, 1) := by decide +kernel
theorem dX8_grows_99 : decode cX8_grows 99 = .ok (.iastore, 1) := by decide +kernel
theorem dX8_grows_100 : decode cX8_grows 100 = .ok (.iload 8, 2) := by decide +kernel
theorem dX8_grows_102 : decode cX8_grows 102 = .ok (.ifCond .ne 6, 3) := by decide +kernel
theorem dX8_grows_105 : decode cX8_grows 105 = .ok (.goto 291, 3) := by decide +kernel
theorem dX8_grows_108 : decode cX8_grows 108 = .ok (.aload_n 0, 1) := by decide +kernel
theorem dX8_grows_109 : decode cX8_grows 109 = .ok (.getfield 31, 3) := by decide +kernel
theorem dX8_grows_112 : decode cX8_grows 112 = .ok (.iload 4, 2) := by decide +kernel
theorem dX8_grows_114 : decode cX8_grows 114 = .ok (.iload 9, 2) := by decide +kernel
theorem dX8_grows_116 : decode cX8_grows 116 = .ok (.iadd, 1) := by decide +kernel
theorem dX8_grows_117 : decode cX8_grows 117 = .ok (.iaload, 1) := by decide +kernel
theorem dX8_grows_118 : decode cX8_grows 118 = .ok (.istore 10, 2) := by decide +kernel
theorem dX8_grows_120 : decode cX8_grows 120 = .ok (.aload_n 0, 1) := by decide +kernel
theorem dX8_grows_121 : decode cX8_grows 121 = .ok (.getfield 31, 3) := by decide +kernel
theorem dX8_grows_124 : decode cX8_grows 124 = .ok (.iload 5, 2) := by decide +kernel
theorem dX8_grows_126 : decode cX8_grows 126 = .ok (.iload 9, 2) := by decide +kernel
theorem dX8_grows_128 : decode cX8_grows 128 = .ok (.iadd, 1) := by decide +kernel
theorem dX8_grows_129 : decode cX8_grows 129 = .ok (.iaload, 1) := by decide +kernel
theorem dX8_grows_130 : decode cX8_grows 130 = .ok (.istore 11, 2) := by decide +kernel
theorem dX8_grows_132 : decode cX8_grows 132 = .ok (.aload_n 0, 1) := by decide +kernel
theorem dX8_grows_133 : decode cX8_grows 133 = .ok (.getfield 31, 3) := by decide +kernel
theorem dX8_grows_136 : decode cX8_grows 136 = .ok (.iload 6, 2) := by decide +kernel
theorem dX8_grows_138 : decode cX8_grows 138 = .ok (.iload 9, 2) := by decide +kernel
theorem dX8_grows_140 : decode cX8_grows 140 = .ok (.iadd, 1) := by decide +kernel
theorem dX8_grows_141 : decode cX8_grows 141 = .ok (.iaload, 1) := by decide +kernel
theorem dX8_grows_142 : decode cX8_grows 142 = .ok (.istore 12, 2) := by decide +kernel
theorem dX8_grows_144 : decode cX8_grows 144 = .ok (.iload 11, 2) := by decide +kernel
theorem dX8_grows_146 : decode cX8_grows 146 = .ok (.iload 12, 2) := by decide +kernel
theorem dX8_grows_148 : decode cX8_grows 148 = .ok (.if_icmp .le 8, 3) := by decide +kernel
theorem dX8_grows_151 : decode cX8_grows 151 = .ok (.iload 11, 2) := by decide +kernel
theorem dX8_grows_153 : decode cX8_grows 153 = .ok (.goto 5, 3) := by decide +kernel
theorem dX8_grows_156 : decode cX8_grows 156 = .ok (.iload 12, 2) := by decide +kernel
theorem dX8_grows_158 : decode cX8_grows 158 = .ok (.istore 13, 2) := by decide +kernel
theorem dX8_grows_160 : decode cX8_grows 160 = .ok (.iload 11, 2) := by decide +kernel
theorem dX8_grows_162 : decode cX8_grows 162 = .ok (.iload 12, 2) := by decide +kernel
theorem dX8_grows_164 : decode cX8_grows 164 = .ok (.if_icmp .ge 8, 3) := by decide +kernel
theorem dX8_grows_167 : decode cX8_grows 167 = .ok (.iload 11, 2) := by decide +kernel
theorem dX8_grows_169 : decode cX8_grows 169 = .ok (.goto 5, 3) := by decide +kernel
theorem dX8_grows_172 : decode cX8_grows 172 = .ok (.iload 12, 2) := by decide +kernel
theorem dX8_grows_174 : decode cX8_grows 174 = .ok (.istore 14, 2) := by decide +kernel
theorem dX8_grows_176 : decode cX8_grows 176 = .ok (.aload_n 0, 1) := by decide +kernel
theorem dX8_grows_177 : decode cX8_grows 177 = .ok (.getfield 62, 3) := by decide +kernel
theorem dX8_grows_180 : decode cX8_grows 180 = .ok (.ifCond .ne 20, 3) := by decide +kernel
theorem dX8_grows_183 : decode cX8_grows 183 = .ok (.iload 13, 2) := by decide +kernel
theorem dX8_grows_185 : decode cX8_grows 185 = .ok (.iload 7, 2) := by decide +kernel
theorem dX8_grows_187 : decode cX8_grows 187 = .ok (.iadd, 1) := by decide +kernel
theorem dX8_grows_188 : decode cX8_grows 188 = .ok (.istore 15, 2) := by decide +kernel
theorem dX8_grows_190 : decode cX8_grows 190 = .ok (.iload 14, 2) := by decide +kernel
theorem dX8_grows_192 : decode cX8_grows 192 = .ok (.iload 10, 2) := by decide +kernel
theorem dX8_grows_194 : decode cX8_grows 194 = .ok (.isub, 1) := by decide +kernel
theorem dX8_grows_195 : decode cX8_grows 195 = .ok (.istore 7, 2) := by decide +kernel
theorem dX8_grows_197 : decode cX8_grows 197 = .ok (.goto 176, 3) := by decide +kernel
theorem dX8_grows_200 : decode cX8_grows 200 = .ok (.aload_n 0, 1) := by decide +kernel
theorem dX8_grows_201 : decode cX8_grows 201 = .ok (.getfield 62, 3) := by decide +kernel
theorem dX8_grows_204 : decode cX8_grows 204 = .ok (.iconst 1, 1) := by decide +kernel
theorem dX8_grows_205 : decode cX8_grows 205 = .ok (.if_icmp .ne 53, 3) := by decide +kernel
theorem dX8_grows_208 : decode cX8_grows 208 = .ok (.iload 11, 2) := by decide +kernel
theorem dX8_grows_210 : decode cX8_grows 210 = .ok (.iload 7, 2) := by decide +kernel
theorem dX8_grows_212 : decode cX8_grows 212 = .ok (.iadd, 1) := by decide +kernel
theorem dX8_grows_213 : decode cX8_grows 213 = .ok (.iload 12, 2) := by decide +kernel
theorem dX8_grows_215 : decode cX8_grows 215 = .ok (.if_icmp .le 11, 3) := by decide +kernel
theorem dX8_grows_218 : decode cX8_grows 218 = .ok (.iload 11, 2) := by decide +kernel
theorem dX8_grows_220 : decode cX8_grows 220 = .ok (.iload 7, 2) := by decide +kernel
theorem dX8_grows_222 : decode cX8_grows 222 = .ok (.iadd, 1) := by decide +kernel
theorem dX8_grows_223 : decode cX8_grows 223 = .ok (.goto 5, 3) := by decide +kernel
theorem dX8_grows_226 : decode cX8_grows 226 = .ok (.iload 12, 2) := by decide +kernel
theorem dX8_grows_228 : decode cX8_grows 228 = .ok (.istore 15, 2) := by decide +kernel
theorem dX8_grows_230 : decode cX8_grows 230 = .ok (.iload 11, 2) := by decide +kernel
theorem dX8_grows_232 : decode cX8_grows 232 = .ok (.iload 7, 2) := by decide +kernel
theorem dX8_grows_234 : decode cX8_grows 234 = .ok (.iadd, 1) := by decide +kernel
theorem dX8_grows_235 : decode cX8_grows 235 = .ok (.iload 12, 2) := by decide +kernel
theorem dX8_grows_237 : decode cX8_grows 237 = .ok (.if_icmp .ge 11, 3) := by decide +kernel
theorem dX8_grows_240 : decode cX8_grows 240 = .ok (.iload 11, 2) := by decide +kernel
theorem dX8_grows_242 : decode cX8_grows 242 = .ok (.iload 7, 2) := by decide +kernel
theorem dX8_grows_244 : decode cX8_grows 244 = .ok (.iadd, 1) := by decide +kernel
theorem dX8_grows_245 : decode cX8_grows 245 = .ok (.goto 5, 3) := by decide +kernel
theorem dX8_grows_248 : decode cX8_grows 248 = .ok (.iload 12, 2) := by decide +kernel
theorem dX8_grows_250 : decode cX8_grows 250 = .ok (.iload 10, 2) := by decide +kernel
theorem dX8_grows_252 : decode cX8_grows 252 = .ok (.isub, 1) := by decide +kernel
theorem dX8_grows_253 : decode cX8_grows 253 = .ok (.istore 7, 2) := by decide +kernel
theorem dX8_grows_255 : decode cX8_grows 255 = .ok (.goto 118, 3) := by decide +kernel
theorem dX8_grows_258 : decode cX8_grows 258 = .ok (.aload_n 0, 1) := by decide +kernel
theorem dX8_grows_259 : decode cX8_grows 259 = .ok (.getfield 62, 3) := by decide +kernel
theorem dX8_grows_262 : decode cX8_grows 262 = .ok (.iconst 2, 1) := by decide +kernel
theorem dX8_grows_263 : decode cX8_grows 263 = .ok (.if_icmp .ne 53, 3) := by decide +kernel
theorem dX8_grows_266 : decode cX8_grows 266 = .ok (.iload 12, 2) := by decide +kernel
theorem dX8_grows_268 : decode cX8_grows 268 = .ok (.iload 7, 2) := by decide +kernel
theorem dX8_grows_270 : decode cX8_grows 270 = .ok (.iadd, 1) := by decide +kernel
theorem dX8_grows_271 : decode cX8_grows 271 = .ok (.iload 11, 2) := by decide +kernel
theorem dX8_grows_273 : decode cX8_grows 273 = .ok (.if_icmp .le 11, 3) := by decide +kernel
theorem dX8_grows_276 : decode cX8_grows 276 = .ok (.iload 12, 2) := by decide +kernel
theorem dX8_grows_278 : decode cX8_grows 278 = .ok (.iload 7, 2) := by decide +kernel
theorem dX8_grows_280 : decode cX8_grows 280 = .ok (.iadd, 1) := by decide +kernel
theorem dX8_grows_281 : decode cX8_grows 281 = .ok (.goto 5, 3) := by decide +kernel
theorem dX8_grows_284 : decode cX8_grows 284 = .ok (.iload 11, 2) := by decide +kernel
theorem dX8_grows_286 : decode cX8_grows 286 = .ok (.istore 15, 2) := by decide +kernel
theorem dX8_grows_288 : decode cX8_grows 288 = .ok (.iload 12, 2) := by decide +kernel
theorem dX8_grows_290 : decode cX8_grows 290 = .ok (.iload 7, 2) := by decide +kernel
theorem dX8_grows_292 : decode cX8_grows 292 = .ok (.iadd, 1) := by decide +kernel
theorem dX8_grows_293 : decode cX8_grows 293 = .ok (.iload 11, 2) := by decide +kernel
theorem dX8_grows_295 : decode cX8_grows 295 = .ok (.if_icmp .ge 11, 3) := by decide +kernel
theorem dX8_grows_298 : decode cX8_grows 298 = .ok (.iload 12, 2) := by decide +kernel
theorem dX8_grows_300 : decode cX8_grows 300 = .ok (.iload 7, 2) := by decide +kernel
theorem dX8_grows_302 : decode cX8_grows 302 = .ok (.iadd, 1) := by decide +kernel
theorem dX8_grows_303 : decode cX8_grows 303 = .ok (.goto 5, 3) := by decide +kernel
theorem dX8_grows_306 : decode cX8_grows 306 = .ok (.iload 11, 2) := by decide +kernel
theorem dX8_grows_308 : decode cX8_grows 308 = .ok (.iload 10, 2) := by decide +kernel
theorem dX8_grows_310 : decode cX8_grows 310 = .ok (.isub, 1) := by decide +kernel
theorem dX8_grows_311 : decode cX8_grows 311 = .ok (.istore 7, 2) := by decide +kernel
theorem dX8_grows_313 : decode cX8_grows 313 = .ok (.goto 60, 3) := by decide +kernel
theorem dX8_grows_316 : decode cX8_grows 316 = .ok (.iload 10, 2) := by decide +kernel
theorem dX8_grows_318 : decode cX8_grows 318 = .ok (.iload 11, 2) := by decide +kernel
theorem dX8_grows_320 : decode cX8_grows 320 = .ok (.if_icmp .ne 14, 3) := by decide +kernel
theorem dX8_grows_323 : decode cX8_grows 323 = .ok (.iload 11, 2) := by decide +kernel
theorem dX8_grows_325 : decode cX8_grows 325 = .ok (.iload 12, 2) := by decide +kernel
theorem dX8_grows_327 : decode cX8_grows 327 = .ok (.if_icmp .ne 7, 3) := by decide +kernel
theorem dX8_grows_330 : decode cX8_grows 330 = .ok (.iconst 1, 1) := by decide +kernel
theorem dX8_grows_331 : decode cX8_grows 331 = .ok (.goto 4, 3) := by decide +kernel
theorem dX8_grows_334 : decode cX8_grows 334 = .ok (.iconst 0, 1) := by decide +kernel
theorem dX8_grows_335 : decode cX8_grows 335 = .ok (.istore 16, 2) := by decide +kernel
theorem dX8_grows_337 : decode cX8_grows 337 = .ok (.iload 7, 2) := by decide +kernel
theorem dX8_grows_339 : decode cX8_grows 339 = .ok (.iload 16, 2) := by decide +kernel
theorem dX8_grows_341 : decode cX8_grows 341 = .ok (.if_icmp .ge 8, 3) := by decide +kernel
theorem dX8_grows_344 : decode cX8_grows 344 = .ok (.iload 7, 2) := by decide +kernel
theorem dX8_grows_346 : decode cX8_grows 346 = .ok (.goto 5, 3) := by decide +kernel
theorem dX8_grows_349 : decode cX8_grows 349 = .ok (.iload 16, 2) := by decide +kernel
theorem dX8_grows_351 : decode cX8_grows 351 = .ok (.istore 17, 2) := by decide +kernel
theorem dX8_grows_353 : decode cX8_grows 353 = .ok (.iload 13, 2) := by decide +kernel
theorem dX8_grows_355 : decode cX8_grows 355 = .ok (.iload 17, 2) := by decide +kernel
theorem dX8_grows_357 : decode cX8_grows 357 = .ok (.iadd, 1) := by decide +kernel
theorem dX8_grows_358 : decode cX8_grows 358 = .ok (.istore 15, 2) := by decide +kernel
theorem dX8_grows_360 : decode cX8_grows 360 = .ok (.iload 7, 2) := by decide +kernel
theorem dX8_grows_362 : decode cX8_grows 362 = .ok (.iload 17, 2) := by decide +kernel
theorem dX8_grows_364 : decode cX8_grows 364 = .ok (.isub, 1) := by decide +kernel
theorem dX8_grows_365 : decode cX8_grows 365 = .ok (.iload 14, 2) := by decide +kernel
theorem dX8_grows_367 : decode cX8_grows 367 = .ok (.iadd, 1) := by decide +kernel
theorem dX8_grows_368 : decode cX8_grows 368 = .ok (.iload 10, 2) := by decide +kernel
theorem dX8_grows_370 : decode cX8_grows 370 = .ok (.isub, 1) := by decide +kernel
theorem dX8_grows_371 : decode cX8_grows 371 = .ok (.istore 7, 2) := by decide +kernel
theorem dX8_grows_373 : decode cX8_grows 373 = .ok (.aload_n 0, 1) := by decide +kernel
theorem dX8_grows_374 : decode cX8_grows 374 = .ok (.getfield 31, 3) := by decide +kernel
theorem dX8_grows_377 : decode cX8_grows 377 = .ok (.iload_n 3, 1) := by decide +kernel
theorem dX8_grows_378 : decode cX8_grows 378 = .ok (.iload 9, 2) := by decide +kernel
theorem dX8_grows_380 : decode cX8_grows 380 = .ok (.iadd, 1) := by decide +kernel
theorem dX8_grows_381 : decode cX8_grows 381 = .ok (.iload 15, 2) := by decide +kernel
theorem dX8_grows_383 : decode cX8_grows 383 = .ok (.iastore, 1) := by decide +kernel
theorem dX8_grows_384 : decode cX8_grows 384 = .ok (.iload 15, 2) := by decide +kernel
theorem dX8_grows_386 : decode cX8_grows 386 = .ok (.ifCond .eq 7, 3) := by decide +kernel
theorem dX8_grows_389 : decode cX8_grows 389 = .ok (.iconst 1, 1) := by decide +kernel
theorem dX8_grows_390 : decode cX8_grows 390 = .ok (.goto 4, 3) := by decide +kernel
theorem dX8_grows_393 : decode cX8_grows 393 = .ok (.iconst 0, 1) := by decide +kernel
theorem dX8_grows_394 : decode cX8_grows 394 = .ok (.istore 8, 2) := by decide +kernel
theorem dX8_grows_396 : decode cX8_grows 396 = .ok (.iinc 9 1, 3) := by decide +kernel
theorem dX8_grows_399 : decode cX8_grows 399 = .ok (.goto (-316), 3) := by decide +kernel
theorem dX8_grows_402 : decode cX8_grows 402 = .ok (.return_, 1) := by decide +kernel
theorem dX8_growsAll_0 : decode cX8_growsAll 0 = .ok (.iconst 0, 1) := by decide +kernel
theorem dX8_growsAll_1 : decode cX8_growsAll 1 = .ok (.istore_n 1, 1) := by decide +kernel
theorem dX8_growsAll_2 : decode cX8_growsAll 2 = .ok (.iload_n 1, 1) := by decide +kernel
theorem dX8_growsAll_3 : decode cX8_growsAll 3 = .ok (.aload_n 0, 1) := by decide +kernel
theorem dX8_growsAll_4 : decode cX8_growsAll 4 = .ok (.getfield 9, 3) := by decide +kernel
theorem dX8_growsAll_7 : decode cX8_growsAll 7 = .ok (.if_icmp .gt 69, 3) := by decide +kernel
theorem dX8_growsAll_10 : decode cX8_growsAll 10 = .ok (.iconst 0, 1) := by decide +kernel
theorem dX8_growsAll_11 : decode cX8_growsAll 11 = .ok (.istore_n 2, 1) := by decide +kernel
theorem dX8_growsAll_12 : decode cX8_growsAll 12 = .ok (.iload_n 2, 1) := by decide +kernel
theorem dX8_growsAll_13 : decode cX8_growsAll 13 = .ok (.aload_n 0, 1) := by decide +kernel
theorem dX8_growsAll_14 : decode cX8_growsAll 14 = .ok (.getfield 15, 3) := by decide +kernel
theorem dX8_growsAll_17 : decode cX8_growsAll 17 = .ok (.if_icmp .gt 53, 3) := by decide +kernel
theorem dX8_growsAll_20 : decode cX8_growsAll 20 = .ok (.iload_n 1, 1) := by decide +kernel
theorem dX8_growsAll_21 : decode cX8_growsAll 21 = .ok (.ifCond .le 16, 3) := by decide +kernel
theorem dX8_growsAll_24 : decode cX8_growsAll 24 = .ok (.iload_n 2, 1) := by decide +kernel
theorem dX8_growsAll_25 : decode cX8_growsAll 25 = .ok (.ifCond .le 12, 3) := by decide +kernel
theorem dX8_growsAll_28 : decode cX8_growsAll 28 = .ok (.aload_n 0, 1) := by decide +kernel
theorem dX8_growsAll_29 : decode cX8_growsAll 29 = .ok (.iload_n 1, 1) := by decide +kernel
theorem dX8_growsAll_30 : decode cX8_growsAll 30 = .ok (.iload_n 2, 1) := by decide +kernel
theorem dX8_growsAll_31 : decode cX8_growsAll 31 = .ok (.invokevirtual 109, 3) := by decide +kernel
theorem dX8_growsAll_34 : decode cX8_growsAll 34 = .ok (.goto 30, 3) := by decide +kernel
theorem dX8_growsAll_37 : decode cX8_growsAll 37 = .ok (.iconst 0, 1) := by decide +kernel
theorem dX8_growsAll_38 : decode cX8_growsAll 38 = .ok (.istore_n 3, 1) := by decide +kernel
theorem dX8_growsAll_39 : decode cX8_growsAll 39 = .ok (.iload_n 3, 1) := by decide +kernel
theorem dX8_growsAll_40 : decode cX8_growsAll 40 = .ok (.bipush 80, 2) := by decide +kernel
theorem dX8_growsAll_42 : decode cX8_growsAll 42 = .ok (.if_icmp .ge 22, 3) := by decide +kernel
theorem dX8_growsAll_45 : decode cX8_growsAll 45 = .ok (.aload_n 0, 1) := by decide +kernel
theorem dX8_growsAll_46 : decode cX8_growsAll 46 = .ok (.getfield 31, 3) := by decide +kernel
theorem dX8_growsAll_49 : decode cX8_growsAll 49 = .ok (.iload_n 1, 1) := by decide +kernel
theorem dX8_growsAll_50 : decode cX8_growsAll 50 = .ok (.iload_n 2, 1) := by decide +kernel
theorem dX8_growsAll_51 : decode cX8_growsAll 51 = .ok (.invokestatic 106, 3) := by decide +kernel
theorem dX8_growsAll_54 : decode cX8_growsAll 54 = .ok (.iload_n 3, 1) := by decide +kernel
theorem dX8_growsAll_55 : decode cX8_growsAll 55 = .ok (.iadd, 1) := by decide +kernel
theorem dX8_growsAll_56 : decode cX8_growsAll 56 = .ok (.iconst 0, 1) := by decide +kernel
theorem dX8_growsAll_57 : decode cX8_growsAll 57 = .ok (.iastore, 1) := by decide +kernel
theorem dX8_growsAll_58 : decode cX8_growsAll 58 = .ok (.iinc 3 1, 3) := by decide +kernel
theorem dX8_growsAll_61 : decode cX8_growsAll 61 = .ok (.goto (-22), 3) := by decide +kernel
theorem dX8_growsAll_64 : decode cX8_growsAll 64 = .ok (.iinc 2 1, 3) := by decide +kernel
theorem dX8_growsAll_67 : decode cX8_growsAll 67 = .ok (.goto (-55), 3) := by decide +kernel
theorem dX8_growsAll_70 : decode cX8_growsAll 70 = .ok (.iinc 1 1, 3) := by decide +kernel
theorem dX8_growsAll_73 : decode cX8_growsAll 73 = .ok (.goto (-71), 3) := by decide +kernel
theorem dX8_growsAll_76 : decode cX8_growsAll 76 = .ok (.return_, 1) := by decide +kernel
theorem dX8_partOf_0 : decode cX8_partOf 0 = .ok (.iload_n 3, 1) := by decide +kernel
theorem dX8_partOf_1 : decode cX8_partOf 1 = .ok (.bipush 80, 2) := by decide +kernel
theorem dX8_partOf_3 : decode cX8_partOf 3 = .ok (.if_icmp .ge 18, 3) := by decide +kernel
theorem dX8_partOf_6 : decode cX8_partOf 6 = .ok (.aload_n 0, 1) := by decide +kernel
theorem dX8_partOf_7 : decode cX8_partOf 7 = .ok (.getfield 31, 3) := by decide +kernel
theorem dX8_partOf_10 : decode cX8_partOf 10 = .ok (.iload_n 1, 1) := by decide +kernel
theorem dX8_partOf_11 : decode cX8_partOf 11 = .ok (.iload_n 2, 1) := by decide +kernel
theorem dX8_partOf_12 : decode cX8_partOf 12 = .ok (.invokestatic 106, 3) := by decide +kernel
theorem dX8_partOf_15 : decode cX8_partOf 15 = .ok (.iload_n 3, 1) := by decide +kernel
theorem dX8_partOf_16 : decode cX8_partOf 16 = .ok (.iadd, 1) := by decide +kernel
theorem dX8_partOf_17 : decode cX8_partOf 17 = .ok (.iaload, 1) := by decide +kernel
theorem dX8_partOf_18 : decode cX8_partOf 18 = .ok (.goto 4, 3) := by decide +kernel
theorem dX8_partOf_21 : decode cX8_partOf 21 = .ok (.iconst 0, 1) := by decide +kernel
theorem dX8_partOf_22 : decode cX8_partOf 22 = .ok (.ireturn, 1) := by decide +kernel
theorem dX8_sizeOf_0 : decode cX8_sizeOf 0 = .ok (.iconst 0, 1) := by decide +kernel
theorem dX8_sizeOf_1 : decode cX8_sizeOf 1 = .ok (.istore_n 3, 1) := by decide +kernel
theorem dX8_sizeOf_2 : decode cX8_sizeOf 2 = .ok (.iconst 0, 1) := by decide +kernel
theorem dX8_sizeOf_3 : decode cX8_sizeOf 3 = .ok (.istore 4, 2) := by decide +kernel
theorem dX8_sizeOf_5 : decode cX8_sizeOf 5 = .ok (.iload 4, 2) := by decide +kernel
theorem dX8_sizeOf_7 : decode cX8_sizeOf 7 = .ok (.bipush 80, 2) := by decide +kernel
theorem dX8_sizeOf_9 : decode cX8_sizeOf 9 = .ok (.if_icmp .ge 20, 3) := by decide +kernel
theorem dX8_sizeOf_12 : decode cX8_sizeOf 12 = .ok (.iload_n 3, 1) := by decide +kernel
theorem dX8_sizeOf_13 : decode cX8_sizeOf 13 = .ok (.aload_n 0, 1) := by decide +kernel
theorem dX8_sizeOf_14 : decode cX8_sizeOf 14 = .ok (.iload_n 1, 1) := by decide +kernel
theorem dX8_sizeOf_15 : decode cX8_sizeOf 15 = .ok (.iload_n 2, 1) := by decide +kernel
theorem dX8_sizeOf_16 : decode cX8_sizeOf 16 = .ok (.iload 4, 2) := by decide +kernel
theorem dX8_sizeOf_18 : decode cX8_sizeOf 18 = .ok (.invokevirtual 113, 3) := by decide +kernel
theorem dX8_sizeOf_21 : decode cX8_sizeOf 21 = .ok (.iadd, 1) := by decide +kernel
theorem dX8_sizeOf_22 : decode cX8_sizeOf 22 = .ok (.istore_n 3, 1) := by decide +kernel
theorem dX8_sizeOf_23 : decode cX8_sizeOf 23 = .ok (.iinc 4 1, 3) := by decide +kernel
theorem dX8_sizeOf_26 : decode cX8_sizeOf 26 = .ok (.goto (-21), 3) := by decide +kernel
theorem dX8_sizeOf_29 : decode cX8_sizeOf 29 = .ok (.iload_n 3, 1) := by decide +kernel
theorem dX8_sizeOf_30 : decode cX8_sizeOf 30 = .ok (.ireturn, 1) := by decide +kernel
theorem dX8_lengthOf_0 : decode cX8_lengthOf 0 = .ok (.iconst 0, 1) := by decide +kernel
theorem dX8_lengthOf_1 : decode cX8_lengthOf 1 = .ok (.istore_n 3, 1) := by decide +kernel
theorem dX8_lengthOf_2 : decode cX8_lengthOf 2 = .ok (.iconst 0, 1) := by decide +kernel
theorem dX8_lengthOf_3 : decode cX8_lengthOf 3 = .ok (.istore 4, 2) := by decide +kernel
theorem dX8_lengthOf_5 : decode cX8_lengthOf 5 = .ok (.iload 4, 2) := by decide +kernel
theorem dX8_lengthOf_7 : decode cX8_lengthOf 7 = .ok (.bipush 80, 2) := by decide +kernel
theorem dX8_lengthOf_9 : decode cX8_lengthOf 9 = .ok (.if_icmp .ge 28, 3) := by decide +kernel
theorem dX8_lengthOf_12 : decode cX8_lengthOf 12 = .ok (.iload_n 3, 1) := by decide +kernel
theorem dX8_lengthOf_13 : decode cX8_lengthOf 13 = .ok (.aload_n 0, 1) := by decide +kernel
theorem dX8_lengthOf_14 : decode cX8_lengthOf 14 = .ok (.iload_n 1, 1) := by decide +kernel
theorem dX8_lengthOf_15 : decode cX8_lengthOf 15 = .ok (.iload_n 2, 1) := by decide +kernel
theorem dX8_lengthOf_16 : decode cX8_lengthOf 16 = .ok (.iload 4, 2) := by decide +kernel
theorem dX8_lengthOf_18 : decode cX8_lengthOf 18 = .ok (.invokevirtual 113, 3) := by decide +kernel
theorem dX8_lengthOf_21 : decode cX8_lengthOf 21 = .ok (.ifCond .le 7, 3) := by decide +kernel
theorem dX8_lengthOf_24 : decode cX8_lengthOf 24 = .ok (.iconst 1, 1) := by decide +kernel
theorem dX8_lengthOf_25 : decode cX8_lengthOf 25 = .ok (.goto 4, 3) := by decide +kernel
theorem dX8_lengthOf_28 : decode cX8_lengthOf 28 = .ok (.iconst 0, 1) := by decide +kernel
theorem dX8_lengthOf_29 : decode cX8_lengthOf 29 = .ok (.iadd, 1) := by decide +kernel
theorem dX8_lengthOf_30 : decode cX8_lengthOf 30 = .ok (.istore_n 3, 1) := by decide +kernel
theorem dX8_lengthOf_31 : decode cX8_lengthOf 31 = .ok (.iinc 4 1, 3) := by decide +kernel
theorem dX8_lengthOf_34 : decode cX8_lengthOf 34 = .ok (.goto (-29), 3) := by decide +kernel
theorem dX8_lengthOf_37 : decode cX8_lengthOf 37 = .ok (.iload_n 3, 1) := by decide +kernel
theorem dX8_lengthOf_38 : decode cX8_lengthOf 38 = .ok (.ireturn, 1) := by decide +kernel
theorem dX8_turnedOf_0 : decode cX8_turnedOf 0 = .ok (.iconst 0, 1) := by decide +kernel
theorem dX8_turnedOf_1 : decode cX8_turnedOf 1 = .ok (.istore 4, 2) := by decide +kernel
theorem dX8_turnedOf_3 : decode cX8_turnedOf 3 = .ok (.iconst 0, 1) := by decide +kernel
theorem dX8_turnedOf_4 : decode cX8_turnedOf 4 = .ok (.istore 5, 2) := by decide +kernel
theorem dX8_turnedOf_6 : decode cX8_turnedOf 6 = .ok (.iload 5, 2) := by decide +kernel
theorem dX8_turnedOf_8 : decode cX8_turnedOf 8 = .ok (.bipush 80, 2) := by decide +kernel
theorem dX8_turnedOf_10 : decode cX8_turnedOf 10 = .ok (.if_icmp .ge 31, 3) := by decide +kernel
theorem dX8_turnedOf_13 : decode cX8_turnedOf 13 = .ok (.iload 4, 2) := by decide +kernel
theorem dX8_turnedOf_15 : decode cX8_turnedOf 15 = .ok (.aload_n 0, 1) := by decide +kernel
theorem dX8_turnedOf_16 : decode cX8_turnedOf 16 = .ok (.iload_n 1, 1) := by decide +kernel
theorem dX8_turnedOf_17 : decode cX8_turnedOf 17 = .ok (.iload_n 2, 1) := by decide +kernel
theorem dX8_turnedOf_18 : decode cX8_turnedOf 18 = .ok (.iload 5, 2) := by decide +kernel
theorem dX8_turnedOf_20 : decode cX8_turnedOf 20 = .ok (.invokevirtual 113, 3) := by decide +kernel
theorem dX8_turnedOf_23 : decode cX8_turnedOf 23 = .ok (.iload_n 3, 1) := by decide +kernel
theorem dX8_turnedOf_24 : decode cX8_turnedOf 24 = .ok (.if_icmp .le 7, 3) := by decide +kernel
theorem dX8_turnedOf_27 : decode cX8_turnedOf 27 = .ok (.iconst 1, 1) := by decide +kernel
theorem dX8_turnedOf_28 : decode cX8_turnedOf 28 = .ok (.goto 4, 3) := by decide +kernel
theorem dX8_turnedOf_31 : decode cX8_turnedOf 31 = .ok (.iconst 0, 1) := by decide +kernel
theorem dX8_turnedOf_32 : decode cX8_turnedOf 32 = .ok (.iadd, 1) := by decide +kernel
theorem dX8_turnedOf_33 : decode cX8_turnedOf 33 = .ok (.istore 4, 2) := by decide +kernel
theorem dX8_turnedOf_35 : decode cX8_turnedOf 35 = .ok (.iinc 5 1, 3) := by decide +kernel
theorem dX8_turnedOf_38 : decode cX8_turnedOf 38 = .ok (.goto (-32), 3) := by decide +kernel
theorem dX8_turnedOf_41 : decode cX8_turnedOf 41 = .ok (.iload 4, 2) := by decide +kernel
theorem dX8_turnedOf_43 : decode cX8_turnedOf 43 = .ok (.ireturn, 1) := by decide +kernel
theorem dX8_part_0 : decode cX8_part 0 = .ok (.aload_n 0, 1) := by decide +kernel
theorem dX8_part_1 : decode cX8_part 1 = .ok (.iload_n 1, 1) := by decide +kernel
theorem dX8_part_2 : decode cX8_part 2 = .ok (.iload_n 2, 1) := by decide +kernel
theorem dX8_part_3 : decode cX8_part 3 = .ok (.invokevirtual 117, 3) := by decide +kernel
theorem dX8_part_6 : decode cX8_part 6 = .ok (.ifCond .eq 15, 3) := by decide +kernel
theorem dX8_part_9 : decode cX8_part 9 = .ok (.iload_n 3, 1) := by decide +kernel
theorem dX8_part_10 : decode cX8_part 10 = .ok (.i2l, 1) := by decide +kernel
theorem dX8_part_11 : decode cX8_part 11 = .ok (.lconst 0, 1) := by decide +kernel
theorem dX8_part_12 : decode cX8_part 12 = .ok (.ldc2_w 120, 3) := by decide +kernel
theorem dX8_part_15 : decode cX8_part 15 = .ok (.invokestatic 58, 3) := by decide +kernel
theorem dX8_part_18 : decode cX8_part 18 = .ok (.ifCond .ne 5, 3) := by decide +kernel
theorem dX8_part_21 : decode cX8_part 21 = .ok (.iconst (-1), 1) := by decide +kernel
theorem dX8_part_22 : decode cX8_part 22 = .ok (.ireturn, 1) := by decide +kernel
theorem dX8_part_23 : decode cX8_part 23 = .ok (.aload_n 0, 1) := by decide +kernel
theorem dX8_part_24 : decode cX8_part 24 = .ok (.invokevirtual 122, 3) := by decide +kernel
theorem dX8_part_27 : decode cX8_part 27 = .ok (.aload_n 0, 1) := by decide +kernel
theorem dX8_part_28 : decode cX8_part 28 = .ok (.iload_n 1, 1) := by decide +kernel
theorem dX8_part_29 : decode cX8_part 29 = .ok (.iload_n 2, 1) := by decide +kernel
theorem dX8_part_30 : decode cX8_part 30 = .ok (.iload_n 3, 1) := by decide +kernel
theorem dX8_part_31 : decode cX8_part 31 = .ok (.invokevirtual 113, 3) := by decide +kernel
theorem dX8_part_34 : decode cX8_part 34 = .ok (.ireturn, 1) := by decide +kernel
theorem dX8_shape_0 : decode cX8_shape 0 = .ok (.aload_n 0, 1) := by decide +kernel
theorem dX8_shape_1 : decode cX8_shape 1 = .ok (.iload_n 1, 1) := by decide +kernel
theorem dX8_shape_2 : decode cX8_shape 2 = .ok (.iload_n 2, 1) := by decide +kernel
theorem dX8_shape_3 : decode cX8_shape 3 = .ok (.invokevirtual 117, 3) := by decide +kernel
theorem dX8_shape_6 : decode cX8_shape 6 = .ok (.ifCond .eq 13, 3) := by decide +kernel
theorem dX8_shape_9 : decode cX8_shape 9 = .ok (.iload_n 3, 1) := by decide +kernel
theorem dX8_shape_10 : decode cX8_shape 10 = .ok (.i2l, 1) := by decide +kernel
theorem dX8_shape_11 : decode cX8_shape 11 = .ok (.lconst 0, 1) := by decide +kernel
theorem dX8_shape_12 : decode cX8_shape 12 = .ok (.lconst 1, 1) := by decide +kernel
theorem dX8_shape_13 : decode cX8_shape 13 = .ok (.invokestatic 58, 3) := by decide +kernel
theorem dX8_shape_16 : decode cX8_shape 16 = .ok (.ifCond .ne 5, 3) := by decide +kernel
theorem dX8_shape_19 : decode cX8_shape 19 = .ok (.iconst (-1), 1) := by decide +kernel
theorem dX8_shape_20 : decode cX8_shape 20 = .ok (.ireturn, 1) := by decide +kernel
theorem dX8_shape_21 : decode cX8_shape 21 = .ok (.aload_n 0, 1) := by decide +kernel
theorem dX8_shape_22 : decode cX8_shape 22 = .ok (.invokevirtual 122, 3) := by decide +kernel
theorem dX8_shape_25 : decode cX8_shape 25 = .ok (.iload_n 3, 1) := by decide +kernel
theorem dX8_shape_26 : decode cX8_shape 26 = .ok (.ifCond .ne 12, 3) := by decide +kernel
theorem dX8_shape_29 : decode cX8_shape 29 = .ok (.aload_n 0, 1) := by decide +kernel
theorem dX8_shape_30 : decode cX8_shape 30 = .ok (.iload_n 1, 1) := by decide +kernel
theorem dX8_shape_31 : decode cX8_shape 31 = .ok (.iload_n 2, 1) := by decide +kernel
theorem dX8_shape_32 : decode cX8_shape 32 = .ok (.invokevirtual 125, 3) := by decide +kernel
theorem dX8_shape_35 : decode cX8_shape 35 = .ok (.goto 9, 3) := by decide +kernel
theorem dX8_shape_38 : decode cX8_shape 38 = .ok (.aload_n 0, 1) := by decide +kernel
theorem dX8_shape_39 : decode cX8_shape 39 = .ok (.iload_n 1, 1) := by decide +kernel
theorem dX8_shape_40 : decode cX8_shape 40 = .ok (.iload_n 2, 1) := by decide +kernel
theorem dX8_shape_41 : decode cX8_shape 41 = .ok (.invokevirtual 128, 3) := by decide +kernel
theorem dX8_shape_44 : decode cX8_shape 44 = .ok (.ireturn, 1) := by decide +kernel
theorem dX8_turned_0 : decode cX8_turned 0 = .ok (.aload_n 0, 1) := by decide +kernel
theorem dX8_turned_1 : decode cX8_turned 1 = .ok (.iload_n 1, 1) := by decide +kernel
theorem dX8_turned_2 : decode cX8_turned 2 = .ok (.iload_n 2, 1) := by decide +kernel
theorem dX8_turned_3 : decode cX8_turned 3 = .ok (.invokevirtual 117, 3) := by decide +kernel
theorem dX8_turned_6 : decode cX8_turned 6 = .ok (.ifCond .eq 15, 3) := by decide +kernel
theorem dX8_turned_9 : decode cX8_turned 9 = .ok (.iload_n 3, 1) := by decide +kernel
theorem dX8_turned_10 : decode cX8_turned 10 = .ok (.i2l, 1) := by decide +kernel
theorem dX8_turned_11 : decode cX8_turned 11 = .ok (.lconst 0, 1) := by decide +kernel
theorem dX8_turned_12 : decode cX8_turned 12 = .ok (.ldc2_w 120, 3) := by decide +kernel
theorem dX8_turned_15 : decode cX8_turned 15 = .ok (.invokestatic 58, 3) := by decide +kernel
theorem dX8_turned_18 : decode cX8_turned 18 = .ok (.ifCond .ne 5, 3) := by decide +kernel
theorem dX8_turned_21 : decode cX8_turned 21 = .ok (.iconst (-1), 1) := by decide +kernel
theorem dX8_turned_22 : decode cX8_turned 22 = .ok (.ireturn, 1) := by decide +kernel
theorem dX8_turned_23 : decode cX8_turned 23 = .ok (.aload_n 0, 1) := by decide +kernel
theorem dX8_turned_24 : decode cX8_turned 24 = .ok (.invokevirtual 122, 3) := by decide +kernel
theorem dX8_turned_27 : decode cX8_turned 27 = .ok (.aload_n 0, 1) := by decide +kernel
theorem dX8_turned_28 : decode cX8_turned 28 = .ok (.iload_n 1, 1) := by decide +kernel
theorem dX8_turned_29 : decode cX8_turned 29 = .ok (.iload_n 2, 1) := by decide +kernel
theorem dX8_turned_30 : decode cX8_turned 30 = .ok (.iload_n 3, 1) := by decide +kernel
theorem dX8_turned_31 : decode cX8_turned 31 = .ok (.invokevirtual 131, 3) := by decide +kernel
theorem dX8_turned_34 : decode cX8_turned 34 = .ok (.ireturn, 1) := by decide +kernel
theorem dX8_standard_0 : decode cX8_standard 0 = .ok (.aload_n 0, 1) := by decide +kernel
theorem dX8_standard_1 : decode cX8_standard 1 = .ok (.iload_n 1, 1) := by decide +kernel
theorem dX8_standard_2 : decode cX8_standard 2 = .ok (.iload_n 2, 1) := by decide +kernel
theorem dX8_standard_3 : decode cX8_standard 3 = .ok (.invokevirtual 117, 3) := by decide +kernel
theorem dX8_standard_6 : decode cX8_standard 6 = .ok (.ifCond .ne 7, 3) := by decide +kernel
theorem dX8_standard_9 : decode cX8_standard 9 = .ok (.ldc2_w 134, 3) := by decide +kernel
theorem dX8_standard_12 : decode cX8_standard 12 = .ok (.lreturn, 1) := by decide +kernel
theorem dX8_standard_13 : decode cX8_standard 13 = .ok (.aload_n 0, 1) := by decide +kernel
theorem dX8_standard_14 : decode cX8_standard 14 = .ok (.invokevirtual 122, 3) := by decide +kernel
theorem dX8_standard_17 : decode cX8_standard 17 = .ok (.aload_n 0, 1) := by decide +kernel
theorem dX8_standard_18 : decode cX8_standard 18 = .ok (.iload_n 1, 1) := by decide +kernel
theorem dX8_standard_19 : decode cX8_standard 19 = .ok (.iload_n 2, 1) := by decide +kernel
theorem dX8_standard_20 : decode cX8_standard 20 = .ok (.invokevirtual 125, 3) := by decide +kernel
theorem dX8_standard_23 : decode cX8_standard 23 = .ok (.istore_n 3, 1) := by decide +kernel
theorem dX8_standard_24 : decode cX8_standard 24 = .ok (.iload_n 3, 1) := by decide +kernel
theorem dX8_standard_25 : decode cX8_standard 25 = .ok (.bipush 20, 2) := by decide +kernel
theorem dX8_standard_27 : decode cX8_standard 27 = .ok (.if_icmp .le 7, 3) := by decide +kernel
theorem dX8_standard_30 : decode cX8_standard 30 = .ok (.ldc2_w 134, 3) := by decide +kernel
theorem dX8_standard_33 : decode cX8_standard 33 = .ok (.lreturn, 1) := by decide +kernel
theorem dX8_standard_34 : decode cX8_standard 34 = .ok (.lconst 1, 1) := by decide +kernel
theorem dX8_standard_35 : decode cX8_standard 35 = .ok (.lstore 4, 2) := by decide +kernel
theorem dX8_standard_37 : decode cX8_standard 37 = .ok (.iconst 2, 1) := by decide +kernel
theorem dX8_standard_38 : decode cX8_standard 38 = .ok (.istore 6, 2) := by decide +kernel
theorem dX8_standard_40 : decode cX8_standard 40 = .ok (.iload 6, 2) := by decide +kernel
theorem dX8_standard_42 : decode cX8_standard 42 = .ok (.iload_n 3, 1) := by decide +kernel
theorem dX8_standard_43 : decode cX8_standard 43 = .ok (.if_icmp .gt 17, 3) := by decide +kernel
theorem dX8_standard_46 : decode cX8_standard 46 = .ok (.lload 4, 2) := by decide +kernel
theorem dX8_standard_48 : decode cX8_standard 48 = .ok (.iload 6, 2) := by decide +kernel
theorem dX8_standard_50 : decode cX8_standard 50 = .ok (.i2l, 1) := by decide +kernel
theorem dX8_standard_51 : decode cX8_standard 51 = .ok (.lmul, 1) := by decide +kernel
theorem dX8_standard_52 : decode cX8_standard 52 = .ok (.lstore 4, 2) := by decide +kernel
theorem dX8_standard_54 : decode cX8_standard 54 = .ok (.iinc 6 1, 3) := by decide +kernel
theorem dX8_standard_57 : decode cX8_standard 57 = .ok (.goto (-17), 3) := by decide +kernel
theorem dX8_standard_60 : decode cX8_standard 60 = .ok (.iconst 0, 1) := by decide +kernel
theorem dX8_standard_61 : decode cX8_standard 61 = .ok (.istore 6, 2) := by decide +kernel
theorem dX8_standard_63 : decode cX8_standard 63 = .ok (.iload 6, 2) := by decide +kernel
theorem dX8_standard_65 : decode cX8_standard 65 = .ok (.iload_n 3, 1) := by decide +kernel
theorem dX8_standard_66 : decode cX8_standard 66 = .ok (.if_icmp .ge 62, 3) := by decide +kernel
theorem dX8_standard_69 : decode cX8_standard 69 = .ok (.iconst 0, 1) := by decide +kernel
theorem dX8_standard_70 : decode cX8_standard 70 = .ok (.istore 7, 2) := by decide +kernel
theorem dX8_standard_72 : decode cX8_standard 72 = .ok (.iload 7, 2) := by decide +kernel
theorem dX8_standard_74 : decode cX8_standard 74 = .ok (.aload_n 0, 1) := by decide +kernel
theorem dX8_standard_75 : decode cX8_standard 75 = .ok (.iload_n 1, 1) := by decide +kernel
theorem dX8_standard_76 : decode cX8_standard 76 = .ok (.iload_n 2, 1) := by decide +kernel
theorem dX8_standard_77 : decode cX8_standard 77 = .ok (.iload 6, 2) := by decide +kernel
theorem dX8_standard_79 : decode cX8_standard 79 = .ok (.invokevirtual 113, 3) := by decide +kernel
theorem dX8_standard_82 : decode cX8_standard 82 = .ok (.if_icmp .ge 40, 3) := by decide +kernel
theorem dX8_standard_85 : decode cX8_standard 85 = .ok (.lload 4, 2) := by decide +kernel
theorem dX8_standard_87 : decode cX8_standard 87 = .ok (.aload_n 0, 1) := by decide +kernel
theorem dX8_standard_88 : decode cX8_standard 88 = .ok (.iload_n 1, 1) := by decide +kernel
theorem dX8_standard_89 : decode cX8_standard 89 = .ok (.iload_n 2, 1) := by decide +kernel
theorem dX8_standard_90 : decode cX8_standard 90 = .ok (.iload 6, 2) := by decide +kernel
theorem dX8_standard_92 : decode cX8_standard 92 = .ok (.invokevirtual 113, 3) := by decide +kernel
theorem dX8_standard_95 : decode cX8_standard 95 = .ok (.iload 7, 2) := by decide +kernel
theorem dX8_standard_97 : decode cX8_standard 97 = .ok (.isub, 1) := by decide +kernel
theorem dX8_standard_98 : decode cX8_standard 98 = .ok (.aload_n 0, 1) := by decide +kernel
theorem dX8_standard_99 : decode cX8_standard 99 = .ok (.iload_n 1, 1) := by decide +kernel
theorem dX8_standard_100 : decode cX8_standard 100 = .ok (.iload_n 2, 1) := by decide +kernel
theorem dX8_standard_101 : decode cX8_standard 101 = .ok (.iload 7, 2) := by decide +kernel
theorem dX8_standard_103 : decode cX8_standard 103 = .ok (.invokevirtual 131, 3) := by decide +kernel
theorem dX8_standard_106 : decode cX8_standard 106 = .ok (.iadd, 1) := by decide +kernel
theorem dX8_standard_107 : decode cX8_standard 107 = .ok (.iload 6, 2) := by decide +kernel
theorem dX8_standard_109 : decode cX8_standard 109 = .ok (.isub, 1) := by decide +kernel
theorem dX8_standard_110 : decode cX8_standard 110 = .ok (.iconst 1, 1) := by decide +kernel
theorem dX8_standard_111 : decode cX8_standard 111 = .ok (.isub, 1) := by decide +kernel
theorem dX8_standard_112 : decode cX8_standard 112 = .ok (.i2l, 1) := by decide +kernel
theorem dX8_standard_113 : decode cX8_standard 113 = .ok (.ldiv, 1) := by decide +kernel
theorem dX8_standard_114 : decode cX8_standard 114 = .ok (.lstore 4, 2) := by decide +kernel
theorem dX8_standard_116 : decode cX8_standard 116 = .ok (.iinc 7 1, 3) := by decide +kernel
theorem dX8_standard_119 : decode cX8_standard 119 = .ok (.goto (-47), 3) := by decide +kernel
theorem dX8_standard_122 : decode cX8_standard 122 = .ok (.iinc 6 1, 3) := by decide +kernel
theorem dX8_standard_125 : decode cX8_standard 125 = .ok (.goto (-62), 3) := by decide +kernel
theorem dX8_standard_128 : decode cX8_standard 128 = .ok (.lload 4, 2) := by decide +kernel
theorem dX8_standard_130 : decode cX8_standard 130 = .ok (.lreturn, 1) := by decide +kernel
theorem dX8_product_0 : decode cX8_product 0 = .ok (.aload_n 0, 1) := by decide +kernel
theorem dX8_product_1 : decode cX8_product 1 = .ok (.iload_n 1, 1) := by decide +kernel
theorem dX8_product_2 : decode cX8_product 2 = .ok (.iload_n 2, 1) := by decide +kernel
theorem dX8_product_3 : decode cX8_product 3 = .ok (.invokevirtual 117, 3) := by decide +kernel
theorem dX8_product_6 : decode cX8_product 6 = .ok (.ifCond .ne 5, 3) := by decide +kernel
theorem dX8_product_9 : decode cX8_product 9 = .ok (.iconst (-1), 1) := by decide +kernel
theorem dX8_product_10 : decode cX8_product 10 = .ok (.ireturn, 1) := by decide +kernel
theorem dX8_product_11 : decode cX8_product 11 = .ok (.aload_n 0, 1) := by decide +kernel
theorem dX8_product_12 : decode cX8_product 12 = .ok (.invokevirtual 122, 3) := by decide +kernel
theorem dX8_product_15 : decode cX8_product 15 = .ok (.lconst 1, 1) := by decide +kernel
theorem dX8_product_16 : decode cX8_product 16 = .ok (.lstore_n 3, 1) := by decide +kernel
theorem dX8_product_17 : decode cX8_product 17 = .ok (.iconst 0, 1) := by decide +kernel
theorem dX8_product_18 : decode cX8_product 18 = .ok (.istore 5, 2) := by decide +kernel
theorem dX8_product_20 : decode cX8_product 20 = .ok (.iload 5, 2) := by decide +kernel
theorem dX8_product_22 : decode cX8_product 22 = .ok (.bipush 80, 2) := by decide +kernel
theorem dX8_product_24 : decode cX8_product 24 = .ok (.if_icmp .ge 34, 3) := by decide +kernel
theorem dX8_product_27 : decode cX8_product 27 = .ok (.lload_n 3, 1) := by decide +kernel
theorem dX8_product_28 : decode cX8_product 28 = .ok (.aload_n 0, 1) := by decide +kernel
theorem dX8_product_29 : decode cX8_product 29 = .ok (.iload_n 1, 1) := by decide +kernel
theorem dX8_product_30 : decode cX8_product 30 = .ok (.iload_n 2, 1) := by decide +kernel
theorem dX8_product_31 : decode cX8_product 31 = .ok (.iload 5, 2) := by decide +kernel
theorem dX8_product_33 : decode cX8_product 33 = .ok (.invokevirtual 113, 3) := by decide +kernel
theorem dX8_product_36 : decode cX8_product 36 = .ok (.iconst 1, 1) := by decide +kernel
theorem dX8_product_37 : decode cX8_product 37 = .ok (.iadd, 1) := by decide +kernel
theorem dX8_product_38 : decode cX8_product 38 = .ok (.i2l, 1) := by decide +kernel
theorem dX8_product_39 : decode cX8_product 39 = .ok (.lmul, 1) := by decide +kernel
theorem dX8_product_40 : decode cX8_product 40 = .ok (.lstore_n 3, 1) := by decide +kernel
theorem dX8_product_41 : decode cX8_product 41 = .ok (.lload_n 3, 1) := by decide +kernel
theorem dX8_product_42 : decode cX8_product 42 = .ok (.ldc2_w 138, 3) := by decide +kernel
theorem dX8_product_45 : decode cX8_product 45 = .ok (.lcmp, 1) := by decide +kernel
theorem dX8_product_46 : decode cX8_product 46 = .ok (.ifCond .le 6, 3) := by decide +kernel
theorem dX8_product_49 : decode cX8_product 49 = .ok (.bipush (-6), 2) := by decide +kernel
theorem dX8_product_51 : decode cX8_product 51 = .ok (.ireturn, 1) := by decide +kernel
theorem dX8_product_52 : decode cX8_product 52 = .ok (.iinc 5 1, 3) := by decide +kernel
theorem dX8_product_55 : decode cX8_product 55 = .ok (.goto (-35), 3) := by decide +kernel
theorem dX8_product_58 : decode cX8_product 58 = .ok (.lload_n 3, 1) := by decide +kernel
theorem dX8_product_59 : decode cX8_product 59 = .ok (.l2i, 1) := by decide +kernel
theorem dX8_product_60 : decode cX8_product 60 = .ok (.ireturn, 1) := by decide +kernel
theorem dX8_filling_0 : decode cX8_filling 0 = .ok (.iload_n 1, 1) := by decide +kernel
theorem dX8_filling_1 : decode cX8_filling 1 = .ok (.i2l, 1) := by decide +kernel
theorem dX8_filling_2 : decode cX8_filling 2 = .ok (.lconst 0, 1) := by decide +kernel
theorem dX8_filling_3 : decode cX8_filling 3 = .ok (.lconst 1, 1) := by decide +kernel
theorem dX8_filling_4 : decode cX8_filling 4 = .ok (.invokestatic 58, 3) := by decide +kernel
theorem dX8_filling_7 : decode cX8_filling 7 = .ok (.ifCond .eq 27, 3) := by decide +kernel
theorem dX8_filling_10 : decode cX8_filling 10 = .ok (.iload_n 2, 1) := by decide +kernel
theorem dX8_filling_11 : decode cX8_filling 11 = .ok (.i2l, 1) := by decide +kernel
theorem dX8_filling_12 : decode cX8_filling 12 = .ok (.lconst 0, 1) := by decide +kernel
theorem dX8_filling_13 : decode cX8_filling 13 = .ok (.ldc2_w 120, 3) := by decide +kernel
theorem dX8_filling_16 : decode cX8_filling 16 = .ok (.invokestatic 58, 3) := by decide +kernel
theorem dX8_filling_19 : decode cX8_filling 19 = .ok (.ifCond .eq 15, 3) := by decide +kernel
theorem dX8_filling_22 : decode cX8_filling 22 = .ok (.iload_n 3, 1) := by decide +kernel
theorem dX8_filling_23 : decode cX8_filling 23 = .ok (.i2l, 1) := by decide +kernel
theorem dX8_filling_24 : decode cX8_filling 24 = .ok (.lconst 0, 1) := by decide +kernel
theorem dX8_filling_25 : decode cX8_filling 25 = .ok (.ldc2_w 120, 3) := by decide +kernel
theorem dX8_filling_28 : decode cX8_filling 28 = .ok (.invokestatic 58, 3) := by decide +kernel
theorem dX8_filling_31 : decode cX8_filling 31 = .ok (.ifCond .ne 5, 3) := by decide +kernel
theorem dX8_filling_34 : decode cX8_filling 34 = .ok (.iconst (-1), 1) := by decide +kernel
theorem dX8_filling_35 : decode cX8_filling 35 = .ok (.ireturn, 1) := by decide +kernel
theorem dX8_filling_36 : decode cX8_filling 36 = .ok (.aload_n 0, 1) := by decide +kernel
theorem dX8_filling_37 : decode cX8_filling 37 = .ok (.invokevirtual 122, 3) := by decide +kernel
theorem dX8_filling_40 : decode cX8_filling 40 = .ok (.iconst 0, 1) := by decide +kernel
theorem dX8_filling_41 : decode cX8_filling 41 = .ok (.istore 4, 2) := by decide +kernel
theorem dX8_filling_43 : decode cX8_filling 43 = .ok (.iload 4, 2) := by decide +kernel
theorem dX8_filling_45 : decode cX8_filling 45 = .ok (.iload_n 1, 1) := by decide +kernel
theorem dX8_filling_46 : decode cX8_filling 46 = .ok (.ifCond .ne 10, 3) := by decide +kernel
theorem dX8_filling_49 : decode cX8_filling 49 = .ok (.aload_n 0, 1) := by decide +kernel
theorem dX8_filling_50 : decode cX8_filling 50 = .ok (.getfield 15, 3) := by decide +kernel
theorem dX8_filling_53 : decode cX8_filling 53 = .ok (.goto 7, 3) := by decide +kernel
theorem dX8_filling_56 : decode cX8_filling 56 = .ok (.aload_n 0, 1) := by decide +kernel
theorem dX8_filling_57 : decode cX8_filling 57 = .ok (.getfield 9, 3) := by decide +kernel
theorem dX8_filling_60 : decode cX8_filling 60 = .ok (.if_icmp .gt 45, 3) := by decide +kernel
theorem dX8_filling_63 : decode cX8_filling 63 = .ok (.iload_n 1, 1) := by decide +kernel
theorem dX8_filling_64 : decode cX8_filling 64 = .ok (.ifCond .ne 17, 3) := by decide +kernel
theorem dX8_filling_67 : decode cX8_filling 67 = .ok (.aload_n 0, 1) := by decide +kernel
theorem dX8_filling_68 : decode cX8_filling 68 = .ok (.aload_n 0, 1) := by decide +kernel
theorem dX8_filling_69 : decode cX8_filling 69 = .ok (.getfield 9, 3) := by decide +kernel
theorem dX8_filling_72 : decode cX8_filling 72 = .ok (.iload 4, 2) := by decide +kernel
theorem dX8_filling_74 : decode cX8_filling 74 = .ok (.iload_n 2, 1) := by decide +kernel
theorem dX8_filling_75 : decode cX8_filling 75 = .ok (.invokevirtual 113, 3) := by decide +kernel
theorem dX8_filling_78 : decode cX8_filling 78 = .ok (.goto 14, 3) := by decide +kernel
theorem dX8_filling_81 : decode cX8_filling 81 = .ok (.aload_n 0, 1) := by decide +kernel
theorem dX8_filling_82 : decode cX8_filling 82 = .ok (.iload 4, 2) := by decide +kernel
theorem dX8_filling_84 : decode cX8_filling 84 = .ok (.aload_n 0, 1) := by decide +kernel
theorem dX8_filling_85 : decode cX8_filling 85 = .ok (.getfield 15, 3) := by decide +kernel
theorem dX8_filling_88 : decode cX8_filling 88 = .ok (.iload_n 2, 1) := by decide +kernel
theorem dX8_filling_89 : decode cX8_filling 89 = .ok (.invokevirtual 113, 3) := by decide +kernel
theorem dX8_filling_92 : decode cX8_filling 92 = .ok (.iload_n 3, 1) := by decide +kernel
theorem dX8_filling_93 : decode cX8_filling 93 = .ok (.if_icmp .le 6, 3) := by decide +kernel
theorem dX8_filling_96 : decode cX8_filling 96 = .ok (.iload 4, 2) := by decide +kernel
theorem dX8_filling_98 : decode cX8_filling 98 = .ok (.ireturn, 1) := by decide +kernel
theorem dX8_filling_99 : decode cX8_filling 99 = .ok (.iinc 4 1, 3) := by decide +kernel
theorem dX8_filling_102 : decode cX8_filling 102 = .ok (.goto (-59), 3) := by decide +kernel
theorem dX8_filling_105 : decode cX8_filling 105 = .ok (.bipush (-2), 2) := by decide +kernel
theorem dX8_filling_107 : decode cX8_filling 107 = .ok (.ireturn, 1) := by decide +kernel
theorem dX8_along_0 : decode cX8_along 0 = .ok (.iload_n 1, 1) := by decide +kernel
theorem dX8_along_1 : decode cX8_along 1 = .ok (.i2l, 1) := by decide +kernel
theorem dX8_along_2 : decode cX8_along 2 = .ok (.lconst 0, 1) := by decide +kernel
theorem dX8_along_3 : decode cX8_along 3 = .ok (.iconst 1, 1) := by decide +kernel
theorem dX8_along_4 : decode cX8_along 4 = .ok (.aload_n 0, 1) := by decide +kernel
theorem dX8_along_5 : decode cX8_along 5 = .ok (.getfield 9, 3) := by decide +kernel
theorem dX8_along_8 : decode cX8_along 8 = .ok (.aload_n 0, 1) := by decide +kernel
theorem dX8_along_9 : decode cX8_along 9 = .ok (.getfield 15, 3) := by decide +kernel
theorem dX8_along_12 : decode cX8_along 12 = .ok (.iadd, 1) := by decide +kernel
theorem dX8_along_13 : decode cX8_along 13 = .ok (.ishl, 1) := by decide +kernel
theorem dX8_along_14 : decode cX8_along 14 = .ok (.iconst 1, 1) := by decide +kernel
theorem dX8_along_15 : decode cX8_along 15 = .ok (.isub, 1) := by decide +kernel
theorem dX8_along_16 : decode cX8_along 16 = .ok (.i2l, 1) := by decide +kernel
theorem dX8_along_17 : decode cX8_along 17 = .ok (.invokestatic 58, 3) := by decide +kernel
theorem dX8_along_20 : decode cX8_along 20 = .ok (.ifCond .eq 22, 3) := by decide +kernel
theorem dX8_along_23 : decode cX8_along 23 = .ok (.iload_n 2, 1) := by decide +kernel
theorem dX8_along_24 : decode cX8_along 24 = .ok (.i2l, 1) := by decide +kernel
theorem dX8_along_25 : decode cX8_along 25 = .ok (.lconst 0, 1) := by decide +kernel
theorem dX8_along_26 : decode cX8_along 26 = .ok (.aload_n 0, 1) := by decide +kernel
theorem dX8_along_27 : decode cX8_along 27 = .ok (.getfield 9, 3) := by decide +kernel
theorem dX8_along_30 : decode cX8_along 30 = .ok (.aload_n 0, 1) := by decide +kernel
theorem dX8_along_31 : decode cX8_along 31 = .ok (.getfield 15, 3) := by decide +kernel
theorem dX8_along_34 : decode cX8_along 34 = .ok (.iadd, 1) := by decide +kernel
theorem dX8_along_35 : decode cX8_along 35 = .ok (.i2l, 1) := by decide +kernel
theorem dX8_along_36 : decode cX8_along 36 = .ok (.invokestatic 58, 3) := by decide +kernel
theorem dX8_along_39 : decode cX8_along 39 = .ok (.ifCond .ne 5, 3) := by decide +kernel
theorem dX8_along_42 : decode cX8_along 42 = .ok (.iconst (-1), 1) := by decide +kernel
theorem dX8_along_43 : decode cX8_along 43 = .ok (.ireturn, 1) := by decide +kernel
theorem dX8_along_44 : decode cX8_along 44 = .ok (.iconst 0, 1) := by decide +kernel
theorem dX8_along_45 : decode cX8_along 45 = .ok (.istore_n 3, 1) := by decide +kernel
theorem dX8_along_46 : decode cX8_along 46 = .ok (.aload_n 0, 1) := by decide +kernel
theorem dX8_along_47 : decode cX8_along 47 = .ok (.getfield 15, 3) := by decide +kernel
theorem dX8_along_50 : decode cX8_along 50 = .ok (.istore 4, 2) := by decide +kernel
theorem dX8_along_52 : decode cX8_along 52 = .ok (.iconst 0, 1) := by decide +kernel
theorem dX8_along_53 : decode cX8_along 53 = .ok (.istore 5, 2) := by decide +kernel
theorem dX8_along_55 : decode cX8_along 55 = .ok (.aload_n 0, 1) := by decide +kernel
theorem dX8_along_56 : decode cX8_along 56 = .ok (.getfield 15, 3) := by decide +kernel
theorem dX8_along_59 : decode cX8_along 59 = .ok (.istore 6, 2) := by decide +kernel
theorem dX8_along_61 : decode cX8_along 61 = .ok (.iconst 0, 1) := by decide +kernel
theorem dX8_along_62 : decode cX8_along 62 = .ok (.istore 7, 2) := by decide +kernel
theorem dX8_along_64 : decode cX8_along 64 = .ok (.iload 7, 2) := by decide +kernel
theorem dX8_along_66 : decode cX8_along 66 = .ok (.aload_n 0, 1) := by decide +kernel
theorem dX8_along_67 : decode cX8_along 67 = .ok (.getfield 9, 3) := by decide +kernel
theorem dX8_along_70 : decode cX8_along 70 = .ok (.aload_n 0, 1) := by decide +kernel
theorem dX8_along_71 : decode cX8_along 71 = .ok (.getfield 15, 3) := by decide +kernel
theorem dX8_along_74 : decode cX8_along 74 = .ok (.iadd, 1) := by decide +kernel
theorem dX8_along_75 : decode cX8_along 75 = .ok (.if_icmp .ge 42, 3) := by decide +kernel
theorem dX8_along_78 : decode cX8_along 78 = .ok (.iload_n 1, 1) := by decide +kernel
theorem dX8_along_79 : decode cX8_along 79 = .ok (.iload 7, 2) := by decide +kernel
theorem dX8_along_81 : decode cX8_along 81 = .ok (.ishr, 1) := by decide +kernel
theorem dX8_along_82 : decode cX8_along 82 = .ok (.iconst 1, 1) := by decide +kernel
theorem dX8_along_83 : decode cX8_along 83 = .ok (.iand, 1) := by decide +kernel
theorem dX8_along_84 : decode cX8_along 84 = .ok (.ifCond .ne 9, 3) := by decide +kernel
theorem dX8_along_87 : decode cX8_along 87 = .ok (.iinc 3 1, 3) := by decide +kernel
theorem dX8_along_90 : decode cX8_along 90 = .ok (.goto 6, 3) := by decide +kernel
theorem dX8_along_93 : decode cX8_along 93 = .ok (.iinc 4 (-1), 3) := by decide +kernel
theorem dX8_along_96 : decode cX8_along 96 = .ok (.iload 7, 2) := by decide +kernel
theorem dX8_along_98 : decode cX8_along 98 = .ok (.iconst 1, 1) := by decide +kernel
theorem dX8_along_99 : decode cX8_along 99 = .ok (.iadd, 1) := by decide +kernel
theorem dX8_along_100 : decode cX8_along 100 = .ok (.iload_n 2, 1) := by decide +kernel
theorem dX8_along_101 : decode cX8_along 101 = .ok (.if_icmp .ne 10, 3) := by decide +kernel
theorem dX8_along_104 : decode cX8_along 104 = .ok (.iload_n 3, 1) := by decide +kernel
theorem dX8_along_105 : decode cX8_along 105 = .ok (.istore 5, 2) := by decide +kernel
theorem dX8_along_107 : decode cX8_along 107 = .ok (.iload 4, 2) := by decide +kernel
theorem dX8_along_109 : decode cX8_along 109 = .ok (.istore 6, 2) := by decide +kernel
theorem dX8_along_111 : decode cX8_along 111 = .ok (.iinc 7 1, 3) := by decide +kernel
theorem dX8_along_114 : decode cX8_along 114 = .ok (.goto (-50), 3) := by decide +kernel
theorem dX8_along_117 : decode cX8_along 117 = .ok (.iload_n 3, 1) := by decide +kernel
theorem dX8_along_118 : decode cX8_along 118 = .ok (.aload_n 0, 1) := by decide +kernel
theorem dX8_along_119 : decode cX8_along 119 = .ok (.getfield 9, 3) := by decide +kernel
theorem dX8_along_122 : decode cX8_along 122 = .ok (.if_icmp .eq 5, 3) := by decide +kernel
theorem dX8_along_125 : decode cX8_along 125 = .ok (.iconst (-1), 1) := by decide +kernel
theorem dX8_along_126 : decode cX8_along 126 = .ok (.ireturn, 1) := by decide +kernel
theorem dX8_along_127 : decode cX8_along 127 = .ok (.aload_n 0, 1) := by decide +kernel
theorem dX8_along_128 : decode cX8_along 128 = .ok (.invokevirtual 122, 3) := by decide +kernel
theorem dX8_along_131 : decode cX8_along 131 = .ok (.aload_n 0, 1) := by decide +kernel
theorem dX8_along_132 : decode cX8_along 132 = .ok (.iload 5, 2) := by decide +kernel
theorem dX8_along_134 : decode cX8_along 134 = .ok (.iload 6, 2) := by decide +kernel
theorem dX8_along_136 : decode cX8_along 136 = .ok (.invokevirtual 125, 3) := by decide +kernel
theorem dX8_along_139 : decode cX8_along 139 = .ok (.ireturn, 1) := by decide +kernel
theorem dX8_goesOn_0 : decode cX8_goesOn 0 = .ok (.iconst 0, 1) := by decide +kernel
theorem dX8_goesOn_1 : decode cX8_goesOn 1 = .ok (.istore 4, 2) := by decide +kernel
theorem dX8_goesOn_3 : decode cX8_goesOn 3 = .ok (.iload 4, 2) := by decide +kernel
theorem dX8_goesOn_5 : decode cX8_goesOn 5 = .ok (.bipush 80, 2) := by decide +kernel
theorem dX8_goesOn_7 : decode cX8_goesOn 7 = .ok (.if_icmp .ge 96, 3) := by decide +kernel
theorem dX8_goesOn_10 : decode cX8_goesOn 10 = .ok (.aload_n 0, 1) := by decide +kernel
theorem dX8_goesOn_11 : decode cX8_goesOn 11 = .ok (.getfield 31, 3) := by decide +kernel
theorem dX8_goesOn_14 : decode cX8_goesOn 14 = .ok (.iload_n 1, 1) := by decide +kernel
theorem dX8_goesOn_15 : decode cX8_goesOn 15 = .ok (.iload 4, 2) := by decide +kernel
theorem dX8_goesOn_17 : decode cX8_goesOn 17 = .ok (.iadd, 1) := by decide +kernel
theorem dX8_goesOn_18 : decode cX8_goesOn 18 = .ok (.iaload, 1) := by decide +kernel
theorem dX8_goesOn_19 : decode cX8_goesOn 19 = .ok (.istore 5, 2) := by decide +kernel
theorem dX8_goesOn_21 : decode cX8_goesOn 21 = .ok (.aload_n 0, 1) := by decide +kernel
theorem dX8_goesOn_22 : decode cX8_goesOn 22 = .ok (.getfield 31, 3) := by decide +kernel
theorem dX8_goesOn_25 : decode cX8_goesOn 25 = .ok (.iload_n 2, 1) := by decide +kernel
theorem dX8_goesOn_26 : decode cX8_goesOn 26 = .ok (.iload 4, 2) := by decide +kernel
theorem dX8_goesOn_28 : decode cX8_goesOn 28 = .ok (.iadd, 1) := by decide +kernel
theorem dX8_goesOn_29 : decode cX8_goesOn 29 = .ok (.iaload, 1) := by decide +kernel
theorem dX8_goesOn_30 : decode cX8_goesOn 30 = .ok (.istore 6, 2) := by decide +kernel
theorem dX8_goesOn_32 : decode cX8_goesOn 32 = .ok (.iload 4, 2) := by decide +kernel
theorem dX8_goesOn_34 : decode cX8_goesOn 34 = .ok (.iconst 1, 1) := by decide +kernel
theorem dX8_goesOn_35 : decode cX8_goesOn 35 = .ok (.iadd, 1) := by decide +kernel
theorem dX8_goesOn_36 : decode cX8_goesOn 36 = .ok (.bipush 80, 2) := by decide +kernel
theorem dX8_goesOn_38 : decode cX8_goesOn 38 = .ok (.if_icmp .ge 17, 3) := by decide +kernel
theorem dX8_goesOn_41 : decode cX8_goesOn 41 = .ok (.aload_n 0, 1) := by decide +kernel
theorem dX8_goesOn_42 : decode cX8_goesOn 42 = .ok (.getfield 31, 3) := by decide +kernel
theorem dX8_goesOn_45 : decode cX8_goesOn 45 = .ok (.iload_n 1, 1) := by decide +kernel
theorem dX8_goesOn_46 : decode cX8_goesOn 46 = .ok (.iload 4, 2) := by decide +kernel
theorem dX8_goesOn_48 : decode cX8_goesOn 48 = .ok (.iadd, 1) := by decide +kernel
theorem dX8_goesOn_49 : decode cX8_goesOn 49 = .ok (.iconst 1, 1) := by decide +kernel
theorem dX8_goesOn_50 : decode cX8_goesOn 50 = .ok (.iadd, 1) := by decide +kernel
theorem dX8_goesOn_51 : decode cX8_goesOn 51 = .ok (.iaload, 1) := by decide +kernel
theorem dX8_goesOn_52 : decode cX8_goesOn 52 = .ok (.goto 4, 3) := by decide +kernel
theorem dX8_goesOn_55 : decode cX8_goesOn 55 = .ok (.iconst 0, 1) := by decide +kernel
theorem dX8_goesOn_56 : decode cX8_goesOn 56 = .ok (.istore 7, 2) := by decide +kernel
theorem dX8_goesOn_58 : decode cX8_goesOn 58 = .ok (.iload_n 3, 1) := by decide +kernel
theorem dX8_goesOn_59 : decode cX8_goesOn 59 = .ok (.ifCond .eq 20, 3) := by decide +kernel
theorem dX8_goesOn_62 : decode cX8_goesOn 62 = .ok (.iload 5, 2) := by decide +kernel
theorem dX8_goesOn_64 : decode cX8_goesOn 64 = .ok (.iload 6, 2) := by decide +kernel
theorem dX8_goesOn_66 : decode cX8_goesOn 66 = .ok (.if_icmp .lt 29, 3) := by decide +kernel
theorem dX8_goesOn_69 : decode cX8_goesOn 69 = .ok (.iload 6, 2) := by decide +kernel
theorem dX8_goesOn_71 : decode cX8_goesOn 71 = .ok (.iload 7, 2) := by decide +kernel
theorem dX8_goesOn_73 : decode cX8_goesOn 73 = .ok (.if_icmp .ge 24, 3) := by decide +kernel
theorem dX8_goesOn_76 : decode cX8_goesOn 76 = .ok (.goto 19, 3) := by decide +kernel
theorem dX8_goesOn_79 : decode cX8_goesOn 79 = .ok (.iload 5, 2) := by decide +kernel
theorem dX8_goesOn_81 : decode cX8_goesOn 81 = .ok (.iload 6, 2) := by decide +kernel
theorem dX8_goesOn_83 : decode cX8_goesOn 83 = .ok (.if_icmp .eq 14, 3) := by decide +kernel
theorem dX8_goesOn_86 : decode cX8_goesOn 86 = .ok (.iload 5, 2) := by decide +kernel
theorem dX8_goesOn_88 : decode cX8_goesOn 88 = .ok (.iload 6, 2) := by decide +kernel
theorem dX8_goesOn_90 : decode cX8_goesOn 90 = .ok (.iconst 1, 1) := by decide +kernel
theorem dX8_goesOn_91 : decode cX8_goesOn 91 = .ok (.iadd, 1) := by decide +kernel
theorem dX8_goesOn_92 : decode cX8_goesOn 92 = .ok (.if_icmp .eq 5, 3) := by decide +kernel
theorem dX8_goesOn_95 : decode cX8_goesOn 95 = .ok (.iconst 0, 1) := by decide +kernel
theorem dX8_goesOn_96 : decode cX8_goesOn 96 = .ok (.ireturn, 1) := by decide +kernel
theorem dX8_goesOn_97 : decode cX8_goesOn 97 = .ok (.iinc 4 1, 3) := by decide +kernel
theorem dX8_goesOn_100 : decode cX8_goesOn 100 = .ok (.goto (-97), 3) := by decide +kernel
theorem dX8_goesOn_103 : decode cX8_goesOn 103 = .ok (.iconst 1, 1) := by decide +kernel
theorem dX8_goesOn_104 : decode cX8_goesOn 104 = .ok (.ireturn, 1) := by decide +kernel
theorem dX8_fitsNow_0 : decode cX8_fitsNow 0 = .ok (.iconst 1, 1) := by decide +kernel
theorem dX8_fitsNow_1 : decode cX8_fitsNow 1 = .ok (.istore_n 2, 1) := by decide +kernel
theorem dX8_fitsNow_2 : decode cX8_fitsNow 2 = .ok (.iload_n 2, 1) := by decide +kernel
theorem dX8_fitsNow_3 : decode cX8_fitsNow 3 = .ok (.aload_n 0, 1) := by decide +kernel
theorem dX8_fitsNow_4 : decode cX8_fitsNow 4 = .ok (.getfield 9, 3) := by decide +kernel
theorem dX8_fitsNow_7 : decode cX8_fitsNow 7 = .ok (.if_icmp .gt 50, 3) := by decide +kernel
theorem dX8_fitsNow_10 : decode cX8_fitsNow 10 = .ok (.aload_n 0, 1) := by decide +kernel
theorem dX8_fitsNow_11 : decode cX8_fitsNow 11 = .ok (.iload_n 2, 1) := by decide +kernel
theorem dX8_fitsNow_12 : decode cX8_fitsNow 12 = .ok (.aload_n 0, 1) := by decide +kernel
theorem dX8_fitsNow_13 : decode cX8_fitsNow 13 = .ok (.getfield 15, 3) := by decide +kernel
theorem dX8_fitsNow_16 : decode cX8_fitsNow 16 = .ok (.invokestatic 106, 3) := by decide +kernel
theorem dX8_fitsNow_19 : decode cX8_fitsNow 19 = .ok (.iload_n 2, 1) := by decide +kernel
theorem dX8_fitsNow_20 : decode cX8_fitsNow 20 = .ok (.iconst 1, 1) := by decide +kernel
theorem dX8_fitsNow_21 : decode cX8_fitsNow 21 = .ok (.isub, 1) := by decide +kernel
theorem dX8_fitsNow_22 : decode cX8_fitsNow 22 = .ok (.aload_n 0, 1) := by decide +kernel
theorem dX8_fitsNow_23 : decode cX8_fitsNow 23 = .ok (.getfield 15, 3) := by decide +kernel
theorem dX8_fitsNow_26 : decode cX8_fitsNow 26 = .ok (.invokestatic 106, 3) := by decide +kernel
theorem dX8_fitsNow_29 : decode cX8_fitsNow 29 = .ok (.iload_n 1, 1) := by decide +kernel
theorem dX8_fitsNow_30 : decode cX8_fitsNow 30 = .ok (.ifCond .eq 8, 3) := by decide +kernel
theorem dX8_fitsNow_33 : decode cX8_fitsNow 33 = .ok (.iload_n 1, 1) := by decide +kernel
theorem dX8_fitsNow_34 : decode cX8_fitsNow 34 = .ok (.iconst 2, 1) := by decide +kernel
theorem dX8_fitsNow_35 : decode cX8_fitsNow 35 = .ok (.if_icmp .ne 7, 3) := by decide +kernel
theorem dX8_fitsNow_38 : decode cX8_fitsNow 38 = .ok (.iconst 1, 1) := by decide +kernel
theorem dX8_fitsNow_39 : decode cX8_fitsNow 39 = .ok (.goto 4, 3) := by decide +kernel
theorem dX8_fitsNow_42 : decode cX8_fitsNow 42 = .ok (.iconst 0, 1) := by decide +kernel
theorem dX8_fitsNow_43 : decode cX8_fitsNow 43 = .ok (.invokevirtual 140, 3) := by decide +kernel
theorem dX8_fitsNow_46 : decode cX8_fitsNow 46 = .ok (.ifCond .ne 5, 3) := by decide +kernel
theorem dX8_fitsNow_49 : decode cX8_fitsNow 49 = .ok (.iconst 0, 1) := by decide +kernel
theorem dX8_fitsNow_50 : decode cX8_fitsNow 50 = .ok (.ireturn, 1) := by decide +kernel
theorem dX8_fitsNow_51 : decode cX8_fitsNow 51 = .ok (.iinc 2 1, 3) := by decide +kernel
theorem dX8_fitsNow_54 : decode cX8_fitsNow 54 = .ok (.goto (-52), 3) := by decide +kernel
theorem dX8_fitsNow_57 : decode cX8_fitsNow 57 = .ok (.iconst 1, 1) := by decide +kernel
theorem dX8_fitsNow_58 : decode cX8_fitsNow 58 = .ok (.istore_n 2, 1) := by decide +kernel
theorem dX8_fitsNow_59 : decode cX8_fitsNow 59 = .ok (.iload_n 2, 1) := by decide +kernel
theorem dX8_fitsNow_60 : decode cX8_fitsNow 60 = .ok (.aload_n 0, 1) := by decide +kernel
theorem dX8_fitsNow_61 : decode cX8_fitsNow 61 = .ok (.getfield 15, 3) := by decide +kernel
theorem dX8_fitsNow_64 : decode cX8_fitsNow 64 = .ok (.if_icmp .gt 46, 3) := by decide +kernel
theorem dX8_fitsNow_67 : decode cX8_fitsNow 67 = .ok (.aload_n 0, 1) := by decide +kernel
theorem dX8_fitsNow_68 : decode cX8_fitsNow 68 = .ok (.aload_n 0, 1) := by decide +kernel
theorem dX8_fitsNow_69 : decode cX8_fitsNow 69 = .ok (.getfield 9, 3) := by decide +kernel
theorem dX8_fitsNow_72 : decode cX8_fitsNow 72 = .ok (.iload_n 2, 1) := by decide +kernel
theorem dX8_fitsNow_73 : decode cX8_fitsNow 73 = .ok (.invokestatic 106, 3) := by decide +kernel
theorem dX8_fitsNow_76 : decode cX8_fitsNow 76 = .ok (.aload_n 0, 1) := by decide +kernel
theorem dX8_fitsNow_77 : decode cX8_fitsNow 77 = .ok (.getfield 9, 3) := by decide +kernel
theorem dX8_fitsNow_80 : decode cX8_fitsNow 80 = .ok (.iload_n 2, 1) := by decide +kernel
theorem dX8_fitsNow_81 : decode cX8_fitsNow 81 = .ok (.iconst 1, 1) := by decide +kernel
theorem dX8_fitsNow_82 : decode cX8_fitsNow 82 = .ok (.isub, 1) := by decide +kernel
theorem dX8_fitsNow_83 : decode cX8_fitsNow 83 = .ok (.invokestatic 106, 3) := by decide +kernel
theorem dX8_fitsNow_86 : decode cX8_fitsNow 86 = .ok (.iload_n 1, 1) := by decide +kernel
theorem dX8_fitsNow_87 : decode cX8_fitsNow 87 = .ok (.iconst 2, 1) := by decide +kernel
theorem dX8_fitsNow_88 : decode cX8_fitsNow 88 = .ok (.if_icmp .ge 7, 3) := by decide +kernel
theorem dX8_fitsNow_91 : decode cX8_fitsNow 91 = .ok (.iconst 1, 1) := by decide +kernel
theorem dX8_fitsNow_92 : decode cX8_fitsNow 92 = .ok (.goto 4, 3) := by decide +kernel
theorem dX8_fitsNow_95 : decode cX8_fitsNow 95 = .ok (.iconst 0, 1) := by decide +kernel
theorem dX8_fitsNow_96 : decode cX8_fitsNow 96 = .ok (.invokevirtual 140, 3) := by decide +kernel
theorem dX8_fitsNow_99 : decode cX8_fitsNow 99 = .ok (.ifCond .ne 5, 3) := by decide +kernel
theorem dX8_fitsNow_102 : decode cX8_fitsNow 102 = .ok (.iconst 0, 1) := by decide +kernel
theorem dX8_fitsNow_103 : decode cX8_fitsNow 103 = .ok (.ireturn, 1) := by decide +kernel
theorem dX8_fitsNow_104 : decode cX8_fitsNow 104 = .ok (.iinc 2 1, 3) := by decide +kernel
theorem dX8_fitsNow_107 : decode cX8_fitsNow 107 = .ok (.goto (-48), 3) := by decide +kernel
theorem dX8_fitsNow_110 : decode cX8_fitsNow 110 = .ok (.iconst 1, 1) := by decide +kernel
theorem dX8_fitsNow_111 : decode cX8_fitsNow 111 = .ok (.ireturn, 1) := by decide +kernel
theorem dX8_fits_0 : decode cX8_fits 0 = .ok (.iload_n 1, 1) := by decide +kernel
theorem dX8_fits_1 : decode cX8_fits 1 = .ok (.i2l, 1) := by decide +kernel
theorem dX8_fits_2 : decode cX8_fits 2 = .ok (.lconst 0, 1) := by decide +kernel
theorem dX8_fits_3 : decode cX8_fits 3 = .ok (.ldc2_w 90, 3) := by decide +kernel
theorem dX8_fits_6 : decode cX8_fits 6 = .ok (.invokestatic 58, 3) := by decide +kernel
theorem dX8_fits_9 : decode cX8_fits 9 = .ok (.ifCond .ne 5, 3) := by decide +kernel
theorem dX8_fits_12 : decode cX8_fits 12 = .ok (.iconst (-1), 1) := by decide +kernel
theorem dX8_fits_13 : decode cX8_fits 13 = .ok (.ireturn, 1) := by decide +kernel
theorem dX8_fits_14 : decode cX8_fits 14 = .ok (.aload_n 0, 1) := by decide +kernel
theorem dX8_fits_15 : decode cX8_fits 15 = .ok (.invokevirtual 122, 3) := by decide +kernel
theorem dX8_fits_18 : decode cX8_fits 18 = .ok (.aload_n 0, 1) := by decide +kernel
theorem dX8_fits_19 : decode cX8_fits 19 = .ok (.iload_n 1, 1) := by decide +kernel
theorem dX8_fits_20 : decode cX8_fits 20 = .ok (.invokevirtual 144, 3) := by decide +kernel
theorem dX8_fits_23 : decode cX8_fits 23 = .ok (.ifCond .eq 7, 3) := by decide +kernel
theorem dX8_fits_26 : decode cX8_fits 26 = .ok (.iconst 1, 1) := by decide +kernel
theorem dX8_fits_27 : decode cX8_fits 27 = .ok (.goto 4, 3) := by decide +kernel
theorem dX8_fits_30 : decode cX8_fits 30 = .ok (.iconst 0, 1) := by decide +kernel
theorem dX8_fits_31 : decode cX8_fits 31 = .ok (.ireturn, 1) := by decide +kernel
theorem dX8_shrinks_0 : decode cX8_shrinks 0 = .ok (.iload_n 1, 1) := by decide +kernel
theorem dX8_shrinks_1 : decode cX8_shrinks 1 = .ok (.iload_n 2, 1) := by decide +kernel
theorem dX8_shrinks_2 : decode cX8_shrinks 2 = .ok (.invokestatic 106, 3) := by decide +kernel
theorem dX8_shrinks_5 : decode cX8_shrinks 5 = .ok (.istore 4, 2) := by decide +kernel
theorem dX8_shrinks_7 : decode cX8_shrinks 7 = .ok (.iload_n 1, 1) := by decide +kernel
theorem dX8_shrinks_8 : decode cX8_shrinks 8 = .ok (.iconst 1, 1) := by decide +kernel
theorem dX8_shrinks_9 : decode cX8_shrinks 9 = .ok (.isub, 1) := by decide +kernel
theorem dX8_shrinks_10 : decode cX8_shrinks 10 = .ok (.iload_n 2, 1) := by decide +kernel
theorem dX8_shrinks_11 : decode cX8_shrinks 11 = .ok (.iconst 1, 1) := by decide +kernel
theorem dX8_shrinks_12 : decode cX8_shrinks 12 = .ok (.isub, 1) := by decide +kernel
theorem dX8_shrinks_13 : decode cX8_shrinks 13 = .ok (.invokestatic 106, 3) := by decide +kernel
theorem dX8_shrinks_16 : decode cX8_shrinks 16 = .ok (.istore 5, 2) := by decide +kernel
theorem dX8_shrinks_18 : decode cX8_shrinks 18 = .ok (.iload_n 1, 1) := by decide +kernel
theorem dX8_shrinks_19 : decode cX8_shrinks 19 = .ok (.iconst 1, 1) := by decide +kernel
theorem dX8_shrinks_20 : decode cX8_shrinks 20 = .ok (.isub, 1) := by decide +kernel
theorem dX8_shrinks_21 : decode cX8_shrinks 21 = .ok (.iload_n 2, 1) := by decide +kernel
theorem dX8_shrinks_22 : decode cX8_shrinks 22 = .ok (.invokestatic 106, 3) := by decide +kernel
theorem dX8_shrinks_25 : decode cX8_shrinks 25 = .ok (.istore 6, 2) := by decide +kernel
theorem dX8_shrinks_27 : decode cX8_shrinks 27 = .ok (.iload_n 1, 1) := by decide +kernel
theorem dX8_shrinks_28 : decode cX8_shrinks 28 = .ok (.iload_n 2, 1) := by decide +kernel
theorem dX8_shrinks_29 : decode cX8_shrinks 29 = .ok (.iconst 1, 1) := by decide +kernel
theorem dX8_shrinks_30 : decode cX8_shrinks 30 = .ok (.isub, 1) := by decide +kernel
theorem dX8_shrinks_31 : decode cX8_shrinks 31 = .ok (.invokestatic 106, 3) := by decide +kernel
theorem dX8_shrinks_34 : decode cX8_shrinks 34 = .ok (.istore 7, 2) := by decide +kernel
theorem dX8_shrinks_36 : decode cX8_shrinks 36 = .ok (.iconst 0, 1) := by decide +kernel
theorem dX8_shrinks_37 : decode cX8_shrinks 37 = .ok (.istore 8, 2) := by decide +kernel
theorem dX8_shrinks_39 : decode cX8_shrinks 39 = .ok (.aload_n 0, 1) := by decide +kernel
theorem dX8_shrinks_40 : decode cX8_shrinks 40 = .ok (.iload_n 1, 1) := by decide +kernel
theorem dX8_shrinks_41 : decode cX8_shrinks 41 = .ok (.iload_n 2, 1) := by decide +kernel
theorem dX8_shrinks_42 : decode cX8_shrinks 42 = .ok (.invokevirtual 128, 3) := by decide +kernel
theorem dX8_shrinks_45 : decode cX8_shrinks 45 = .ok (.istore 9, 2) := by decide +kernel
theorem dX8_shrinks_47 : decode cX8_shrinks 47 = .ok (.iconst 0, 1) := by decide +kernel
theorem dX8_shrinks_48 : decode cX8_shrinks 48 = .ok (.istore 10, 2) := by decide +kernel
theorem dX8_shrinks_50 : decode cX8_shrinks 50 = .ok (.iload 10, 2) := by decide +kernel
theorem dX8_shrinks_52 : decode cX8_shrinks 52 = .ok (.bipush 80, 2) := by decide +kernel
theorem dX8_shrinks_54 : decode cX8_shrinks 54 = .ok (.if_icmp .ge 20, 3) := by decide +kernel
theorem dX8_shrinks_57 : decode cX8_shrinks 57 = .ok (.aload_n 0, 1) := by decide +kernel
theorem dX8_shrinks_58 : decode cX8_shrinks 58 = .ok (.getfield 31, 3) := by decide +kernel
theorem dX8_shrinks_61 : decode cX8_shrinks 61 = .ok (.iload 5, 2) := by decide +kernel
theorem dX8_shrinks_63 : decode cX8_shrinks 63 = .ok (.iload 10, 2) := by decide +kernel
theorem dX8_shrinks_65 : decode cX8_shrinks 65 = .ok (.iadd, 1) := by decide +kernel
theorem dX8_shrinks_66 : decode cX8_shrinks 66 = .ok (.iconst 0, 1) := by decide +kernel
theorem dX8_shrinks_67 : decode cX8_shrinks 67 = .ok (.iastore, 1) := by decide +kernel
theorem dX8_shrinks_68 : decode cX8_shrinks 68 = .ok (.iinc 10 1, 3) := by decide +kernel
theorem dX8_shrinks_71 : decode cX8_shrinks 71 = .ok (.goto (-21), 3) := by decide +kernel
theorem dX8_shrinks_74 : decode cX8_shrinks 74 = .ok (.iload 9, 2) := by decide +kernel
theorem dX8_shrinks_76 : decode cX8_shrinks 76 = .ok (.iconst 1, 1) := by decide +kernel
theorem dX8_shrinks_77 : decode cX8_shrinks 77 = .ok (.isub, 1) := by decide +kernel
theorem dX8_shrinks_78 : decode cX8_shrinks 78 = .ok (.istore 10, 2) := by decide +kernel
theorem dX8_shrinks_80 : decode cX8_shrinks 80 = .ok (.iload 10, 2) := by decide +kernel
theorem dX8_shrinks_82 : decode cX8_shrinks 82 = .ok (.ifCond .lt 278, 3) := by decide +kernel
theorem dX8_shrinks_85 : decode cX8_shrinks 85 = .ok (.aload_n 0, 1) := by decide +kernel
theorem dX8_shrinks_86 : decode cX8_shrinks 86 = .ok (.getfield 31, 3) := by decide +kernel
theorem dX8_shrinks_89 : decode cX8_shrinks 89 = .ok (.iload 4, 2) := by decide +kernel
theorem dX8_shrinks_91 : decode cX8_shrinks 91 = .ok (.iload 10, 2) := by decide +kernel
theorem dX8_shrinks_93 : decode cX8_shrinks 93 = .ok (.iadd, 1) := by decide +kernel
theorem dX8_shrinks_94 : decode cX8_shrinks 94 = .ok (.iaload, 1) := by decide +kernel
theorem dX8_shrinks_95 : decode cX8_shrinks 95 = .ok (.istore 11, 2) := by decide +kernel
theorem dX8_shrinks_97 : decode cX8_shrinks 97 = .ok (.aload_n 0, 1) := by decide +kernel
theorem dX8_shrinks_98 : decode cX8_shrinks 98 = .ok (.getfield 31, 3) := by decide +kernel
theorem dX8_shrinks_101 : decode cX8_shrinks 101 = .ok (.iload 6, 2) := by decide +kernel
theorem dX8_shrinks_103 : decode cX8_shrinks 103 = .ok (.iload 10, 2) := by decide +kernel
theorem dX8_shrinks_105 : decode cX8_shrinks 105 = .ok (.iadd, 1) := by decide +kernel
theorem dX8_shrinks_106 : decode cX8_shrinks 106 = .ok (.iaload, 1) := by decide +kernel
theorem dX8_shrinks_107 : decode cX8_shrinks 107 = .ok (.istore 12, 2) := by decide +kernel
theorem dX8_shrinks_109 : decode cX8_shrinks 109 = .ok (.aload_n 0, 1) := by decide +kernel
theorem dX8_shrinks_110 : decode cX8_shrinks 110 = .ok (.getfield 31, 3) := by decide +kernel
theorem dX8_shrinks_113 : decode cX8_shrinks 113 = .ok (.iload 7, 2) := by decide +kernel
theorem dX8_shrinks_115 : decode cX8_shrinks 115 = .ok (.iload 10, 2) := by decide +kernel
theorem dX8_shrinks_117 : decode cX8_shrinks 117 = .ok (.iadd, 1) := by decide +kernel
theorem dX8_shrinks_118 : decode cX8_shrinks 118 = .ok (.iaload, 1) := by decide +kernel
theorem dX8_shrinks_119 : decode cX8_shrinks 119 = .ok (.istore 13, 2) := by decide +kernel
theorem dX8_shrinks_121 : decode cX8_shrinks 121 = .ok (.iload_n 3, 1) := by decide +kernel
theorem dX8_shrinks_122 : decode cX8_shrinks 122 = .ok (.iconst 2, 1) := by decide +kernel
theorem dX8_shrinks_123 : decode cX8_shrinks 123 = .ok (.if_icmp .ne 27, 3) := by decide +kernel
theorem dX8_shrinks_126 : decode cX8_shrinks 126 = .ok (.aload_n 0, 1) := by decide +kernel
theorem dX8_shrinks_127 : decode cX8_shrinks 127 = .ok (.getfield 31, 3) := by decide +kernel
theorem dX8_shrinks_130 : decode cX8_shrinks 130 = .ok (.iload 7, 2) := by decide +kernel
theorem dX8_shrinks_132 : decode cX8_shrinks 132 = .ok (.iload 10, 2) := by decide +kernel
theorem dX8_shrinks_134 : decode cX8_shrinks 134 = .ok (.iadd, 1) := by decide +kernel
theorem dX8_shrinks_135 : decode cX8_shrinks 135 = .ok (.iaload, 1) := by decide +kernel
theorem dX8_shrinks_136 : decode cX8_shrinks 136 = .ok (.istore 12, 2) := by decide +kernel
theorem dX8_shrinks_138 : decode cX8_shrinks 138 = .ok (.aload_n 0, 1) := by decide +kernel
theorem dX8_shrinks_139 : decode cX8_shrinks 139 = .ok (.getfield 31, 3) := by decide +kernel
theorem dX8_shrinks_142 : decode cX8_shrinks 142 = .ok (.iload 6, 2) := by decide +kernel
theorem dX8_shrinks_144 : decode cX8_shrinks 144 = .ok (.iload 10, 2) := by decide +kernel
theorem dX8_shrinks_146 : decode cX8_shrinks 146 = .ok (.iadd, 1) := by decide +kernel
theorem dX8_shrinks_147 : decode cX8_shrinks 147 = .ok (.iaload, 1) := by decide +kernel
theorem dX8_shrinks_148 : decode cX8_shrinks 148 = .ok (.istore 13, 2) := by decide +kernel
theorem dX8_shrinks_150 : decode cX8_shrinks 150 = .ok (.iload 8, 2) := by decide +kernel
theorem dX8_shrinks_152 : decode cX8_shrinks 152 = .ok (.istore 14, 2) := by decide +kernel
theorem dX8_shrinks_154 : decode cX8_shrinks 154 = .ok (.iload_n 3, 1) := by decide +kernel
theorem dX8_shrinks_155 : decode cX8_shrinks 155 = .ok (.ifCond .ne 52, 3) := by decide +kernel
theorem dX8_shrinks_158 : decode cX8_shrinks 158 = .ok (.aload_n 0, 1) := by decide +kernel
theorem dX8_shrinks_159 : decode cX8_shrinks 159 = .ok (.getfield 31, 3) := by decide +kernel
theorem dX8_shrinks_162 : decode cX8_shrinks 162 = .ok (.iload 5, 2) := by decide +kernel
theorem dX8_shrinks_164 : decode cX8_shrinks 164 = .ok (.iload 10, 2) := by decide +kernel
theorem dX8_shrinks_166 : decode cX8_shrinks 166 = .ok (.iadd, 1) := by decide +kernel
theorem dX8_shrinks_167 : decode cX8_shrinks 167 = .ok (.iload 12, 2) := by decide +kernel
theorem dX8_shrinks_169 : decode cX8_shrinks 169 = .ok (.iload 13, 2) := by decide +kernel
theorem dX8_shrinks_171 : decode cX8_shrinks 171 = .ok (.if_icmp .ge 8, 3) := by decide +kernel
theorem dX8_shrinks_174 : decode cX8_shrinks 174 = .ok (.iload 12, 2) := by decide +kernel
theorem dX8_shrinks_176 : decode cX8_shrinks 176 = .ok (.goto 5, 3) := by decide +kernel
theorem dX8_shrinks_179 : decode cX8_shrinks 179 = .ok (.iload 13, 2) := by decide +kernel
theorem dX8_shrinks_181 : decode cX8_shrinks 181 = .ok (.iload 14, 2) := by decide +kernel
theorem dX8_shrinks_183 : decode cX8_shrinks 183 = .ok (.isub, 1) := by decide +kernel
theorem dX8_shrinks_184 : decode cX8_shrinks 184 = .ok (.iastore, 1) := by decide +kernel
theorem dX8_shrinks_185 : decode cX8_shrinks 185 = .ok (.iload 11, 2) := by decide +kernel
theorem dX8_shrinks_187 : decode cX8_shrinks 187 = .ok (.iload 12, 2) := by decide +kernel
theorem dX8_shrinks_189 : decode cX8_shrinks 189 = .ok (.iload 13, 2) := by decide +kernel
theorem dX8_shrinks_191 : decode cX8_shrinks 191 = .ok (.if_icmp .le 8, 3) := by decide +kernel
theorem dX8_shrinks_194 : decode cX8_shrinks 194 = .ok (.iload 12, 2) := by decide +kernel
theorem dX8_shrinks_196 : decode cX8_shrinks 196 = .ok (.goto 5, 3) := by decide +kernel
theorem dX8_shrinks_199 : decode cX8_shrinks 199 = .ok (.iload 13, 2) := by decide +kernel
theorem dX8_shrinks_201 : decode cX8_shrinks 201 = .ok (.isub, 1) := by decide +kernel
theorem dX8_shrinks_202 : decode cX8_shrinks 202 = .ok (.istore 8, 2) := by decide +kernel
theorem dX8_shrinks_204 : decode cX8_shrinks 204 = .ok (.goto 150, 3) := by decide +kernel
theorem dX8_shrinks_207 : decode cX8_shrinks 207 = .ok (.iload_n 3, 1) := by decide +kernel
theorem dX8_shrinks_208 : decode cX8_shrinks 208 = .ok (.iconst 3, 1) := by decide +kernel
theorem dX8_shrinks_209 : decode cX8_shrinks 209 = .ok (.if_icmp .ge 56, 3) := by decide +kernel
theorem dX8_shrinks_212 : decode cX8_shrinks 212 = .ok (.iload 13, 2) := by decide +kernel
theorem dX8_shrinks_214 : decode cX8_shrinks 214 = .ok (.iload 14, 2) := by decide +kernel
theorem dX8_shrinks_216 : decode cX8_shrinks 216 = .ok (.isub, 1) := by decide +kernel
theorem dX8_shrinks_217 : decode cX8_shrinks 217 = .ok (.istore 15, 2) := by decide +kernel
theorem dX8_shrinks_219 : decode cX8_shrinks 219 = .ok (.aload_n 0, 1) := by decide +kernel
theorem dX8_shrinks_220 : decode cX8_shrinks 220 = .ok (.getfield 31, 3) := by decide +kernel
theorem dX8_shrinks_223 : decode cX8_shrinks 223 = .ok (.iload 5, 2) := by decide +kernel
theorem dX8_shrinks_225 : decode cX8_shrinks 225 = .ok (.iload 10, 2) := by decide +kernel
theorem dX8_shrinks_227 : decode cX8_shrinks 227 = .ok (.iadd, 1) := by decide +kernel
theorem dX8_shrinks_228 : decode cX8_shrinks 228 = .ok (.iload 12, 2) := by decide +kernel
theorem dX8_shrinks_230 : decode cX8_shrinks 230 = .ok (.iload 15, 2) := by decide +kernel
theorem dX8_shrinks_232 : decode cX8_shrinks 232 = .ok (.if_icmp .ge 8, 3) := by decide +kernel
theorem dX8_shrinks_235 : decode cX8_shrinks 235 = .ok (.iload 12, 2) := by decide +kernel
theorem dX8_shrinks_237 : decode cX8_shrinks 237 = .ok (.goto 5, 3) := by decide +kernel
theorem dX8_shrinks_240 : decode cX8_shrinks 240 = .ok (.iload 15, 2) := by decide +kernel
theorem dX8_shrinks_242 : decode cX8_shrinks 242 = .ok (.iastore, 1) := by decide +kernel
theorem dX8_shrinks_243 : decode cX8_shrinks 243 = .ok (.iload 11, 2) := by decide +kernel
theorem dX8_shrinks_245 : decode cX8_shrinks 245 = .ok (.iload 12, 2) := by decide +kernel
theorem dX8_shrinks_247 : decode cX8_shrinks 247 = .ok (.iload 15, 2) := by decide +kernel
theorem dX8_shrinks_249 : decode cX8_shrinks 249 = .ok (.if_icmp .le 8, 3) := by decide +kernel
theorem dX8_shrinks_252 : decode cX8_shrinks 252 = .ok (.iload 12, 2) := by decide +kernel
theorem dX8_shrinks_254 : decode cX8_shrinks 254 = .ok (.goto 5, 3) := by decide +kernel
theorem dX8_shrinks_257 : decode cX8_shrinks 257 = .ok (.iload 15, 2) := by decide +kernel
theorem dX8_shrinks_259 : decode cX8_shrinks 259 = .ok (.isub, 1) := by decide +kernel
theorem dX8_shrinks_260 : decode cX8_shrinks 260 = .ok (.istore 8, 2) := by decide +kernel
theorem dX8_shrinks_262 : decode cX8_shrinks 262 = .ok (.goto 92, 3) := by decide +kernel
theorem dX8_shrinks_265 : decode cX8_shrinks 265 = .ok (.iload 11, 2) := by decide +kernel
theorem dX8_shrinks_267 : decode cX8_shrinks 267 = .ok (.iload 12, 2) := by decide +kernel
theorem dX8_shrinks_269 : decode cX8_shrinks 269 = .ok (.if_icmp .ne 14, 3) := by decide +kernel
theorem dX8_shrinks_272 : decode cX8_shrinks 272 = .ok (.iload 12, 2) := by decide +kernel
theorem dX8_shrinks_274 : decode cX8_shrinks 274 = .ok (.iload 13, 2) := by decide +kernel
theorem dX8_shrinks_276 : decode cX8_shrinks 276 = .ok (.if_icmp .ne 7, 3) := by decide +kernel
theorem dX8_shrinks_279 : decode cX8_shrinks 279 = .ok (.iconst 1, 1) := by decide +kernel
theorem dX8_shrinks_280 : decode cX8_shrinks 280 = .ok (.goto 4, 3) := by decide +kernel
theorem dX8_shrinks_283 : decode cX8_shrinks 283 = .ok (.iconst 0, 1) := by decide +kernel
theorem dX8_shrinks_284 : decode cX8_shrinks 284 = .ok (.istore 15, 2) := by decide +kernel
theorem dX8_shrinks_286 : decode cX8_shrinks 286 = .ok (.iload 14, 2) := by decide +kernel
theorem dX8_shrinks_288 : decode cX8_shrinks 288 = .ok (.iload 15, 2) := by decide +kernel
theorem dX8_shrinks_290 : decode cX8_shrinks 290 = .ok (.if_icmp .ge 8, 3) := by decide +kernel
theorem dX8_shrinks_293 : decode cX8_shrinks 293 = .ok (.iload 14, 2) := by decide +kernel
theorem dX8_shrinks_295 : decode cX8_shrinks 295 = .ok (.goto 5, 3) := by decide +kernel
theorem dX8_shrinks_298 : decode cX8_shrinks 298 = .ok (.iload 15, 2) := by decide +kernel
theorem dX8_shrinks_300 : decode cX8_shrinks 300 = .ok (.istore 16, 2) := by decide +kernel
theorem dX8_shrinks_302 : decode cX8_shrinks 302 = .ok (.aload_n 0, 1) := by decide +kernel
theorem dX8_shrinks_303 : decode cX8_shrinks 303 = .ok (.getfield 31, 3) := by decide +kernel
theorem dX8_shrinks_306 : decode cX8_shrinks 306 = .ok (.iload 5, 2) := by decide +kernel
theorem dX8_shrinks_308 : decode cX8_shrinks 308 = .ok (.iload 10, 2) := by decide +kernel
theorem dX8_shrinks_310 : decode cX8_shrinks 310 = .ok (.iadd, 1) := by decide +kernel
theorem dX8_shrinks_311 : decode cX8_shrinks 311 = .ok (.iload 12, 2) := by decide +kernel
theorem dX8_shrinks_313 : decode cX8_shrinks 313 = .ok (.iload 13, 2) := by decide +kernel
theorem dX8_shrinks_315 : decode cX8_shrinks 315 = .ok (.if_icmp .ge 8, 3) := by decide +kernel
theorem dX8_shrinks_318 : decode cX8_shrinks 318 = .ok (.iload 12, 2) := by decide +kernel
theorem dX8_shrinks_320 : decode cX8_shrinks 320 = .ok (.goto 5, 3) := by decide +kernel
theorem dX8_shrinks_323 : decode cX8_shrinks 323 = .ok (.iload 13, 2) := by decide +kernel
theorem dX8_shrinks_325 : decode cX8_shrinks 325 = .ok (.iload 16, 2) := by decide +kernel
theorem dX8_shrinks_327 : decode cX8_shrinks 327 = .ok (.isub, 1) := by decide +kernel
theorem dX8_shrinks_328 : decode cX8_shrinks 328 = .ok (.iastore, 1) := by decide +kernel
theorem dX8_shrinks_329 : decode cX8_shrinks 329 = .ok (.iload 14, 2) := by decide +kernel
theorem dX8_shrinks_331 : decode cX8_shrinks 331 = .ok (.iload 16, 2) := by decide +kernel
theorem dX8_shrinks_333 : decode cX8_shrinks 333 = .ok (.isub, 1) := by decide +kernel
theorem dX8_shrinks_334 : decode cX8_shrinks 334 = .ok (.iload 11, 2) := by decide +kernel
theorem dX8_shrinks_336 : decode cX8_shrinks 336 = .ok (.iadd, 1) := by decide +kernel
theorem dX8_shrinks_337 : decode cX8_shrinks 337 = .ok (.iload 12, 2) := by decide +kernel
theorem dX8_shrinks_339 : decode cX8_shrinks 339 = .ok (.iload 13, 2) := by decide +kernel
theorem dX8_shrinks_341 : decode cX8_shrinks 341 = .ok (.if_icmp .le 8, 3) := by decide +kernel
theorem dX8_shrinks_344 : decode cX8_shrinks 344 = .ok (.iload 12, 2) := by decide +kernel
theorem dX8_shrinks_346 : decode cX8_shrinks 346 = .ok (.goto 5, 3) := by decide +kernel
theorem dX8_shrinks_349 : decode cX8_shrinks 349 = .ok (.iload 13, 2) := by decide +kernel
theorem dX8_shrinks_351 : decode cX8_shrinks 351 = .ok (.isub, 1) := by decide +kernel
theorem dX8_shrinks_352 : decode cX8_shrinks 352 = .ok (.istore 8, 2) := by decide +kernel
theorem dX8_shrinks_354 : decode cX8_shrinks 354 = .ok (.iinc 10 (-1), 3) := by decide +kernel
theorem dX8_shrinks_357 : decode cX8_shrinks 357 = .ok (.goto (-277), 3) := by decide +kernel
theorem dX8_shrinks_360 : decode cX8_shrinks 360 = .ok (.iload 8, 2) := by decide +kernel
theorem dX8_shrinks_362 : decode cX8_shrinks 362 = .ok (.ireturn, 1) := by decide +kernel
theorem dX8_back_0 : decode cX8_back 0 = .ok (.iload_n 1, 1) := by decide +kernel
theorem dX8_back_1 : decode cX8_back 1 = .ok (.i2l, 1) := by decide +kernel
theorem dX8_back_2 : decode cX8_back 2 = .ok (.lconst 0, 1) := by decide +kernel
theorem dX8_back_3 : decode cX8_back 3 = .ok (.ldc2_w 90, 3) := by decide +kernel
theorem dX8_back_6 : decode cX8_back 6 = .ok (.invokestatic 58, 3) := by decide +kernel
theorem dX8_back_9 : decode cX8_back 9 = .ok (.ifCond .ne 5, 3) := by decide +kernel
theorem dX8_back_12 : decode cX8_back 12 = .ok (.iconst (-1), 1) := by decide +kernel
theorem dX8_back_13 : decode cX8_back 13 = .ok (.ireturn, 1) := by decide +kernel
theorem dX8_back_14 : decode cX8_back 14 = .ok (.aload_n 0, 1) := by decide +kernel
theorem dX8_back_15 : decode cX8_back 15 = .ok (.invokevirtual 122, 3) := by decide +kernel
theorem dX8_back_18 : decode cX8_back 18 = .ok (.aload_n 0, 1) := by decide +kernel
theorem dX8_back_19 : decode cX8_back 19 = .ok (.iload_n 1, 1) := by decide +kernel
theorem dX8_back_20 : decode cX8_back 20 = .ok (.invokevirtual 144, 3) := by decide +kernel
theorem dX8_back_23 : decode cX8_back 23 = .ok (.ifCond .ne 6, 3) := by decide +kernel
theorem dX8_back_26 : decode cX8_back 26 = .ok (.bipush (-5), 2) := by decide +kernel
theorem dX8_back_28 : decode cX8_back 28 = .ok (.ireturn, 1) := by decide +kernel
theorem dX8_back_29 : decode cX8_back 29 = .ok (.iconst 0, 1) := by decide +kernel
theorem dX8_back_30 : decode cX8_back 30 = .ok (.istore_n 2, 1) := by decide +kernel
theorem dX8_back_31 : decode cX8_back 31 = .ok (.iload_n 2, 1) := by decide +kernel
theorem dX8_back_32 : decode cX8_back 32 = .ok (.bipush 25, 2) := by decide +kernel
theorem dX8_back_34 : decode cX8_back 34 = .ok (.if_icmp .ge 16, 3) := by decide +kernel
theorem dX8_back_37 : decode cX8_back 37 = .ok (.aload_n 0, 1) := by decide +kernel
theorem dX8_back_38 : decode cX8_back 38 = .ok (.getfield 28, 3) := by decide +kernel
theorem dX8_back_41 : decode cX8_back 41 = .ok (.iload_n 2, 1) := by decide +kernel
theorem dX8_back_42 : decode cX8_back 42 = .ok (.iconst 0, 1) := by decide +kernel
theorem dX8_back_43 : decode cX8_back 43 = .ok (.iastore, 1) := by decide +kernel
theorem dX8_back_44 : decode cX8_back 44 = .ok (.iinc 2 1, 3) := by decide +kernel
theorem dX8_back_47 : decode cX8_back 47 = .ok (.goto (-16), 3) := by decide +kernel
theorem dX8_back_50 : decode cX8_back 50 = .ok (.iconst 1, 1) := by decide +kernel
theorem dX8_back_51 : decode cX8_back 51 = .ok (.istore_n 2, 1) := by decide +kernel
theorem dX8_back_52 : decode cX8_back 52 = .ok (.aload_n 0, 1) := by decide +kernel
theorem dX8_back_53 : decode cX8_back 53 = .ok (.getfield 9, 3) := by decide +kernel
theorem dX8_back_56 : decode cX8_back 56 = .ok (.istore_n 3, 1) := by decide +kernel
theorem dX8_back_57 : decode cX8_back 57 = .ok (.iload_n 3, 1) := by decide +kernel
theorem dX8_back_58 : decode cX8_back 58 = .ok (.ifCond .le 70, 3) := by decide +kernel
theorem dX8_back_61 : decode cX8_back 61 = .ok (.aload_n 0, 1) := by decide +kernel
theorem dX8_back_62 : decode cX8_back 62 = .ok (.getfield 15, 3) := by decide +kernel
theorem dX8_back_65 : decode cX8_back 65 = .ok (.istore 4, 2) := by decide +kernel
theorem dX8_back_67 : decode cX8_back 67 = .ok (.iload 4, 2) := by decide +kernel
theorem dX8_back_69 : decode cX8_back 69 = .ok (.ifCond .le 53, 3) := by decide +kernel
theorem dX8_back_72 : decode cX8_back 72 = .ok (.aload_n 0, 1) := by decide +kernel
theorem dX8_back_73 : decode cX8_back 73 = .ok (.getfield 28, 3) := by decide +kernel
theorem dX8_back_76 : decode cX8_back 76 = .ok (.iload_n 3, 1) := by decide +kernel
theorem dX8_back_77 : decode cX8_back 77 = .ok (.iload 4, 2) := by decide +kernel
theorem dX8_back_79 : decode cX8_back 79 = .ok (.invokestatic 92, 3) := by decide +kernel
theorem dX8_back_82 : decode cX8_back 82 = .ok (.aload_n 0, 1) := by decide +kernel
theorem dX8_back_83 : decode cX8_back 83 = .ok (.iload_n 3, 1) := by decide +kernel
theorem dX8_back_84 : decode cX8_back 84 = .ok (.iload 4, 2) := by decide +kernel
theorem dX8_back_86 : decode cX8_back 86 = .ok (.iload_n 1, 1) := by decide +kernel
theorem dX8_back_87 : decode cX8_back 87 = .ok (.invokevirtual 148, 3) := by decide +kernel
theorem dX8_back_90 : decode cX8_back 90 = .ok (.iastore, 1) := by decide +kernel
theorem dX8_back_91 : decode cX8_back 91 = .ok (.iload_n 2, 1) := by decide +kernel
theorem dX8_back_92 : decode cX8_back 92 = .ok (.ifCond .eq 22, 3) := by decide +kernel
theorem dX8_back_95 : decode cX8_back 95 = .ok (.aload_n 0, 1) := by decide +kernel
theorem dX8_back_96 : decode cX8_back 96 = .ok (.getfield 28, 3) := by decide +kernel
theorem dX8_back_99 : decode cX8_back 99 = .ok (.iload_n 3, 1) := by decide +kernel
theorem dX8_back_100 : decode cX8_back 100 = .ok (.iload 4, 2) := by decide +kernel
theorem dX8_back_102 : decode cX8_back 102 = .ok (.invokestatic 92, 3) := by decide +kernel
theorem dX8_back_105 : decode cX8_back 105 = .ok (.iaload, 1) := by decide +kernel
theorem dX8_back_106 : decode cX8_back 106 = .ok (.iconst 3, 1) := by decide +kernel
theorem dX8_back_107 : decode cX8_back 107 = .ok (.if_icmp .gt 7, 3) := by decide +kernel
theorem dX8_back_110 : decode cX8_back 110 = .ok (.iconst 1, 1) := by decide +kernel
theorem dX8_back_111 : decode cX8_back 111 = .ok (.goto 4, 3) := by decide +kernel
theorem dX8_back_114 : decode cX8_back 114 = .ok (.iconst 0, 1) := by decide +kernel
theorem dX8_back_115 : decode cX8_back 115 = .ok (.istore_n 2, 1) := by decide +kernel
theorem dX8_back_116 : decode cX8_back 116 = .ok (.iinc 4 (-1), 3) := by decide +kernel
theorem dX8_back_119 : decode cX8_back 119 = .ok (.goto (-52), 3) := by decide +kernel
theorem dX8_back_122 : decode cX8_back 122 = .ok (.iinc 3 (-1), 3) := by decide +kernel
theorem dX8_back_125 : decode cX8_back 125 = .ok (.goto (-68), 3) := by decide +kernel
theorem dX8_back_128 : decode cX8_back 128 = .ok (.iload_n 2, 1) := by decide +kernel
theorem dX8_back_129 : decode cX8_back 129 = .ok (.ifCond .ne 6, 3) := by decide +kernel
theorem dX8_back_132 : decode cX8_back 132 = .ok (.bipush (-5), 2) := by decide +kernel
theorem dX8_back_134 : decode cX8_back 134 = .ok (.ireturn, 1) := by decide +kernel
theorem dX8_back_135 : decode cX8_back 135 = .ok (.aload_n 0, 1) := by decide +kernel
theorem dX8_back_136 : decode cX8_back 136 = .ok (.invokevirtual 80, 3) := by decide +kernel
theorem dX8_back_139 : decode cX8_back 139 = .ok (.iconst 0, 1) := by decide +kernel
theorem dX8_back_140 : decode cX8_back 140 = .ok (.istore_n 3, 1) := by decide +kernel
theorem dX8_back_141 : decode cX8_back 141 = .ok (.iconst 0, 1) := by decide +kernel
theorem dX8_back_142 : decode cX8_back 142 = .ok (.istore 4, 2) := by decide +kernel
theorem dX8_back_144 : decode cX8_back 144 = .ok (.iload 4, 2) := by decide +kernel
theorem dX8_back_146 : decode cX8_back 146 = .ok (.bipush 25, 2) := by decide +kernel
theorem dX8_back_148 : decode cX8_back 148 = .ok (.if_icmp .ge 48, 3) := by decide +kernel
theorem dX8_back_151 : decode cX8_back 151 = .ok (.iload_n 3, 1) := by decide +kernel
theorem dX8_back_152 : decode cX8_back 152 = .ok (.aload_n 0, 1) := by decide +kernel
theorem dX8_back_153 : decode cX8_back 153 = .ok (.getfield 18, 3) := by decide +kernel
theorem dX8_back_156 : decode cX8_back 156 = .ok (.iload 4, 2) := by decide +kernel
theorem dX8_back_158 : decode cX8_back 158 = .ok (.iaload, 1) := by decide +kernel
theorem dX8_back_159 : decode cX8_back 159 = .ok (.aload_n 0, 1) := by decide +kernel
theorem dX8_back_160 : decode cX8_back 160 = .ok (.getfield 28, 3) := by decide +kernel
theorem dX8_back_163 : decode cX8_back 163 = .ok (.iload 4, 2) := by decide +kernel
theorem dX8_back_165 : decode cX8_back 165 = .ok (.iaload, 1) := by decide +kernel
theorem dX8_back_166 : decode cX8_back 166 = .ok (.if_icmp .eq 7, 3) := by decide +kernel
theorem dX8_back_169 : decode cX8_back 169 = .ok (.iconst 1, 1) := by decide +kernel
theorem dX8_back_170 : decode cX8_back 170 = .ok (.goto 4, 3) := by decide +kernel
theorem dX8_back_173 : decode cX8_back 173 = .ok (.iconst 0, 1) := by decide +kernel
theorem dX8_back_174 : decode cX8_back 174 = .ok (.iadd, 1) := by decide +kernel
theorem dX8_back_175 : decode cX8_back 175 = .ok (.istore_n 3, 1) := by decide +kernel
theorem dX8_back_176 : decode cX8_back 176 = .ok (.aload_n 0, 1) := by decide +kernel
theorem dX8_back_177 : decode cX8_back 177 = .ok (.getfield 18, 3) := by decide +kernel
theorem dX8_back_180 : decode cX8_back 180 = .ok (.iload 4, 2) := by decide +kernel
theorem dX8_back_182 : decode cX8_back 182 = .ok (.aload_n 0, 1) := by decide +kernel
theorem dX8_back_183 : decode cX8_back 183 = .ok (.getfield 28, 3) := by decide +kernel
theorem dX8_back_186 : decode cX8_back 186 = .ok (.iload 4, 2) := by decide +kernel
theorem dX8_back_188 : decode cX8_back 188 = .ok (.iaload, 1) := by decide +kernel
theorem dX8_back_189 : decode cX8_back 189 = .ok (.iastore, 1) := by decide +kernel
theorem dX8_back_190 : decode cX8_back 190 = .ok (.iinc 4 1, 3) := by decide +kernel
theorem dX8_back_193 : decode cX8_back 193 = .ok (.goto (-49), 3) := by decide +kernel
theorem dX8_back_196 : decode cX8_back 196 = .ok (.aload_n 0, 1) := by decide +kernel
theorem dX8_back_197 : decode cX8_back 197 = .ok (.iload_n 1, 1) := by decide +kernel
theorem dX8_back_198 : decode cX8_back 198 = .ok (.putfield 62, 3) := by decide +kernel
theorem dX8_back_201 : decode cX8_back 201 = .ok (.iload_n 3, 1) := by decide +kernel
theorem dX8_back_202 : decode cX8_back 202 = .ok (.ireturn, 1) := by decide +kernel
theorem dX8_goes_0 : decode cX8_goes 0 = .ok (.iload_n 0, 1) := by decide +kernel
theorem dX8_goes_1 : decode cX8_goes 1 = .ok (.tableswitch 100 0 2 #[27, 55, 72], 27) := by decide +kernel
theorem dX8_goes_28 : decode cX8_goes 28 = .ok (.iload_n 3, 1) := by decide +kernel
theorem dX8_goes_29 : decode cX8_goes 29 = .ok (.iload_n 1, 1) := by decide +kernel
theorem dX8_goes_30 : decode cX8_goes 30 = .ok (.if_icmp .lt 24, 3) := by decide +kernel
theorem dX8_goes_33 : decode cX8_goes 33 = .ok (.iload 4, 2) := by decide +kernel
theorem dX8_goes_35 : decode cX8_goes 35 = .ok (.iload_n 2, 1) := by decide +kernel
theorem dX8_goes_36 : decode cX8_goes 36 = .ok (.if_icmp .lt 18, 3) := by decide +kernel
theorem dX8_goes_39 : decode cX8_goes 39 = .ok (.iload_n 3, 1) := by decide +kernel
theorem dX8_goes_40 : decode cX8_goes 40 = .ok (.iload_n 1, 1) := by decide +kernel
theorem dX8_goes_41 : decode cX8_goes 41 = .ok (.if_icmp .gt 9, 3) := by decide +kernel
theorem dX8_goes_44 : decode cX8_goes 44 = .ok (.iload 4, 2) := by decide +kernel
theorem dX8_goes_46 : decode cX8_goes 46 = .ok (.iload_n 2, 1) := by decide +kernel
theorem dX8_goes_47 : decode cX8_goes 47 = .ok (.if_icmp .le 7, 3) := by decide +kernel
theorem dX8_goes_50 : decode cX8_goes 50 = .ok (.iconst 1, 1) := by decide +kernel
theorem dX8_goes_51 : decode cX8_goes 51 = .ok (.goto 4, 3) := by decide +kernel
theorem dX8_goes_54 : decode cX8_goes 54 = .ok (.iconst 0, 1) := by decide +kernel
theorem dX8_goes_55 : decode cX8_goes 55 = .ok (.ireturn, 1) := by decide +kernel
theorem dX8_goes_56 : decode cX8_goes 56 = .ok (.iload_n 3, 1) := by decide +kernel
theorem dX8_goes_57 : decode cX8_goes 57 = .ok (.iload_n 1, 1) := by decide +kernel
theorem dX8_goes_58 : decode cX8_goes 58 = .ok (.if_icmp .le 13, 3) := by decide +kernel
theorem dX8_goes_61 : decode cX8_goes 61 = .ok (.iload 4, 2) := by decide +kernel
theorem dX8_goes_63 : decode cX8_goes 63 = .ok (.iload_n 2, 1) := by decide +kernel
theorem dX8_goes_64 : decode cX8_goes 64 = .ok (.if_icmp .le 7, 3) := by decide +kernel
theorem dX8_goes_67 : decode cX8_goes 67 = .ok (.iconst 1, 1) := by decide +kernel
theorem dX8_goes_68 : decode cX8_goes 68 = .ok (.goto 4, 3) := by decide +kernel
theorem dX8_goes_71 : decode cX8_goes 71 = .ok (.iconst 0, 1) := by decide +kernel
theorem dX8_goes_72 : decode cX8_goes 72 = .ok (.ireturn, 1) := by decide +kernel
theorem dX8_goes_73 : decode cX8_goes 73 = .ok (.iload_n 3, 1) := by decide +kernel
theorem dX8_goes_74 : decode cX8_goes 74 = .ok (.iload_n 1, 1) := by decide +kernel
theorem dX8_goes_75 : decode cX8_goes 75 = .ok (.if_icmp .lt 24, 3) := by decide +kernel
theorem dX8_goes_78 : decode cX8_goes 78 = .ok (.iload 4, 2) := by decide +kernel
theorem dX8_goes_80 : decode cX8_goes 80 = .ok (.iload_n 2, 1) := by decide +kernel
theorem dX8_goes_81 : decode cX8_goes 81 = .ok (.if_icmp .gt 18, 3) := by decide +kernel
theorem dX8_goes_84 : decode cX8_goes 84 = .ok (.iload_n 3, 1) := by decide +kernel
theorem dX8_goes_85 : decode cX8_goes 85 = .ok (.iload_n 1, 1) := by decide +kernel
theorem dX8_goes_86 : decode cX8_goes 86 = .ok (.if_icmp .gt 9, 3) := by decide +kernel
theorem dX8_goes_89 : decode cX8_goes 89 = .ok (.iload 4, 2) := by decide +kernel
theorem dX8_goes_91 : decode cX8_goes 91 = .ok (.iload_n 2, 1) := by decide +kernel
theorem dX8_goes_92 : decode cX8_goes 92 = .ok (.if_icmp .ge 7, 3) := by decide +kernel
theorem dX8_goes_95 : decode cX8_goes 95 = .ok (.iconst 1, 1) := by decide +kernel
theorem dX8_goes_96 : decode cX8_goes 96 = .ok (.goto 4, 3) := by decide +kernel
theorem dX8_goes_99 : decode cX8_goes 99 = .ok (.iconst 0, 1) := by decide +kernel
theorem dX8_goes_100 : decode cX8_goes 100 = .ok (.ireturn, 1) := by decide +kernel
theorem dX8_goes_101 : decode cX8_goes 101 = .ok (.iload_n 3, 1) := by decide +kernel
theorem dX8_goes_102 : decode cX8_goes 102 = .ok (.iload_n 1, 1) := by decide +kernel
theorem dX8_goes_103 : decode cX8_goes 103 = .ok (.if_icmp .le 13, 3) := by decide +kernel
theorem dX8_goes_106 : decode cX8_goes 106 = .ok (.iload 4, 2) := by decide +kernel
theorem dX8_goes_108 : decode cX8_goes 108 = .ok (.iload_n 2, 1) := by decide +kernel
theorem dX8_goes_109 : decode cX8_goes 109 = .ok (.if_icmp .ge 7, 3) := by decide +kernel
theorem dX8_goes_112 : decode cX8_goes 112 = .ok (.iconst 1, 1) := by decide +kernel
theorem dX8_goes_113 : decode cX8_goes 113 = .ok (.goto 4, 3) := by decide +kernel
theorem dX8_goes_116 : decode cX8_goes 116 = .ok (.iconst 0, 1) := by decide +kernel
theorem dX8_goes_117 : decode cX8_goes 117 = .ok (.ireturn, 1) := by decide +kernel
theorem dX8_longest_0 : decode cX8_longest 0 = .ok (.iload_n 1, 1) := by decide +kernel
theorem dX8_longest_1 : decode cX8_longest 1 = .ok (.i2l, 1) := by decide +kernel
theorem dX8_longest_2 : decode cX8_longest 2 = .ok (.lconst 0, 1) := by decide +kernel
theorem dX8_longest_3 : decode cX8_longest 3 = .ok (.ldc2_w 90, 3) := by decide +kernel
theorem dX8_longest_6 : decode cX8_longest 6 = .ok (.invokestatic 58, 3) := by decide +kernel
theorem dX8_longest_9 : decode cX8_longest 9 = .ok (.ifCond .eq 13, 3) := by decide +kernel
theorem dX8_longest_12 : decode cX8_longest 12 = .ok (.iload_n 2, 1) := by decide +kernel
theorem dX8_longest_13 : decode cX8_longest 13 = .ok (.i2l, 1) := by decide +kernel
theorem dX8_longest_14 : decode cX8_longest 14 = .ok (.lconst 0, 1) := by decide +kernel
theorem dX8_longest_15 : decode cX8_longest 15 = .ok (.lconst 1, 1) := by decide +kernel
theorem dX8_longest_16 : decode cX8_longest 16 = .ok (.invokestatic 58, 3) := by decide +kernel
theorem dX8_longest_19 : decode cX8_longest 19 = .ok (.ifCond .ne 5, 3) := by decide +kernel
theorem dX8_longest_22 : decode cX8_longest 22 = .ok (.iconst (-1), 1) := by decide +kernel
theorem dX8_longest_23 : decode cX8_longest 23 = .ok (.ireturn, 1) := by decide +kernel
theorem dX8_longest_24 : decode cX8_longest 24 = .ok (.iconst 0, 1) := by decide +kernel
theorem dX8_longest_25 : decode cX8_longest 25 = .ok (.istore_n 3, 1) := by decide +kernel
theorem dX8_longest_26 : decode cX8_longest 26 = .ok (.iconst 1, 1) := by decide +kernel
theorem dX8_longest_27 : decode cX8_longest 27 = .ok (.istore 4, 2) := by decide +kernel
theorem dX8_longest_29 : decode cX8_longest 29 = .ok (.iload 4, 2) := by decide +kernel
theorem dX8_longest_31 : decode cX8_longest 31 = .ok (.aload_n 0, 1) := by decide +kernel
theorem dX8_longest_32 : decode cX8_longest 32 = .ok (.getfield 9, 3) := by decide +kernel
theorem dX8_longest_35 : decode cX8_longest 35 = .ok (.if_icmp .gt 212, 3) := by decide +kernel
theorem dX8_longest_38 : decode cX8_longest 38 = .ok (.iconst 0, 1) := by decide +kernel
theorem dX8_longest_39 : decode cX8_longest 39 = .ok (.istore 5, 2) := by decide +kernel
theorem dX8_longest_41 : decode cX8_longest 41 = .ok (.iload 5, 2) := by decide +kernel
theorem dX8_longest_43 : decode cX8_longest 43 = .ok (.aload_n 0, 1) := by decide +kernel
theorem dX8_longest_44 : decode cX8_longest 44 = .ok (.getfield 15, 3) := by decide +kernel
theorem dX8_longest_47 : decode cX8_longest 47 = .ok (.if_icmp .ge 194, 3) := by decide +kernel
theorem dX8_longest_50 : decode cX8_longest 50 = .ok (.iload_n 1, 1) := by decide +kernel
theorem dX8_longest_51 : decode cX8_longest 51 = .ok (.iconst 2, 1) := by decide +kernel
theorem dX8_longest_52 : decode cX8_longest 52 = .ok (.if_icmp .ge 10, 3) := by decide +kernel
theorem dX8_longest_55 : decode cX8_longest 55 = .ok (.iload 5, 2) := by decide +kernel
theorem dX8_longest_57 : decode cX8_longest 57 = .ok (.iconst 1, 1) := by decide +kernel
theorem dX8_longest_58 : decode cX8_longest 58 = .ok (.iadd, 1) := by decide +kernel
theorem dX8_longest_59 : decode cX8_longest 59 = .ok (.goto 10, 3) := by decide +kernel
theorem dX8_longest_62 : decode cX8_longest 62 = .ok (.aload_n 0, 1) := by decide +kernel
theorem dX8_longest_63 : decode cX8_longest 63 = .ok (.getfield 15, 3) := by decide +kernel
theorem dX8_longest_66 : decode cX8_longest 66 = .ok (.iload 5, 2) := by decide +kernel
theorem dX8_longest_68 : decode cX8_longest 68 = .ok (.isub, 1) := by decide +kernel
theorem dX8_longest_69 : decode cX8_longest 69 = .ok (.istore 6, 2) := by decide +kernel
theorem dX8_longest_71 : decode cX8_longest 71 = .ok (.iconst 0, 1) := by decide +kernel
theorem dX8_longest_72 : decode cX8_longest 72 = .ok (.istore 7, 2) := by decide +kernel
theorem dX8_longest_74 : decode cX8_longest 74 = .ok (.iconst 1, 1) := by decide +kernel
theorem dX8_longest_75 : decode cX8_longest 75 = .ok (.istore 8, 2) := by decide +kernel
theorem dX8_longest_77 : decode cX8_longest 77 = .ok (.iload 8, 2) := by decide +kernel
theorem dX8_longest_79 : decode cX8_longest 79 = .ok (.iload 4, 2) := by decide +kernel
theorem dX8_longest_81 : decode cX8_longest 81 = .ok (.if_icmp .gt 73, 3) := by decide +kernel
theorem dX8_longest_84 : decode cX8_longest 84 = .ok (.iconst 1, 1) := by decide +kernel
theorem dX8_longest_85 : decode cX8_longest 85 = .ok (.istore 9, 2) := by decide +kernel
theorem dX8_longest_87 : decode cX8_longest 87 = .ok (.iload 9, 2) := by decide +kernel
theorem dX8_longest_89 : decode cX8_longest 89 = .ok (.aload_n 0, 1) := by decide +kernel
theorem dX8_longest_90 : decode cX8_longest 90 = .ok (.getfield 15, 3) := by decide +kernel
theorem dX8_longest_93 : decode cX8_longest 93 = .ok (.if_icmp .gt 55, 3) := by decide +kernel
theorem dX8_longest_96 : decode cX8_longest 96 = .ok (.iload_n 1, 1) := by decide +kernel
theorem dX8_longest_97 : decode cX8_longest 97 = .ok (.iload 8, 2) := by decide +kernel
theorem dX8_longest_99 : decode cX8_longest 99 = .ok (.iload 9, 2) := by decide +kernel
theorem dX8_longest_101 : decode cX8_longest 101 = .ok (.iload 4, 2) := by decide +kernel
theorem dX8_longest_103 : decode cX8_longest 103 = .ok (.iload 6, 2) := by decide +kernel
theorem dX8_longest_105 : decode cX8_longest 105 = .ok (.invokestatic 151, 3) := by decide +kernel
theorem dX8_longest_108 : decode cX8_longest 108 = .ok (.ifCond .eq 34, 3) := by decide +kernel
theorem dX8_longest_111 : decode cX8_longest 111 = .ok (.aload_n 0, 1) := by decide +kernel
theorem dX8_longest_112 : decode cX8_longest 112 = .ok (.getfield 34, 3) := by decide +kernel
theorem dX8_longest_115 : decode cX8_longest 115 = .ok (.iload 8, 2) := by decide +kernel
theorem dX8_longest_117 : decode cX8_longest 117 = .ok (.iload 9, 2) := by decide +kernel
theorem dX8_longest_119 : decode cX8_longest 119 = .ok (.invokestatic 92, 3) := by decide +kernel
theorem dX8_longest_122 : decode cX8_longest 122 = .ok (.iaload, 1) := by decide +kernel
theorem dX8_longest_123 : decode cX8_longest 123 = .ok (.iload 7, 2) := by decide +kernel
theorem dX8_longest_125 : decode cX8_longest 125 = .ok (.if_icmp .le 17, 3) := by decide +kernel
theorem dX8_longest_128 : decode cX8_longest 128 = .ok (.aload_n 0, 1) := by decide +kernel
theorem dX8_longest_129 : decode cX8_longest 129 = .ok (.getfield 34, 3) := by decide +kernel
theorem dX8_longest_132 : decode cX8_longest 132 = .ok (.iload 8, 2) := by decide +kernel
theorem dX8_longest_134 : decode cX8_longest 134 = .ok (.iload 9, 2) := by decide +kernel
theorem dX8_longest_136 : decode cX8_longest 136 = .ok (.invokestatic 92, 3) := by decide +kernel
theorem dX8_longest_139 : decode cX8_longest 139 = .ok (.iaload, 1) := by decide +kernel
theorem dX8_longest_140 : decode cX8_longest 140 = .ok (.istore 7, 2) := by decide +kernel
theorem dX8_longest_142 : decode cX8_longest 142 = .ok (.iinc 9 1, 3) := by decide +kernel
theorem dX8_longest_145 : decode cX8_longest 145 = .ok (.goto (-58), 3) := by decide +kernel
theorem dX8_longest_148 : decode cX8_longest 148 = .ok (.iinc 8 1, 3) := by decide +kernel
theorem dX8_longest_151 : decode cX8_longest 151 = .ok (.goto (-74), 3) := by decide +kernel
theorem dX8_longest_154 : decode cX8_longest 154 = .ok (.aload_n 0, 1) := by decide +kernel
theorem dX8_longest_155 : decode cX8_longest 155 = .ok (.getfield 18, 3) := by decide +kernel
theorem dX8_longest_158 : decode cX8_longest 158 = .ok (.iload 4, 2) := by decide +kernel
theorem dX8_longest_160 : decode cX8_longest 160 = .ok (.iload 6, 2) := by decide +kernel
theorem dX8_longest_162 : decode cX8_longest 162 = .ok (.invokestatic 92, 3) := by decide +kernel
theorem dX8_longest_165 : decode cX8_longest 165 = .ok (.iaload, 1) := by decide +kernel
theorem dX8_longest_166 : decode cX8_longest 166 = .ok (.istore 8, 2) := by decide +kernel
theorem dX8_longest_168 : decode cX8_longest 168 = .ok (.aload_n 0, 1) := by decide +kernel
theorem dX8_longest_169 : decode cX8_longest 169 = .ok (.getfield 34, 3) := by decide +kernel
theorem dX8_longest_172 : decode cX8_longest 172 = .ok (.iload 4, 2) := by decide +kernel
theorem dX8_longest_174 : decode cX8_longest 174 = .ok (.iload 6, 2) := by decide +kernel
theorem dX8_longest_176 : decode cX8_longest 176 = .ok (.invokestatic 92, 3) := by decide +kernel
theorem dX8_longest_179 : decode cX8_longest 179 = .ok (.iload 7, 2) := by decide +kernel
theorem dX8_longest_181 : decode cX8_longest 181 = .ok (.iload_n 2, 1) := by decide +kernel
theorem dX8_longest_182 : decode cX8_longest 182 = .ok (.ifCond .ne 8, 3) := by decide +kernel
theorem dX8_longest_185 : decode cX8_longest 185 = .ok (.iload 8, 2) := by decide +kernel
theorem dX8_longest_187 : decode cX8_longest 187 = .ok (.goto 13, 3) := by decide +kernel
theorem dX8_longest_190 : decode cX8_longest 190 = .ok (.iload 8, 2) := by decide +kernel
theorem dX8_longest_192 : decode cX8_longest 192 = .ok (.ifCond .le 7, 3) := by decide +kernel
theorem dX8_longest_195 : decode cX8_longest 195 = .ok (.iconst 1, 1) := by decide +kernel
theorem dX8_longest_196 : decode cX8_longest 196 = .ok (.goto 4, 3) := by decide +kernel
theorem dX8_longest_199 : decode cX8_longest 199 = .ok (.iconst 0, 1) := by decide +kernel
theorem dX8_longest_200 : decode cX8_longest 200 = .ok (.iadd, 1) := by decide +kernel
theorem dX8_longest_201 : decode cX8_longest 201 = .ok (.iastore, 1) := by decide +kernel
theorem dX8_longest_202 : decode cX8_longest 202 = .ok (.aload_n 0, 1) := by decide +kernel
theorem dX8_longest_203 : decode cX8_longest 203 = .ok (.getfield 34, 3) := by decide +kernel
theorem dX8_longest_206 : decode cX8_longest 206 = .ok (.iload 4, 2) := by decide +kernel
theorem dX8_longest_208 : decode cX8_longest 208 = .ok (.iload 6, 2) := by decide +kernel
theorem dX8_longest_210 : decode cX8_longest 210 = .ok (.invokestatic 92, 3) := by decide +kernel
theorem dX8_longest_213 : decode cX8_longest 213 = .ok (.iaload, 1) := by decide +kernel
theorem dX8_longest_214 : decode cX8_longest 214 = .ok (.iload_n 3, 1) := by decide +kernel
theorem dX8_longest_215 : decode cX8_longest 215 = .ok (.if_icmp .le 18, 3) := by decide +kernel
theorem dX8_longest_218 : decode cX8_longest 218 = .ok (.aload_n 0, 1) := by decide +kernel
theorem dX8_longest_219 : decode cX8_longest 219 = .ok (.getfield 34, 3) := by decide +kernel
theorem dX8_longest_222 : decode cX8_longest 222 = .ok (.iload 4, 2) := by decide +kernel
theorem dX8_longest_224 : decode cX8_longest 224 = .ok (.iload 6, 2) := by decide +kernel
theorem dX8_longest_226 : decode cX8_longest 226 = .ok (.invokestatic 92, 3) := by decide +kernel
theorem dX8_longest_229 : decode cX8_longest 229 = .ok (.iaload, 1) := by decide +kernel
theorem dX8_longest_230 : decode cX8_longest 230 = .ok (.goto 4, 3) := by decide +kernel
theorem dX8_longest_233 : decode cX8_longest 233 = .ok (.iload_n 3, 1) := by decide +kernel
theorem dX8_longest_234 : decode cX8_longest 234 = .ok (.istore_n 3, 1) := by decide +kernel
theorem dX8_longest_235 : decode cX8_longest 235 = .ok (.iinc 5 1, 3) := by decide +kernel
theorem dX8_longest_238 : decode cX8_longest 238 = .ok (.goto (-197), 3) := by decide +kernel
theorem dX8_longest_241 : decode cX8_longest 241 = .ok (.iinc 4 1, 3) := by decide +kernel
theorem dX8_longest_244 : decode cX8_longest 244 = .ok (.goto (-215), 3) := by decide +kernel
theorem dX8_longest_247 : decode cX8_longest 247 = .ok (.iload_n 3, 1) := by decide +kernel
theorem dX8_longest_248 : decode cX8_longest 248 = .ok (.ireturn, 1) := by decide +kernel
theorem dX8_isMarked_0 : decode cX8_isMarked 0 = .ok (.iconst 1, 1) := by decide +kernel
theorem dX8_isMarked_1 : decode cX8_isMarked 1 = .ok (.istore_n 1, 1) := by decide +kernel
theorem dX8_isMarked_2 : decode cX8_isMarked 2 = .ok (.iload_n 1, 1) := by decide +kernel
theorem dX8_isMarked_3 : decode cX8_isMarked 3 = .ok (.aload_n 0, 1) := by decide +kernel
theorem dX8_isMarked_4 : decode cX8_isMarked 4 = .ok (.getfield 9, 3) := by decide +kernel
theorem dX8_isMarked_7 : decode cX8_isMarked 7 = .ok (.if_icmp .gt 47, 3) := by decide +kernel
theorem dX8_isMarked_10 : decode cX8_isMarked 10 = .ok (.iconst 0, 1) := by decide +kernel
theorem dX8_isMarked_11 : decode cX8_isMarked 11 = .ok (.istore_n 2, 1) := by decide +kernel
theorem dX8_isMarked_12 : decode cX8_isMarked 12 = .ok (.iconst 1, 1) := by decide +kernel
theorem dX8_isMarked_13 : decode cX8_isMarked 13 = .ok (.istore_n 3, 1) := by decide +kernel
theorem dX8_isMarked_14 : decode cX8_isMarked 14 = .ok (.iload_n 3, 1) := by decide +kernel
theorem dX8_isMarked_15 : decode cX8_isMarked 15 = .ok (.aload_n 0, 1) := by decide +kernel
theorem dX8_isMarked_16 : decode cX8_isMarked 16 = .ok (.getfield 15, 3) := by decide +kernel
theorem dX8_isMarked_19 : decode cX8_isMarked 19 = .ok (.if_icmp .gt 22, 3) := by decide +kernel
theorem dX8_isMarked_22 : decode cX8_isMarked 22 = .ok (.iload_n 2, 1) := by decide +kernel
theorem dX8_isMarked_23 : decode cX8_isMarked 23 = .ok (.aload_n 0, 1) := by decide +kernel
theorem dX8_isMarked_24 : decode cX8_isMarked 24 = .ok (.getfield 18, 3) := by decide +kernel
theorem dX8_isMarked_27 : decode cX8_isMarked 27 = .ok (.iload_n 1, 1) := by decide +kernel
theorem dX8_isMarked_28 : decode cX8_isMarked 28 = .ok (.iload_n 3, 1) := by decide +kernel
theorem dX8_isMarked_29 : decode cX8_isMarked 29 = .ok (.invokestatic 92, 3) := by decide +kernel
theorem dX8_isMarked_32 : decode cX8_isMarked 32 = .ok (.iaload, 1) := by decide +kernel
theorem dX8_isMarked_33 : decode cX8_isMarked 33 = .ok (.iadd, 1) := by decide +kernel
theorem dX8_isMarked_34 : decode cX8_isMarked 34 = .ok (.istore_n 2, 1) := by decide +kernel
theorem dX8_isMarked_35 : decode cX8_isMarked 35 = .ok (.iinc 3 1, 3) := by decide +kernel
theorem dX8_isMarked_38 : decode cX8_isMarked 38 = .ok (.goto (-24), 3) := by decide +kernel
theorem dX8_isMarked_41 : decode cX8_isMarked 41 = .ok (.iload_n 2, 1) := by decide +kernel
theorem dX8_isMarked_42 : decode cX8_isMarked 42 = .ok (.iconst 1, 1) := by decide +kernel
theorem dX8_isMarked_43 : decode cX8_isMarked 43 = .ok (.if_icmp .le 5, 3) := by decide +kernel
theorem dX8_isMarked_46 : decode cX8_isMarked 46 = .ok (.iconst 0, 1) := by decide +kernel
theorem dX8_isMarked_47 : decode cX8_isMarked 47 = .ok (.ireturn, 1) := by decide +kernel
theorem dX8_isMarked_48 : decode cX8_isMarked 48 = .ok (.iinc 1 1, 3) := by decide +kernel
theorem dX8_isMarked_51 : decode cX8_isMarked 51 = .ok (.goto (-49), 3) := by decide +kernel
theorem dX8_isMarked_54 : decode cX8_isMarked 54 = .ok (.iconst 1, 1) := by decide +kernel
theorem dX8_isMarked_55 : decode cX8_isMarked 55 = .ok (.istore_n 1, 1) := by decide +kernel
theorem dX8_isMarked_56 : decode cX8_isMarked 56 = .ok (.iload_n 1, 1) := by decide +kernel
theorem dX8_isMarked_57 : decode cX8_isMarked 57 = .ok (.aload_n 0, 1) := by decide +kernel
theorem dX8_isMarked_58 : decode cX8_isMarked 58 = .ok (.getfield 15, 3) := by decide +kernel
theorem dX8_isMarked_61 : decode cX8_isMarked 61 = .ok (.if_icmp .gt 47, 3) := by decide +kernel
theorem dX8_isMarked_64 : decode cX8_isMarked 64 = .ok (.iconst 0, 1) := by decide +kernel
theorem dX8_isMarked_65 : decode cX8_isMarked 65 = .ok (.istore_n 2, 1) := by decide +kernel
theorem dX8_isMarked_66 : decode cX8_isMarked 66 = .ok (.iconst 1, 1) := by decide +kernel
theorem dX8_isMarked_67 : decode cX8_isMarked 67 = .ok (.istore_n 3, 1) := by decide +kernel
theorem dX8_isMarked_68 : decode cX8_isMarked 68 = .ok (.iload_n 3, 1) := by decide +kernel
theorem dX8_isMarked_69 : decode cX8_isMarked 69 = .ok (.aload_n 0, 1) := by decide +kernel
theorem dX8_isMarked_70 : decode cX8_isMarked 70 = .ok (.getfield 9, 3) := by decide +kernel
theorem dX8_isMarked_73 : decode cX8_isMarked 73 = .ok (.if_icmp .gt 22, 3) := by decide +kernel
theorem dX8_isMarked_76 : decode cX8_isMarked 76 = .ok (.iload_n 2, 1) := by decide +kernel
theorem dX8_isMarked_77 : decode cX8_isMarked 77 = .ok (.aload_n 0, 1) := by decide +kernel
theorem dX8_isMarked_78 : decode cX8_isMarked 78 = .ok (.getfield 18, 3) := by decide +kernel
theorem dX8_isMarked_81 : decode cX8_isMarked 81 = .ok (.iload_n 3, 1) := by decide +kernel
theorem dX8_isMarked_82 : decode cX8_isMarked 82 = .ok (.iload_n 1, 1) := by decide +kernel
theorem dX8_isMarked_83 : decode cX8_isMarked 83 = .ok (.invokestatic 92, 3) := by decide +kernel
theorem dX8_isMarked_86 : decode cX8_isMarked 86 = .ok (.iaload, 1) := by decide +kernel
theorem dX8_isMarked_87 : decode cX8_isMarked 87 = .ok (.iadd, 1) := by decide +kernel
theorem dX8_isMarked_88 : decode cX8_isMarked 88 = .ok (.istore_n 2, 1) := by decide +kernel
theorem dX8_isMarked_89 : decode cX8_isMarked 89 = .ok (.iinc 3 1, 3) := by decide +kernel
theorem dX8_isMarked_92 : decode cX8_isMarked 92 = .ok (.goto (-24), 3) := by decide +kernel
theorem dX8_isMarked_95 : decode cX8_isMarked 95 = .ok (.iload_n 2, 1) := by decide +kernel
theorem dX8_isMarked_96 : decode cX8_isMarked 96 = .ok (.iconst 1, 1) := by decide +kernel
theorem dX8_isMarked_97 : decode cX8_isMarked 97 = .ok (.if_icmp .le 5, 3) := by decide +kernel
theorem dX8_isMarked_100 : decode cX8_isMarked 100 = .ok (.iconst 0, 1) := by decide +kernel
theorem dX8_isMarked_101 : decode cX8_isMarked 101 = .ok (.ireturn, 1) := by decide +kernel
theorem dX8_isMarked_102 : decode cX8_isMarked 102 = .ok (.iinc 1 1, 3) := by decide +kernel
theorem dX8_isMarked_105 : decode cX8_isMarked 105 = .ok (.goto (-49), 3) := by decide +kernel
theorem dX8_isMarked_108 : decode cX8_isMarked 108 = .ok (.iconst 1, 1) := by decide +kernel
theorem dX8_isMarked_109 : decode cX8_isMarked 109 = .ok (.ireturn, 1) := by decide +kernel
theorem dX8_needs_0 : decode cX8_needs 0 = .ok (.iconst 0, 1) := by decide +kernel
theorem dX8_needs_1 : decode cX8_needs 1 = .ok (.istore_n 3, 1) := by decide +kernel
theorem dX8_needs_2 : decode cX8_needs 2 = .ok (.iconst 1, 1) := by decide +kernel
theorem dX8_needs_3 : decode cX8_needs 3 = .ok (.istore 4, 2) := by decide +kernel
theorem dX8_needs_5 : decode cX8_needs 5 = .ok (.iload 4, 2) := by decide +kernel
theorem dX8_needs_7 : decode cX8_needs 7 = .ok (.aload_n 0, 1) := by decide +kernel
theorem dX8_needs_8 : decode cX8_needs 8 = .ok (.getfield 9, 3) := by decide +kernel
theorem dX8_needs_11 : decode cX8_needs 11 = .ok (.if_icmp .gt 175, 3) := by decide +kernel
theorem dX8_needs_14 : decode cX8_needs 14 = .ok (.aload_n 0, 1) := by decide +kernel
theorem dX8_needs_15 : decode cX8_needs 15 = .ok (.getfield 40, 3) := by decide +kernel
theorem dX8_needs_18 : decode cX8_needs 18 = .ok (.iload 4, 2) := by decide +kernel
theorem dX8_needs_20 : decode cX8_needs 20 = .ok (.iconst 0, 1) := by decide +kernel
theorem dX8_needs_21 : decode cX8_needs 21 = .ok (.iastore, 1) := by decide +kernel
theorem dX8_needs_22 : decode cX8_needs 22 = .ok (.iload_n 1, 1) := by decide +kernel
theorem dX8_needs_23 : decode cX8_needs 23 = .ok (.iload 4, 2) := by decide +kernel
theorem dX8_needs_25 : decode cX8_needs 25 = .ok (.ishr, 1) := by decide +kernel
theorem dX8_needs_26 : decode cX8_needs 26 = .ok (.iconst 1, 1) := by decide +kernel
theorem dX8_needs_27 : decode cX8_needs 27 = .ok (.iand, 1) := by decide +kernel
theorem dX8_needs_28 : decode cX8_needs 28 = .ok (.ifCond .ne 6, 3) := by decide +kernel
theorem dX8_needs_31 : decode cX8_needs 31 = .ok (.goto 149, 3) := by decide +kernel
theorem dX8_needs_34 : decode cX8_needs 34 = .ok (.aload_n 0, 1) := by decide +kernel
theorem dX8_needs_35 : decode cX8_needs 35 = .ok (.getfield 40, 3) := by decide +kernel
theorem dX8_needs_38 : decode cX8_needs 38 = .ok (.iload 4, 2) := by decide +kernel
theorem dX8_needs_40 : decode cX8_needs 40 = .ok (.iconst 1, 1) := by decide +kernel
theorem dX8_needs_41 : decode cX8_needs 41 = .ok (.iastore, 1) := by decide +kernel
theorem dX8_needs_42 : decode cX8_needs 42 = .ok (.iconst 1, 1) := by decide +kernel
theorem dX8_needs_43 : decode cX8_needs 43 = .ok (.istore 5, 2) := by decide +kernel
theorem dX8_needs_45 : decode cX8_needs 45 = .ok (.iload 5, 2) := by decide +kernel
theorem dX8_needs_47 : decode cX8_needs 47 = .ok (.iload 4, 2) := by decide +kernel
theorem dX8_needs_49 : decode cX8_needs 49 = .ok (.if_icmp .ge 108, 3) := by decide +kernel
theorem dX8_needs_52 : decode cX8_needs 52 = .ok (.iload_n 1, 1) := by decide +kernel
theorem dX8_needs_53 : decode cX8_needs 53 = .ok (.iload 5, 2) := by decide +kernel
theorem dX8_needs_55 : decode cX8_needs 55 = .ok (.ishr, 1) := by decide +kernel
theorem dX8_needs_56 : decode cX8_needs 56 = .ok (.iconst 1, 1) := by decide +kernel
theorem dX8_needs_57 : decode cX8_needs 57 = .ok (.iand, 1) := by decide +kernel
theorem dX8_needs_58 : decode cX8_needs 58 = .ok (.iconst 1, 1) := by decide +kernel
theorem dX8_needs_59 : decode cX8_needs 59 = .ok (.if_icmp .ne 49, 3) := by decide +kernel
theorem dX8_needs_62 : decode cX8_needs 62 = .ok (.iload_n 2, 1) := by decide +kernel
theorem dX8_needs_63 : decode cX8_needs 63 = .ok (.iconst 1, 1) := by decide +kernel
theorem dX8_needs_64 : decode cX8_needs 64 = .ok (.if_icmp .ne 23, 3) := by decide +kernel
theorem dX8_needs_67 : decode cX8_needs 67 = .ok (.aload_n 0, 1) := by decide +kernel
theorem dX8_needs_68 : decode cX8_needs 68 = .ok (.getfield 37, 3) := by decide +kernel
theorem dX8_needs_71 : decode cX8_needs 71 = .ok (.iload 5, 2) := by decide +kernel
theorem dX8_needs_73 : decode cX8_needs 73 = .ok (.iaload, 1) := by decide +kernel
theorem dX8_needs_74 : decode cX8_needs 74 = .ok (.aload_n 0, 1) := by decide +kernel
theorem dX8_needs_75 : decode cX8_needs 75 = .ok (.getfield 37, 3) := by decide +kernel
theorem dX8_needs_78 : decode cX8_needs 78 = .ok (.iload 4, 2) := by decide +kernel
theorem dX8_needs_80 : decode cX8_needs 80 = .ok (.iaload, 1) := by decide +kernel
theorem dX8_needs_81 : decode cX8_needs 81 = .ok (.if_icmp .le 27, 3) := by decide +kernel
theorem dX8_needs_84 : decode cX8_needs 84 = .ok (.goto 20, 3) := by decide +kernel
theorem dX8_needs_87 : decode cX8_needs 87 = .ok (.aload_n 0, 1) := by decide +kernel
theorem dX8_needs_88 : decode cX8_needs 88 = .ok (.getfield 37, 3) := by decide +kernel
theorem dX8_needs_91 : decode cX8_needs 91 = .ok (.iload 5, 2) := by decide +kernel
theorem dX8_needs_93 : decode cX8_needs 93 = .ok (.iaload, 1) := by decide +kernel
theorem dX8_needs_94 : decode cX8_needs 94 = .ok (.aload_n 0, 1) := by decide +kernel
theorem dX8_needs_95 : decode cX8_needs 95 = .ok (.getfield 37, 3) := by decide +kernel
theorem dX8_needs_98 : decode cX8_needs 98 = .ok (.iload 4, 2) := by decide +kernel
theorem dX8_needs_100 : decode cX8_needs 100 = .ok (.iaload, 1) := by decide +kernel
theorem dX8_needs_101 : decode cX8_needs 101 = .ok (.if_icmp .ge 7, 3) := by decide +kernel
theorem dX8_needs_104 : decode cX8_needs 104 = .ok (.iconst 1, 1) := by decide +kernel
theorem dX8_needs_105 : decode cX8_needs 105 = .ok (.goto 4, 3) := by decide +kernel
theorem dX8_needs_108 : decode cX8_needs 108 = .ok (.iconst 0, 1) := by decide +kernel
theorem dX8_needs_109 : decode cX8_needs 109 = .ok (.istore 6, 2) := by decide +kernel
theorem dX8_needs_111 : decode cX8_needs 111 = .ok (.iload 6, 2) := by decide +kernel
theorem dX8_needs_113 : decode cX8_needs 113 = .ok (.ifCond .eq 38, 3) := by decide +kernel
theorem dX8_needs_116 : decode cX8_needs 116 = .ok (.aload_n 0, 1) := by decide +kernel
theorem dX8_needs_117 : decode cX8_needs 117 = .ok (.getfield 40, 3) := by decide +kernel
theorem dX8_needs_120 : decode cX8_needs 120 = .ok (.iload 5, 2) := by decide +kernel
theorem dX8_needs_122 : decode cX8_needs 122 = .ok (.iaload, 1) := by decide +kernel
theorem dX8_needs_123 : decode cX8_needs 123 = .ok (.iconst 1, 1) := by decide +kernel
theorem dX8_needs_124 : decode cX8_needs 124 = .ok (.iadd, 1) := by decide +kernel
theorem dX8_needs_125 : decode cX8_needs 125 = .ok (.aload_n 0, 1) := by decide +kernel
theorem dX8_needs_126 : decode cX8_needs 126 = .ok (.getfield 40, 3) := by decide +kernel
theorem dX8_needs_129 : decode cX8_needs 129 = .ok (.iload 4, 2) := by decide +kernel
theorem dX8_needs_131 : decode cX8_needs 131 = .ok (.iaload, 1) := by decide +kernel
theorem dX8_needs_132 : decode cX8_needs 132 = .ok (.if_icmp .le 19, 3) := by decide +kernel
theorem dX8_needs_135 : decode cX8_needs 135 = .ok (.aload_n 0, 1) := by decide +kernel
theorem dX8_needs_136 : decode cX8_needs 136 = .ok (.getfield 40, 3) := by decide +kernel
theorem dX8_needs_139 : decode cX8_needs 139 = .ok (.iload 4, 2) := by decide +kernel
theorem dX8_needs_141 : decode cX8_needs 141 = .ok (.aload_n 0, 1) := by decide +kernel
theorem dX8_needs_142 : decode cX8_needs 142 = .ok (.getfield 40, 3) := by decide +kernel
theorem dX8_needs_145 : decode cX8_needs 145 = .ok (.iload 5, 2) := by decide +kernel
theorem dX8_needs_147 : decode cX8_needs 147 = .ok (.iaload, 1) := by decide +kernel
theorem dX8_needs_148 : decode cX8_needs 148 = .ok (.iconst 1, 1) := by decide +kernel
theorem dX8_needs_149 : decode cX8_needs 149 = .ok (.iadd, 1) := by decide +kernel
theorem dX8_needs_150 : decode cX8_needs 150 = .ok (.iastore, 1) := by decide +kernel
theorem dX8_needs_151 : decode cX8_needs 151 = .ok (.iinc 5 1, 3) := by decide +kernel
theorem dX8_needs_154 : decode cX8_needs 154 = .ok (.goto (-109), 3) := by decide +kernel
theorem dX8_needs_157 : decode cX8_needs 157 = .ok (.aload_n 0, 1) := by decide +kernel
theorem dX8_needs_158 : decode cX8_needs 158 = .ok (.getfield 40, 3) := by decide +kernel
theorem dX8_needs_161 : decode cX8_needs 161 = .ok (.iload 4, 2) := by decide +kernel
theorem dX8_needs_163 : decode cX8_needs 163 = .ok (.iaload, 1) := by decide +kernel
theorem dX8_needs_164 : decode cX8_needs 164 = .ok (.iload_n 3, 1) := by decide +kernel
theorem dX8_needs_165 : decode cX8_needs 165 = .ok (.if_icmp .le 13, 3) := by decide +kernel
theorem dX8_needs_168 : decode cX8_needs 168 = .ok (.aload_n 0, 1) := by decide +kernel
theorem dX8_needs_169 : decode cX8_needs 169 = .ok (.getfield 40, 3) := by decide +kernel
theorem dX8_needs_172 : decode cX8_needs 172 = .ok (.iload 4, 2) := by decide +kernel
theorem dX8_needs_174 : decode cX8_needs 174 = .ok (.iaload, 1) := by decide +kernel
theorem dX8_needs_175 : decode cX8_needs 175 = .ok (.goto 4, 3) := by decide +kernel
theorem dX8_needs_178 : decode cX8_needs 178 = .ok (.iload_n 3, 1) := by decide +kernel
theorem dX8_needs_179 : decode cX8_needs 179 = .ok (.istore_n 3, 1) := by decide +kernel
theorem dX8_needs_180 : decode cX8_needs 180 = .ok (.iinc 4 1, 3) := by decide +kernel
theorem dX8_needs_183 : decode cX8_needs 183 = .ok (.goto (-178), 3) := by decide +kernel
theorem dX8_needs_186 : decode cX8_needs 186 = .ok (.iload_n 3, 1) := by decide +kernel
theorem dX8_needs_187 : decode cX8_needs 187 = .ok (.ireturn, 1) := by decide +kernel
theorem dX8_union_0 : decode cX8_union 0 = .ok (.iload_n 1, 1) := by decide +kernel
theorem dX8_union_1 : decode cX8_union 1 = .ok (.i2l, 1) := by decide +kernel
theorem dX8_union_2 : decode cX8_union 2 = .ok (.lconst 1, 1) := by decide +kernel
theorem dX8_union_3 : decode cX8_union 3 = .ok (.ldc2_w 78, 3) := by decide +kernel
theorem dX8_union_6 : decode cX8_union 6 = .ok (.invokestatic 58, 3) := by decide +kernel
theorem dX8_union_9 : decode cX8_union 9 = .ok (.ifCond .eq 13, 3) := by decide +kernel
theorem dX8_union_12 : decode cX8_union 12 = .ok (.iload_n 2, 1) := by decide +kernel
theorem dX8_union_13 : decode cX8_union 13 = .ok (.iconst 1, 1) := by decide +kernel
theorem dX8_union_14 : decode cX8_union 14 = .ok (.if_icmp .eq 10, 3) := by decide +kernel
theorem dX8_union_17 : decode cX8_union 17 = .ok (.iload_n 2, 1) := by decide +kernel
theorem dX8_union_18 : decode cX8_union 18 = .ok (.iconst 3, 1) := by decide +kernel
theorem dX8_union_19 : decode cX8_union 19 = .ok (.if_icmp .eq 5, 3) := by decide +kernel
theorem dX8_union_22 : decode cX8_union 22 = .ok (.iconst (-1), 1) := by decide +kernel
theorem dX8_union_23 : decode cX8_union 23 = .ok (.ireturn, 1) := by decide +kernel
theorem dX8_union_24 : decode cX8_union 24 = .ok (.aload_n 0, 1) := by decide +kernel
theorem dX8_union_25 : decode cX8_union 25 = .ok (.invokevirtual 155, 3) := by decide +kernel
theorem dX8_union_28 : decode cX8_union 28 = .ok (.ifCond .ne 6, 3) := by decide +kernel
theorem dX8_union_31 : decode cX8_union 31 = .ok (.bipush (-5), 2) := by decide +kernel
theorem dX8_union_33 : decode cX8_union 33 = .ok (.ireturn, 1) := by decide +kernel
theorem dX8_union_34 : decode cX8_union 34 = .ok (.iconst 0, 1) := by decide +kernel
theorem dX8_union_35 : decode cX8_union 35 = .ok (.istore_n 3, 1) := by decide +kernel
theorem dX8_union_36 : decode cX8_union 36 = .ok (.iconst 1, 1) := by decide +kernel
theorem dX8_union_37 : decode cX8_union 37 = .ok (.istore 4, 2) := by decide +kernel
theorem dX8_union_39 : decode cX8_union 39 = .ok (.iload 4, 2) := by decide +kernel
theorem dX8_union_41 : decode cX8_union 41 = .ok (.aload_n 0, 1) := by decide +kernel
theorem dX8_union_42 : decode cX8_union 42 = .ok (.getfield 9, 3) := by decide +kernel
theorem dX8_union_45 : decode cX8_union 45 = .ok (.if_icmp .gt 91, 3) := by decide +kernel
theorem dX8_union_48 : decode cX8_union 48 = .ok (.aload_n 0, 1) := by decide +kernel
theorem dX8_union_49 : decode cX8_union 49 = .ok (.getfield 37, 3) := by decide +kernel
theorem dX8_union_52 : decode cX8_union 52 = .ok (.iload 4, 2) := by decide +kernel
theorem dX8_union_54 : decode cX8_union 54 = .ok (.iconst 0, 1) := by decide +kernel
theorem dX8_union_55 : decode cX8_union 55 = .ok (.iastore, 1) := by decide +kernel
theorem dX8_union_56 : decode cX8_union 56 = .ok (.iconst 1, 1) := by decide +kernel
theorem dX8_union_57 : decode cX8_union 57 = .ok (.istore 5, 2) := by decide +kernel
theorem dX8_union_59 : decode cX8_union 59 = .ok (.iload 5, 2) := by decide +kernel
theorem dX8_union_61 : decode cX8_union 61 = .ok (.aload_n 0, 1) := by decide +kernel
theorem dX8_union_62 : decode cX8_union 62 = .ok (.getfield 15, 3) := by decide +kernel
theorem dX8_union_65 : decode cX8_union 65 = .ok (.if_icmp .gt 44, 3) := by decide +kernel
theorem dX8_union_68 : decode cX8_union 68 = .ok (.aload_n 0, 1) := by decide +kernel
theorem dX8_union_69 : decode cX8_union 69 = .ok (.getfield 37, 3) := by decide +kernel
theorem dX8_union_72 : decode cX8_union 72 = .ok (.iload 4, 2) := by decide +kernel
theorem dX8_union_74 : decode cX8_union 74 = .ok (.aload_n 0, 1) := by decide +kernel
theorem dX8_union_75 : decode cX8_union 75 = .ok (.getfield 18, 3) := by decide +kernel
theorem dX8_union_78 : decode cX8_union 78 = .ok (.iload 4, 2) := by decide +kernel
theorem dX8_union_80 : decode cX8_union 80 = .ok (.iload 5, 2) := by decide +kernel
theorem dX8_union_82 : decode cX8_union 82 = .ok (.invokestatic 92, 3) := by decide +kernel
theorem dX8_union_85 : decode cX8_union 85 = .ok (.iaload, 1) := by decide +kernel
theorem dX8_union_86 : decode cX8_union 86 = .ok (.iconst 1, 1) := by decide +kernel
theorem dX8_union_87 : decode cX8_union 87 = .ok (.if_icmp .ne 8, 3) := by decide +kernel
theorem dX8_union_90 : decode cX8_union 90 = .ok (.iload 5, 2) := by decide +kernel
theorem dX8_union_92 : decode cX8_union 92 = .ok (.goto 10, 3) := by decide +kernel
theorem dX8_union_95 : decode cX8_union 95 = .ok (.aload_n 0, 1) := by decide +kernel
theorem dX8_union_96 : decode cX8_union 96 = .ok (.getfield 37, 3) := by decide +kernel
theorem dX8_union_99 : decode cX8_union 99 = .ok (.iload 4, 2) := by decide +kernel
theorem dX8_union_101 : decode cX8_union 101 = .ok (.iaload, 1) := by decide +kernel
theorem dX8_union_102 : decode cX8_union 102 = .ok (.iastore, 1) := by decide +kernel
theorem dX8_union_103 : decode cX8_union 103 = .ok (.iinc 5 1, 3) := by decide +kernel
theorem dX8_union_106 : decode cX8_union 106 = .ok (.goto (-47), 3) := by decide +kernel
theorem dX8_union_109 : decode cX8_union 109 = .ok (.iload_n 3, 1) := by decide +kernel
theorem dX8_union_110 : decode cX8_union 110 = .ok (.aload_n 0, 1) := by decide +kernel
theorem dX8_union_111 : decode cX8_union 111 = .ok (.getfield 37, 3) := by decide +kernel
theorem dX8_union_114 : decode cX8_union 114 = .ok (.iload 4, 2) := by decide +kernel
theorem dX8_union_116 : decode cX8_union 116 = .ok (.iaload, 1) := by decide +kernel
theorem dX8_union_117 : decode cX8_union 117 = .ok (.ifCond .le 10, 3) := by decide +kernel
theorem dX8_union_120 : decode cX8_union 120 = .ok (.iconst 1, 1) := by decide +kernel
theorem dX8_union_121 : decode cX8_union 121 = .ok (.iload 4, 2) := by decide +kernel
theorem dX8_union_123 : decode cX8_union 123 = .ok (.ishl, 1) := by decide +kernel
theorem dX8_union_124 : decode cX8_union 124 = .ok (.goto 4, 3) := by decide +kernel
theorem dX8_union_127 : decode cX8_union 127 = .ok (.iconst 0, 1) := by decide +kernel
theorem dX8_union_128 : decode cX8_union 128 = .ok (.ior, 1) := by decide +kernel
theorem dX8_union_129 : decode cX8_union 129 = .ok (.istore_n 3, 1) := by decide +kernel
theorem dX8_union_130 : decode cX8_union 130 = .ok (.iinc 4 1, 3) := by decide +kernel
theorem dX8_union_133 : decode cX8_union 133 = .ok (.goto (-94), 3) := by decide +kernel
theorem dX8_union_136 : decode cX8_union 136 = .ok (.iconst 0, 1) := by decide +kernel
theorem dX8_union_137 : decode cX8_union 137 = .ok (.istore 4, 2) := by decide +kernel
theorem dX8_union_139 : decode cX8_union 139 = .ok (.iconst 0, 1) := by decide +kernel
theorem dX8_union_140 : decode cX8_union 140 = .ok (.istore 5, 2) := by decide +kernel
theorem dX8_union_142 : decode cX8_union 142 = .ok (.iload 5, 2) := by decide +kernel
theorem dX8_union_144 : decode cX8_union 144 = .ok (.iload_n 3, 1) := by decide +kernel
theorem dX8_union_145 : decode cX8_union 145 = .ok (.if_icmp .gt 81, 3) := by decide +kernel
theorem dX8_union_148 : decode cX8_union 148 = .ok (.iload 5, 2) := by decide +kernel
theorem dX8_union_150 : decode cX8_union 150 = .ok (.iload_n 3, 1) := by decide +kernel
theorem dX8_union_151 : decode cX8_union 151 = .ok (.iconst (-1), 1) := by decide +kernel
theorem dX8_union_152 : decode cX8_union 152 = .ok (.ixor, 1) := by decide +kernel
theorem dX8_union_153 : decode cX8_union 153 = .ok (.iand, 1) := by decide +kernel
theorem dX8_union_154 : decode cX8_union 154 = .ok (.ifCond .ne 66, 3) := by decide +kernel
theorem dX8_union_157 : decode cX8_union 157 = .ok (.aload_n 0, 1) := by decide +kernel
theorem dX8_union_158 : decode cX8_union 158 = .ok (.iload 5, 2) := by decide +kernel
theorem dX8_union_160 : decode cX8_union 160 = .ok (.iload_n 2, 1) := by decide +kernel
theorem dX8_union_161 : decode cX8_union 161 = .ok (.invokevirtual 159, 3) := by decide +kernel
theorem dX8_union_164 : decode cX8_union 164 = .ok (.iload_n 1, 1) := by decide +kernel
theorem dX8_union_165 : decode cX8_union 165 = .ok (.if_icmp .le 6, 3) := by decide +kernel
theorem dX8_union_168 : decode cX8_union 168 = .ok (.goto 52, 3) := by decide +kernel
theorem dX8_union_171 : decode cX8_union 171 = .ok (.iconst 0, 1) := by decide +kernel
theorem dX8_union_172 : decode cX8_union 172 = .ok (.istore 6, 2) := by decide +kernel
theorem dX8_union_174 : decode cX8_union 174 = .ok (.iconst 1, 1) := by decide +kernel
theorem dX8_union_175 : decode cX8_union 175 = .ok (.istore 7, 2) := by decide +kernel
theorem dX8_union_177 : decode cX8_union 177 = .ok (.iload 7, 2) := by decide +kernel
theorem dX8_union_179 : decode cX8_union 179 = .ok (.aload_n 0, 1) := by decide +kernel
theorem dX8_union_180 : decode cX8_union 180 = .ok (.getfield 9, 3) := by decide +kernel
theorem dX8_union_183 : decode cX8_union 183 = .ok (.if_icmp .gt 21, 3) := by decide +kernel
theorem dX8_union_186 : decode cX8_union 186 = .ok (.iload 6, 2) := by decide +kernel
theorem dX8_union_188 : decode cX8_union 188 = .ok (.iload 5, 2) := by decide +kernel
theorem dX8_union_190 : decode cX8_union 190 = .ok (.iload 7, 2) := by decide +kernel
theorem dX8_union_192 : decode cX8_union 192 = .ok (.ishr, 1) := by decide +kernel
theorem dX8_union_193 : decode cX8_union 193 = .ok (.iconst 1, 1) := by decide +kernel
theorem dX8_union_194 : decode cX8_union 194 = .ok (.iand, 1) := by decide +kernel
theorem dX8_union_195 : decode cX8_union 195 = .ok (.iadd, 1) := by decide +kernel
theorem dX8_union_196 : decode cX8_union 196 = .ok (.istore 6, 2) := by decide +kernel
theorem dX8_union_198 : decode cX8_union 198 = .ok (.iinc 7 1, 3) := by decide +kernel
theorem dX8_union_201 : decode cX8_union 201 = .ok (.goto (-24), 3) := by decide +kernel
theorem dX8_union_204 : decode cX8_union 204 = .ok (.iload 6, 2) := by decide +kernel
theorem dX8_union_206 : decode cX8_union 206 = .ok (.iload 4, 2) := by decide +kernel
theorem dX8_union_208 : decode cX8_union 208 = .ok (.if_icmp .le 8, 3) := by decide +kernel
theorem dX8_union_211 : decode cX8_union 211 = .ok (.iload 6, 2) := by decide +kernel
theorem dX8_union_213 : decode cX8_union 213 = .ok (.goto 5, 3) := by decide +kernel
theorem dX8_union_216 : decode cX8_union 216 = .ok (.iload 4, 2) := by decide +kernel
theorem dX8_union_218 : decode cX8_union 218 = .ok (.istore 4, 2) := by decide +kernel
theorem dX8_union_220 : decode cX8_union 220 = .ok (.iinc 5 1, 3) := by decide +kernel
theorem dX8_union_223 : decode cX8_union 223 = .ok (.goto (-81), 3) := by decide +kernel
theorem dX8_union_226 : decode cX8_union 226 = .ok (.iload 4, 2) := by decide +kernel
theorem dX8_union_228 : decode cX8_union 228 = .ok (.ireturn, 1) := by decide +kernel
theorem dX8_compares_0 : decode cX8_compares 0 = .ok (.iconst 0, 1) := by decide +kernel
theorem dX8_compares_1 : decode cX8_compares 1 = .ok (.istore_n 3, 1) := by decide +kernel
theorem dX8_compares_2 : decode cX8_compares 2 = .ok (.iconst 0, 1) := by decide +kernel
theorem dX8_compares_3 : decode cX8_compares 3 = .ok (.istore 4, 2) := by decide +kernel
theorem dX8_compares_5 : decode cX8_compares 5 = .ok (.iconst 0, 1) := by decide +kernel
theorem dX8_compares_6 : decode cX8_compares 6 = .ok (.istore 5, 2) := by decide +kernel
theorem dX8_compares_8 : decode cX8_compares 8 = .ok (.iload 5, 2) := by decide +kernel
theorem dX8_compares_10 : decode cX8_compares 10 = .ok (.bipush 80, 2) := by decide +kernel
theorem dX8_compares_12 : decode cX8_compares 12 = .ok (.if_icmp .ge 35, 3) := by decide +kernel
theorem dX8_compares_15 : decode cX8_compares 15 = .ok (.iload_n 3, 1) := by decide +kernel
theorem dX8_compares_16 : decode cX8_compares 16 = .ok (.aload_n 0, 1) := by decide +kernel
theorem dX8_compares_17 : decode cX8_compares 17 = .ok (.getfield 31, 3) := by decide +kernel
theorem dX8_compares_20 : decode cX8_compares 20 = .ok (.iload_n 1, 1) := by decide +kernel
theorem dX8_compares_21 : decode cX8_compares 21 = .ok (.iload 5, 2) := by decide +kernel
theorem dX8_compares_23 : decode cX8_compares 23 = .ok (.iadd, 1) := by decide +kernel
theorem dX8_compares_24 : decode cX8_compares 24 = .ok (.iaload, 1) := by decide +kernel
theorem dX8_compares_25 : decode cX8_compares 25 = .ok (.iadd, 1) := by decide +kernel
theorem dX8_compares_26 : decode cX8_compares 26 = .ok (.istore_n 3, 1) := by decide +kernel
theorem dX8_compares_27 : decode cX8_compares 27 = .ok (.iload 4, 2) := by decide +kernel
theorem dX8_compares_29 : decode cX8_compares 29 = .ok (.aload_n 0, 1) := by decide +kernel
theorem dX8_compares_30 : decode cX8_compares 30 = .ok (.getfield 31, 3) := by decide +kernel
theorem dX8_compares_33 : decode cX8_compares 33 = .ok (.iload_n 2, 1) := by decide +kernel
theorem dX8_compares_34 : decode cX8_compares 34 = .ok (.iload 5, 2) := by decide +kernel
theorem dX8_compares_36 : decode cX8_compares 36 = .ok (.iadd, 1) := by decide +kernel
theorem dX8_compares_37 : decode cX8_compares 37 = .ok (.iaload, 1) := by decide +kernel
theorem dX8_compares_38 : decode cX8_compares 38 = .ok (.iadd, 1) := by decide +kernel
theorem dX8_compares_39 : decode cX8_compares 39 = .ok (.istore 4, 2) := by decide +kernel
theorem dX8_compares_41 : decode cX8_compares 41 = .ok (.iinc 5 1, 3) := by decide +kernel
theorem dX8_compares_44 : decode cX8_compares 44 = .ok (.goto (-36), 3) := by decide +kernel
theorem dX8_compares_47 : decode cX8_compares 47 = .ok (.iload_n 3, 1) := by decide +kernel
theorem dX8_compares_48 : decode cX8_compares 48 = .ok (.iload 4, 2) := by decide +kernel
theorem dX8_compares_50 : decode cX8_compares 50 = .ok (.if_icmp .eq 15, 3) := by decide +kernel
theorem dX8_compares_53 : decode cX8_compares 53 = .ok (.iload_n 3, 1) := by decide +kernel
theorem dX8_compares_54 : decode cX8_compares 54 = .ok (.iload 4, 2) := by decide +kernel
theorem dX8_compares_56 : decode cX8_compares 56 = .ok (.if_icmp .le 7, 3) := by decide +kernel
theorem dX8_compares_59 : decode cX8_compares 59 = .ok (.iconst 1, 1) := by decide +kernel
theorem dX8_compares_60 : decode cX8_compares 60 = .ok (.goto 4, 3) := by decide +kernel
theorem dX8_compares_63 : decode cX8_compares 63 = .ok (.iconst (-1), 1) := by decide +kernel
theorem dX8_compares_64 : decode cX8_compares 64 = .ok (.ireturn, 1) := by decide +kernel
theorem dX8_compares_65 : decode cX8_compares 65 = .ok (.iconst 0, 1) := by decide +kernel
theorem dX8_compares_66 : decode cX8_compares 66 = .ok (.istore 5, 2) := by decide +kernel
theorem dX8_compares_68 : decode cX8_compares 68 = .ok (.iload 5, 2) := by decide +kernel
theorem dX8_compares_70 : decode cX8_compares 70 = .ok (.bipush 80, 2) := by decide +kernel
theorem dX8_compares_72 : decode cX8_compares 72 = .ok (.if_icmp .ge 57, 3) := by decide +kernel
theorem dX8_compares_75 : decode cX8_compares 75 = .ok (.aload_n 0, 1) := by decide +kernel
theorem dX8_compares_76 : decode cX8_compares 76 = .ok (.getfield 31, 3) := by decide +kernel
theorem dX8_compares_79 : decode cX8_compares 79 = .ok (.iload_n 1, 1) := by decide +kernel
theorem dX8_compares_80 : decode cX8_compares 80 = .ok (.iload 5, 2) := by decide +kernel
theorem dX8_compares_82 : decode cX8_compares 82 = .ok (.iadd, 1) := by decide +kernel
theorem dX8_compares_83 : decode cX8_compares 83 = .ok (.iaload, 1) := by decide +kernel
theorem dX8_compares_84 : decode cX8_compares 84 = .ok (.aload_n 0, 1) := by decide +kernel
theorem dX8_compares_85 : decode cX8_compares 85 = .ok (.getfield 31, 3) := by decide +kernel
theorem dX8_compares_88 : decode cX8_compares 88 = .ok (.iload_n 2, 1) := by decide +kernel
theorem dX8_compares_89 : decode cX8_compares 89 = .ok (.iload 5, 2) := by decide +kernel
theorem dX8_compares_91 : decode cX8_compares 91 = .ok (.iadd, 1) := by decide +kernel
theorem dX8_compares_92 : decode cX8_compares 92 = .ok (.iaload, 1) := by decide +kernel
theorem dX8_compares_93 : decode cX8_compares 93 = .ok (.if_icmp .eq 30, 3) := by decide +kernel
theorem dX8_compares_96 : decode cX8_compares 96 = .ok (.aload_n 0, 1) := by decide +kernel
theorem dX8_compares_97 : decode cX8_compares 97 = .ok (.getfield 31, 3) := by decide +kernel
theorem dX8_compares_100 : decode cX8_compares 100 = .ok (.iload_n 1, 1) := by decide +kernel
theorem dX8_compares_101 : decode cX8_compares 101 = .ok (.iload 5, 2) := by decide +kernel
theorem dX8_compares_103 : decode cX8_compares 103 = .ok (.iadd, 1) := by decide +kernel
theorem dX8_compares_104 : decode cX8_compares 104 = .ok (.iaload, 1) := by decide +kernel
theorem dX8_compares_105 : decode cX8_compares 105 = .ok (.aload_n 0, 1) := by decide +kernel
theorem dX8_compares_106 : decode cX8_compares 106 = .ok (.getfield 31, 3) := by decide +kernel
theorem dX8_compares_109 : decode cX8_compares 109 = .ok (.iload_n 2, 1) := by decide +kernel
theorem dX8_compares_110 : decode cX8_compares 110 = .ok (.iload 5, 2) := by decide +kernel
theorem dX8_compares_112 : decode cX8_compares 112 = .ok (.iadd, 1) := by decide +kernel
theorem dX8_compares_113 : decode cX8_compares 113 = .ok (.iaload, 1) := by decide +kernel
theorem dX8_compares_114 : decode cX8_compares 114 = .ok (.if_icmp .le 7, 3) := by decide +kernel
theorem dX8_compares_117 : decode cX8_compares 117 = .ok (.iconst 1, 1) := by decide +kernel
theorem dX8_compares_118 : decode cX8_compares 118 = .ok (.goto 4, 3) := by decide +kernel
theorem dX8_compares_121 : decode cX8_compares 121 = .ok (.iconst (-1), 1) := by decide +kernel
theorem dX8_compares_122 : decode cX8_compares 122 = .ok (.ireturn, 1) := by decide +kernel
theorem dX8_compares_123 : decode cX8_compares 123 = .ok (.iinc 5 1, 3) := by decide +kernel
theorem dX8_compares_126 : decode cX8_compares 126 = .ok (.goto (-58), 3) := by decide +kernel
theorem dX8_compares_129 : decode cX8_compares 129 = .ok (.iconst 0, 1) := by decide +kernel
theorem dX8_compares_130 : decode cX8_compares 130 = .ok (.ireturn, 1) := by decide +kernel
theorem dX8_corner_0 : decode cX8_corner 0 = .ok (.iload_n 1, 1) := by decide +kernel
theorem dX8_corner_1 : decode cX8_corner 1 = .ok (.ifCond .ge 5, 3) := by decide +kernel
theorem dX8_corner_4 : decode cX8_corner 4 = .ok (.iconst (-1), 1) := by decide +kernel
theorem dX8_corner_5 : decode cX8_corner 5 = .ok (.ireturn, 1) := by decide +kernel
theorem dX8_corner_6 : decode cX8_corner 6 = .ok (.aload_n 0, 1) := by decide +kernel
theorem dX8_corner_7 : decode cX8_corner 7 = .ok (.invokevirtual 122, 3) := by decide +kernel
theorem dX8_corner_10 : decode cX8_corner 10 = .ok (.iconst 0, 1) := by decide +kernel
theorem dX8_corner_11 : decode cX8_corner 11 = .ok (.istore_n 2, 1) := by decide +kernel
theorem dX8_corner_12 : decode cX8_corner 12 = .ok (.iload_n 2, 1) := by decide +kernel
theorem dX8_corner_13 : decode cX8_corner 13 = .ok (.aload_n 0, 1) := by decide +kernel
theorem dX8_corner_14 : decode cX8_corner 14 = .ok (.getfield 9, 3) := by decide +kernel
theorem dX8_corner_17 : decode cX8_corner 17 = .ok (.if_icmp .gt 133, 3) := by decide +kernel
theorem dX8_corner_20 : decode cX8_corner 20 = .ok (.iconst 0, 1) := by decide +kernel
theorem dX8_corner_21 : decode cX8_corner 21 = .ok (.istore_n 3, 1) := by decide +kernel
theorem dX8_corner_22 : decode cX8_corner 22 = .ok (.iload_n 3, 1) := by decide +kernel
theorem dX8_corner_23 : decode cX8_corner 23 = .ok (.aload_n 0, 1) := by decide +kernel
theorem dX8_corner_24 : decode cX8_corner 24 = .ok (.getfield 15, 3) := by decide +kernel
theorem dX8_corner_27 : decode cX8_corner 27 = .ok (.if_icmp .gt 117, 3) := by decide +kernel
theorem dX8_corner_30 : decode cX8_corner 30 = .ok (.iconst 0, 1) := by decide +kernel
theorem dX8_corner_31 : decode cX8_corner 31 = .ok (.istore 4, 2) := by decide +kernel
theorem dX8_corner_33 : decode cX8_corner 33 = .ok (.iconst 0, 1) := by decide +kernel
theorem dX8_corner_34 : decode cX8_corner 34 = .ok (.istore 5, 2) := by decide +kernel
theorem dX8_corner_36 : decode cX8_corner 36 = .ok (.iload 5, 2) := by decide +kernel
theorem dX8_corner_38 : decode cX8_corner 38 = .ok (.aload_n 0, 1) := by decide +kernel
theorem dX8_corner_39 : decode cX8_corner 39 = .ok (.getfield 9, 3) := by decide +kernel
theorem dX8_corner_42 : decode cX8_corner 42 = .ok (.if_icmp .gt 83, 3) := by decide +kernel
theorem dX8_corner_45 : decode cX8_corner 45 = .ok (.iconst 0, 1) := by decide +kernel
theorem dX8_corner_46 : decode cX8_corner 46 = .ok (.istore 6, 2) := by decide +kernel
theorem dX8_corner_48 : decode cX8_corner 48 = .ok (.iload 6, 2) := by decide +kernel
theorem dX8_corner_50 : decode cX8_corner 50 = .ok (.aload_n 0, 1) := by decide +kernel
theorem dX8_corner_51 : decode cX8_corner 51 = .ok (.getfield 15, 3) := by decide +kernel
theorem dX8_corner_54 : decode cX8_corner 54 = .ok (.if_icmp .gt 65, 3) := by decide +kernel
theorem dX8_corner_57 : decode cX8_corner 57 = .ok (.aload_n 0, 1) := by decide +kernel
theorem dX8_corner_58 : decode cX8_corner 58 = .ok (.iload 5, 2) := by decide +kernel
theorem dX8_corner_60 : decode cX8_corner 60 = .ok (.iload 6, 2) := by decide +kernel
theorem dX8_corner_62 : decode cX8_corner 62 = .ok (.invokestatic 106, 3) := by decide +kernel
theorem dX8_corner_65 : decode cX8_corner 65 = .ok (.iload_n 2, 1) := by decide +kernel
theorem dX8_corner_66 : decode cX8_corner 66 = .ok (.iload_n 3, 1) := by decide +kernel
theorem dX8_corner_67 : decode cX8_corner 67 = .ok (.invokestatic 106, 3) := by decide +kernel
theorem dX8_corner_70 : decode cX8_corner 70 = .ok (.invokevirtual 162, 3) := by decide +kernel
theorem dX8_corner_73 : decode cX8_corner 73 = .ok (.istore 7, 2) := by decide +kernel
theorem dX8_corner_75 : decode cX8_corner 75 = .ok (.iload 4, 2) := by decide +kernel
theorem dX8_corner_77 : decode cX8_corner 77 = .ok (.iload 7, 2) := by decide +kernel
theorem dX8_corner_79 : decode cX8_corner 79 = .ok (.ifCond .gt 26, 3) := by decide +kernel
theorem dX8_corner_82 : decode cX8_corner 82 = .ok (.iload 7, 2) := by decide +kernel
theorem dX8_corner_84 : decode cX8_corner 84 = .ok (.ifCond .ne 25, 3) := by decide +kernel
theorem dX8_corner_87 : decode cX8_corner 87 = .ok (.iload 5, 2) := by decide +kernel
theorem dX8_corner_89 : decode cX8_corner 89 = .ok (.iload_n 2, 1) := by decide +kernel
theorem dX8_corner_90 : decode cX8_corner 90 = .ok (.if_icmp .lt 15, 3) := by decide +kernel
theorem dX8_corner_93 : decode cX8_corner 93 = .ok (.iload 5, 2) := by decide +kernel
theorem dX8_corner_95 : decode cX8_corner 95 = .ok (.iload_n 2, 1) := by decide +kernel
theorem dX8_corner_96 : decode cX8_corner 96 = .ok (.if_icmp .ne 13, 3) := by decide +kernel
theorem dX8_corner_99 : decode cX8_corner 99 = .ok (.iload 6, 2) := by decide +kernel
theorem dX8_corner_101 : decode cX8_corner 101 = .ok (.iload_n 3, 1) := by decide +kernel
theorem dX8_corner_102 : decode cX8_corner 102 = .ok (.if_icmp .ge 7, 3) := by decide +kernel
theorem dX8_corner_105 : decode cX8_corner 105 = .ok (.iconst 1, 1) := by decide +kernel
theorem dX8_corner_106 : decode cX8_corner 106 = .ok (.goto 4, 3) := by decide +kernel
theorem dX8_corner_109 : decode cX8_corner 109 = .ok (.iconst 0, 1) := by decide +kernel
theorem dX8_corner_110 : decode cX8_corner 110 = .ok (.iadd, 1) := by decide +kernel
theorem dX8_corner_111 : decode cX8_corner 111 = .ok (.istore 4, 2) := by decide +kernel
theorem dX8_corner_113 : decode cX8_corner 113 = .ok (.iinc 6 1, 3) := by decide +kernel
theorem dX8_corner_116 : decode cX8_corner 116 = .ok (.goto (-68), 3) := by decide +kernel
theorem dX8_corner_119 : decode cX8_corner 119 = .ok (.iinc 5 1, 3) := by decide +kernel
theorem dX8_corner_122 : decode cX8_corner 122 = .ok (.goto (-86), 3) := by decide +kernel
theorem dX8_corner_125 : decode cX8_corner 125 = .ok (.iload 4, 2) := by decide +kernel
theorem dX8_corner_127 : decode cX8_corner 127 = .ok (.iload_n 1, 1) := by decide +kernel
theorem dX8_corner_128 : decode cX8_corner 128 = .ok (.if_icmp .ne 10, 3) := by decide +kernel
theorem dX8_corner_131 : decode cX8_corner 131 = .ok (.bipush 10, 2) := by decide +kernel
theorem dX8_corner_133 : decode cX8_corner 133 = .ok (.iload_n 2, 1) := by decide +kernel
theorem dX8_corner_134 : decode cX8_corner 134 = .ok (.imul, 1) := by decide +kernel
theorem dX8_corner_135 : decode cX8_corner 135 = .ok (.iload_n 3, 1) := by decide +kernel
theorem dX8_corner_136 : decode cX8_corner 136 = .ok (.iadd, 1) := by decide +kernel
theorem dX8_corner_137 : decode cX8_corner 137 = .ok (.ireturn, 1) := by decide +kernel
theorem dX8_corner_138 : decode cX8_corner 138 = .ok (.iinc 3 1, 3) := by decide +kernel
theorem dX8_corner_141 : decode cX8_corner 141 = .ok (.goto (-119), 3) := by decide +kernel
theorem dX8_corner_144 : decode cX8_corner 144 = .ok (.iinc 2 1, 3) := by decide +kernel
theorem dX8_corner_147 : decode cX8_corner 147 = .ok (.goto (-135), 3) := by decide +kernel
theorem dX8_corner_150 : decode cX8_corner 150 = .ok (.bipush (-2), 2) := by decide +kernel
theorem dX8_corner_152 : decode cX8_corner 152 = .ok (.ireturn, 1) := by decide +kernel
theorem dX8_unlike_0 : decode cX8_unlike 0 = .ok (.iload_n 1, 1) := by decide +kernel
theorem dX8_unlike_1 : decode cX8_unlike 1 = .ok (.i2l, 1) := by decide +kernel
theorem dX8_unlike_2 : decode cX8_unlike 2 = .ok (.lconst 0, 1) := by decide +kernel
theorem dX8_unlike_3 : decode cX8_unlike 3 = .ok (.lconst 1, 1) := by decide +kernel
theorem dX8_unlike_4 : decode cX8_unlike 4 = .ok (.invokestatic 58, 3) := by decide +kernel
theorem dX8_unlike_7 : decode cX8_unlike 7 = .ok (.ifCond .ne 5, 3) := by decide +kernel
theorem dX8_unlike_10 : decode cX8_unlike 10 = .ok (.iconst (-1), 1) := by decide +kernel
theorem dX8_unlike_11 : decode cX8_unlike 11 = .ok (.ireturn, 1) := by decide +kernel
theorem dX8_unlike_12 : decode cX8_unlike 12 = .ok (.aload_n 0, 1) := by decide +kernel
theorem dX8_unlike_13 : decode cX8_unlike 13 = .ok (.invokevirtual 122, 3) := by decide +kernel
theorem dX8_unlike_16 : decode cX8_unlike 16 = .ok (.iconst 0, 1) := by decide +kernel
theorem dX8_unlike_17 : decode cX8_unlike 17 = .ok (.istore_n 2, 1) := by decide +kernel
theorem dX8_unlike_18 : decode cX8_unlike 18 = .ok (.iconst 0, 1) := by decide +kernel
theorem dX8_unlike_19 : decode cX8_unlike 19 = .ok (.istore_n 3, 1) := by decide +kernel
theorem dX8_unlike_20 : decode cX8_unlike 20 = .ok (.iconst 0, 1) := by decide +kernel
theorem dX8_unlike_21 : decode cX8_unlike 21 = .ok (.istore 4, 2) := by decide +kernel
theorem dX8_unlike_23 : decode cX8_unlike 23 = .ok (.iload 4, 2) := by decide +kernel
theorem dX8_unlike_25 : decode cX8_unlike 25 = .ok (.aload_n 0, 1) := by decide +kernel
theorem dX8_unlike_26 : decode cX8_unlike 26 = .ok (.getfield 9, 3) := by decide +kernel
theorem dX8_unlike_29 : decode cX8_unlike 29 = .ok (.if_icmp .gt 155, 3) := by decide +kernel
theorem dX8_unlike_32 : decode cX8_unlike 32 = .ok (.iconst 0, 1) := by decide +kernel
theorem dX8_unlike_33 : decode cX8_unlike 33 = .ok (.istore 5, 2) := by decide +kernel
theorem dX8_unlike_35 : decode cX8_unlike 35 = .ok (.iload 5, 2) := by decide +kernel
theorem dX8_unlike_37 : decode cX8_unlike 37 = .ok (.aload_n 0, 1) := by decide +kernel
theorem dX8_unlike_38 : decode cX8_unlike 38 = .ok (.getfield 15, 3) := by decide +kernel
theorem dX8_unlike_41 : decode cX8_unlike 41 = .ok (.if_icmp .gt 137, 3) := by decide +kernel
theorem dX8_unlike_44 : decode cX8_unlike 44 = .ok (.iconst 0, 1) := by decide +kernel
theorem dX8_unlike_45 : decode cX8_unlike 45 = .ok (.istore 6, 2) := by decide +kernel
theorem dX8_unlike_47 : decode cX8_unlike 47 = .ok (.iconst 1, 1) := by decide +kernel
theorem dX8_unlike_48 : decode cX8_unlike 48 = .ok (.istore 7, 2) := by decide +kernel
theorem dX8_unlike_50 : decode cX8_unlike 50 = .ok (.iconst 0, 1) := by decide +kernel
theorem dX8_unlike_51 : decode cX8_unlike 51 = .ok (.istore 8, 2) := by decide +kernel
theorem dX8_unlike_53 : decode cX8_unlike 53 = .ok (.iload 8, 2) := by decide +kernel
theorem dX8_unlike_55 : decode cX8_unlike 55 = .ok (.aload_n 0, 1) := by decide +kernel
theorem dX8_unlike_56 : decode cX8_unlike 56 = .ok (.getfield 9, 3) := by decide +kernel
theorem dX8_unlike_59 : decode cX8_unlike 59 = .ok (.if_icmp .gt 87, 3) := by decide +kernel
theorem dX8_unlike_62 : decode cX8_unlike 62 = .ok (.iconst 0, 1) := by decide +kernel
theorem dX8_unlike_63 : decode cX8_unlike 63 = .ok (.istore 9, 2) := by decide +kernel
theorem dX8_unlike_65 : decode cX8_unlike 65 = .ok (.iload 9, 2) := by decide +kernel
theorem dX8_unlike_67 : decode cX8_unlike 67 = .ok (.aload_n 0, 1) := by decide +kernel
theorem dX8_unlike_68 : decode cX8_unlike 68 = .ok (.getfield 15, 3) := by decide +kernel
theorem dX8_unlike_71 : decode cX8_unlike 71 = .ok (.if_icmp .gt 69, 3) := by decide +kernel
theorem dX8_unlike_74 : decode cX8_unlike 74 = .ok (.aload_n 0, 1) := by decide +kernel
theorem dX8_unlike_75 : decode cX8_unlike 75 = .ok (.iload 8, 2) := by decide +kernel
theorem dX8_unlike_77 : decode cX8_unlike 77 = .ok (.iload 9, 2) := by decide +kernel
theorem dX8_unlike_79 : decode cX8_unlike 79 = .ok (.invokestatic 106, 3) := by decide +kernel
theorem dX8_unlike_82 : decode cX8_unlike 82 = .ok (.iload 4, 2) := by decide +kernel
theorem dX8_unlike_84 : decode cX8_unlike 84 = .ok (.iload 5, 2) := by decide +kernel
theorem dX8_unlike_86 : decode cX8_unlike 86 = .ok (.invokestatic 106, 3) := by decide +kernel
theorem dX8_unlike_89 : decode cX8_unlike 89 = .ok (.invokevirtual 162, 3) := by decide +kernel
theorem dX8_unlike_92 : decode cX8_unlike 92 = .ok (.ifCond .eq 6, 3) := by decide +kernel
theorem dX8_unlike_95 : decode cX8_unlike 95 = .ok (.goto 39, 3) := by decide +kernel
theorem dX8_unlike_98 : decode cX8_unlike 98 = .ok (.iinc 6 1, 3) := by decide +kernel
theorem dX8_unlike_101 : decode cX8_unlike 101 = .ok (.iload 7, 2) := by decide +kernel
theorem dX8_unlike_103 : decode cX8_unlike 103 = .ok (.ifCond .eq 28, 3) := by decide +kernel
theorem dX8_unlike_106 : decode cX8_unlike 106 = .ok (.iload 8, 2) := by decide +kernel
theorem dX8_unlike_108 : decode cX8_unlike 108 = .ok (.iload 4, 2) := by decide +kernel
theorem dX8_unlike_110 : decode cX8_unlike 110 = .ok (.if_icmp .gt 17, 3) := by decide +kernel
theorem dX8_unlike_113 : decode cX8_unlike 113 = .ok (.iload 8, 2) := by decide +kernel
theorem dX8_unlike_115 : decode cX8_unlike 115 = .ok (.iload 4, 2) := by decide +kernel
theorem dX8_unlike_117 : decode cX8_unlike 117 = .ok (.if_icmp .ne 14, 3) := by decide +kernel
theorem dX8_unlike_120 : decode cX8_unlike 120 = .ok (.iload 9, 2) := by decide +kernel
theorem dX8_unlike_122 : decode cX8_unlike 122 = .ok (.iload 5, 2) := by decide +kernel
theorem dX8_unlike_124 : decode cX8_unlike 124 = .ok (.if_icmp .lt 7, 3) := by decide +kernel
theorem dX8_unlike_127 : decode cX8_unlike 127 = .ok (.iconst 1, 1) := by decide +kernel
theorem dX8_unlike_128 : decode cX8_unlike 128 = .ok (.goto 4, 3) := by decide +kernel
theorem dX8_unlike_131 : decode cX8_unlike 131 = .ok (.iconst 0, 1) := by decide +kernel
theorem dX8_unlike_132 : decode cX8_unlike 132 = .ok (.istore 7, 2) := by decide +kernel
theorem dX8_unlike_134 : decode cX8_unlike 134 = .ok (.iinc 9 1, 3) := by decide +kernel
theorem dX8_unlike_137 : decode cX8_unlike 137 = .ok (.goto (-72), 3) := by decide +kernel
theorem dX8_unlike_140 : decode cX8_unlike 140 = .ok (.iinc 8 1, 3) := by decide +kernel
theorem dX8_unlike_143 : decode cX8_unlike 143 = .ok (.goto (-90), 3) := by decide +kernel
theorem dX8_unlike_146 : decode cX8_unlike 146 = .ok (.iload_n 2, 1) := by decide +kernel
theorem dX8_unlike_147 : decode cX8_unlike 147 = .ok (.iload 7, 2) := by decide +kernel
theorem dX8_unlike_149 : decode cX8_unlike 149 = .ok (.ifCond .eq 7, 3) := by decide +kernel
theorem dX8_unlike_152 : decode cX8_unlike 152 = .ok (.iconst 1, 1) := by decide +kernel
theorem dX8_unlike_153 : decode cX8_unlike 153 = .ok (.goto 4, 3) := by decide +kernel
theorem dX8_unlike_156 : decode cX8_unlike 156 = .ok (.iconst 0, 1) := by decide +kernel
theorem dX8_unlike_157 : decode cX8_unlike 157 = .ok (.iadd, 1) := by decide +kernel
theorem dX8_unlike_158 : decode cX8_unlike 158 = .ok (.istore_n 2, 1) := by decide +kernel
theorem dX8_unlike_159 : decode cX8_unlike 159 = .ok (.iload 6, 2) := by decide +kernel
theorem dX8_unlike_161 : decode cX8_unlike 161 = .ok (.iload_n 3, 1) := by decide +kernel
theorem dX8_unlike_162 : decode cX8_unlike 162 = .ok (.if_icmp .le 8, 3) := by decide +kernel
theorem dX8_unlike_165 : decode cX8_unlike 165 = .ok (.iload 6, 2) := by decide +kernel
theorem dX8_unlike_167 : decode cX8_unlike 167 = .ok (.goto 4, 3) := by decide +kernel
theorem dX8_unlike_170 : decode cX8_unlike 170 = .ok (.iload_n 3, 1) := by decide +kernel
theorem dX8_unlike_171 : decode cX8_unlike 171 = .ok (.istore_n 3, 1) := by decide +kernel
theorem dX8_unlike_172 : decode cX8_unlike 172 = .ok (.iinc 5 1, 3) := by decide +kernel
theorem dX8_unlike_175 : decode cX8_unlike 175 = .ok (.goto (-140), 3) := by decide +kernel
theorem dX8_unlike_178 : decode cX8_unlike 178 = .ok (.iinc 4 1, 3) := by decide +kernel
theorem dX8_unlike_181 : decode cX8_unlike 181 = .ok (.goto (-158), 3) := by decide +kernel
theorem dX8_unlike_184 : decode cX8_unlike 184 = .ok (.iload_n 1, 1) := by decide +kernel
theorem dX8_unlike_185 : decode cX8_unlike 185 = .ok (.ifCond .ne 7, 3) := by decide +kernel
theorem dX8_unlike_188 : decode cX8_unlike 188 = .ok (.iload_n 2, 1) := by decide +kernel
theorem dX8_unlike_189 : decode cX8_unlike 189 = .ok (.goto 4, 3) := by decide +kernel
theorem dX8_unlike_192 : decode cX8_unlike 192 = .ok (.iload_n 3, 1) := by decide +kernel
theorem dX8_unlike_193 : decode cX8_unlike 193 = .ok (.ireturn, 1) := by decide +kernel
theorem dX8_feed_0 : decode cX8_feed 0 = .ok (.iload_n 2, 1) := by decide +kernel
theorem dX8_feed_1 : decode cX8_feed 1 = .ok (.i2l, 1) := by decide +kernel
theorem dX8_feed_2 : decode cX8_feed 2 = .ok (.lconst 1, 1) := by decide +kernel
theorem dX8_feed_3 : decode cX8_feed 3 = .ok (.ldc2_w 165, 3) := by decide +kernel
theorem dX8_feed_6 : decode cX8_feed 6 = .ok (.invokestatic 58, 3) := by decide +kernel
theorem dX8_feed_9 : decode cX8_feed 9 = .ok (.ifCond .ne 5, 3) := by decide +kernel
theorem dX8_feed_12 : decode cX8_feed 12 = .ok (.iconst (-1), 1) := by decide +kernel
theorem dX8_feed_13 : decode cX8_feed 13 = .ok (.ireturn, 1) := by decide +kernel
theorem dX8_feed_14 : decode cX8_feed 14 = .ok (.aload_n 0, 1) := by decide +kernel
theorem dX8_feed_15 : decode cX8_feed 15 = .ok (.getfield 167, 3) := by decide +kernel
theorem dX8_feed_18 : decode cX8_feed 18 = .ok (.iload_n 2, 1) := by decide +kernel
theorem dX8_feed_19 : decode cX8_feed 19 = .ok (.iadd, 1) := by decide +kernel
theorem dX8_feed_20 : decode cX8_feed 20 = .ok (.bipush 60, 2) := by decide +kernel
theorem dX8_feed_22 : decode cX8_feed 22 = .ok (.if_icmp .le 6, 3) := by decide +kernel
theorem dX8_feed_25 : decode cX8_feed 25 = .ok (.bipush (-3), 2) := by decide +kernel
theorem dX8_feed_27 : decode cX8_feed 27 = .ok (.ireturn, 1) := by decide +kernel
theorem dX8_feed_28 : decode cX8_feed 28 = .ok (.iload_n 2, 1) := by decide +kernel
theorem dX8_feed_29 : decode cX8_feed 29 = .ok (.iconst 1, 1) := by decide +kernel
theorem dX8_feed_30 : decode cX8_feed 30 = .ok (.isub, 1) := by decide +kernel
theorem dX8_feed_31 : decode cX8_feed 31 = .ok (.istore_n 3, 1) := by decide +kernel
theorem dX8_feed_32 : decode cX8_feed 32 = .ok (.iload_n 3, 1) := by decide +kernel
theorem dX8_feed_33 : decode cX8_feed 33 = .ok (.ifCond .lt 38, 3) := by decide +kernel
theorem dX8_feed_36 : decode cX8_feed 36 = .ok (.aload_n 0, 1) := by decide +kernel
theorem dX8_feed_37 : decode cX8_feed 37 = .ok (.getfield 43, 3) := by decide +kernel
theorem dX8_feed_40 : decode cX8_feed 40 = .ok (.aload_n 0, 1) := by decide +kernel
theorem dX8_feed_41 : decode cX8_feed 41 = .ok (.getfield 167, 3) := by decide +kernel
theorem dX8_feed_44 : decode cX8_feed 44 = .ok (.iload_n 1, 1) := by decide +kernel
theorem dX8_feed_45 : decode cX8_feed 45 = .ok (.bipush 8, 2) := by decide +kernel
theorem dX8_feed_47 : decode cX8_feed 47 = .ok (.iload_n 3, 1) := by decide +kernel
theorem dX8_feed_48 : decode cX8_feed 48 = .ok (.imul, 1) := by decide +kernel
theorem dX8_feed_49 : decode cX8_feed 49 = .ok (.iushr, 1) := by decide +kernel
theorem dX8_feed_50 : decode cX8_feed 50 = .ok (.sipush 255, 3) := by decide +kernel
theorem dX8_feed_53 : decode cX8_feed 53 = .ok (.iand, 1) := by decide +kernel
theorem dX8_feed_54 : decode cX8_feed 54 = .ok (.iastore, 1) := by decide +kernel
theorem dX8_feed_55 : decode cX8_feed 55 = .ok (.aload_n 0, 1) := by decide +kernel
theorem dX8_feed_56 : decode cX8_feed 56 = .ok (.dup, 1) := by decide +kernel
theorem dX8_feed_57 : decode cX8_feed 57 = .ok (.getfield 167, 3) := by decide +kernel
theorem dX8_feed_60 : decode cX8_feed 60 = .ok (.iconst 1, 1) := by decide +kernel
theorem dX8_feed_61 : decode cX8_feed 61 = .ok (.iadd, 1) := by decide +kernel
theorem dX8_feed_62 : decode cX8_feed 62 = .ok (.putfield 167, 3) := by decide +kernel
theorem dX8_feed_65 : decode cX8_feed 65 = .ok (.iinc 3 (-1), 3) := by decide +kernel
theorem dX8_feed_68 : decode cX8_feed 68 = .ok (.goto (-36), 3) := by decide +kernel
theorem dX8_feed_71 : decode cX8_feed 71 = .ok (.aload_n 0, 1) := by decide +kernel
theorem dX8_feed_72 : decode cX8_feed 72 = .ok (.getfield 167, 3) := by decide +kernel
theorem dX8_feed_75 : decode cX8_feed 75 = .ok (.ireturn, 1) := by decide +kernel
theorem dX8_wipe_0 : decode cX8_wipe 0 = .ok (.aload_n 0, 1) := by decide +kernel
theorem dX8_wipe_1 : decode cX8_wipe 1 = .ok (.getfield 167, 3) := by decide +kernel
theorem dX8_wipe_4 : decode cX8_wipe 4 = .ok (.istore_n 1, 1) := by decide +kernel
theorem dX8_wipe_5 : decode cX8_wipe 5 = .ok (.aload_n 0, 1) := by decide +kernel
theorem dX8_wipe_6 : decode cX8_wipe 6 = .ok (.iconst 0, 1) := by decide +kernel
theorem dX8_wipe_7 : decode cX8_wipe 7 = .ok (.putfield 167, 3) := by decide +kernel
theorem dX8_wipe_10 : decode cX8_wipe 10 = .ok (.iload_n 1, 1) := by decide +kernel
theorem dX8_wipe_11 : decode cX8_wipe 11 = .ok (.ireturn, 1) := by decide +kernel
theorem dX8_isRight_0 : decode cX8_isRight 0 = .ok (.aload_n 0, 1) := by decide +kernel
theorem dX8_isRight_1 : decode cX8_isRight 1 = .ok (.getfield 43, 3) := by decide +kernel
theorem dX8_isRight_4 : decode cX8_isRight 4 = .ok (.iload_n 1, 1) := by decide +kernel
theorem dX8_isRight_5 : decode cX8_isRight 5 = .ok (.iaload, 1) := by decide +kernel
theorem dX8_isRight_6 : decode cX8_isRight 6 = .ok (.istore_n 2, 1) := by decide +kernel
theorem dX8_isRight_7 : decode cX8_isRight 7 = .ok (.iload_n 1, 1) := by decide +kernel
theorem dX8_isRight_8 : decode cX8_isRight 8 = .ok (.iconst 2, 1) := by decide +kernel
theorem dX8_isRight_9 : decode cX8_isRight 9 = .ok (.if_icmp .ge 15, 3) := by decide +kernel
theorem dX8_isRight_12 : decode cX8_isRight 12 = .ok (.iload_n 2, 1) := by decide +kernel
theorem dX8_isRight_13 : decode cX8_isRight 13 = .ok (.i2l, 1) := by decide +kernel
theorem dX8_isRight_14 : decode cX8_isRight 14 = .ok (.ldc2_w 170, 3) := by decide +kernel
theorem dX8_isRight_17 : decode cX8_isRight 17 = .ok (.ldc2_w 172, 3) := by decide +kernel
theorem dX8_isRight_20 : decode cX8_isRight 20 = .ok (.invokestatic 58, 3) := by decide +kernel
theorem dX8_isRight_23 : decode cX8_isRight 23 = .ok (.ireturn, 1) := by decide +kernel
theorem dX8_isRight_24 : decode cX8_isRight 24 = .ok (.aload_n 0, 1) := by decide +kernel
theorem dX8_isRight_25 : decode cX8_isRight 25 = .ok (.getfield 43, 3) := by decide +kernel
theorem dX8_isRight_28 : decode cX8_isRight 28 = .ok (.iconst 0, 1) := by decide +kernel
theorem dX8_isRight_29 : decode cX8_isRight 29 = .ok (.iaload, 1) := by decide +kernel
theorem dX8_isRight_30 : decode cX8_isRight 30 = .ok (.bipush 48, 2) := by decide +kernel
theorem dX8_isRight_32 : decode cX8_isRight 32 = .ok (.isub, 1) := by decide +kernel
theorem dX8_isRight_33 : decode cX8_isRight 33 = .ok (.istore_n 3, 1) := by decide +kernel
theorem dX8_isRight_34 : decode cX8_isRight 34 = .ok (.aload_n 0, 1) := by decide +kernel
theorem dX8_isRight_35 : decode cX8_isRight 35 = .ok (.getfield 43, 3) := by decide +kernel
theorem dX8_isRight_38 : decode cX8_isRight 38 = .ok (.iconst 1, 1) := by decide +kernel
theorem dX8_isRight_39 : decode cX8_isRight 39 = .ok (.iaload, 1) := by decide +kernel
theorem dX8_isRight_40 : decode cX8_isRight 40 = .ok (.bipush 48, 2) := by decide +kernel
theorem dX8_isRight_42 : decode cX8_isRight 42 = .ok (.isub, 1) := by decide +kernel
theorem dX8_isRight_43 : decode cX8_isRight 43 = .ok (.istore 4, 2) := by decide +kernel
theorem dX8_isRight_45 : decode cX8_isRight 45 = .ok (.iload_n 1, 1) := by decide +kernel
theorem dX8_isRight_46 : decode cX8_isRight 46 = .ok (.iconst 2, 1) := by decide +kernel
theorem dX8_isRight_47 : decode cX8_isRight 47 = .ok (.iload 4, 2) := by decide +kernel
theorem dX8_isRight_49 : decode cX8_isRight 49 = .ok (.iload_n 3, 1) := by decide +kernel
theorem dX8_isRight_50 : decode cX8_isRight 50 = .ok (.iconst 1, 1) := by decide +kernel
theorem dX8_isRight_51 : decode cX8_isRight 51 = .ok (.iadd, 1) := by decide +kernel
theorem dX8_isRight_52 : decode cX8_isRight 52 = .ok (.imul, 1) := by decide +kernel
theorem dX8_isRight_53 : decode cX8_isRight 53 = .ok (.iadd, 1) := by decide +kernel
theorem dX8_isRight_54 : decode cX8_isRight 54 = .ok (.if_icmp .lt 5, 3) := by decide +kernel
theorem dX8_isRight_57 : decode cX8_isRight 57 = .ok (.iconst 0, 1) := by decide +kernel
theorem dX8_isRight_58 : decode cX8_isRight 58 = .ok (.ireturn, 1) := by decide +kernel
theorem dX8_isRight_59 : decode cX8_isRight 59 = .ok (.iload_n 1, 1) := by decide +kernel
theorem dX8_isRight_60 : decode cX8_isRight 60 = .ok (.iconst 2, 1) := by decide +kernel
theorem dX8_isRight_61 : decode cX8_isRight 61 = .ok (.isub, 1) := by decide +kernel
theorem dX8_isRight_62 : decode cX8_isRight 62 = .ok (.iload_n 3, 1) := by decide +kernel
theorem dX8_isRight_63 : decode cX8_isRight 63 = .ok (.iconst 1, 1) := by decide +kernel
theorem dX8_isRight_64 : decode cX8_isRight 64 = .ok (.iadd, 1) := by decide +kernel
theorem dX8_isRight_65 : decode cX8_isRight 65 = .ok (.irem, 1) := by decide +kernel
theorem dX8_isRight_66 : decode cX8_isRight 66 = .ok (.ifCond .ne 17, 3) := by decide +kernel
theorem dX8_isRight_69 : decode cX8_isRight 69 = .ok (.iload_n 2, 1) := by decide +kernel
theorem dX8_isRight_70 : decode cX8_isRight 70 = .ok (.bipush 59, 2) := by decide +kernel
theorem dX8_isRight_72 : decode cX8_isRight 72 = .ok (.if_icmp .ne 7, 3) := by decide +kernel
theorem dX8_isRight_75 : decode cX8_isRight 75 = .ok (.iconst 1, 1) := by decide +kernel
theorem dX8_isRight_76 : decode cX8_isRight 76 = .ok (.goto 18, 3) := by decide +kernel
theorem dX8_isRight_79 : decode cX8_isRight 79 = .ok (.iconst 0, 1) := by decide +kernel
theorem dX8_isRight_80 : decode cX8_isRight 80 = .ok (.goto 14, 3) := by decide +kernel
theorem dX8_isRight_83 : decode cX8_isRight 83 = .ok (.iload_n 2, 1) := by decide +kernel
theorem dX8_isRight_84 : decode cX8_isRight 84 = .ok (.i2l, 1) := by decide +kernel
theorem dX8_isRight_85 : decode cX8_isRight 85 = .ok (.ldc2_w 174, 3) := by decide +kernel
theorem dX8_isRight_88 : decode cX8_isRight 88 = .ok (.ldc2_w 176, 3) := by decide +kernel
theorem dX8_isRight_91 : decode cX8_isRight 91 = .ok (.invokestatic 58, 3) := by decide +kernel
theorem dX8_isRight_94 : decode cX8_isRight 94 = .ok (.ireturn, 1) := by decide +kernel
theorem dX8_read_0 : decode cX8_read 0 = .ok (.aload_n 0, 1) := by decide +kernel
theorem dX8_read_1 : decode cX8_read 1 = .ok (.getfield 167, 3) := by decide +kernel
theorem dX8_read_4 : decode cX8_read 4 = .ok (.istore_n 1, 1) := by decide +kernel
theorem dX8_read_5 : decode cX8_read 5 = .ok (.aload_n 0, 1) := by decide +kernel
theorem dX8_read_6 : decode cX8_read 6 = .ok (.iconst 0, 1) := by decide +kernel
theorem dX8_read_7 : decode cX8_read 7 = .ok (.putfield 167, 3) := by decide +kernel
theorem dX8_read_10 : decode cX8_read 10 = .ok (.iconst 0, 1) := by decide +kernel
theorem dX8_read_11 : decode cX8_read 11 = .ok (.istore_n 2, 1) := by decide +kernel
theorem dX8_read_12 : decode cX8_read 12 = .ok (.iload_n 2, 1) := by decide +kernel
theorem dX8_read_13 : decode cX8_read 13 = .ok (.iload_n 1, 1) := by decide +kernel
theorem dX8_read_14 : decode cX8_read 14 = .ok (.if_icmp .ge 17, 3) := by decide +kernel
theorem dX8_read_17 : decode cX8_read 17 = .ok (.aload_n 0, 1) := by decide +kernel
theorem dX8_read_18 : decode cX8_read 18 = .ok (.iload_n 2, 1) := by decide +kernel
theorem dX8_read_19 : decode cX8_read 19 = .ok (.invokevirtual 178, 3) := by decide +kernel
theorem dX8_read_22 : decode cX8_read 22 = .ok (.ifCond .eq 9, 3) := by decide +kernel
theorem dX8_read_25 : decode cX8_read 25 = .ok (.iinc 2 1, 3) := by decide +kernel
theorem dX8_read_28 : decode cX8_read 28 = .ok (.goto (-16), 3) := by decide +kernel
theorem dX8_read_31 : decode cX8_read 31 = .ok (.iload_n 2, 1) := by decide +kernel
theorem dX8_read_32 : decode cX8_read 32 = .ok (.iload_n 1, 1) := by decide +kernel
theorem dX8_read_33 : decode cX8_read 33 = .ok (.if_icmp .lt 35, 3) := by decide +kernel
theorem dX8_read_36 : decode cX8_read 36 = .ok (.iload_n 1, 1) := by decide +kernel
theorem dX8_read_37 : decode cX8_read 37 = .ok (.iconst 2, 1) := by decide +kernel
theorem dX8_read_38 : decode cX8_read 38 = .ok (.if_icmp .lt 30, 3) := by decide +kernel
theorem dX8_read_41 : decode cX8_read 41 = .ok (.iload_n 1, 1) := by decide +kernel
theorem dX8_read_42 : decode cX8_read 42 = .ok (.iconst 2, 1) := by decide +kernel
theorem dX8_read_43 : decode cX8_read 43 = .ok (.aload_n 0, 1) := by decide +kernel
theorem dX8_read_44 : decode cX8_read 44 = .ok (.getfield 43, 3) := by decide +kernel
theorem dX8_read_47 : decode cX8_read 47 = .ok (.iconst 1, 1) := by decide +kernel
theorem dX8_read_48 : decode cX8_read 48 = .ok (.iaload, 1) := by decide +kernel
theorem dX8_read_49 : decode cX8_read 49 = .ok (.bipush 48, 2) := by decide +kernel
theorem dX8_read_51 : decode cX8_read 51 = .ok (.isub, 1) := by decide +kernel
theorem dX8_read_52 : decode cX8_read 52 = .ok (.aload_n 0, 1) := by decide +kernel
theorem dX8_read_53 : decode cX8_read 53 = .ok (.getfield 43, 3) := by decide +kernel
theorem dX8_read_56 : decode cX8_read 56 = .ok (.iconst 0, 1) := by decide +kernel
theorem dX8_read_57 : decode cX8_read 57 = .ok (.iaload, 1) := by decide +kernel
theorem dX8_read_58 : decode cX8_read 58 = .ok (.bipush 48, 2) := by decide +kernel
theorem dX8_read_60 : decode cX8_read 60 = .ok (.isub, 1) := by decide +kernel
theorem dX8_read_61 : decode cX8_read 61 = .ok (.iconst 1, 1) := by decide +kernel
theorem dX8_read_62 : decode cX8_read 62 = .ok (.iadd, 1) := by decide +kernel
theorem dX8_read_63 : decode cX8_read 63 = .ok (.imul, 1) := by decide +kernel
theorem dX8_read_64 : decode cX8_read 64 = .ok (.iadd, 1) := by decide +kernel
theorem dX8_read_65 : decode cX8_read 65 = .ok (.if_icmp .ge 9, 3) := by decide +kernel
theorem dX8_read_68 : decode cX8_read 68 = .ok (.sipush (-1000), 3) := by decide +kernel
theorem dX8_read_71 : decode cX8_read 71 = .ok (.iload_n 2, 1) := by decide +kernel
theorem dX8_read_72 : decode cX8_read 72 = .ok (.isub, 1) := by decide +kernel
theorem dX8_read_73 : decode cX8_read 73 = .ok (.ireturn, 1) := by decide +kernel
theorem dX8_read_74 : decode cX8_read 74 = .ok (.aload_n 0, 1) := by decide +kernel
theorem dX8_read_75 : decode cX8_read 75 = .ok (.invokevirtual 80, 3) := by decide +kernel
theorem dX8_read_78 : decode cX8_read 78 = .ok (.aload_n 0, 1) := by decide +kernel
theorem dX8_read_79 : decode cX8_read 79 = .ok (.aload_n 0, 1) := by decide +kernel
theorem dX8_read_80 : decode cX8_read 80 = .ok (.getfield 43, 3) := by decide +kernel
theorem dX8_read_83 : decode cX8_read 83 = .ok (.iconst 0, 1) := by decide +kernel
theorem dX8_read_84 : decode cX8_read 84 = .ok (.iaload, 1) := by decide +kernel
theorem dX8_read_85 : decode cX8_read 85 = .ok (.bipush 48, 2) := by decide +kernel
theorem dX8_read_87 : decode cX8_read 87 = .ok (.isub, 1) := by decide +kernel
theorem dX8_read_88 : decode cX8_read 88 = .ok (.putfield 9, 3) := by decide +kernel
theorem dX8_read_91 : decode cX8_read 91 = .ok (.aload_n 0, 1) := by decide +kernel
theorem dX8_read_92 : decode cX8_read 92 = .ok (.aload_n 0, 1) := by decide +kernel
theorem dX8_read_93 : decode cX8_read 93 = .ok (.getfield 43, 3) := by decide +kernel
theorem dX8_read_96 : decode cX8_read 96 = .ok (.iconst 1, 1) := by decide +kernel
theorem dX8_read_97 : decode cX8_read 97 = .ok (.iaload, 1) := by decide +kernel
theorem dX8_read_98 : decode cX8_read 98 = .ok (.bipush 48, 2) := by decide +kernel
theorem dX8_read_100 : decode cX8_read 100 = .ok (.isub, 1) := by decide +kernel
theorem dX8_read_101 : decode cX8_read 101 = .ok (.putfield 15, 3) := by decide +kernel
theorem dX8_read_104 : decode cX8_read 104 = .ok (.aload_n 0, 1) := by decide +kernel
theorem dX8_read_105 : decode cX8_read 105 = .ok (.invokevirtual 83, 3) := by decide +kernel
theorem dX8_read_108 : decode cX8_read 108 = .ok (.aload_n 0, 1) := by decide +kernel
theorem dX8_read_109 : decode cX8_read 109 = .ok (.getfield 15, 3) := by decide +kernel
theorem dX8_read_112 : decode cX8_read 112 = .ok (.istore_n 3, 1) := by decide +kernel
theorem dX8_read_113 : decode cX8_read 113 = .ok (.iload_n 3, 1) := by decide +kernel
theorem dX8_read_114 : decode cX8_read 114 = .ok (.ifCond .le 64, 3) := by decide +kernel
theorem dX8_read_117 : decode cX8_read 117 = .ok (.iconst 1, 1) := by decide +kernel
theorem dX8_read_118 : decode cX8_read 118 = .ok (.istore 4, 2) := by decide +kernel
theorem dX8_read_120 : decode cX8_read 120 = .ok (.iload 4, 2) := by decide +kernel
theorem dX8_read_122 : decode cX8_read 122 = .ok (.aload_n 0, 1) := by decide +kernel
theorem dX8_read_123 : decode cX8_read 123 = .ok (.getfield 9, 3) := by decide +kernel
theorem dX8_read_126 : decode cX8_read 126 = .ok (.if_icmp .gt 46, 3) := by decide +kernel
theorem dX8_read_129 : decode cX8_read 129 = .ok (.aload_n 0, 1) := by decide +kernel
theorem dX8_read_130 : decode cX8_read 130 = .ok (.getfield 18, 3) := by decide +kernel
theorem dX8_read_133 : decode cX8_read 133 = .ok (.iload 4, 2) := by decide +kernel
theorem dX8_read_135 : decode cX8_read 135 = .ok (.iload_n 3, 1) := by decide +kernel
theorem dX8_read_136 : decode cX8_read 136 = .ok (.invokestatic 92, 3) := by decide +kernel
theorem dX8_read_139 : decode cX8_read 139 = .ok (.aload_n 0, 1) := by decide +kernel
theorem dX8_read_140 : decode cX8_read 140 = .ok (.getfield 43, 3) := by decide +kernel
theorem dX8_read_143 : decode cX8_read 143 = .ok (.iconst 2, 1) := by decide +kernel
theorem dX8_read_144 : decode cX8_read 144 = .ok (.aload_n 0, 1) := by decide +kernel
theorem dX8_read_145 : decode cX8_read 145 = .ok (.getfield 15, 3) := by decide +kernel
theorem dX8_read_148 : decode cX8_read 148 = .ok (.iload_n 3, 1) := by decide +kernel
theorem dX8_read_149 : decode cX8_read 149 = .ok (.isub, 1) := by decide +kernel
theorem dX8_read_150 : decode cX8_read 150 = .ok (.aload_n 0, 1) := by decide +kernel
theorem dX8_read_151 : decode cX8_read 151 = .ok (.getfield 9, 3) := by decide +kernel
theorem dX8_read_154 : decode cX8_read 154 = .ok (.iconst 1, 1) := by decide +kernel
theorem dX8_read_155 : decode cX8_read 155 = .ok (.iadd, 1) := by decide +kernel
theorem dX8_read_156 : decode cX8_read 156 = .ok (.imul, 1) := by decide +kernel
theorem dX8_read_157 : decode cX8_read 157 = .ok (.iadd, 1) := by decide +kernel
theorem dX8_read_158 : decode cX8_read 158 = .ok (.iload 4, 2) := by decide +kernel
theorem dX8_read_160 : decode cX8_read 160 = .ok (.iadd, 1) := by decide +kernel
theorem dX8_read_161 : decode cX8_read 161 = .ok (.iaload, 1) := by decide +kernel
theorem dX8_read_162 : decode cX8_read 162 = .ok (.bipush 48, 2) := by decide +kernel
theorem dX8_read_164 : decode cX8_read 164 = .ok (.isub, 1) := by decide +kernel
theorem dX8_read_165 : decode cX8_read 165 = .ok (.iastore, 1) := by decide +kernel
theorem dX8_read_166 : decode cX8_read 166 = .ok (.iinc 4 1, 3) := by decide +kernel
theorem dX8_read_169 : decode cX8_read 169 = .ok (.goto (-49), 3) := by decide +kernel
theorem dX8_read_172 : decode cX8_read 172 = .ok (.iinc 3 (-1), 3) := by decide +kernel
theorem dX8_read_175 : decode cX8_read 175 = .ok (.goto (-62), 3) := by decide +kernel
theorem dX8_read_178 : decode cX8_read 178 = .ok (.aload_n 0, 1) := by decide +kernel
theorem dX8_read_179 : decode cX8_read 179 = .ok (.invokevirtual 100, 3) := by decide +kernel
theorem dX8_read_182 : decode cX8_read 182 = .ok (.ireturn, 1) := by decide +kernel
theorem dX8_isHolder_0 : decode cX8_isHolder 0 = .ok (.iload_n 0, 1) := by decide +kernel
theorem dX8_isHolder_1 : decode cX8_isHolder 1 = .ok (.i2l, 1) := by decide +kernel
theorem dX8_isHolder_2 : decode cX8_isHolder 2 = .ok (.lconst 0, 1) := by decide +kernel
theorem dX8_isHolder_3 : decode cX8_isHolder 3 = .ok (.ldc2_w 78, 3) := by decide +kernel
theorem dX8_isHolder_6 : decode cX8_isHolder 6 = .ok (.invokestatic 58, 3) := by decide +kernel
theorem dX8_isHolder_9 : decode cX8_isHolder 9 = .ok (.ireturn, 1) := by decide +kernel
theorem dX8_hold_0 : decode cX8_hold 0 = .ok (.iload_n 1, 1) := by decide +kernel
theorem dX8_hold_1 : decode cX8_hold 1 = .ok (.invokestatic 181, 3) := by decide +kernel
theorem dX8_hold_4 : decode cX8_hold 4 = .ok (.ifCond .eq 12, 3) := by decide +kernel
theorem dX8_hold_7 : decode cX8_hold 7 = .ok (.aload_n 0, 1) := by decide +kernel
theorem dX8_hold_8 : decode cX8_hold 8 = .ok (.iload_n 2, 1) := by decide +kernel
theorem dX8_hold_9 : decode cX8_hold 9 = .ok (.iload_n 3, 1) := by decide +kernel
theorem dX8_hold_10 : decode cX8_hold 10 = .ok (.invokevirtual 117, 3) := by decide +kernel
theorem dX8_hold_13 : decode cX8_hold 13 = .ok (.ifCond .ne 5, 3) := by decide +kernel
theorem dX8_hold_16 : decode cX8_hold 16 = .ok (.iconst (-1), 1) := by decide +kernel
theorem dX8_hold_17 : decode cX8_hold 17 = .ok (.ireturn, 1) := by decide +kernel
theorem dX8_hold_18 : decode cX8_hold 18 = .ok (.aload_n 0, 1) := by decide +kernel
theorem dX8_hold_19 : decode cX8_hold 19 = .ok (.invokevirtual 122, 3) := by decide +kernel
theorem dX8_hold_22 : decode cX8_hold 22 = .ok (.aload_n 0, 1) := by decide +kernel
theorem dX8_hold_23 : decode cX8_hold 23 = .ok (.getfield 46, 3) := by decide +kernel
theorem dX8_hold_26 : decode cX8_hold 26 = .ok (.iload_n 1, 1) := by decide +kernel
theorem dX8_hold_27 : decode cX8_hold 27 = .ok (.iconst 1, 1) := by decide +kernel
theorem dX8_hold_28 : decode cX8_hold 28 = .ok (.iastore, 1) := by decide +kernel
theorem dX8_hold_29 : decode cX8_hold 29 = .ok (.iconst 0, 1) := by decide +kernel
theorem dX8_hold_30 : decode cX8_hold 30 = .ok (.istore 4, 2) := by decide +kernel
theorem dX8_hold_32 : decode cX8_hold 32 = .ok (.iload 4, 2) := by decide +kernel
theorem dX8_hold_34 : decode cX8_hold 34 = .ok (.bipush 80, 2) := by decide +kernel
theorem dX8_hold_36 : decode cX8_hold 36 = .ok (.if_icmp .ge 29, 3) := by decide +kernel
theorem dX8_hold_39 : decode cX8_hold 39 = .ok (.aload_n 0, 1) := by decide +kernel
theorem dX8_hold_40 : decode cX8_hold 40 = .ok (.getfield 52, 3) := by decide +kernel
theorem dX8_hold_43 : decode cX8_hold 43 = .ok (.bipush 80, 2) := by decide +kernel
theorem dX8_hold_45 : decode cX8_hold 45 = .ok (.iload_n 1, 1) := by decide +kernel
theorem dX8_hold_46 : decode cX8_hold 46 = .ok (.imul, 1) := by decide +kernel
theorem dX8_hold_47 : decode cX8_hold 47 = .ok (.iload 4, 2) := by decide +kernel
theorem dX8_hold_49 : decode cX8_hold 49 = .ok (.iadd, 1) := by decide +kernel
theorem dX8_hold_50 : decode cX8_hold 50 = .ok (.aload_n 0, 1) := by decide +kernel
theorem dX8_hold_51 : decode cX8_hold 51 = .ok (.iload_n 2, 1) := by decide +kernel
theorem dX8_hold_52 : decode cX8_hold 52 = .ok (.iload_n 3, 1) := by decide +kernel
theorem dX8_hold_53 : decode cX8_hold 53 = .ok (.iload 4, 2) := by decide +kernel
theorem dX8_hold_55 : decode cX8_hold 55 = .ok (.invokevirtual 113, 3) := by decide +kernel
theorem dX8_hold_58 : decode cX8_hold 58 = .ok (.iastore, 1) := by decide +kernel
theorem dX8_hold_59 : decode cX8_hold 59 = .ok (.iinc 4 1, 3) := by decide +kernel
theorem dX8_hold_62 : decode cX8_hold 62 = .ok (.goto (-30), 3) := by decide +kernel
theorem dX8_hold_65 : decode cX8_hold 65 = .ok (.aload_n 0, 1) := by decide +kernel
theorem dX8_hold_66 : decode cX8_hold 66 = .ok (.iload_n 2, 1) := by decide +kernel
theorem dX8_hold_67 : decode cX8_hold 67 = .ok (.iload_n 3, 1) := by decide +kernel
theorem dX8_hold_68 : decode cX8_hold 68 = .ok (.invokevirtual 125, 3) := by decide +kernel
theorem dX8_hold_71 : decode cX8_hold 71 = .ok (.ireturn, 1) := by decide +kernel
theorem dX8_heldLength_0 : decode cX8_heldLength 0 = .ok (.iconst 0, 1) := by decide +kernel
theorem dX8_heldLength_1 : decode cX8_heldLength 1 = .ok (.istore_n 2, 1) := by decide +kernel
theorem dX8_heldLength_2 : decode cX8_heldLength 2 = .ok (.iconst 0, 1) := by decide +kernel
theorem dX8_heldLength_3 : decode cX8_heldLength 3 = .ok (.istore_n 3, 1) := by decide +kernel
theorem dX8_heldLength_4 : decode cX8_heldLength 4 = .ok (.iload_n 3, 1) := by decide +kernel
theorem dX8_heldLength_5 : decode cX8_heldLength 5 = .ok (.bipush 80, 2) := by decide +kernel
theorem dX8_heldLength_7 : decode cX8_heldLength 7 = .ok (.if_icmp .ge 31, 3) := by decide +kernel
theorem dX8_heldLength_10 : decode cX8_heldLength 10 = .ok (.iload_n 2, 1) := by decide +kernel
theorem dX8_heldLength_11 : decode cX8_heldLength 11 = .ok (.aload_n 0, 1) := by decide +kernel
theorem dX8_heldLength_12 : decode cX8_heldLength 12 = .ok (.getfield 52, 3) := by decide +kernel
theorem dX8_heldLength_15 : decode cX8_heldLength 15 = .ok (.bipush 80, 2) := by decide +kernel
theorem dX8_heldLength_17 : decode cX8_heldLength 17 = .ok (.iload_n 1, 1) := by decide +kernel
theorem dX8_heldLength_18 : decode cX8_heldLength 18 = .ok (.imul, 1) := by decide +kernel
theorem dX8_heldLength_19 : decode cX8_heldLength 19 = .ok (.iload_n 3, 1) := by decide +kernel
theorem dX8_heldLength_20 : decode cX8_heldLength 20 = .ok (.iadd, 1) := by decide +kernel
theorem dX8_heldLength_21 : decode cX8_heldLength 21 = .ok (.iaload, 1) := by decide +kernel
theorem dX8_heldLength_22 : decode cX8_heldLength 22 = .ok (.ifCond .le 7, 3) := by decide +kernel
theorem dX8_heldLength_25 : decode cX8_heldLength 25 = .ok (.iconst 1, 1) := by decide +kernel
theorem dX8_heldLength_26 : decode cX8_heldLength 26 = .ok (.goto 4, 3) := by decide +kernel
theorem dX8_heldLength_29 : decode cX8_heldLength 29 = .ok (.iconst 0, 1) := by decide +kernel
theorem dX8_heldLength_30 : decode cX8_heldLength 30 = .ok (.iadd, 1) := by decide +kernel
theorem dX8_heldLength_31 : decode cX8_heldLength 31 = .ok (.istore_n 2, 1) := by decide +kernel
theorem dX8_heldLength_32 : decode cX8_heldLength 32 = .ok (.iinc 3 1, 3) := by decide +kernel
theorem dX8_heldLength_35 : decode cX8_heldLength 35 = .ok (.goto (-31), 3) := by decide +kernel
theorem dX8_heldLength_38 : decode cX8_heldLength 38 = .ok (.iload_n 2, 1) := by decide +kernel
theorem dX8_heldLength_39 : decode cX8_heldLength 39 = .ok (.ireturn, 1) := by decide +kernel
theorem dX8_drop_0 : decode cX8_drop 0 = .ok (.iload_n 1, 1) := by decide +kernel
theorem dX8_drop_1 : decode cX8_drop 1 = .ok (.invokestatic 181, 3) := by decide +kernel
theorem dX8_drop_4 : decode cX8_drop 4 = .ok (.ifCond .ne 5, 3) := by decide +kernel
theorem dX8_drop_7 : decode cX8_drop 7 = .ok (.iconst (-1), 1) := by decide +kernel
theorem dX8_drop_8 : decode cX8_drop 8 = .ok (.ireturn, 1) := by decide +kernel
theorem dX8_drop_9 : decode cX8_drop 9 = .ok (.aload_n 0, 1) := by decide +kernel
theorem dX8_drop_10 : decode cX8_drop 10 = .ok (.getfield 46, 3) := by decide +kernel
theorem dX8_drop_13 : decode cX8_drop 13 = .ok (.iload_n 1, 1) := by decide +kernel
theorem dX8_drop_14 : decode cX8_drop 14 = .ok (.iaload, 1) := by decide +kernel
theorem dX8_drop_15 : decode cX8_drop 15 = .ok (.ifCond .ne 7, 3) := by decide +kernel
theorem dX8_drop_18 : decode cX8_drop 18 = .ok (.iconst 0, 1) := by decide +kernel
theorem dX8_drop_19 : decode cX8_drop 19 = .ok (.goto 31, 3) := by decide +kernel
theorem dX8_drop_22 : decode cX8_drop 22 = .ok (.aload_n 0, 1) := by decide +kernel
theorem dX8_drop_23 : decode cX8_drop 23 = .ok (.getfield 46, 3) := by decide +kernel
theorem dX8_drop_26 : decode cX8_drop 26 = .ok (.iload_n 1, 1) := by decide +kernel
theorem dX8_drop_27 : decode cX8_drop 27 = .ok (.iaload, 1) := by decide +kernel
theorem dX8_drop_28 : decode cX8_drop 28 = .ok (.iconst 2, 1) := by decide +kernel
theorem dX8_drop_29 : decode cX8_drop 29 = .ok (.if_icmp .ne 7, 3) := by decide +kernel
theorem dX8_drop_32 : decode cX8_drop 32 = .ok (.iconst 3, 1) := by decide +kernel
theorem dX8_drop_33 : decode cX8_drop 33 = .ok (.goto 17, 3) := by decide +kernel
theorem dX8_drop_36 : decode cX8_drop 36 = .ok (.aload_n 0, 1) := by decide +kernel
theorem dX8_drop_37 : decode cX8_drop 37 = .ok (.iload_n 1, 1) := by decide +kernel
theorem dX8_drop_38 : decode cX8_drop 38 = .ok (.invokevirtual 184, 3) := by decide +kernel
theorem dX8_drop_41 : decode cX8_drop 41 = .ok (.iconst 1, 1) := by decide +kernel
theorem dX8_drop_42 : decode cX8_drop 42 = .ok (.if_icmp .le 7, 3) := by decide +kernel
theorem dX8_drop_45 : decode cX8_drop 45 = .ok (.iconst 2, 1) := by decide +kernel
theorem dX8_drop_46 : decode cX8_drop 46 = .ok (.goto 4, 3) := by decide +kernel
theorem dX8_drop_49 : decode cX8_drop 49 = .ok (.iconst 1, 1) := by decide +kernel
theorem dX8_drop_50 : decode cX8_drop 50 = .ok (.istore_n 2, 1) := by decide +kernel
theorem dX8_drop_51 : decode cX8_drop 51 = .ok (.aload_n 0, 1) := by decide +kernel
theorem dX8_drop_52 : decode cX8_drop 52 = .ok (.getfield 46, 3) := by decide +kernel
theorem dX8_drop_55 : decode cX8_drop 55 = .ok (.iload_n 1, 1) := by decide +kernel
theorem dX8_drop_56 : decode cX8_drop 56 = .ok (.iconst 0, 1) := by decide +kernel
theorem dX8_drop_57 : decode cX8_drop 57 = .ok (.iastore, 1) := by decide +kernel
theorem dX8_drop_58 : decode cX8_drop 58 = .ok (.iload_n 2, 1) := by decide +kernel
theorem dX8_drop_59 : decode cX8_drop 59 = .ok (.ireturn, 1) := by decide +kernel
theorem dX8_taken_0 : decode cX8_taken 0 = .ok (.iload_n 1, 1) := by decide +kernel
theorem dX8_taken_1 : decode cX8_taken 1 = .ok (.invokestatic 181, 3) := by decide +kernel
theorem dX8_taken_4 : decode cX8_taken 4 = .ok (.ifCond .eq 15, 3) := by decide +kernel
theorem dX8_taken_7 : decode cX8_taken 7 = .ok (.iload_n 2, 1) := by decide +kernel
theorem dX8_taken_8 : decode cX8_taken 8 = .ok (.i2l, 1) := by decide +kernel
theorem dX8_taken_9 : decode cX8_taken 9 = .ok (.lconst 0, 1) := by decide +kernel
theorem dX8_taken_10 : decode cX8_taken 10 = .ok (.ldc2_w 104, 3) := by decide +kernel
theorem dX8_taken_13 : decode cX8_taken 13 = .ok (.invokestatic 58, 3) := by decide +kernel
theorem dX8_taken_16 : decode cX8_taken 16 = .ok (.ifCond .ne 5, 3) := by decide +kernel
theorem dX8_taken_19 : decode cX8_taken 19 = .ok (.iconst (-1), 1) := by decide +kernel
theorem dX8_taken_20 : decode cX8_taken 20 = .ok (.ireturn, 1) := by decide +kernel
theorem dX8_taken_21 : decode cX8_taken 21 = .ok (.aload_n 0, 1) := by decide +kernel
theorem dX8_taken_22 : decode cX8_taken 22 = .ok (.getfield 46, 3) := by decide +kernel
theorem dX8_taken_25 : decode cX8_taken 25 = .ok (.iload_n 1, 1) := by decide +kernel
theorem dX8_taken_26 : decode cX8_taken 26 = .ok (.iaload, 1) := by decide +kernel
theorem dX8_taken_27 : decode cX8_taken 27 = .ok (.ifCond .ne 6, 3) := by decide +kernel
theorem dX8_taken_30 : decode cX8_taken 30 = .ok (.bipush (-11), 2) := by decide +kernel
theorem dX8_taken_32 : decode cX8_taken 32 = .ok (.ireturn, 1) := by decide +kernel
theorem dX8_taken_33 : decode cX8_taken 33 = .ok (.aload_n 0, 1) := by decide +kernel
theorem dX8_taken_34 : decode cX8_taken 34 = .ok (.getfield 46, 3) := by decide +kernel
theorem dX8_taken_37 : decode cX8_taken 37 = .ok (.iload_n 1, 1) := by decide +kernel
theorem dX8_taken_38 : decode cX8_taken 38 = .ok (.iaload, 1) := by decide +kernel
theorem dX8_taken_39 : decode cX8_taken 39 = .ok (.iconst 2, 1) := by decide +kernel
theorem dX8_taken_40 : decode cX8_taken 40 = .ok (.if_icmp .eq 34, 3) := by decide +kernel
theorem dX8_taken_43 : decode cX8_taken 43 = .ok (.iload_n 2, 1) := by decide +kernel
theorem dX8_taken_44 : decode cX8_taken 44 = .ok (.ifCond .le 33, 3) := by decide +kernel
theorem dX8_taken_47 : decode cX8_taken 47 = .ok (.aload_n 0, 1) := by decide +kernel
theorem dX8_taken_48 : decode cX8_taken 48 = .ok (.iload_n 1, 1) := by decide +kernel
theorem dX8_taken_49 : decode cX8_taken 49 = .ok (.invokevirtual 184, 3) := by decide +kernel
theorem dX8_taken_52 : decode cX8_taken 52 = .ok (.iconst 1, 1) := by decide +kernel
theorem dX8_taken_53 : decode cX8_taken 53 = .ok (.if_icmp .le 7, 3) := by decide +kernel
theorem dX8_taken_56 : decode cX8_taken 56 = .ok (.iconst 1, 1) := by decide +kernel
theorem dX8_taken_57 : decode cX8_taken 57 = .ok (.goto 4, 3) := by decide +kernel
theorem dX8_taken_60 : decode cX8_taken 60 = .ok (.iconst 0, 1) := by decide +kernel
theorem dX8_taken_61 : decode cX8_taken 61 = .ok (.iload_n 2, 1) := by decide +kernel
theorem dX8_taken_62 : decode cX8_taken 62 = .ok (.iconst 2, 1) := by decide +kernel
theorem dX8_taken_63 : decode cX8_taken 63 = .ok (.if_icmp .ne 7, 3) := by decide +kernel
theorem dX8_taken_66 : decode cX8_taken 66 = .ok (.iconst 1, 1) := by decide +kernel
theorem dX8_taken_67 : decode cX8_taken 67 = .ok (.goto 4, 3) := by decide +kernel
theorem dX8_taken_70 : decode cX8_taken 70 = .ok (.iconst 0, 1) := by decide +kernel
theorem dX8_taken_71 : decode cX8_taken 71 = .ok (.if_icmp .eq 6, 3) := by decide +kernel
theorem dX8_taken_74 : decode cX8_taken 74 = .ok (.bipush (-12), 2) := by decide +kernel
theorem dX8_taken_76 : decode cX8_taken 76 = .ok (.ireturn, 1) := by decide +kernel
theorem dX8_taken_77 : decode cX8_taken 77 = .ok (.iload_n 2, 1) := by decide +kernel
theorem dX8_taken_78 : decode cX8_taken 78 = .ok (.ifCond .le 26, 3) := by decide +kernel
theorem dX8_taken_81 : decode cX8_taken 81 = .ok (.iload_n 2, 1) := by decide +kernel
theorem dX8_taken_82 : decode cX8_taken 82 = .ok (.iconst 1, 1) := by decide +kernel
theorem dX8_taken_83 : decode cX8_taken 83 = .ok (.if_icmp .ne 15, 3) := by decide +kernel
theorem dX8_taken_86 : decode cX8_taken 86 = .ok (.aload_n 0, 1) := by decide +kernel
theorem dX8_taken_87 : decode cX8_taken 87 = .ok (.getfield 52, 3) := by decide +kernel
theorem dX8_taken_90 : decode cX8_taken 90 = .ok (.bipush 80, 2) := by decide +kernel
theorem dX8_taken_92 : decode cX8_taken 92 = .ok (.iload_n 1, 1) := by decide +kernel
theorem dX8_taken_93 : decode cX8_taken 93 = .ok (.imul, 1) := by decide +kernel
theorem dX8_taken_94 : decode cX8_taken 94 = .ok (.iaload, 1) := by decide +kernel
theorem dX8_taken_95 : decode cX8_taken 95 = .ok (.goto 8, 3) := by decide +kernel
theorem dX8_taken_98 : decode cX8_taken 98 = .ok (.aload_n 0, 1) := by decide +kernel
theorem dX8_taken_99 : decode cX8_taken 99 = .ok (.iload_n 1, 1) := by decide +kernel
theorem dX8_taken_100 : decode cX8_taken 100 = .ok (.invokevirtual 184, 3) := by decide +kernel
theorem dX8_taken_103 : decode cX8_taken 103 = .ok (.ireturn, 1) := by decide +kernel
theorem dX8_taken_104 : decode cX8_taken 104 = .ok (.iconst 0, 1) := by decide +kernel
theorem dX8_taken_105 : decode cX8_taken 105 = .ok (.istore_n 3, 1) := by decide +kernel
theorem dX8_taken_106 : decode cX8_taken 106 = .ok (.iconst 0, 1) := by decide +kernel
theorem dX8_taken_107 : decode cX8_taken 107 = .ok (.istore 4, 2) := by decide +kernel
theorem dX8_taken_109 : decode cX8_taken 109 = .ok (.iload 4, 2) := by decide +kernel
theorem dX8_taken_111 : decode cX8_taken 111 = .ok (.bipush 80, 2) := by decide +kernel
theorem dX8_taken_113 : decode cX8_taken 113 = .ok (.if_icmp .ge 24, 3) := by decide +kernel
theorem dX8_taken_116 : decode cX8_taken 116 = .ok (.iload_n 3, 1) := by decide +kernel
theorem dX8_taken_117 : decode cX8_taken 117 = .ok (.aload_n 0, 1) := by decide +kernel
theorem dX8_taken_118 : decode cX8_taken 118 = .ok (.getfield 52, 3) := by decide +kernel
theorem dX8_taken_121 : decode cX8_taken 121 = .ok (.bipush 80, 2) := by decide +kernel
theorem dX8_taken_123 : decode cX8_taken 123 = .ok (.iload_n 1, 1) := by decide +kernel
theorem dX8_taken_124 : decode cX8_taken 124 = .ok (.imul, 1) := by decide +kernel
theorem dX8_taken_125 : decode cX8_taken 125 = .ok (.iload 4, 2) := by decide +kernel
theorem dX8_taken_127 : decode cX8_taken 127 = .ok (.iadd, 1) := by decide +kernel
theorem dX8_taken_128 : decode cX8_taken 128 = .ok (.iaload, 1) := by decide +kernel
theorem dX8_taken_129 : decode cX8_taken 129 = .ok (.iadd, 1) := by decide +kernel
theorem dX8_taken_130 : decode cX8_taken 130 = .ok (.istore_n 3, 1) := by decide +kernel
theorem dX8_taken_131 : decode cX8_taken 131 = .ok (.iinc 4 1, 3) := by decide +kernel
theorem dX8_taken_134 : decode cX8_taken 134 = .ok (.goto (-25), 3) := by decide +kernel
theorem dX8_taken_137 : decode cX8_taken 137 = .ok (.iload_n 3, 1) := by decide +kernel
theorem dX8_taken_138 : decode cX8_taken 138 = .ok (.ireturn, 1) := by decide +kernel
theorem dX8_was_0 : decode cX8_was 0 = .ok (.iload_n 1, 1) := by decide +kernel
theorem dX8_was_1 : decode cX8_was 1 = .ok (.invokestatic 181, 3) := by decide +kernel
theorem dX8_was_4 : decode cX8_was 4 = .ok (.ifCond .eq 15, 3) := by decide +kernel
theorem dX8_was_7 : decode cX8_was 7 = .ok (.iload_n 2, 1) := by decide +kernel
theorem dX8_was_8 : decode cX8_was 8 = .ok (.i2l, 1) := by decide +kernel
theorem dX8_was_9 : decode cX8_was 9 = .ok (.lconst 0, 1) := by decide +kernel
theorem dX8_was_10 : decode cX8_was 10 = .ok (.ldc2_w 120, 3) := by decide +kernel
theorem dX8_was_13 : decode cX8_was 13 = .ok (.invokestatic 58, 3) := by decide +kernel
theorem dX8_was_16 : decode cX8_was 16 = .ok (.ifCond .ne 5, 3) := by decide +kernel
theorem dX8_was_19 : decode cX8_was 19 = .ok (.iconst (-1), 1) := by decide +kernel
theorem dX8_was_20 : decode cX8_was 20 = .ok (.ireturn, 1) := by decide +kernel
theorem dX8_was_21 : decode cX8_was 21 = .ok (.aload_n 0, 1) := by decide +kernel
theorem dX8_was_22 : decode cX8_was 22 = .ok (.getfield 46, 3) := by decide +kernel
theorem dX8_was_25 : decode cX8_was 25 = .ok (.iload_n 1, 1) := by decide +kernel
theorem dX8_was_26 : decode cX8_was 26 = .ok (.iaload, 1) := by decide +kernel
theorem dX8_was_27 : decode cX8_was 27 = .ok (.ifCond .ne 6, 3) := by decide +kernel
theorem dX8_was_30 : decode cX8_was 30 = .ok (.bipush (-11), 2) := by decide +kernel
theorem dX8_was_32 : decode cX8_was 32 = .ok (.ireturn, 1) := by decide +kernel
theorem dX8_was_33 : decode cX8_was 33 = .ok (.aload_n 0, 1) := by decide +kernel
theorem dX8_was_34 : decode cX8_was 34 = .ok (.getfield 46, 3) := by decide +kernel
theorem dX8_was_37 : decode cX8_was 37 = .ok (.iload_n 1, 1) := by decide +kernel
theorem dX8_was_38 : decode cX8_was 38 = .ok (.iaload, 1) := by decide +kernel
theorem dX8_was_39 : decode cX8_was 39 = .ok (.iconst 2, 1) := by decide +kernel
theorem dX8_was_40 : decode cX8_was 40 = .ok (.if_icmp .ne 6, 3) := by decide +kernel
theorem dX8_was_43 : decode cX8_was 43 = .ok (.bipush (-12), 2) := by decide +kernel
theorem dX8_was_45 : decode cX8_was 45 = .ok (.ireturn, 1) := by decide +kernel
theorem dX8_was_46 : decode cX8_was 46 = .ok (.iload_n 2, 1) := by decide +kernel
theorem dX8_was_47 : decode cX8_was 47 = .ok (.bipush 80, 2) := by decide +kernel
theorem dX8_was_49 : decode cX8_was 49 = .ok (.if_icmp .ge 17, 3) := by decide +kernel
theorem dX8_was_52 : decode cX8_was 52 = .ok (.aload_n 0, 1) := by decide +kernel
theorem dX8_was_53 : decode cX8_was 53 = .ok (.getfield 52, 3) := by decide +kernel
theorem dX8_was_56 : decode cX8_was 56 = .ok (.bipush 80, 2) := by decide +kernel
theorem dX8_was_58 : decode cX8_was 58 = .ok (.iload_n 1, 1) := by decide +kernel
theorem dX8_was_59 : decode cX8_was 59 = .ok (.imul, 1) := by decide +kernel
theorem dX8_was_60 : decode cX8_was 60 = .ok (.iload_n 2, 1) := by decide +kernel
theorem dX8_was_61 : decode cX8_was 61 = .ok (.iadd, 1) := by decide +kernel
theorem dX8_was_62 : decode cX8_was 62 = .ok (.iaload, 1) := by decide +kernel
theorem dX8_was_63 : decode cX8_was 63 = .ok (.goto 4, 3) := by decide +kernel
theorem dX8_was_66 : decode cX8_was 66 = .ok (.iconst 0, 1) := by decide +kernel
theorem dX8_was_67 : decode cX8_was 67 = .ok (.ireturn, 1) := by decide +kernel
theorem dX8_row_0 : decode cX8_row 0 = .ok (.iload_n 1, 1) := by decide +kernel
theorem dX8_row_1 : decode cX8_row 1 = .ok (.invokestatic 181, 3) := by decide +kernel
theorem dX8_row_4 : decode cX8_row 4 = .ok (.ifCond .eq 9, 3) := by decide +kernel
theorem dX8_row_7 : decode cX8_row 7 = .ok (.iload_n 2, 1) := by decide +kernel
theorem dX8_row_8 : decode cX8_row 8 = .ok (.bipush 30, 2) := by decide +kernel
theorem dX8_row_10 : decode cX8_row 10 = .ok (.if_icmp .le 5, 3) := by decide +kernel
theorem dX8_row_13 : decode cX8_row 13 = .ok (.iconst (-1), 1) := by decide +kernel
theorem dX8_row_14 : decode cX8_row 14 = .ok (.ireturn, 1) := by decide +kernel
theorem dX8_row_15 : decode cX8_row 15 = .ok (.iload_n 2, 1) := by decide +kernel
theorem dX8_row_16 : decode cX8_row 16 = .ok (.ifCond .ge 6, 3) := by decide +kernel
theorem dX8_row_19 : decode cX8_row 19 = .ok (.bipush (-14), 2) := by decide +kernel
theorem dX8_row_21 : decode cX8_row 21 = .ok (.ireturn, 1) := by decide +kernel
theorem dX8_row_22 : decode cX8_row 22 = .ok (.aload_n 0, 1) := by decide +kernel
theorem dX8_row_23 : decode cX8_row 23 = .ok (.getfield 46, 3) := by decide +kernel
theorem dX8_row_26 : decode cX8_row 26 = .ok (.iload_n 1, 1) := by decide +kernel
theorem dX8_row_27 : decode cX8_row 27 = .ok (.iconst 2, 1) := by decide +kernel
theorem dX8_row_28 : decode cX8_row 28 = .ok (.iastore, 1) := by decide +kernel
theorem dX8_row_29 : decode cX8_row 29 = .ok (.aload_n 0, 1) := by decide +kernel
theorem dX8_row_30 : decode cX8_row 30 = .ok (.getfield 49, 3) := by decide +kernel
theorem dX8_row_33 : decode cX8_row 33 = .ok (.iload_n 1, 1) := by decide +kernel
theorem dX8_row_34 : decode cX8_row 34 = .ok (.iload_n 2, 1) := by decide +kernel
theorem dX8_row_35 : decode cX8_row 35 = .ok (.iastore, 1) := by decide +kernel
theorem dX8_row_36 : decode cX8_row 36 = .ok (.iconst 0, 1) := by decide +kernel
theorem dX8_row_37 : decode cX8_row 37 = .ok (.istore_n 3, 1) := by decide +kernel
theorem dX8_row_38 : decode cX8_row 38 = .ok (.iload_n 3, 1) := by decide +kernel
theorem dX8_row_39 : decode cX8_row 39 = .ok (.bipush 80, 2) := by decide +kernel
theorem dX8_row_41 : decode cX8_row 41 = .ok (.if_icmp .ge 21, 3) := by decide +kernel
theorem dX8_row_44 : decode cX8_row 44 = .ok (.aload_n 0, 1) := by decide +kernel
theorem dX8_row_45 : decode cX8_row 45 = .ok (.getfield 52, 3) := by decide +kernel
theorem dX8_row_48 : decode cX8_row 48 = .ok (.bipush 80, 2) := by decide +kernel
theorem dX8_row_50 : decode cX8_row 50 = .ok (.iload_n 1, 1) := by decide +kernel
theorem dX8_row_51 : decode cX8_row 51 = .ok (.imul, 1) := by decide +kernel
theorem dX8_row_52 : decode cX8_row 52 = .ok (.iload_n 3, 1) := by decide +kernel
theorem dX8_row_53 : decode cX8_row 53 = .ok (.iadd, 1) := by decide +kernel
theorem dX8_row_54 : decode cX8_row 54 = .ok (.iconst 0, 1) := by decide +kernel
theorem dX8_row_55 : decode cX8_row 55 = .ok (.iastore, 1) := by decide +kernel
theorem dX8_row_56 : decode cX8_row 56 = .ok (.iinc 3 1, 3) := by decide +kernel
theorem dX8_row_59 : decode cX8_row 59 = .ok (.goto (-21), 3) := by decide +kernel
theorem dX8_row_62 : decode cX8_row 62 = .ok (.iload_n 2, 1) := by decide +kernel
theorem dX8_row_63 : decode cX8_row 63 = .ok (.ireturn, 1) := by decide +kernel
theorem dX8_rowless_0 : decode cX8_rowless 0 = .ok (.aload_n 0, 1) := by decide +kernel
theorem dX8_rowless_1 : decode cX8_rowless 1 = .ok (.getfield 46, 3) := by decide +kernel
theorem dX8_rowless_4 : decode cX8_rowless 4 = .ok (.iload_n 1, 1) := by decide +kernel
theorem dX8_rowless_5 : decode cX8_rowless 5 = .ok (.iaload, 1) := by decide +kernel
theorem dX8_rowless_6 : decode cX8_rowless 6 = .ok (.ifCond .ne 8, 3) := by decide +kernel
theorem dX8_rowless_9 : decode cX8_rowless 9 = .ok (.bipush (-11), 2) := by decide +kernel
theorem dX8_rowless_11 : decode cX8_rowless 11 = .ok (.goto 19, 3) := by decide +kernel
theorem dX8_rowless_14 : decode cX8_rowless 14 = .ok (.aload_n 0, 1) := by decide +kernel
theorem dX8_rowless_15 : decode cX8_rowless 15 = .ok (.getfield 46, 3) := by decide +kernel
theorem dX8_rowless_18 : decode cX8_rowless 18 = .ok (.iload_n 1, 1) := by decide +kernel
theorem dX8_rowless_19 : decode cX8_rowless 19 = .ok (.iaload, 1) := by decide +kernel
theorem dX8_rowless_20 : decode cX8_rowless 20 = .ok (.iconst 1, 1) := by decide +kernel
theorem dX8_rowless_21 : decode cX8_rowless 21 = .ok (.if_icmp .ne 8, 3) := by decide +kernel
theorem dX8_rowless_24 : decode cX8_rowless 24 = .ok (.bipush (-12), 2) := by decide +kernel
theorem dX8_rowless_26 : decode cX8_rowless 26 = .ok (.goto 4, 3) := by decide +kernel
theorem dX8_rowless_29 : decode cX8_rowless 29 = .ok (.iconst 0, 1) := by decide +kernel
theorem dX8_rowless_30 : decode cX8_rowless 30 = .ok (.ireturn, 1) := by decide +kernel
theorem dX8_set_0 : decode cX8_set 0 = .ok (.iload_n 1, 1) := by decide +kernel
theorem dX8_set_1 : decode cX8_set 1 = .ok (.invokestatic 181, 3) := by decide +kernel
theorem dX8_set_4 : decode cX8_set 4 = .ok (.ifCond .ne 5, 3) := by decide +kernel
theorem dX8_set_7 : decode cX8_set 7 = .ok (.iconst (-1), 1) := by decide +kernel
theorem dX8_set_8 : decode cX8_set 8 = .ok (.ireturn, 1) := by decide +kernel
theorem dX8_set_9 : decode cX8_set 9 = .ok (.aload_n 0, 1) := by decide +kernel
theorem dX8_set_10 : decode cX8_set 10 = .ok (.iload_n 1, 1) := by decide +kernel
theorem dX8_set_11 : decode cX8_set 11 = .ok (.invokevirtual 187, 3) := by decide +kernel
theorem dX8_set_14 : decode cX8_set 14 = .ok (.ifCond .eq 9, 3) := by decide +kernel
theorem dX8_set_17 : decode cX8_set 17 = .ok (.aload_n 0, 1) := by decide +kernel
theorem dX8_set_18 : decode cX8_set 18 = .ok (.iload_n 1, 1) := by decide +kernel
theorem dX8_set_19 : decode cX8_set 19 = .ok (.invokevirtual 187, 3) := by decide +kernel
theorem dX8_set_22 : decode cX8_set 22 = .ok (.ireturn, 1) := by decide +kernel
theorem dX8_set_23 : decode cX8_set 23 = .ok (.iload_n 2, 1) := by decide +kernel
theorem dX8_set_24 : decode cX8_set 24 = .ok (.i2l, 1) := by decide +kernel
theorem dX8_set_25 : decode cX8_set 25 = .ok (.lconst 0, 1) := by decide +kernel
theorem dX8_set_26 : decode cX8_set 26 = .ok (.aload_n 0, 1) := by decide +kernel
theorem dX8_set_27 : decode cX8_set 27 = .ok (.getfield 49, 3) := by decide +kernel
theorem dX8_set_30 : decode cX8_set 30 = .ok (.iload_n 1, 1) := by decide +kernel
theorem dX8_set_31 : decode cX8_set 31 = .ok (.iaload, 1) := by decide +kernel
theorem dX8_set_32 : decode cX8_set 32 = .ok (.iconst 1, 1) := by decide +kernel
theorem dX8_set_33 : decode cX8_set 33 = .ok (.isub, 1) := by decide +kernel
theorem dX8_set_34 : decode cX8_set 34 = .ok (.i2l, 1) := by decide +kernel
theorem dX8_set_35 : decode cX8_set 35 = .ok (.invokestatic 58, 3) := by decide +kernel
theorem dX8_set_38 : decode cX8_set 38 = .ok (.ifCond .ne 6, 3) := by decide +kernel
theorem dX8_set_41 : decode cX8_set 41 = .ok (.bipush (-13), 2) := by decide +kernel
theorem dX8_set_43 : decode cX8_set 43 = .ok (.ireturn, 1) := by decide +kernel
theorem dX8_set_44 : decode cX8_set 44 = .ok (.aload_n 0, 1) := by decide +kernel
theorem dX8_set_45 : decode cX8_set 45 = .ok (.getfield 52, 3) := by decide +kernel
theorem dX8_set_48 : decode cX8_set 48 = .ok (.bipush 80, 2) := by decide +kernel
theorem dX8_set_50 : decode cX8_set 50 = .ok (.iload_n 1, 1) := by decide +kernel
theorem dX8_set_51 : decode cX8_set 51 = .ok (.imul, 1) := by decide +kernel
theorem dX8_set_52 : decode cX8_set 52 = .ok (.iload_n 2, 1) := by decide +kernel
theorem dX8_set_53 : decode cX8_set 53 = .ok (.iadd, 1) := by decide +kernel
theorem dX8_set_54 : decode cX8_set 54 = .ok (.iload_n 3, 1) := by decide +kernel
theorem dX8_set_55 : decode cX8_set 55 = .ok (.iastore, 1) := by decide +kernel
theorem dX8_set_56 : decode cX8_set 56 = .ok (.iconst 1, 1) := by decide +kernel
theorem dX8_set_57 : decode cX8_set 57 = .ok (.ireturn, 1) := by decide +kernel
theorem dX8_get_0 : decode cX8_get 0 = .ok (.iload_n 1, 1) := by decide +kernel
theorem dX8_get_1 : decode cX8_get 1 = .ok (.invokestatic 181, 3) := by decide +kernel
theorem dX8_get_4 : decode cX8_get 4 = .ok (.ifCond .eq 46, 3) := by decide +kernel
theorem dX8_get_7 : decode cX8_get 7 = .ok (.aload_n 0, 1) := by decide +kernel
theorem dX8_get_8 : decode cX8_get 8 = .ok (.getfield 46, 3) := by decide +kernel
theorem dX8_get_11 : decode cX8_get 11 = .ok (.iload_n 1, 1) := by decide +kernel
theorem dX8_get_12 : decode cX8_get 12 = .ok (.iaload, 1) := by decide +kernel
theorem dX8_get_13 : decode cX8_get 13 = .ok (.iconst 2, 1) := by decide +kernel
theorem dX8_get_14 : decode cX8_get 14 = .ok (.if_icmp .ne 36, 3) := by decide +kernel
theorem dX8_get_17 : decode cX8_get 17 = .ok (.iload_n 2, 1) := by decide +kernel
theorem dX8_get_18 : decode cX8_get 18 = .ok (.i2l, 1) := by decide +kernel
theorem dX8_get_19 : decode cX8_get 19 = .ok (.lconst 0, 1) := by decide +kernel
theorem dX8_get_20 : decode cX8_get 20 = .ok (.aload_n 0, 1) := by decide +kernel
theorem dX8_get_21 : decode cX8_get 21 = .ok (.getfield 49, 3) := by decide +kernel
theorem dX8_get_24 : decode cX8_get 24 = .ok (.iload_n 1, 1) := by decide +kernel
theorem dX8_get_25 : decode cX8_get 25 = .ok (.iaload, 1) := by decide +kernel
theorem dX8_get_26 : decode cX8_get 26 = .ok (.iconst 1, 1) := by decide +kernel
theorem dX8_get_27 : decode cX8_get 27 = .ok (.isub, 1) := by decide +kernel
theorem dX8_get_28 : decode cX8_get 28 = .ok (.i2l, 1) := by decide +kernel
theorem dX8_get_29 : decode cX8_get 29 = .ok (.invokestatic 58, 3) := by decide +kernel
theorem dX8_get_32 : decode cX8_get 32 = .ok (.ifCond .eq 18, 3) := by decide +kernel
theorem dX8_get_35 : decode cX8_get 35 = .ok (.aload_n 0, 1) := by decide +kernel
theorem dX8_get_36 : decode cX8_get 36 = .ok (.getfield 52, 3) := by decide +kernel
theorem dX8_get_39 : decode cX8_get 39 = .ok (.bipush 80, 2) := by decide +kernel
theorem dX8_get_41 : decode cX8_get 41 = .ok (.iload_n 1, 1) := by decide +kernel
theorem dX8_get_42 : decode cX8_get 42 = .ok (.imul, 1) := by decide +kernel
theorem dX8_get_43 : decode cX8_get 43 = .ok (.iload_n 2, 1) := by decide +kernel
theorem dX8_get_44 : decode cX8_get 44 = .ok (.iadd, 1) := by decide +kernel
theorem dX8_get_45 : decode cX8_get 45 = .ok (.iaload, 1) := by decide +kernel
theorem dX8_get_46 : decode cX8_get 46 = .ok (.i2l, 1) := by decide +kernel
theorem dX8_get_47 : decode cX8_get 47 = .ok (.goto 6, 3) := by decide +kernel
theorem dX8_get_50 : decode cX8_get 50 = .ok (.ldc2_w 134, 3) := by decide +kernel
theorem dX8_get_53 : decode cX8_get 53 = .ok (.lreturn, 1) := by decide +kernel
theorem dX8_judge_0 : decode cX8_judge 0 = .ok (.iload_n 1, 1) := by decide +kernel
theorem dX8_judge_1 : decode cX8_judge 1 = .ok (.invokestatic 181, 3) := by decide +kernel
theorem dX8_judge_4 : decode cX8_judge 4 = .ok (.ifCond .eq 12, 3) := by decide +kernel
theorem dX8_judge_7 : decode cX8_judge 7 = .ok (.aload_n 0, 1) := by decide +kernel
theorem dX8_judge_8 : decode cX8_judge 8 = .ok (.iload_n 2, 1) := by decide +kernel
theorem dX8_judge_9 : decode cX8_judge 9 = .ok (.iload_n 3, 1) := by decide +kernel
theorem dX8_judge_10 : decode cX8_judge 10 = .ok (.invokevirtual 117, 3) := by decide +kernel
theorem dX8_judge_13 : decode cX8_judge 13 = .ok (.ifCond .ne 5, 3) := by decide +kernel
theorem dX8_judge_16 : decode cX8_judge 16 = .ok (.iconst (-1), 1) := by decide +kernel
theorem dX8_judge_17 : decode cX8_judge 17 = .ok (.ireturn, 1) := by decide +kernel
theorem dX8_judge_18 : decode cX8_judge 18 = .ok (.aload_n 0, 1) := by decide +kernel
theorem dX8_judge_19 : decode cX8_judge 19 = .ok (.iload_n 1, 1) := by decide +kernel
theorem dX8_judge_20 : decode cX8_judge 20 = .ok (.invokevirtual 187, 3) := by decide +kernel
theorem dX8_judge_23 : decode cX8_judge 23 = .ok (.ifCond .eq 9, 3) := by decide +kernel
theorem dX8_judge_26 : decode cX8_judge 26 = .ok (.aload_n 0, 1) := by decide +kernel
theorem dX8_judge_27 : decode cX8_judge 27 = .ok (.iload_n 1, 1) := by decide +kernel
theorem dX8_judge_28 : decode cX8_judge 28 = .ok (.invokevirtual 187, 3) := by decide +kernel
theorem dX8_judge_31 : decode cX8_judge 31 = .ok (.ireturn, 1) := by decide +kernel
theorem dX8_judge_32 : decode cX8_judge 32 = .ok (.aload_n 0, 1) := by decide +kernel
theorem dX8_judge_33 : decode cX8_judge 33 = .ok (.invokevirtual 122, 3) := by decide +kernel
theorem dX8_judge_36 : decode cX8_judge 36 = .ok (.iconst 0, 1) := by decide +kernel
theorem dX8_judge_37 : decode cX8_judge 37 = .ok (.istore 4, 2) := by decide +kernel
theorem dX8_judge_39 : decode cX8_judge 39 = .ok (.iload 4, 2) := by decide +kernel
theorem dX8_judge_41 : decode cX8_judge 41 = .ok (.bipush 80, 2) := by decide +kernel
theorem dX8_judge_43 : decode cX8_judge 43 = .ok (.if_icmp .ge 35, 3) := by decide +kernel
theorem dX8_judge_46 : decode cX8_judge 46 = .ok (.aload_n 0, 1) := by decide +kernel
theorem dX8_judge_47 : decode cX8_judge 47 = .ok (.getfield 52, 3) := by decide +kernel
theorem dX8_judge_50 : decode cX8_judge 50 = .ok (.bipush 80, 2) := by decide +kernel
theorem dX8_judge_52 : decode cX8_judge 52 = .ok (.iload_n 1, 1) := by decide +kernel
theorem dX8_judge_53 : decode cX8_judge 53 = .ok (.imul, 1) := by decide +kernel
theorem dX8_judge_54 : decode cX8_judge 54 = .ok (.iload 4, 2) := by decide +kernel
theorem dX8_judge_56 : decode cX8_judge 56 = .ok (.iadd, 1) := by decide +kernel
theorem dX8_judge_57 : decode cX8_judge 57 = .ok (.iaload, 1) := by decide +kernel
theorem dX8_judge_58 : decode cX8_judge 58 = .ok (.aload_n 0, 1) := by decide +kernel
theorem dX8_judge_59 : decode cX8_judge 59 = .ok (.iload_n 2, 1) := by decide +kernel
theorem dX8_judge_60 : decode cX8_judge 60 = .ok (.iload_n 3, 1) := by decide +kernel
theorem dX8_judge_61 : decode cX8_judge 61 = .ok (.iload 4, 2) := by decide +kernel
theorem dX8_judge_63 : decode cX8_judge 63 = .ok (.invokevirtual 113, 3) := by decide +kernel
theorem dX8_judge_66 : decode cX8_judge 66 = .ok (.if_icmp .eq 6, 3) := by decide +kernel
theorem dX8_judge_69 : decode cX8_judge 69 = .ok (.iload 4, 2) := by decide +kernel
theorem dX8_judge_71 : decode cX8_judge 71 = .ok (.ireturn, 1) := by decide +kernel
theorem dX8_judge_72 : decode cX8_judge 72 = .ok (.iinc 4 1, 3) := by decide +kernel
theorem dX8_judge_75 : decode cX8_judge 75 = .ok (.goto (-36), 3) := by decide +kernel
theorem dX8_judge_78 : decode cX8_judge 78 = .ok (.bipush (-2), 2) := by decide +kernel
theorem dX8_judge_80 : decode cX8_judge 80 = .ok (.ireturn, 1) := by decide +kernel
theorem dX8_image_0 : decode cX8_image 0 = .ok (.aload_n 0, 1) := by decide +kernel
theorem dX8_image_1 : decode cX8_image 1 = .ok (.aload_n 0, 1) := by decide +kernel
theorem dX8_image_2 : decode cX8_image 2 = .ok (.getfield 55, 3) := by decide +kernel
theorem dX8_image_5 : decode cX8_image 5 = .ok (.iconst 0, 1) := by decide +kernel
theorem dX8_image_6 : decode cX8_image 6 = .ok (.invokevirtual 68, 3) := by decide +kernel
theorem dX8_image_9 : decode cX8_image 9 = .ok (.aload_n 0, 1) := by decide +kernel
theorem dX8_image_10 : decode cX8_image 10 = .ok (.iconst 1, 1) := by decide +kernel
theorem dX8_image_11 : decode cX8_image 11 = .ok (.putfield 190, 3) := by decide +kernel
theorem dX8_image_14 : decode cX8_image 14 = .ok (.aload_n 0, 1) := by decide +kernel
theorem dX8_image_15 : decode cX8_image 15 = .ok (.invokevirtual 100, 3) := by decide +kernel
theorem dX8_image_18 : decode cX8_image 18 = .ok (.ireturn, 1) := by decide +kernel
theorem dX8_restore_0 : decode cX8_restore 0 = .ok (.aload_n 0, 1) := by decide +kernel
theorem dX8_restore_1 : decode cX8_restore 1 = .ok (.getfield 190, 3) := by decide +kernel
theorem dX8_restore_4 : decode cX8_restore 4 = .ok (.ifCond .ne 6, 3) := by decide +kernel
theorem dX8_restore_7 : decode cX8_restore 7 = .ok (.bipush (-5), 2) := by decide +kernel
theorem dX8_restore_9 : decode cX8_restore 9 = .ok (.ireturn, 1) := by decide +kernel
theorem dX8_restore_10 : decode cX8_restore 10 = .ok (.aload_n 0, 1) := by decide +kernel
theorem dX8_restore_11 : decode cX8_restore 11 = .ok (.aload_n 0, 1) := by decide +kernel
theorem dX8_restore_12 : decode cX8_restore 12 = .ok (.getfield 55, 3) := by decide +kernel
theorem dX8_restore_15 : decode cX8_restore 15 = .ok (.iconst 0, 1) := by decide +kernel
theorem dX8_restore_16 : decode cX8_restore 16 = .ok (.invokevirtual 75, 3) := by decide +kernel
theorem dX8_restore_19 : decode cX8_restore 19 = .ok (.aload_n 0, 1) := by decide +kernel
theorem dX8_restore_20 : decode cX8_restore 20 = .ok (.iconst 0, 1) := by decide +kernel
theorem dX8_restore_21 : decode cX8_restore 21 = .ok (.putfield 65, 3) := by decide +kernel
theorem dX8_restore_24 : decode cX8_restore 24 = .ok (.aload_n 0, 1) := by decide +kernel
theorem dX8_restore_25 : decode cX8_restore 25 = .ok (.iconst 0, 1) := by decide +kernel
theorem dX8_restore_26 : decode cX8_restore 26 = .ok (.putfield 72, 3) := by decide +kernel
theorem dX8_restore_29 : decode cX8_restore 29 = .ok (.aload_n 0, 1) := by decide +kernel
theorem dX8_restore_30 : decode cX8_restore 30 = .ok (.invokevirtual 100, 3) := by decide +kernel
theorem dX8_restore_33 : decode cX8_restore 33 = .ok (.ireturn, 1) := by decide +kernel
theorem dX8_count_0 : decode cX8_count 0 = .ok (.iconst 0, 1) := by decide +kernel
theorem dX8_count_1 : decode cX8_count 1 = .ok (.istore_n 2, 1) := by decide +kernel
theorem dX8_count_2 : decode cX8_count 2 = .ok (.iload_n 1, 1) := by decide +kernel
theorem dX8_count_3 : decode cX8_count 3 = .ok (.tableswitch 96 0 6 #[41, 46, 51, 56, 61, 66, 71], 41) := by decide +kernel
theorem dX8_count_44 : decode cX8_count 44 = .ok (.aload_n 0, 1) := by decide +kernel
theorem dX8_count_45 : decode cX8_count 45 = .ok (.getfield 9, 3) := by decide +kernel
theorem dX8_count_48 : decode cX8_count 48 = .ok (.ireturn, 1) := by decide +kernel
theorem dX8_count_49 : decode cX8_count 49 = .ok (.aload_n 0, 1) := by decide +kernel
theorem dX8_count_50 : decode cX8_count 50 = .ok (.getfield 15, 3) := by decide +kernel
theorem dX8_count_53 : decode cX8_count 53 = .ok (.ireturn, 1) := by decide +kernel
theorem dX8_count_54 : decode cX8_count 54 = .ok (.aload_n 0, 1) := by decide +kernel
theorem dX8_count_55 : decode cX8_count 55 = .ok (.getfield 62, 3) := by decide +kernel
theorem dX8_count_58 : decode cX8_count 58 = .ok (.ireturn, 1) := by decide +kernel
theorem dX8_count_59 : decode cX8_count 59 = .ok (.aload_n 0, 1) := by decide +kernel
theorem dX8_count_60 : decode cX8_count 60 = .ok (.getfield 65, 3) := by decide +kernel
theorem dX8_count_63 : decode cX8_count 63 = .ok (.ireturn, 1) := by decide +kernel
theorem dX8_count_64 : decode cX8_count 64 = .ok (.aload_n 0, 1) := by decide +kernel
theorem dX8_count_65 : decode cX8_count 65 = .ok (.getfield 72, 3) := by decide +kernel
theorem dX8_count_68 : decode cX8_count 68 = .ok (.ireturn, 1) := by decide +kernel
theorem dX8_count_69 : decode cX8_count 69 = .ok (.aload_n 0, 1) := by decide +kernel
theorem dX8_count_70 : decode cX8_count 70 = .ok (.getfield 167, 3) := by decide +kernel
theorem dX8_count_73 : decode cX8_count 73 = .ok (.ireturn, 1) := by decide +kernel
theorem dX8_count_74 : decode cX8_count 74 = .ok (.iconst 0, 1) := by decide +kernel
theorem dX8_count_75 : decode cX8_count 75 = .ok (.istore_n 3, 1) := by decide +kernel
theorem dX8_count_76 : decode cX8_count 76 = .ok (.iload_n 3, 1) := by decide +kernel
theorem dX8_count_77 : decode cX8_count 77 = .ok (.bipush 25, 2) := by decide +kernel
theorem dX8_count_79 : decode cX8_count 79 = .ok (.if_icmp .ge 18, 3) := by decide +kernel
theorem dX8_count_82 : decode cX8_count 82 = .ok (.iload_n 2, 1) := by decide +kernel
theorem dX8_count_83 : decode cX8_count 83 = .ok (.aload_n 0, 1) := by decide +kernel
theorem dX8_count_84 : decode cX8_count 84 = .ok (.getfield 18, 3) := by decide +kernel
theorem dX8_count_87 : decode cX8_count 87 = .ok (.iload_n 3, 1) := by decide +kernel
theorem dX8_count_88 : decode cX8_count 88 = .ok (.iaload, 1) := by decide +kernel
theorem dX8_count_89 : decode cX8_count 89 = .ok (.iadd, 1) := by decide +kernel
theorem dX8_count_90 : decode cX8_count 90 = .ok (.istore_n 2, 1) := by decide +kernel
theorem dX8_count_91 : decode cX8_count 91 = .ok (.iinc 3 1, 3) := by decide +kernel
theorem dX8_count_94 : decode cX8_count 94 = .ok (.goto (-18), 3) := by decide +kernel
theorem dX8_count_97 : decode cX8_count 97 = .ok (.iload_n 2, 1) := by decide +kernel
theorem dX8_count_98 : decode cX8_count 98 = .ok (.ireturn, 1) := by decide +kernel
theorem dX8_count_99 : decode cX8_count 99 = .ok (.iconst (-1), 1) := by decide +kernel
theorem dX8_count_100 : decode cX8_count 100 = .ok (.ireturn, 1) := by decide +kernel
theorem dJ6_bitCount_0f7a4_0 : decode cJ6_bitCount_0f7a4 0 = .ok (.iload_n 0, 1) := by decide +kernel
theorem dJ6_bitCount_0f7a4_1 : decode cJ6_bitCount_0f7a4 1 = .ok (.iload_n 0, 1) := by decide +kernel
theorem dJ6_bitCount_0f7a4_2 : decode cJ6_bitCount_0f7a4 2 = .ok (.iconst 1, 1) := by decide +kernel
theorem dJ6_bitCount_0f7a4_3 : decode cJ6_bitCount_0f7a4 3 = .ok (.iushr, 1) := by decide +kernel
theorem dJ6_bitCount_0f7a4_4 : decode cJ6_bitCount_0f7a4 4 = .ok (.ldc_w 265, 3) := by decide +kernel
theorem dJ6_bitCount_0f7a4_7 : decode cJ6_bitCount_0f7a4 7 = .ok (.iand, 1) := by decide +kernel
theorem dJ6_bitCount_0f7a4_8 : decode cJ6_bitCount_0f7a4 8 = .ok (.isub, 1) := by decide +kernel
theorem dJ6_bitCount_0f7a4_9 : decode cJ6_bitCount_0f7a4 9 = .ok (.istore_n 0, 1) := by decide +kernel
theorem dJ6_bitCount_0f7a4_10 : decode cJ6_bitCount_0f7a4 10 = .ok (.iload_n 0, 1) := by decide +kernel
theorem dJ6_bitCount_0f7a4_11 : decode cJ6_bitCount_0f7a4 11 = .ok (.ldc_w 266, 3) := by decide +kernel
theorem dJ6_bitCount_0f7a4_14 : decode cJ6_bitCount_0f7a4 14 = .ok (.iand, 1) := by decide +kernel
theorem dJ6_bitCount_0f7a4_15 : decode cJ6_bitCount_0f7a4 15 = .ok (.iload_n 0, 1) := by decide +kernel
theorem dJ6_bitCount_0f7a4_16 : decode cJ6_bitCount_0f7a4 16 = .ok (.iconst 2, 1) := by decide +kernel
theorem dJ6_bitCount_0f7a4_17 : decode cJ6_bitCount_0f7a4 17 = .ok (.iushr, 1) := by decide +kernel
theorem dJ6_bitCount_0f7a4_18 : decode cJ6_bitCount_0f7a4 18 = .ok (.ldc_w 266, 3) := by decide +kernel
theorem dJ6_bitCount_0f7a4_21 : decode cJ6_bitCount_0f7a4 21 = .ok (.iand, 1) := by decide +kernel
theorem dJ6_bitCount_0f7a4_22 : decode cJ6_bitCount_0f7a4 22 = .ok (.iadd, 1) := by decide +kernel
theorem dJ6_bitCount_0f7a4_23 : decode cJ6_bitCount_0f7a4 23 = .ok (.istore_n 0, 1) := by decide +kernel
theorem dJ6_bitCount_0f7a4_24 : decode cJ6_bitCount_0f7a4 24 = .ok (.iload_n 0, 1) := by decide +kernel
theorem dJ6_bitCount_0f7a4_25 : decode cJ6_bitCount_0f7a4 25 = .ok (.iload_n 0, 1) := by decide +kernel
theorem dJ6_bitCount_0f7a4_26 : decode cJ6_bitCount_0f7a4 26 = .ok (.iconst 4, 1) := by decide +kernel
theorem dJ6_bitCount_0f7a4_27 : decode cJ6_bitCount_0f7a4 27 = .ok (.iushr, 1) := by decide +kernel
theorem dJ6_bitCount_0f7a4_28 : decode cJ6_bitCount_0f7a4 28 = .ok (.iadd, 1) := by decide +kernel
theorem dJ6_bitCount_0f7a4_29 : decode cJ6_bitCount_0f7a4 29 = .ok (.ldc_w 267, 3) := by decide +kernel
theorem dJ6_bitCount_0f7a4_32 : decode cJ6_bitCount_0f7a4 32 = .ok (.iand, 1) := by decide +kernel
theorem dJ6_bitCount_0f7a4_33 : decode cJ6_bitCount_0f7a4 33 = .ok (.istore_n 0, 1) := by decide +kernel
theorem dJ6_bitCount_0f7a4_34 : decode cJ6_bitCount_0f7a4 34 = .ok (.iload_n 0, 1) := by decide +kernel
theorem dJ6_bitCount_0f7a4_35 : decode cJ6_bitCount_0f7a4 35 = .ok (.iload_n 0, 1) := by decide +kernel
theorem dJ6_bitCount_0f7a4_36 : decode cJ6_bitCount_0f7a4 36 = .ok (.bipush 8, 2) := by decide +kernel
theorem dJ6_bitCount_0f7a4_38 : decode cJ6_bitCount_0f7a4 38 = .ok (.iushr, 1) := by decide +kernel
theorem dJ6_bitCount_0f7a4_39 : decode cJ6_bitCount_0f7a4 39 = .ok (.iadd, 1) := by decide +kernel
theorem dJ6_bitCount_0f7a4_40 : decode cJ6_bitCount_0f7a4 40 = .ok (.istore_n 0, 1) := by decide +kernel
theorem dJ6_bitCount_0f7a4_41 : decode cJ6_bitCount_0f7a4 41 = .ok (.iload_n 0, 1) := by decide +kernel
theorem dJ6_bitCount_0f7a4_42 : decode cJ6_bitCount_0f7a4 42 = .ok (.iload_n 0, 1) := by decide +kernel
theorem dJ6_bitCount_0f7a4_43 : decode cJ6_bitCount_0f7a4 43 = .ok (.bipush 16, 2) := by decide +kernel
theorem dJ6_bitCount_0f7a4_45 : decode cJ6_bitCount_0f7a4 45 = .ok (.iushr, 1) := by decide +kernel
theorem dJ6_bitCount_0f7a4_46 : decode cJ6_bitCount_0f7a4 46 = .ok (.iadd, 1) := by decide +kernel
theorem dJ6_bitCount_0f7a4_47 : decode cJ6_bitCount_0f7a4 47 = .ok (.istore_n 0, 1) := by decide +kernel
theorem dJ6_bitCount_0f7a4_48 : decode cJ6_bitCount_0f7a4 48 = .ok (.iload_n 0, 1) := by decide +kernel
theorem dJ6_bitCount_0f7a4_49 : decode cJ6_bitCount_0f7a4 49 = .ok (.bipush 63, 2) := by decide +kernel
theorem dJ6_bitCount_0f7a4_51 : decode cJ6_bitCount_0f7a4 51 = .ok (.iand, 1) := by decide +kernel
theorem dJ6_bitCount_0f7a4_52 : decode cJ6_bitCount_0f7a4 52 = .ok (.ireturn, 1) := by decide +kernel
theorem dJ9_max_7cf53_0 : decode cJ9_max_7cf53 0 = .ok (.iload_n 0, 1) := by decide +kernel
theorem dJ9_max_7cf53_1 : decode cJ9_max_7cf53 1 = .ok (.iload_n 1, 1) := by decide +kernel
theorem dJ9_max_7cf53_2 : decode cJ9_max_7cf53 2 = .ok (.if_icmp .lt 7, 3) := by decide +kernel
theorem dJ9_max_7cf53_5 : decode cJ9_max_7cf53 5 = .ok (.iload_n 0, 1) := by decide +kernel
theorem dJ9_max_7cf53_6 : decode cJ9_max_7cf53 6 = .ok (.goto 4, 3) := by decide +kernel
theorem dJ9_max_7cf53_9 : decode cJ9_max_7cf53 9 = .ok (.iload_n 1, 1) := by decide +kernel
theorem dJ9_max_7cf53_10 : decode cJ9_max_7cf53 10 = .ok (.ireturn, 1) := by decide +kernel
theorem dJ9_min_7cf53_0 : decode cJ9_min_7cf53 0 = .ok (.iload_n 0, 1) := by decide +kernel
theorem dJ9_min_7cf53_1 : decode cJ9_min_7cf53 1 = .ok (.iload_n 1, 1) := by decide +kernel
theorem dJ9_min_7cf53_2 : decode cJ9_min_7cf53 2 = .ok (.if_icmp .gt 7, 3) := by decide +kernel
theorem dJ9_min_7cf53_5 : decode cJ9_min_7cf53 5 = .ok (.iload_n 0, 1) := by decide +kernel
theorem dJ9_min_7cf53_6 : decode cJ9_min_7cf53 6 = .ok (.goto 4, 3) := by decide +kernel
theorem dJ9_min_7cf53_9 : decode cJ9_min_7cf53 9 = .ok (.iload_n 1, 1) := by decide +kernel
theorem dJ9_min_7cf53_10 : decode cJ9_min_7cf53 10 = .ok (.ireturn, 1) := by decide +kernel
theorem dL_law_0 : decode cL_law 0 = .ok (.new 7, 3) := by decide +kernel
theorem dL_law_3 : decode cL_law 3 = .ok (.dup, 1) := by decide +kernel
theorem dL_law_4 : decode cL_law 4 = .ok (.invokespecial 9, 3) := by decide +kernel
theorem dL_law_7 : decode cL_law 7 = .ok (.astore_n 1, 1) := by decide +kernel
theorem dL_law_8 : decode cL_law 8 = .ok (.new 10, 3) := by decide +kernel
theorem dL_law_11 : decode cL_law 11 = .ok (.dup, 1) := by decide +kernel
theorem dL_law_12 : decode cL_law 12 = .ok (.invokespecial 12, 3) := by decide +kernel
theorem dL_law_15 : decode cL_law 15 = .ok (.astore_n 2, 1) := by decide +kernel
theorem dL_law_16 : decode cL_law 16 = .ok (.iconst 0, 1) := by decide +kernel
theorem dL_law_17 : decode cL_law 17 = .ok (.istore_n 3, 1) := by decide +kernel
theorem dL_law_18 : decode cL_law 18 = .ok (.iload_n 3, 1) := by decide +kernel
theorem dL_law_19 : decode cL_law 19 = .ok (.aload_n 0, 1) := by decide +kernel
theorem dL_law_20 : decode cL_law 20 = .ok (.arraylength, 1) := by decide +kernel
theorem dL_law_21 : decode cL_law 21 = .ok (.iconst 4, 1) := by decide +kernel
theorem dL_law_22 : decode cL_law 22 = .ok (.isub, 1) := by decide +kernel
theorem dL_law_23 : decode cL_law 23 = .ok (.if_icmp .gt 1215, 3) := by decide +kernel
theorem dL_law_26 : decode cL_law 26 = .ok (.aload_n 0, 1) := by decide +kernel
theorem dL_law_27 : decode cL_law 27 = .ok (.iload_n 3, 1) := by decide +kernel
theorem dL_law_28 : decode cL_law 28 = .ok (.iaload, 1) := by decide +kernel
theorem dL_law_29 : decode cL_law 29 = .ok (.bipush 63, 2) := by decide +kernel
theorem dL_law_31 : decode cL_law 31 = .ok (.iand, 1) := by decide +kernel
theorem dL_law_32 : decode cL_law 32 = .ok (.tableswitch 1200 0 35 #[160, 193, 236, 269, 292, 315, 328, 351, 394, 437, 480, 514, 547, 590, 623, 646, 669, 702, 735, 758, 781, 794, 807, 840, 853, 866, 909, 932, 965, 998, 1031, 1074, 1108, 1151, 1164, 1177], 160) := by decide +kernel
theorem dL_law_192 : decode cL_law 192 = .ok (.aload_n 1, 1) := by decide +kernel
theorem dL_law_193 : decode cL_law 193 = .ok (.aload_n 0, 1) := by decide +kernel
theorem dL_law_194 : decode cL_law 194 = .ok (.iload_n 3, 1) := by decide +kernel
theorem dL_law_195 : decode cL_law 195 = .ok (.iconst 1, 1) := by decide +kernel
theorem dL_law_196 : decode cL_law 196 = .ok (.iadd, 1) := by decide +kernel
theorem dL_law_197 : decode cL_law 197 = .ok (.iaload, 1) := by decide +kernel
theorem dL_law_198 : decode cL_law 198 = .ok (.aload_n 0, 1) := by decide +kernel
theorem dL_law_199 : decode cL_law 199 = .ok (.iload_n 3, 1) := by decide +kernel
theorem dL_law_200 : decode cL_law 200 = .ok (.iconst 2, 1) := by decide +kernel
theorem dL_law_201 : decode cL_law 201 = .ok (.iadd, 1) := by decide +kernel
theorem dL_law_202 : decode cL_law 202 = .ok (.iaload, 1) := by decide +kernel
theorem dL_law_203 : decode cL_law 203 = .ok (.invokevirtual 13, 3) := by decide +kernel
theorem dL_law_206 : decode cL_law 206 = .ok (.aload_n 2, 1) := by decide +kernel
theorem dL_law_207 : decode cL_law 207 = .ok (.aload_n 0, 1) := by decide +kernel
theorem dL_law_208 : decode cL_law 208 = .ok (.iload_n 3, 1) := by decide +kernel
theorem dL_law_209 : decode cL_law 209 = .ok (.iconst 1, 1) := by decide +kernel
theorem dL_law_210 : decode cL_law 210 = .ok (.iadd, 1) := by decide +kernel
theorem dL_law_211 : decode cL_law 211 = .ok (.iaload, 1) := by decide +kernel
theorem dL_law_212 : decode cL_law 212 = .ok (.aload_n 0, 1) := by decide +kernel
theorem dL_law_213 : decode cL_law 213 = .ok (.iload_n 3, 1) := by decide +kernel
theorem dL_law_214 : decode cL_law 214 = .ok (.iconst 2, 1) := by decide +kernel
theorem dL_law_215 : decode cL_law 215 = .ok (.iadd, 1) := by decide +kernel
theorem dL_law_216 : decode cL_law 216 = .ok (.iaload, 1) := by decide +kernel
theorem dL_law_217 : decode cL_law 217 = .ok (.invokevirtual 17, 3) := by decide +kernel
theorem dL_law_220 : decode cL_law 220 = .ok (.if_icmp .eq 1012, 3) := by decide +kernel
theorem dL_law_223 : decode cL_law 223 = .ok (.iconst 0, 1) := by decide +kernel
theorem dL_law_224 : decode cL_law 224 = .ok (.ireturn, 1) := by decide +kernel
theorem dL_law_225 : decode cL_law 225 = .ok (.aload_n 1, 1) := by decide +kernel
theorem dL_law_226 : decode cL_law 226 = .ok (.aload_n 0, 1) := by decide +kernel
theorem dL_law_227 : decode cL_law 227 = .ok (.iload_n 3, 1) := by decide +kernel
theorem dL_law_228 : decode cL_law 228 = .ok (.iconst 1, 1) := by decide +kernel
theorem dL_law_229 : decode cL_law 229 = .ok (.iadd, 1) := by decide +kernel
theorem dL_law_230 : decode cL_law 230 = .ok (.iaload, 1) := by decide +kernel
theorem dL_law_231 : decode cL_law 231 = .ok (.aload_n 0, 1) := by decide +kernel
theorem dL_law_232 : decode cL_law 232 = .ok (.iload_n 3, 1) := by decide +kernel
theorem dL_law_233 : decode cL_law 233 = .ok (.iconst 2, 1) := by decide +kernel
theorem dL_law_234 : decode cL_law 234 = .ok (.iadd, 1) := by decide +kernel
theorem dL_law_235 : decode cL_law 235 = .ok (.iaload, 1) := by decide +kernel
theorem dL_law_236 : decode cL_law 236 = .ok (.aload_n 0, 1) := by decide +kernel
theorem dL_law_237 : decode cL_law 237 = .ok (.iload_n 3, 1) := by decide +kernel
theorem dL_law_238 : decode cL_law 238 = .ok (.iconst 3, 1) := by decide +kernel
theorem dL_law_239 : decode cL_law 239 = .ok (.iadd, 1) := by decide +kernel
theorem dL_law_240 : decode cL_law 240 = .ok (.iaload, 1) := by decide +kernel
theorem dL_law_241 : decode cL_law 241 = .ok (.invokevirtual 18, 3) := by decide +kernel
theorem dL_law_244 : decode cL_law 244 = .ok (.aload_n 2, 1) := by decide +kernel
theorem dL_law_245 : decode cL_law 245 = .ok (.aload_n 0, 1) := by decide +kernel
theorem dL_law_246 : decode cL_law 246 = .ok (.iload_n 3, 1) := by decide +kernel
theorem dL_law_247 : decode cL_law 247 = .ok (.iconst 1, 1) := by decide +kernel
theorem dL_law_248 : decode cL_law 248 = .ok (.iadd, 1) := by decide +kernel
theorem dL_law_249 : decode cL_law 249 = .ok (.iaload, 1) := by decide +kernel
theorem dL_law_250 : decode cL_law 250 = .ok (.aload_n 0, 1) := by decide +kernel
theorem dL_law_251 : decode cL_law 251 = .ok (.iload_n 3, 1) := by decide +kernel
theorem dL_law_252 : decode cL_law 252 = .ok (.iconst 2, 1) := by decide +kernel
theorem dL_law_253 : decode cL_law 253 = .ok (.iadd, 1) := by decide +kernel
theorem dL_law_254 : decode cL_law 254 = .ok (.iaload, 1) := by decide +kernel
theorem dL_law_255 : decode cL_law 255 = .ok (.aload_n 0, 1) := by decide +kernel
theorem dL_law_256 : decode cL_law 256 = .ok (.iload_n 3, 1) := by decide +kernel
theorem dL_law_257 : decode cL_law 257 = .ok (.iconst 3, 1) := by decide +kernel
theorem dL_law_258 : decode cL_law 258 = .ok (.iadd, 1) := by decide +kernel
theorem dL_law_259 : decode cL_law 259 = .ok (.iaload, 1) := by decide +kernel
theorem dL_law_260 : decode cL_law 260 = .ok (.invokevirtual 22, 3) := by decide +kernel
theorem dL_law_263 : decode cL_law 263 = .ok (.if_icmp .eq 969, 3) := by decide +kernel
theorem dL_law_266 : decode cL_law 266 = .ok (.iconst 0, 1) := by decide +kernel
theorem dL_law_267 : decode cL_law 267 = .ok (.ireturn, 1) := by decide +kernel
theorem dL_law_268 : decode cL_law 268 = .ok (.aload_n 1, 1) := by decide +kernel
theorem dL_law_269 : decode cL_law 269 = .ok (.aload_n 0, 1) := by decide +kernel
theorem dL_law_270 : decode cL_law 270 = .ok (.iload_n 3, 1) := by decide +kernel
theorem dL_law_271 : decode cL_law 271 = .ok (.iconst 1, 1) := by decide +kernel
theorem dL_law_272 : decode cL_law 272 = .ok (.iadd, 1) := by decide +kernel
theorem dL_law_273 : decode cL_law 273 = .ok (.iaload, 1) := by decide +kernel
theorem dL_law_274 : decode cL_law 274 = .ok (.aload_n 0, 1) := by decide +kernel
theorem dL_law_275 : decode cL_law 275 = .ok (.iload_n 3, 1) := by decide +kernel
theorem dL_law_276 : decode cL_law 276 = .ok (.iconst 2, 1) := by decide +kernel
theorem dL_law_277 : decode cL_law 277 = .ok (.iadd, 1) := by decide +kernel
theorem dL_law_278 : decode cL_law 278 = .ok (.iaload, 1) := by decide +kernel
theorem dL_law_279 : decode cL_law 279 = .ok (.invokevirtual 23, 3) := by decide +kernel
theorem dL_law_282 : decode cL_law 282 = .ok (.aload_n 2, 1) := by decide +kernel
theorem dL_law_283 : decode cL_law 283 = .ok (.aload_n 0, 1) := by decide +kernel
theorem dL_law_284 : decode cL_law 284 = .ok (.iload_n 3, 1) := by decide +kernel
theorem dL_law_285 : decode cL_law 285 = .ok (.iconst 1, 1) := by decide +kernel
theorem dL_law_286 : decode cL_law 286 = .ok (.iadd, 1) := by decide +kernel
theorem dL_law_287 : decode cL_law 287 = .ok (.iaload, 1) := by decide +kernel
theorem dL_law_288 : decode cL_law 288 = .ok (.aload_n 0, 1) := by decide +kernel
theorem dL_law_289 : decode cL_law 289 = .ok (.iload_n 3, 1) := by decide +kernel
theorem dL_law_290 : decode cL_law 290 = .ok (.iconst 2, 1) := by decide +kernel
theorem dL_law_291 : decode cL_law 291 = .ok (.iadd, 1) := by decide +kernel
theorem dL_law_292 : decode cL_law 292 = .ok (.iaload, 1) := by decide +kernel
theorem dL_law_293 : decode cL_law 293 = .ok (.invokevirtual 26, 3) := by decide +kernel
theorem dL_law_296 : decode cL_law 296 = .ok (.if_icmp .eq 936, 3) := by decide +kernel
theorem dL_law_299 : decode cL_law 299 = .ok (.iconst 0, 1) := by decide +kernel
theorem dL_law_300 : decode cL_law 300 = .ok (.ireturn, 1) := by decide +kernel
theorem dL_law_301 : decode cL_law 301 = .ok (.aload_n 1, 1) := by decide +kernel
theorem dL_law_302 : decode cL_law 302 = .ok (.aload_n 0, 1) := by decide +kernel
theorem dL_law_303 : decode cL_law 303 = .ok (.iload_n 3, 1) := by decide +kernel
theorem dL_law_304 : decode cL_law 304 = .ok (.iconst 1, 1) := by decide +kernel
theorem dL_law_305 : decode cL_law 305 = .ok (.iadd, 1) := by decide +kernel
theorem dL_law_306 : decode cL_law 306 = .ok (.iaload, 1) := by decide +kernel
theorem dL_law_307 : decode cL_law 307 = .ok (.invokevirtual 27, 3) := by decide +kernel
theorem dL_law_310 : decode cL_law 310 = .ok (.aload_n 2, 1) := by decide +kernel
theorem dL_law_311 : decode cL_law 311 = .ok (.aload_n 0, 1) := by decide +kernel
theorem dL_law_312 : decode cL_law 312 = .ok (.iload_n 3, 1) := by decide +kernel
theorem dL_law_313 : decode cL_law 313 = .ok (.iconst 1, 1) := by decide +kernel
theorem dL_law_314 : decode cL_law 314 = .ok (.iadd, 1) := by decide +kernel
theorem dL_law_315 : decode cL_law 315 = .ok (.iaload, 1) := by decide +kernel
theorem dL_law_316 : decode cL_law 316 = .ok (.invokevirtual 31, 3) := by decide +kernel
theorem dL_law_319 : decode cL_law 319 = .ok (.if_icmp .eq 913, 3) := by decide +kernel
theorem dL_law_322 : decode cL_law 322 = .ok (.iconst 0, 1) := by decide +kernel
theorem dL_law_323 : decode cL_law 323 = .ok (.ireturn, 1) := by decide +kernel
theorem dL_law_324 : decode cL_law 324 = .ok (.aload_n 1, 1) := by decide +kernel
theorem dL_law_325 : decode cL_law 325 = .ok (.aload_n 0, 1) := by decide +kernel
theorem dL_law_326 : decode cL_law 326 = .ok (.iload_n 3, 1) := by decide +kernel
theorem dL_law_327 : decode cL_law 327 = .ok (.iconst 1, 1) := by decide +kernel
theorem dL_law_328 : decode cL_law 328 = .ok (.iadd, 1) := by decide +kernel
theorem dL_law_329 : decode cL_law 329 = .ok (.iaload, 1) := by decide +kernel
theorem dL_law_330 : decode cL_law 330 = .ok (.invokevirtual 32, 3) := by decide +kernel
theorem dL_law_333 : decode cL_law 333 = .ok (.aload_n 2, 1) := by decide +kernel
theorem dL_law_334 : decode cL_law 334 = .ok (.aload_n 0, 1) := by decide +kernel
theorem dL_law_335 : decode cL_law 335 = .ok (.iload_n 3, 1) := by decide +kernel
theorem dL_law_336 : decode cL_law 336 = .ok (.iconst 1, 1) := by decide +kernel
theorem dL_law_337 : decode cL_law 337 = .ok (.iadd, 1) := by decide +kernel
theorem dL_law_338 : decode cL_law 338 = .ok (.iaload, 1) := by decide +kernel
theorem dL_law_339 : decode cL_law 339 = .ok (.invokevirtual 35, 3) := by decide +kernel
theorem dL_law_342 : decode cL_law 342 = .ok (.if_icmp .eq 890, 3) := by decide +kernel
theorem dL_law_345 : decode cL_law 345 = .ok (.iconst 0, 1) := by decide +kernel
theorem dL_law_346 : decode cL_law 346 = .ok (.ireturn, 1) := by decide +kernel
theorem dL_law_347 : decode cL_law 347 = .ok (.aload_n 1, 1) := by decide +kernel
theorem dL_law_348 : decode cL_law 348 = .ok (.invokevirtual 36, 3) := by decide +kernel
theorem dL_law_351 : decode cL_law 351 = .ok (.aload_n 2, 1) := by decide +kernel
theorem dL_law_352 : decode cL_law 352 = .ok (.invokevirtual 40, 3) := by decide +kernel
theorem dL_law_355 : decode cL_law 355 = .ok (.if_icmp .eq 877, 3) := by decide +kernel
theorem dL_law_358 : decode cL_law 358 = .ok (.iconst 0, 1) := by decide +kernel
theorem dL_law_359 : decode cL_law 359 = .ok (.ireturn, 1) := by decide +kernel
theorem dL_law_360 : decode cL_law 360 = .ok (.aload_n 1, 1) := by decide +kernel
theorem dL_law_361 : decode cL_law 361 = .ok (.aload_n 0, 1) := by decide +kernel
theorem dL_law_362 : decode cL_law 362 = .ok (.iload_n 3, 1) := by decide +kernel
theorem dL_law_363 : decode cL_law 363 = .ok (.iconst 1, 1) := by decide +kernel
theorem dL_law_364 : decode cL_law 364 = .ok (.iadd, 1) := by decide +kernel
theorem dL_law_365 : decode cL_law 365 = .ok (.iaload, 1) := by decide +kernel
theorem dL_law_366 : decode cL_law 366 = .ok (.invokevirtual 41, 3) := by decide +kernel
theorem dL_law_369 : decode cL_law 369 = .ok (.aload_n 2, 1) := by decide +kernel
theorem dL_law_370 : decode cL_law 370 = .ok (.aload_n 0, 1) := by decide +kernel
theorem dL_law_371 : decode cL_law 371 = .ok (.iload_n 3, 1) := by decide +kernel
theorem dL_law_372 : decode cL_law 372 = .ok (.iconst 1, 1) := by decide +kernel
theorem dL_law_373 : decode cL_law 373 = .ok (.iadd, 1) := by decide +kernel
theorem dL_law_374 : decode cL_law 374 = .ok (.iaload, 1) := by decide +kernel
theorem dL_law_375 : decode cL_law 375 = .ok (.invokevirtual 44, 3) := by decide +kernel
theorem dL_law_378 : decode cL_law 378 = .ok (.if_icmp .eq 854, 3) := by decide +kernel
theorem dL_law_381 : decode cL_law 381 = .ok (.iconst 0, 1) := by decide +kernel
theorem dL_law_382 : decode cL_law 382 = .ok (.ireturn, 1) := by decide +kernel
theorem dL_law_383 : decode cL_law 383 = .ok (.aload_n 1, 1) := by decide +kernel
theorem dL_law_384 : decode cL_law 384 = .ok (.aload_n 0, 1) := by decide +kernel
theorem dL_law_385 : decode cL_law 385 = .ok (.iload_n 3, 1) := by decide +kernel
theorem dL_law_386 : decode cL_law 386 = .ok (.iconst 1, 1) := by decide +kernel
theorem dL_law_387 : decode cL_law 387 = .ok (.iadd, 1) := by decide +kernel
theorem dL_law_388 : decode cL_law 388 = .ok (.iaload, 1) := by decide +kernel
theorem dL_law_389 : decode cL_law 389 = .ok (.aload_n 0, 1) := by decide +kernel
theorem dL_law_390 : decode cL_law 390 = .ok (.iload_n 3, 1) := by decide +kernel
theorem dL_law_391 : decode cL_law 391 = .ok (.iconst 2, 1) := by decide +kernel
theorem dL_law_392 : decode cL_law 392 = .ok (.iadd, 1) := by decide +kernel
theorem dL_law_393 : decode cL_law 393 = .ok (.iaload, 1) := by decide +kernel
theorem dL_law_394 : decode cL_law 394 = .ok (.aload_n 0, 1) := by decide +kernel
theorem dL_law_395 : decode cL_law 395 = .ok (.iload_n 3, 1) := by decide +kernel
theorem dL_law_396 : decode cL_law 396 = .ok (.iconst 3, 1) := by decide +kernel
theorem dL_law_397 : decode cL_law 397 = .ok (.iadd, 1) := by decide +kernel
theorem dL_law_398 : decode cL_law 398 = .ok (.iaload, 1) := by decide +kernel
theorem dL_law_399 : decode cL_law 399 = .ok (.invokevirtual 45, 3) := by decide +kernel
theorem dL_law_402 : decode cL_law 402 = .ok (.aload_n 2, 1) := by decide +kernel
theorem dL_law_403 : decode cL_law 403 = .ok (.aload_n 0, 1) := by decide +kernel
theorem dL_law_404 : decode cL_law 404 = .ok (.iload_n 3, 1) := by decide +kernel
theorem dL_law_405 : decode cL_law 405 = .ok (.iconst 1, 1) := by decide +kernel
theorem dL_law_406 : decode cL_law 406 = .ok (.iadd, 1) := by decide +kernel
theorem dL_law_407 : decode cL_law 407 = .ok (.iaload, 1) := by decide +kernel
theorem dL_law_408 : decode cL_law 408 = .ok (.aload_n 0, 1) := by decide +kernel
theorem dL_law_409 : decode cL_law 409 = .ok (.iload_n 3, 1) := by decide +kernel
theorem dL_law_410 : decode cL_law 410 = .ok (.iconst 2, 1) := by decide +kernel
theorem dL_law_411 : decode cL_law 411 = .ok (.iadd, 1) := by decide +kernel
theorem dL_law_412 : decode cL_law 412 = .ok (.iaload, 1) := by decide +kernel
theorem dL_law_413 : decode cL_law 413 = .ok (.aload_n 0, 1) := by decide +kernel
theorem dL_law_414 : decode cL_law 414 = .ok (.iload_n 3, 1) := by decide +kernel
theorem dL_law_415 : decode cL_law 415 = .ok (.iconst 3, 1) := by decide +kernel
theorem dL_law_416 : decode cL_law 416 = .ok (.iadd, 1) := by decide +kernel
theorem dL_law_417 : decode cL_law 417 = .ok (.iaload, 1) := by decide +kernel
theorem dL_law_418 : decode cL_law 418 = .ok (.invokevirtual 48, 3) := by decide +kernel
theorem dL_law_421 : decode cL_law 421 = .ok (.if_icmp .eq 811, 3) := by decide +kernel
theorem dL_law_424 : decode cL_law 424 = .ok (.iconst 0, 1) := by decide +kernel
theorem dL_law_425 : decode cL_law 425 = .ok (.ireturn, 1) := by decide +kernel
theorem dL_law_426 : decode cL_law 426 = .ok (.aload_n 1, 1) := by decide +kernel
theorem dL_law_427 : decode cL_law 427 = .ok (.aload_n 0, 1) := by decide +kernel
theorem dL_law_428 : decode cL_law 428 = .ok (.iload_n 3, 1) := by decide +kernel
theorem dL_law_429 : decode cL_law 429 = .ok (.iconst 1, 1) := by decide +kernel
theorem dL_law_430 : decode cL_law 430 = .ok (.iadd, 1) := by decide +kernel
theorem dL_law_431 : decode cL_law 431 = .ok (.iaload, 1) := by decide +kernel
theorem dL_law_432 : decode cL_law 432 = .ok (.aload_n 0, 1) := by decide +kernel
theorem dL_law_433 : decode cL_law 433 = .ok (.iload_n 3, 1) := by decide +kernel
theorem dL_law_434 : decode cL_law 434 = .ok (.iconst 2, 1) := by decide +kernel
theorem dL_law_435 : decode cL_law 435 = .ok (.iadd, 1) := by decide +kernel
theorem dL_law_436 : decode cL_law 436 = .ok (.iaload, 1) := by decide +kernel
theorem dL_law_437 : decode cL_law 437 = .ok (.aload_n 0, 1) := by decide +kernel
theorem dL_law_438 : decode cL_law 438 = .ok (.iload_n 3, 1) := by decide +kernel
theorem dL_law_439 : decode cL_law 439 = .ok (.iconst 3, 1) := by decide +kernel
theorem dL_law_440 : decode cL_law 440 = .ok (.iadd, 1) := by decide +kernel
theorem dL_law_441 : decode cL_law 441 = .ok (.iaload, 1) := by decide +kernel
theorem dL_law_442 : decode cL_law 442 = .ok (.invokevirtual 49, 3) := by decide +kernel
theorem dL_law_445 : decode cL_law 445 = .ok (.aload_n 2, 1) := by decide +kernel
theorem dL_law_446 : decode cL_law 446 = .ok (.aload_n 0, 1) := by decide +kernel
theorem dL_law_447 : decode cL_law 447 = .ok (.iload_n 3, 1) := by decide +kernel
theorem dL_law_448 : decode cL_law 448 = .ok (.iconst 1, 1) := by decide +kernel
theorem dL_law_449 : decode cL_law 449 = .ok (.iadd, 1) := by decide +kernel
theorem dL_law_450 : decode cL_law 450 = .ok (.iaload, 1) := by decide +kernel
theorem dL_law_451 : decode cL_law 451 = .ok (.aload_n 0, 1) := by decide +kernel
theorem dL_law_452 : decode cL_law 452 = .ok (.iload_n 3, 1) := by decide +kernel
theorem dL_law_453 : decode cL_law 453 = .ok (.iconst 2, 1) := by decide +kernel
theorem dL_law_454 : decode cL_law 454 = .ok (.iadd, 1) := by decide +kernel
theorem dL_law_455 : decode cL_law 455 = .ok (.iaload, 1) := by decide +kernel
theorem dL_law_456 : decode cL_law 456 = .ok (.aload_n 0, 1) := by decide +kernel
theorem dL_law_457 : decode cL_law 457 = .ok (.iload_n 3, 1) := by decide +kernel
theorem dL_law_458 : decode cL_law 458 = .ok (.iconst 3, 1) := by decide +kernel
theorem dL_law_459 : decode cL_law 459 = .ok (.iadd, 1) := by decide +kernel
theorem dL_law_460 : decode cL_law 460 = .ok (.iaload, 1) := by decide +kernel
theorem dL_law_461 : decode cL_law 461 = .ok (.invokevirtual 52, 3) := by decide +kernel
theorem dL_law_464 : decode cL_law 464 = .ok (.if_icmp .eq 768, 3) := by decide +kernel
theorem dL_law_467 : decode cL_law 467 = .ok (.iconst 0, 1) := by decide +kernel
theorem dL_law_468 : decode cL_law 468 = .ok (.ireturn, 1) := by decide +kernel
theorem dL_law_469 : decode cL_law 469 = .ok (.aload_n 1, 1) := by decide +kernel
theorem dL_law_470 : decode cL_law 470 = .ok (.aload_n 0, 1) := by decide +kernel
theorem dL_law_471 : decode cL_law 471 = .ok (.iload_n 3, 1) := by decide +kernel
theorem dL_law_472 : decode cL_law 472 = .ok (.iconst 1, 1) := by decide +kernel
theorem dL_law_473 : decode cL_law 473 = .ok (.iadd, 1) := by decide +kernel
theorem dL_law_474 : decode cL_law 474 = .ok (.iaload, 1) := by decide +kernel
theorem dL_law_475 : decode cL_law 475 = .ok (.aload_n 0, 1) := by decide +kernel
theorem dL_law_476 : decode cL_law 476 = .ok (.iload_n 3, 1) := by decide +kernel
theorem dL_law_477 : decode cL_law 477 = .ok (.iconst 2, 1) := by decide +kernel
theorem dL_law_478 : decode cL_law 478 = .ok (.iadd, 1) := by decide +kernel
theorem dL_law_479 : decode cL_law 479 = .ok (.iaload, 1) := by decide +kernel
theorem dL_law_480 : decode cL_law 480 = .ok (.aload_n 0, 1) := by decide +kernel
theorem dL_law_481 : decode cL_law 481 = .ok (.iload_n 3, 1) := by decide +kernel
theorem dL_law_482 : decode cL_law 482 = .ok (.iconst 3, 1) := by decide +kernel
theorem dL_law_483 : decode cL_law 483 = .ok (.iadd, 1) := by decide +kernel
theorem dL_law_484 : decode cL_law 484 = .ok (.iaload, 1) := by decide +kernel
theorem dL_law_485 : decode cL_law 485 = .ok (.invokevirtual 53, 3) := by decide +kernel
theorem dL_law_488 : decode cL_law 488 = .ok (.aload_n 2, 1) := by decide +kernel
theorem dL_law_489 : decode cL_law 489 = .ok (.aload_n 0, 1) := by decide +kernel
theorem dL_law_490 : decode cL_law 490 = .ok (.iload_n 3, 1) := by decide +kernel
theorem dL_law_491 : decode cL_law 491 = .ok (.iconst 1, 1) := by decide +kernel
theorem dL_law_492 : decode cL_law 492 = .ok (.iadd, 1) := by decide +kernel
theorem dL_law_493 : decode cL_law 493 = .ok (.iaload, 1) := by decide +kernel
theorem dL_law_494 : decode cL_law 494 = .ok (.aload_n 0, 1) := by decide +kernel
theorem dL_law_495 : decode cL_law 495 = .ok (.iload_n 3, 1) := by decide +kernel
theorem dL_law_496 : decode cL_law 496 = .ok (.iconst 2, 1) := by decide +kernel
theorem dL_law_497 : decode cL_law 497 = .ok (.iadd, 1) := by decide +kernel
theorem dL_law_498 : decode cL_law 498 = .ok (.iaload, 1) := by decide +kernel
theorem dL_law_499 : decode cL_law 499 = .ok (.aload_n 0, 1) := by decide +kernel
theorem dL_law_500 : decode cL_law 500 = .ok (.iload_n 3, 1) := by decide +kernel
theorem dL_law_501 : decode cL_law 501 = .ok (.iconst 3, 1) := by decide +kernel
theorem dL_law_502 : decode cL_law 502 = .ok (.iadd, 1) := by decide +kernel
theorem dL_law_503 : decode cL_law 503 = .ok (.iaload, 1) := by decide +kernel
theorem dL_law_504 : decode cL_law 504 = .ok (.invokevirtual 56, 3) := by decide +kernel
theorem dL_law_507 : decode cL_law 507 = .ok (.if_icmp .eq 725, 3) := by decide +kernel
theorem dL_law_510 : decode cL_law 510 = .ok (.iconst 0, 1) := by decide +kernel
theorem dL_law_511 : decode cL_law 511 = .ok (.ireturn, 1) := by decide +kernel
theorem dL_law_512 : decode cL_law 512 = .ok (.aload_n 1, 1) := by decide +kernel
theorem dL_law_513 : decode cL_law 513 = .ok (.aload_n 0, 1) := by decide +kernel
theorem dL_law_514 : decode cL_law 514 = .ok (.iload_n 3, 1) := by decide +kernel
theorem dL_law_515 : decode cL_law 515 = .ok (.iconst 1, 1) := by decide +kernel
theorem dL_law_516 : decode cL_law 516 = .ok (.iadd, 1) := by decide +kernel
theorem dL_law_517 : decode cL_law 517 = .ok (.iaload, 1) := by decide +kernel
theorem dL_law_518 : decode cL_law 518 = .ok (.aload_n 0, 1) := by decide +kernel
theorem dL_law_519 : decode cL_law 519 = .ok (.iload_n 3, 1) := by decide +kernel
theorem dL_law_520 : decode cL_law 520 = .ok (.iconst 2, 1) := by decide +kernel
theorem dL_law_521 : decode cL_law 521 = .ok (.iadd, 1) := by decide +kernel
theorem dL_law_522 : decode cL_law 522 = .ok (.iaload, 1) := by decide +kernel
theorem dL_law_523 : decode cL_law 523 = .ok (.invokevirtual 57, 3) := by decide +kernel
theorem dL_law_526 : decode cL_law 526 = .ok (.aload_n 2, 1) := by decide +kernel
theorem dL_law_527 : decode cL_law 527 = .ok (.aload_n 0, 1) := by decide +kernel
theorem dL_law_528 : decode cL_law 528 = .ok (.iload_n 3, 1) := by decide +kernel
theorem dL_law_529 : decode cL_law 529 = .ok (.iconst 1, 1) := by decide +kernel
theorem dL_law_530 : decode cL_law 530 = .ok (.iadd, 1) := by decide +kernel
theorem dL_law_531 : decode cL_law 531 = .ok (.iaload, 1) := by decide +kernel
theorem dL_law_532 : decode cL_law 532 = .ok (.aload_n 0, 1) := by decide +kernel
theorem dL_law_533 : decode cL_law 533 = .ok (.iload_n 3, 1) := by decide +kernel
theorem dL_law_534 : decode cL_law 534 = .ok (.iconst 2, 1) := by decide +kernel
theorem dL_law_535 : decode cL_law 535 = .ok (.iadd, 1) := by decide +kernel
theorem dL_law_536 : decode cL_law 536 = .ok (.iaload, 1) := by decide +kernel
theorem dL_law_537 : decode cL_law 537 = .ok (.invokevirtual 61, 3) := by decide +kernel
theorem dL_law_540 : decode cL_law 540 = .ok (.lcmp, 1) := by decide +kernel
theorem dL_law_541 : decode cL_law 541 = .ok (.ifCond .eq 691, 3) := by decide +kernel
theorem dL_law_544 : decode cL_law 544 = .ok (.iconst 0, 1) := by decide +kernel
theorem dL_law_545 : decode cL_law 545 = .ok (.ireturn, 1) := by decide +kernel
theorem dL_law_546 : decode cL_law 546 = .ok (.aload_n 1, 1) := by decide +kernel
theorem dL_law_547 : decode cL_law 547 = .ok (.aload_n 0, 1) := by decide +kernel
theorem dL_law_548 : decode cL_law 548 = .ok (.iload_n 3, 1) := by decide +kernel
theorem dL_law_549 : decode cL_law 549 = .ok (.iconst 1, 1) := by decide +kernel
theorem dL_law_550 : decode cL_law 550 = .ok (.iadd, 1) := by decide +kernel
theorem dL_law_551 : decode cL_law 551 = .ok (.iaload, 1) := by decide +kernel
theorem dL_law_552 : decode cL_law 552 = .ok (.aload_n 0, 1) := by decide +kernel
theorem dL_law_553 : decode cL_law 553 = .ok (.iload_n 3, 1) := by decide +kernel
theorem dL_law_554 : decode cL_law 554 = .ok (.iconst 2, 1) := by decide +kernel
theorem dL_law_555 : decode cL_law 555 = .ok (.iadd, 1) := by decide +kernel
theorem dL_law_556 : decode cL_law 556 = .ok (.iaload, 1) := by decide +kernel
theorem dL_law_557 : decode cL_law 557 = .ok (.invokevirtual 62, 3) := by decide +kernel
theorem dL_law_560 : decode cL_law 560 = .ok (.aload_n 2, 1) := by decide +kernel
theorem dL_law_561 : decode cL_law 561 = .ok (.aload_n 0, 1) := by decide +kernel
theorem dL_law_562 : decode cL_law 562 = .ok (.iload_n 3, 1) := by decide +kernel
theorem dL_law_563 : decode cL_law 563 = .ok (.iconst 1, 1) := by decide +kernel
theorem dL_law_564 : decode cL_law 564 = .ok (.iadd, 1) := by decide +kernel
theorem dL_law_565 : decode cL_law 565 = .ok (.iaload, 1) := by decide +kernel
theorem dL_law_566 : decode cL_law 566 = .ok (.aload_n 0, 1) := by decide +kernel
theorem dL_law_567 : decode cL_law 567 = .ok (.iload_n 3, 1) := by decide +kernel
theorem dL_law_568 : decode cL_law 568 = .ok (.iconst 2, 1) := by decide +kernel
theorem dL_law_569 : decode cL_law 569 = .ok (.iadd, 1) := by decide +kernel
theorem dL_law_570 : decode cL_law 570 = .ok (.iaload, 1) := by decide +kernel
theorem dL_law_571 : decode cL_law 571 = .ok (.invokevirtual 65, 3) := by decide +kernel
theorem dL_law_574 : decode cL_law 574 = .ok (.if_icmp .eq 658, 3) := by decide +kernel
theorem dL_law_577 : decode cL_law 577 = .ok (.iconst 0, 1) := by decide +kernel
theorem dL_law_578 : decode cL_law 578 = .ok (.ireturn, 1) := by decide +kernel
theorem dL_law_579 : decode cL_law 579 = .ok (.aload_n 1, 1) := by decide +kernel
theorem dL_law_580 : decode cL_law 580 = .ok (.aload_n 0, 1) := by decide +kernel
theorem dL_law_581 : decode cL_law 581 = .ok (.iload_n 3, 1) := by decide +kernel
theorem dL_law_582 : decode cL_law 582 = .ok (.iconst 1, 1) := by decide +kernel
theorem dL_law_583 : decode cL_law 583 = .ok (.iadd, 1) := by decide +kernel
theorem dL_law_584 : decode cL_law 584 = .ok (.iaload, 1) := by decide +kernel
theorem dL_law_585 : decode cL_law 585 = .ok (.aload_n 0, 1) := by decide +kernel
theorem dL_law_586 : decode cL_law 586 = .ok (.iload_n 3, 1) := by decide +kernel
theorem dL_law_587 : decode cL_law 587 = .ok (.iconst 2, 1) := by decide +kernel
theorem dL_law_588 : decode cL_law 588 = .ok (.iadd, 1) := by decide +kernel
theorem dL_law_589 : decode cL_law 589 = .ok (.iaload, 1) := by decide +kernel
theorem dL_law_590 : decode cL_law 590 = .ok (.aload_n 0, 1) := by decide +kernel
theorem dL_law_591 : decode cL_law 591 = .ok (.iload_n 3, 1) := by decide +kernel
theorem dL_law_592 : decode cL_law 592 = .ok (.iconst 3, 1) := by decide +kernel
theorem dL_law_593 : decode cL_law 593 = .ok (.iadd, 1) := by decide +kernel
theorem dL_law_594 : decode cL_law 594 = .ok (.iaload, 1) := by decide +kernel
theorem dL_law_595 : decode cL_law 595 = .ok (.invokevirtual 66, 3) := by decide +kernel
theorem dL_law_598 : decode cL_law 598 = .ok (.aload_n 2, 1) := by decide +kernel
theorem dL_law_599 : decode cL_law 599 = .ok (.aload_n 0, 1) := by decide +kernel
theorem dL_law_600 : decode cL_law 600 = .ok (.iload_n 3, 1) := by decide +kernel
theorem dL_law_601 : decode cL_law 601 = .ok (.iconst 1, 1) := by decide +kernel
theorem dL_law_602 : decode cL_law 602 = .ok (.iadd, 1) := by decide +kernel
theorem dL_law_603 : decode cL_law 603 = .ok (.iaload, 1) := by decide +kernel
theorem dL_law_604 : decode cL_law 604 = .ok (.aload_n 0, 1) := by decide +kernel
theorem dL_law_605 : decode cL_law 605 = .ok (.iload_n 3, 1) := by decide +kernel
theorem dL_law_606 : decode cL_law 606 = .ok (.iconst 2, 1) := by decide +kernel
theorem dL_law_607 : decode cL_law 607 = .ok (.iadd, 1) := by decide +kernel
theorem dL_law_608 : decode cL_law 608 = .ok (.iaload, 1) := by decide +kernel
theorem dL_law_609 : decode cL_law 609 = .ok (.aload_n 0, 1) := by decide +kernel
theorem dL_law_610 : decode cL_law 610 = .ok (.iload_n 3, 1) := by decide +kernel
theorem dL_law_611 : decode cL_law 611 = .ok (.iconst 3, 1) := by decide +kernel
theorem dL_law_612 : decode cL_law 612 = .ok (.iadd, 1) := by decide +kernel
theorem dL_law_613 : decode cL_law 613 = .ok (.iaload, 1) := by decide +kernel
theorem dL_law_614 : decode cL_law 614 = .ok (.invokevirtual 69, 3) := by decide +kernel
theorem dL_law_617 : decode cL_law 617 = .ok (.if_icmp .eq 615, 3) := by decide +kernel
theorem dL_law_620 : decode cL_law 620 = .ok (.iconst 0, 1) := by decide +kernel
theorem dL_law_621 : decode cL_law 621 = .ok (.ireturn, 1) := by decide +kernel
theorem dL_law_622 : decode cL_law 622 = .ok (.aload_n 1, 1) := by decide +kernel
theorem dL_law_623 : decode cL_law 623 = .ok (.aload_n 0, 1) := by decide +kernel
theorem dL_law_624 : decode cL_law 624 = .ok (.iload_n 3, 1) := by decide +kernel
theorem dL_law_625 : decode cL_law 625 = .ok (.iconst 1, 1) := by decide +kernel
theorem dL_law_626 : decode cL_law 626 = .ok (.iadd, 1) := by decide +kernel
theorem dL_law_627 : decode cL_law 627 = .ok (.iaload, 1) := by decide +kernel
theorem dL_law_628 : decode cL_law 628 = .ok (.aload_n 0, 1) := by decide +kernel
theorem dL_law_629 : decode cL_law 629 = .ok (.iload_n 3, 1) := by decide +kernel
theorem dL_law_630 : decode cL_law 630 = .ok (.iconst 2, 1) := by decide +kernel
theorem dL_law_631 : decode cL_law 631 = .ok (.iadd, 1) := by decide +kernel
theorem dL_law_632 : decode cL_law 632 = .ok (.iaload, 1) := by decide +kernel
theorem dL_law_633 : decode cL_law 633 = .ok (.invokevirtual 70, 3) := by decide +kernel
theorem dL_law_636 : decode cL_law 636 = .ok (.aload_n 2, 1) := by decide +kernel
theorem dL_law_637 : decode cL_law 637 = .ok (.aload_n 0, 1) := by decide +kernel
theorem dL_law_638 : decode cL_law 638 = .ok (.iload_n 3, 1) := by decide +kernel
theorem dL_law_639 : decode cL_law 639 = .ok (.iconst 1, 1) := by decide +kernel
theorem dL_law_640 : decode cL_law 640 = .ok (.iadd, 1) := by decide +kernel
theorem dL_law_641 : decode cL_law 641 = .ok (.iaload, 1) := by decide +kernel
theorem dL_law_642 : decode cL_law 642 = .ok (.aload_n 0, 1) := by decide +kernel
theorem dL_law_643 : decode cL_law 643 = .ok (.iload_n 3, 1) := by decide +kernel
theorem dL_law_644 : decode cL_law 644 = .ok (.iconst 2, 1) := by decide +kernel
theorem dL_law_645 : decode cL_law 645 = .ok (.iadd, 1) := by decide +kernel
theorem dL_law_646 : decode cL_law 646 = .ok (.iaload, 1) := by decide +kernel
theorem dL_law_647 : decode cL_law 647 = .ok (.invokevirtual 73, 3) := by decide +kernel
theorem dL_law_650 : decode cL_law 650 = .ok (.if_icmp .eq 582, 3) := by decide +kernel
theorem dL_law_653 : decode cL_law 653 = .ok (.iconst 0, 1) := by decide +kernel
theorem dL_law_654 : decode cL_law 654 = .ok (.ireturn, 1) := by decide +kernel
theorem dL_law_655 : decode cL_law 655 = .ok (.aload_n 1, 1) := by decide +kernel
theorem dL_law_656 : decode cL_law 656 = .ok (.aload_n 0, 1) := by decide +kernel
theorem dL_law_657 : decode cL_law 657 = .ok (.iload_n 3, 1) := by decide +kernel
theorem dL_law_658 : decode cL_law 658 = .ok (.iconst 1, 1) := by decide +kernel
theorem dL_law_659 : decode cL_law 659 = .ok (.iadd, 1) := by decide +kernel
theorem dL_law_660 : decode cL_law 660 = .ok (.iaload, 1) := by decide +kernel
theorem dL_law_661 : decode cL_law 661 = .ok (.invokevirtual 74, 3) := by decide +kernel
theorem dL_law_664 : decode cL_law 664 = .ok (.aload_n 2, 1) := by decide +kernel
theorem dL_law_665 : decode cL_law 665 = .ok (.aload_n 0, 1) := by decide +kernel
theorem dL_law_666 : decode cL_law 666 = .ok (.iload_n 3, 1) := by decide +kernel
theorem dL_law_667 : decode cL_law 667 = .ok (.iconst 1, 1) := by decide +kernel
theorem dL_law_668 : decode cL_law 668 = .ok (.iadd, 1) := by decide +kernel
theorem dL_law_669 : decode cL_law 669 = .ok (.iaload, 1) := by decide +kernel
theorem dL_law_670 : decode cL_law 670 = .ok (.invokevirtual 77, 3) := by decide +kernel
theorem dL_law_673 : decode cL_law 673 = .ok (.if_icmp .eq 559, 3) := by decide +kernel
theorem dL_law_676 : decode cL_law 676 = .ok (.iconst 0, 1) := by decide +kernel
theorem dL_law_677 : decode cL_law 677 = .ok (.ireturn, 1) := by decide +kernel
theorem dL_law_678 : decode cL_law 678 = .ok (.aload_n 1, 1) := by decide +kernel
theorem dL_law_679 : decode cL_law 679 = .ok (.aload_n 0, 1) := by decide +kernel
theorem dL_law_680 : decode cL_law 680 = .ok (.iload_n 3, 1) := by decide +kernel
theorem dL_law_681 : decode cL_law 681 = .ok (.iconst 1, 1) := by decide +kernel
theorem dL_law_682 : decode cL_law 682 = .ok (.iadd, 1) := by decide +kernel
theorem dL_law_683 : decode cL_law 683 = .ok (.iaload, 1) := by decide +kernel
theorem dL_law_684 : decode cL_law 684 = .ok (.invokevirtual 78, 3) := by decide +kernel
theorem dL_law_687 : decode cL_law 687 = .ok (.aload_n 2, 1) := by decide +kernel
theorem dL_law_688 : decode cL_law 688 = .ok (.aload_n 0, 1) := by decide +kernel
theorem dL_law_689 : decode cL_law 689 = .ok (.iload_n 3, 1) := by decide +kernel
theorem dL_law_690 : decode cL_law 690 = .ok (.iconst 1, 1) := by decide +kernel
theorem dL_law_691 : decode cL_law 691 = .ok (.iadd, 1) := by decide +kernel
theorem dL_law_692 : decode cL_law 692 = .ok (.iaload, 1) := by decide +kernel
theorem dL_law_693 : decode cL_law 693 = .ok (.invokevirtual 81, 3) := by decide +kernel
theorem dL_law_696 : decode cL_law 696 = .ok (.if_icmp .eq 536, 3) := by decide +kernel
theorem dL_law_699 : decode cL_law 699 = .ok (.iconst 0, 1) := by decide +kernel
theorem dL_law_700 : decode cL_law 700 = .ok (.ireturn, 1) := by decide +kernel
theorem dL_law_701 : decode cL_law 701 = .ok (.aload_n 1, 1) := by decide +kernel
theorem dL_law_702 : decode cL_law 702 = .ok (.aload_n 0, 1) := by decide +kernel
theorem dL_law_703 : decode cL_law 703 = .ok (.iload_n 3, 1) := by decide +kernel
theorem dL_law_704 : decode cL_law 704 = .ok (.iconst 1, 1) := by decide +kernel
theorem dL_law_705 : decode cL_law 705 = .ok (.iadd, 1) := by decide +kernel
theorem dL_law_706 : decode cL_law 706 = .ok (.iaload, 1) := by decide +kernel
theorem dL_law_707 : decode cL_law 707 = .ok (.aload_n 0, 1) := by decide +kernel
theorem dL_law_708 : decode cL_law 708 = .ok (.iload_n 3, 1) := by decide +kernel
theorem dL_law_709 : decode cL_law 709 = .ok (.iconst 2, 1) := by decide +kernel
theorem dL_law_710 : decode cL_law 710 = .ok (.iadd, 1) := by decide +kernel
theorem dL_law_711 : decode cL_law 711 = .ok (.iaload, 1) := by decide +kernel
theorem dL_law_712 : decode cL_law 712 = .ok (.invokevirtual 82, 3) := by decide +kernel
theorem dL_law_715 : decode cL_law 715 = .ok (.aload_n 2, 1) := by decide +kernel
theorem dL_law_716 : decode cL_law 716 = .ok (.aload_n 0, 1) := by decide +kernel
theorem dL_law_717 : decode cL_law 717 = .ok (.iload_n 3, 1) := by decide +kernel
theorem dL_law_718 : decode cL_law 718 = .ok (.iconst 1, 1) := by decide +kernel
theorem dL_law_719 : decode cL_law 719 = .ok (.iadd, 1) := by decide +kernel
theorem dL_law_720 : decode cL_law 720 = .ok (.iaload, 1) := by decide +kernel
theorem dL_law_721 : decode cL_law 721 = .ok (.aload_n 0, 1) := by decide +kernel
theorem dL_law_722 : decode cL_law 722 = .ok (.iload_n 3, 1) := by decide +kernel
theorem dL_law_723 : decode cL_law 723 = .ok (.iconst 2, 1) := by decide +kernel
theorem dL_law_724 : decode cL_law 724 = .ok (.iadd, 1) := by decide +kernel
theorem dL_law_725 : decode cL_law 725 = .ok (.iaload, 1) := by decide +kernel
theorem dL_law_726 : decode cL_law 726 = .ok (.invokevirtual 85, 3) := by decide +kernel
theorem dL_law_729 : decode cL_law 729 = .ok (.if_icmp .eq 503, 3) := by decide +kernel
theorem dL_law_732 : decode cL_law 732 = .ok (.iconst 0, 1) := by decide +kernel
theorem dL_law_733 : decode cL_law 733 = .ok (.ireturn, 1) := by decide +kernel
theorem dL_law_734 : decode cL_law 734 = .ok (.aload_n 1, 1) := by decide +kernel
theorem dL_law_735 : decode cL_law 735 = .ok (.aload_n 0, 1) := by decide +kernel
theorem dL_law_736 : decode cL_law 736 = .ok (.iload_n 3, 1) := by decide +kernel
theorem dL_law_737 : decode cL_law 737 = .ok (.iconst 1, 1) := by decide +kernel
theorem dL_law_738 : decode cL_law 738 = .ok (.iadd, 1) := by decide +kernel
theorem dL_law_739 : decode cL_law 739 = .ok (.iaload, 1) := by decide +kernel
theorem dL_law_740 : decode cL_law 740 = .ok (.aload_n 0, 1) := by decide +kernel
theorem dL_law_741 : decode cL_law 741 = .ok (.iload_n 3, 1) := by decide +kernel
theorem dL_law_742 : decode cL_law 742 = .ok (.iconst 2, 1) := by decide +kernel
theorem dL_law_743 : decode cL_law 743 = .ok (.iadd, 1) := by decide +kernel
theorem dL_law_744 : decode cL_law 744 = .ok (.iaload, 1) := by decide +kernel
theorem dL_law_745 : decode cL_law 745 = .ok (.invokevirtual 86, 3) := by decide +kernel
theorem dL_law_748 : decode cL_law 748 = .ok (.aload_n 2, 1) := by decide +kernel
theorem dL_law_749 : decode cL_law 749 = .ok (.aload_n 0, 1) := by decide +kernel
theorem dL_law_750 : decode cL_law 750 = .ok (.iload_n 3, 1) := by decide +kernel
theorem dL_law_751 : decode cL_law 751 = .ok (.iconst 1, 1) := by decide +kernel
theorem dL_law_752 : decode cL_law 752 = .ok (.iadd, 1) := by decide +kernel
theorem dL_law_753 : decode cL_law 753 = .ok (.iaload, 1) := by decide +kernel
theorem dL_law_754 : decode cL_law 754 = .ok (.aload_n 0, 1) := by decide +kernel
theorem dL_law_755 : decode cL_law 755 = .ok (.iload_n 3, 1) := by decide +kernel
theorem dL_law_756 : decode cL_law 756 = .ok (.iconst 2, 1) := by decide +kernel
theorem dL_law_757 : decode cL_law 757 = .ok (.iadd, 1) := by decide +kernel
theorem dL_law_758 : decode cL_law 758 = .ok (.iaload, 1) := by decide +kernel
theorem dL_law_759 : decode cL_law 759 = .ok (.invokevirtual 89, 3) := by decide +kernel
theorem dL_law_762 : decode cL_law 762 = .ok (.if_icmp .eq 470, 3) := by decide +kernel
theorem dL_law_765 : decode cL_law 765 = .ok (.iconst 0, 1) := by decide +kernel
theorem dL_law_766 : decode cL_law 766 = .ok (.ireturn, 1) := by decide +kernel
theorem dL_law_767 : decode cL_law 767 = .ok (.aload_n 1, 1) := by decide +kernel
theorem dL_law_768 : decode cL_law 768 = .ok (.aload_n 0, 1) := by decide +kernel
theorem dL_law_769 : decode cL_law 769 = .ok (.iload_n 3, 1) := by decide +kernel
theorem dL_law_770 : decode cL_law 770 = .ok (.iconst 1, 1) := by decide +kernel
theorem dL_law_771 : decode cL_law 771 = .ok (.iadd, 1) := by decide +kernel
theorem dL_law_772 : decode cL_law 772 = .ok (.iaload, 1) := by decide +kernel
theorem dL_law_773 : decode cL_law 773 = .ok (.invokevirtual 90, 3) := by decide +kernel
theorem dL_law_776 : decode cL_law 776 = .ok (.aload_n 2, 1) := by decide +kernel
theorem dL_law_777 : decode cL_law 777 = .ok (.aload_n 0, 1) := by decide +kernel
theorem dL_law_778 : decode cL_law 778 = .ok (.iload_n 3, 1) := by decide +kernel
theorem dL_law_779 : decode cL_law 779 = .ok (.iconst 1, 1) := by decide +kernel
theorem dL_law_780 : decode cL_law 780 = .ok (.iadd, 1) := by decide +kernel
theorem dL_law_781 : decode cL_law 781 = .ok (.iaload, 1) := by decide +kernel
theorem dL_law_782 : decode cL_law 782 = .ok (.invokevirtual 93, 3) := by decide +kernel
theorem dL_law_785 : decode cL_law 785 = .ok (.if_icmp .eq 447, 3) := by decide +kernel
theorem dL_law_788 : decode cL_law 788 = .ok (.iconst 0, 1) := by decide +kernel
theorem dL_law_789 : decode cL_law 789 = .ok (.ireturn, 1) := by decide +kernel
theorem dL_law_790 : decode cL_law 790 = .ok (.aload_n 1, 1) := by decide +kernel
theorem dL_law_791 : decode cL_law 791 = .ok (.aload_n 0, 1) := by decide +kernel
theorem dL_law_792 : decode cL_law 792 = .ok (.iload_n 3, 1) := by decide +kernel
theorem dL_law_793 : decode cL_law 793 = .ok (.iconst 1, 1) := by decide +kernel
theorem dL_law_794 : decode cL_law 794 = .ok (.iadd, 1) := by decide +kernel
theorem dL_law_795 : decode cL_law 795 = .ok (.iaload, 1) := by decide +kernel
theorem dL_law_796 : decode cL_law 796 = .ok (.invokevirtual 94, 3) := by decide +kernel
theorem dL_law_799 : decode cL_law 799 = .ok (.aload_n 2, 1) := by decide +kernel
theorem dL_law_800 : decode cL_law 800 = .ok (.aload_n 0, 1) := by decide +kernel
theorem dL_law_801 : decode cL_law 801 = .ok (.iload_n 3, 1) := by decide +kernel
theorem dL_law_802 : decode cL_law 802 = .ok (.iconst 1, 1) := by decide +kernel
theorem dL_law_803 : decode cL_law 803 = .ok (.iadd, 1) := by decide +kernel
theorem dL_law_804 : decode cL_law 804 = .ok (.iaload, 1) := by decide +kernel
theorem dL_law_805 : decode cL_law 805 = .ok (.invokevirtual 97, 3) := by decide +kernel
theorem dL_law_808 : decode cL_law 808 = .ok (.if_icmp .eq 424, 3) := by decide +kernel
theorem dL_law_811 : decode cL_law 811 = .ok (.iconst 0, 1) := by decide +kernel
theorem dL_law_812 : decode cL_law 812 = .ok (.ireturn, 1) := by decide +kernel
theorem dL_law_813 : decode cL_law 813 = .ok (.aload_n 1, 1) := by decide +kernel
theorem dL_law_814 : decode cL_law 814 = .ok (.invokevirtual 98, 3) := by decide +kernel
theorem dL_law_817 : decode cL_law 817 = .ok (.aload_n 2, 1) := by decide +kernel
theorem dL_law_818 : decode cL_law 818 = .ok (.invokevirtual 101, 3) := by decide +kernel
theorem dL_law_821 : decode cL_law 821 = .ok (.if_icmp .eq 411, 3) := by decide +kernel
theorem dL_law_824 : decode cL_law 824 = .ok (.iconst 0, 1) := by decide +kernel
theorem dL_law_825 : decode cL_law 825 = .ok (.ireturn, 1) := by decide +kernel
theorem dL_law_826 : decode cL_law 826 = .ok (.aload_n 1, 1) := by decide +kernel
theorem dL_law_827 : decode cL_law 827 = .ok (.invokevirtual 102, 3) := by decide +kernel
theorem dL_law_830 : decode cL_law 830 = .ok (.aload_n 2, 1) := by decide +kernel
theorem dL_law_831 : decode cL_law 831 = .ok (.invokevirtual 105, 3) := by decide +kernel
theorem dL_law_834 : decode cL_law 834 = .ok (.if_icmp .eq 398, 3) := by decide +kernel
theorem dL_law_837 : decode cL_law 837 = .ok (.iconst 0, 1) := by decide +kernel
theorem dL_law_838 : decode cL_law 838 = .ok (.ireturn, 1) := by decide +kernel
theorem dL_law_839 : decode cL_law 839 = .ok (.aload_n 1, 1) := by decide +kernel
theorem dL_law_840 : decode cL_law 840 = .ok (.aload_n 0, 1) := by decide +kernel
theorem dL_law_841 : decode cL_law 841 = .ok (.iload_n 3, 1) := by decide +kernel
theorem dL_law_842 : decode cL_law 842 = .ok (.iconst 1, 1) := by decide +kernel
theorem dL_law_843 : decode cL_law 843 = .ok (.iadd, 1) := by decide +kernel
theorem dL_law_844 : decode cL_law 844 = .ok (.iaload, 1) := by decide +kernel
theorem dL_law_845 : decode cL_law 845 = .ok (.aload_n 0, 1) := by decide +kernel
theorem dL_law_846 : decode cL_law 846 = .ok (.iload_n 3, 1) := by decide +kernel
theorem dL_law_847 : decode cL_law 847 = .ok (.iconst 2, 1) := by decide +kernel
theorem dL_law_848 : decode cL_law 848 = .ok (.iadd, 1) := by decide +kernel
theorem dL_law_849 : decode cL_law 849 = .ok (.iaload, 1) := by decide +kernel
theorem dL_law_850 : decode cL_law 850 = .ok (.invokevirtual 106, 3) := by decide +kernel
theorem dL_law_853 : decode cL_law 853 = .ok (.aload_n 2, 1) := by decide +kernel
theorem dL_law_854 : decode cL_law 854 = .ok (.aload_n 0, 1) := by decide +kernel
theorem dL_law_855 : decode cL_law 855 = .ok (.iload_n 3, 1) := by decide +kernel
theorem dL_law_856 : decode cL_law 856 = .ok (.iconst 1, 1) := by decide +kernel
theorem dL_law_857 : decode cL_law 857 = .ok (.iadd, 1) := by decide +kernel
theorem dL_law_858 : decode cL_law 858 = .ok (.iaload, 1) := by decide +kernel
theorem dL_law_859 : decode cL_law 859 = .ok (.aload_n 0, 1) := by decide +kernel
theorem dL_law_860 : decode cL_law 860 = .ok (.iload_n 3, 1) := by decide +kernel
theorem dL_law_861 : decode cL_law 861 = .ok (.iconst 2, 1) := by decide +kernel
theorem dL_law_862 : decode cL_law 862 = .ok (.iadd, 1) := by decide +kernel
theorem dL_law_863 : decode cL_law 863 = .ok (.iaload, 1) := by decide +kernel
theorem dL_law_864 : decode cL_law 864 = .ok (.invokevirtual 109, 3) := by decide +kernel
theorem dL_law_867 : decode cL_law 867 = .ok (.if_icmp .eq 365, 3) := by decide +kernel
theorem dL_law_870 : decode cL_law 870 = .ok (.iconst 0, 1) := by decide +kernel
theorem dL_law_871 : decode cL_law 871 = .ok (.ireturn, 1) := by decide +kernel
theorem dL_law_872 : decode cL_law 872 = .ok (.aload_n 1, 1) := by decide +kernel
theorem dL_law_873 : decode cL_law 873 = .ok (.invokevirtual 110, 3) := by decide +kernel
theorem dL_law_876 : decode cL_law 876 = .ok (.aload_n 2, 1) := by decide +kernel
theorem dL_law_877 : decode cL_law 877 = .ok (.invokevirtual 113, 3) := by decide +kernel
theorem dL_law_880 : decode cL_law 880 = .ok (.if_icmp .eq 352, 3) := by decide +kernel
theorem dL_law_883 : decode cL_law 883 = .ok (.iconst 0, 1) := by decide +kernel
theorem dL_law_884 : decode cL_law 884 = .ok (.ireturn, 1) := by decide +kernel
theorem dL_law_885 : decode cL_law 885 = .ok (.aload_n 1, 1) := by decide +kernel
theorem dL_law_886 : decode cL_law 886 = .ok (.invokevirtual 114, 3) := by decide +kernel
theorem dL_law_889 : decode cL_law 889 = .ok (.aload_n 2, 1) := by decide +kernel
theorem dL_law_890 : decode cL_law 890 = .ok (.invokevirtual 117, 3) := by decide +kernel
theorem dL_law_893 : decode cL_law 893 = .ok (.if_icmp .eq 339, 3) := by decide +kernel
theorem dL_law_896 : decode cL_law 896 = .ok (.iconst 0, 1) := by decide +kernel
theorem dL_law_897 : decode cL_law 897 = .ok (.ireturn, 1) := by decide +kernel
theorem dL_law_898 : decode cL_law 898 = .ok (.aload_n 1, 1) := by decide +kernel
theorem dL_law_899 : decode cL_law 899 = .ok (.aload_n 0, 1) := by decide +kernel
theorem dL_law_900 : decode cL_law 900 = .ok (.iload_n 3, 1) := by decide +kernel
theorem dL_law_901 : decode cL_law 901 = .ok (.iconst 1, 1) := by decide +kernel
theorem dL_law_902 : decode cL_law 902 = .ok (.iadd, 1) := by decide +kernel
theorem dL_law_903 : decode cL_law 903 = .ok (.iaload, 1) := by decide +kernel
theorem dL_law_904 : decode cL_law 904 = .ok (.aload_n 0, 1) := by decide +kernel
theorem dL_law_905 : decode cL_law 905 = .ok (.iload_n 3, 1) := by decide +kernel
theorem dL_law_906 : decode cL_law 906 = .ok (.iconst 2, 1) := by decide +kernel
theorem dL_law_907 : decode cL_law 907 = .ok (.iadd, 1) := by decide +kernel
theorem dL_law_908 : decode cL_law 908 = .ok (.iaload, 1) := by decide +kernel
theorem dL_law_909 : decode cL_law 909 = .ok (.aload_n 0, 1) := by decide +kernel
theorem dL_law_910 : decode cL_law 910 = .ok (.iload_n 3, 1) := by decide +kernel
theorem dL_law_911 : decode cL_law 911 = .ok (.iconst 3, 1) := by decide +kernel
theorem dL_law_912 : decode cL_law 912 = .ok (.iadd, 1) := by decide +kernel
theorem dL_law_913 : decode cL_law 913 = .ok (.iaload, 1) := by decide +kernel
theorem dL_law_914 : decode cL_law 914 = .ok (.invokevirtual 118, 3) := by decide +kernel
theorem dL_law_917 : decode cL_law 917 = .ok (.aload_n 2, 1) := by decide +kernel
theorem dL_law_918 : decode cL_law 918 = .ok (.aload_n 0, 1) := by decide +kernel
theorem dL_law_919 : decode cL_law 919 = .ok (.iload_n 3, 1) := by decide +kernel
theorem dL_law_920 : decode cL_law 920 = .ok (.iconst 1, 1) := by decide +kernel
theorem dL_law_921 : decode cL_law 921 = .ok (.iadd, 1) := by decide +kernel
theorem dL_law_922 : decode cL_law 922 = .ok (.iaload, 1) := by decide +kernel
theorem dL_law_923 : decode cL_law 923 = .ok (.aload_n 0, 1) := by decide +kernel
theorem dL_law_924 : decode cL_law 924 = .ok (.iload_n 3, 1) := by decide +kernel
theorem dL_law_925 : decode cL_law 925 = .ok (.iconst 2, 1) := by decide +kernel
theorem dL_law_926 : decode cL_law 926 = .ok (.iadd, 1) := by decide +kernel
theorem dL_law_927 : decode cL_law 927 = .ok (.iaload, 1) := by decide +kernel
theorem dL_law_928 : decode cL_law 928 = .ok (.aload_n 0, 1) := by decide +kernel
theorem dL_law_929 : decode cL_law 929 = .ok (.iload_n 3, 1) := by decide +kernel
theorem dL_law_930 : decode cL_law 930 = .ok (.iconst 3, 1) := by decide +kernel
theorem dL_law_931 : decode cL_law 931 = .ok (.iadd, 1) := by decide +kernel
theorem dL_law_932 : decode cL_law 932 = .ok (.iaload, 1) := by decide +kernel
theorem dL_law_933 : decode cL_law 933 = .ok (.invokevirtual 121, 3) := by decide +kernel
theorem dL_law_936 : decode cL_law 936 = .ok (.if_icmp .eq 296, 3) := by decide +kernel
theorem dL_law_939 : decode cL_law 939 = .ok (.iconst 0, 1) := by decide +kernel
theorem dL_law_940 : decode cL_law 940 = .ok (.ireturn, 1) := by decide +kernel
theorem dL_law_941 : decode cL_law 941 = .ok (.aload_n 1, 1) := by decide +kernel
theorem dL_law_942 : decode cL_law 942 = .ok (.aload_n 0, 1) := by decide +kernel
theorem dL_law_943 : decode cL_law 943 = .ok (.iload_n 3, 1) := by decide +kernel
theorem dL_law_944 : decode cL_law 944 = .ok (.iconst 1, 1) := by decide +kernel
theorem dL_law_945 : decode cL_law 945 = .ok (.iadd, 1) := by decide +kernel
theorem dL_law_946 : decode cL_law 946 = .ok (.iaload, 1) := by decide +kernel
theorem dL_law_947 : decode cL_law 947 = .ok (.invokevirtual 122, 3) := by decide +kernel
theorem dL_law_950 : decode cL_law 950 = .ok (.aload_n 2, 1) := by decide +kernel
theorem dL_law_951 : decode cL_law 951 = .ok (.aload_n 0, 1) := by decide +kernel
theorem dL_law_952 : decode cL_law 952 = .ok (.iload_n 3, 1) := by decide +kernel
theorem dL_law_953 : decode cL_law 953 = .ok (.iconst 1, 1) := by decide +kernel
theorem dL_law_954 : decode cL_law 954 = .ok (.iadd, 1) := by decide +kernel
theorem dL_law_955 : decode cL_law 955 = .ok (.iaload, 1) := by decide +kernel
theorem dL_law_956 : decode cL_law 956 = .ok (.invokevirtual 125, 3) := by decide +kernel
theorem dL_law_959 : decode cL_law 959 = .ok (.if_icmp .eq 273, 3) := by decide +kernel
theorem dL_law_962 : decode cL_law 962 = .ok (.iconst 0, 1) := by decide +kernel
theorem dL_law_963 : decode cL_law 963 = .ok (.ireturn, 1) := by decide +kernel
theorem dL_law_964 : decode cL_law 964 = .ok (.aload_n 1, 1) := by decide +kernel
theorem dL_law_965 : decode cL_law 965 = .ok (.aload_n 0, 1) := by decide +kernel
theorem dL_law_966 : decode cL_law 966 = .ok (.iload_n 3, 1) := by decide +kernel
theorem dL_law_967 : decode cL_law 967 = .ok (.iconst 1, 1) := by decide +kernel
theorem dL_law_968 : decode cL_law 968 = .ok (.iadd, 1) := by decide +kernel
theorem dL_law_969 : decode cL_law 969 = .ok (.iaload, 1) := by decide +kernel
theorem dL_law_970 : decode cL_law 970 = .ok (.aload_n 0, 1) := by decide +kernel
theorem dL_law_971 : decode cL_law 971 = .ok (.iload_n 3, 1) := by decide +kernel
theorem dL_law_972 : decode cL_law 972 = .ok (.iconst 2, 1) := by decide +kernel
theorem dL_law_973 : decode cL_law 973 = .ok (.iadd, 1) := by decide +kernel
theorem dL_law_974 : decode cL_law 974 = .ok (.iaload, 1) := by decide +kernel
theorem dL_law_975 : decode cL_law 975 = .ok (.invokevirtual 126, 3) := by decide +kernel
theorem dL_law_978 : decode cL_law 978 = .ok (.aload_n 2, 1) := by decide +kernel
theorem dL_law_979 : decode cL_law 979 = .ok (.aload_n 0, 1) := by decide +kernel
theorem dL_law_980 : decode cL_law 980 = .ok (.iload_n 3, 1) := by decide +kernel
theorem dL_law_981 : decode cL_law 981 = .ok (.iconst 1, 1) := by decide +kernel
theorem dL_law_982 : decode cL_law 982 = .ok (.iadd, 1) := by decide +kernel
theorem dL_law_983 : decode cL_law 983 = .ok (.iaload, 1) := by decide +kernel
theorem dL_law_984 : decode cL_law 984 = .ok (.aload_n 0, 1) := by decide +kernel
theorem dL_law_985 : decode cL_law 985 = .ok (.iload_n 3, 1) := by decide +kernel
theorem dL_law_986 : decode cL_law 986 = .ok (.iconst 2, 1) := by decide +kernel
theorem dL_law_987 : decode cL_law 987 = .ok (.iadd, 1) := by decide +kernel
theorem dL_law_988 : decode cL_law 988 = .ok (.iaload, 1) := by decide +kernel
theorem dL_law_989 : decode cL_law 989 = .ok (.invokevirtual 129, 3) := by decide +kernel
theorem dL_law_992 : decode cL_law 992 = .ok (.if_icmp .eq 240, 3) := by decide +kernel
theorem dL_law_995 : decode cL_law 995 = .ok (.iconst 0, 1) := by decide +kernel
theorem dL_law_996 : decode cL_law 996 = .ok (.ireturn, 1) := by decide +kernel
theorem dL_law_997 : decode cL_law 997 = .ok (.aload_n 1, 1) := by decide +kernel
theorem dL_law_998 : decode cL_law 998 = .ok (.aload_n 0, 1) := by decide +kernel
theorem dL_law_999 : decode cL_law 999 = .ok (.iload_n 3, 1) := by decide +kernel
theorem dL_law_1000 : decode cL_law 1000 = .ok (.iconst 1, 1) := by decide +kernel
theorem dL_law_1001 : decode cL_law 1001 = .ok (.iadd, 1) := by decide +kernel
theorem dL_law_1002 : decode cL_law 1002 = .ok (.iaload, 1) := by decide +kernel
theorem dL_law_1003 : decode cL_law 1003 = .ok (.aload_n 0, 1) := by decide +kernel
theorem dL_law_1004 : decode cL_law 1004 = .ok (.iload_n 3, 1) := by decide +kernel
theorem dL_law_1005 : decode cL_law 1005 = .ok (.iconst 2, 1) := by decide +kernel
theorem dL_law_1006 : decode cL_law 1006 = .ok (.iadd, 1) := by decide +kernel
theorem dL_law_1007 : decode cL_law 1007 = .ok (.iaload, 1) := by decide +kernel
theorem dL_law_1008 : decode cL_law 1008 = .ok (.invokevirtual 130, 3) := by decide +kernel
theorem dL_law_1011 : decode cL_law 1011 = .ok (.aload_n 2, 1) := by decide +kernel
theorem dL_law_1012 : decode cL_law 1012 = .ok (.aload_n 0, 1) := by decide +kernel
theorem dL_law_1013 : decode cL_law 1013 = .ok (.iload_n 3, 1) := by decide +kernel
theorem dL_law_1014 : decode cL_law 1014 = .ok (.iconst 1, 1) := by decide +kernel
theorem dL_law_1015 : decode cL_law 1015 = .ok (.iadd, 1) := by decide +kernel
theorem dL_law_1016 : decode cL_law 1016 = .ok (.iaload, 1) := by decide +kernel
theorem dL_law_1017 : decode cL_law 1017 = .ok (.aload_n 0, 1) := by decide +kernel
theorem dL_law_1018 : decode cL_law 1018 = .ok (.iload_n 3, 1) := by decide +kernel
theorem dL_law_1019 : decode cL_law 1019 = .ok (.iconst 2, 1) := by decide +kernel
theorem dL_law_1020 : decode cL_law 1020 = .ok (.iadd, 1) := by decide +kernel
theorem dL_law_1021 : decode cL_law 1021 = .ok (.iaload, 1) := by decide +kernel
theorem dL_law_1022 : decode cL_law 1022 = .ok (.invokevirtual 133, 3) := by decide +kernel
theorem dL_law_1025 : decode cL_law 1025 = .ok (.if_icmp .eq 207, 3) := by decide +kernel
theorem dL_law_1028 : decode cL_law 1028 = .ok (.iconst 0, 1) := by decide +kernel
theorem dL_law_1029 : decode cL_law 1029 = .ok (.ireturn, 1) := by decide +kernel
theorem dL_law_1030 : decode cL_law 1030 = .ok (.aload_n 1, 1) := by decide +kernel
theorem dL_law_1031 : decode cL_law 1031 = .ok (.aload_n 0, 1) := by decide +kernel
theorem dL_law_1032 : decode cL_law 1032 = .ok (.iload_n 3, 1) := by decide +kernel
theorem dL_law_1033 : decode cL_law 1033 = .ok (.iconst 1, 1) := by decide +kernel
theorem dL_law_1034 : decode cL_law 1034 = .ok (.iadd, 1) := by decide +kernel
theorem dL_law_1035 : decode cL_law 1035 = .ok (.iaload, 1) := by decide +kernel
theorem dL_law_1036 : decode cL_law 1036 = .ok (.aload_n 0, 1) := by decide +kernel
theorem dL_law_1037 : decode cL_law 1037 = .ok (.iload_n 3, 1) := by decide +kernel
theorem dL_law_1038 : decode cL_law 1038 = .ok (.iconst 2, 1) := by decide +kernel
theorem dL_law_1039 : decode cL_law 1039 = .ok (.iadd, 1) := by decide +kernel
theorem dL_law_1040 : decode cL_law 1040 = .ok (.iaload, 1) := by decide +kernel
theorem dL_law_1041 : decode cL_law 1041 = .ok (.invokevirtual 134, 3) := by decide +kernel
theorem dL_law_1044 : decode cL_law 1044 = .ok (.aload_n 2, 1) := by decide +kernel
theorem dL_law_1045 : decode cL_law 1045 = .ok (.aload_n 0, 1) := by decide +kernel
theorem dL_law_1046 : decode cL_law 1046 = .ok (.iload_n 3, 1) := by decide +kernel
theorem dL_law_1047 : decode cL_law 1047 = .ok (.iconst 1, 1) := by decide +kernel
theorem dL_law_1048 : decode cL_law 1048 = .ok (.iadd, 1) := by decide +kernel
theorem dL_law_1049 : decode cL_law 1049 = .ok (.iaload, 1) := by decide +kernel
theorem dL_law_1050 : decode cL_law 1050 = .ok (.aload_n 0, 1) := by decide +kernel
theorem dL_law_1051 : decode cL_law 1051 = .ok (.iload_n 3, 1) := by decide +kernel
theorem dL_law_1052 : decode cL_law 1052 = .ok (.iconst 2, 1) := by decide +kernel
theorem dL_law_1053 : decode cL_law 1053 = .ok (.iadd, 1) := by decide +kernel
theorem dL_law_1054 : decode cL_law 1054 = .ok (.iaload, 1) := by decide +kernel
theorem dL_law_1055 : decode cL_law 1055 = .ok (.invokevirtual 137, 3) := by decide +kernel
theorem dL_law_1058 : decode cL_law 1058 = .ok (.if_icmp .eq 174, 3) := by decide +kernel
theorem dL_law_1061 : decode cL_law 1061 = .ok (.iconst 0, 1) := by decide +kernel
theorem dL_law_1062 : decode cL_law 1062 = .ok (.ireturn, 1) := by decide +kernel
theorem dL_law_1063 : decode cL_law 1063 = .ok (.aload_n 1, 1) := by decide +kernel
theorem dL_law_1064 : decode cL_law 1064 = .ok (.aload_n 0, 1) := by decide +kernel
theorem dL_law_1065 : decode cL_law 1065 = .ok (.iload_n 3, 1) := by decide +kernel
theorem dL_law_1066 : decode cL_law 1066 = .ok (.iconst 1, 1) := by decide +kernel
theorem dL_law_1067 : decode cL_law 1067 = .ok (.iadd, 1) := by decide +kernel
theorem dL_law_1068 : decode cL_law 1068 = .ok (.iaload, 1) := by decide +kernel
theorem dL_law_1069 : decode cL_law 1069 = .ok (.aload_n 0, 1) := by decide +kernel
theorem dL_law_1070 : decode cL_law 1070 = .ok (.iload_n 3, 1) := by decide +kernel
theorem dL_law_1071 : decode cL_law 1071 = .ok (.iconst 2, 1) := by decide +kernel
theorem dL_law_1072 : decode cL_law 1072 = .ok (.iadd, 1) := by decide +kernel
theorem dL_law_1073 : decode cL_law 1073 = .ok (.iaload, 1) := by decide +kernel
theorem dL_law_1074 : decode cL_law 1074 = .ok (.aload_n 0, 1) := by decide +kernel
theorem dL_law_1075 : decode cL_law 1075 = .ok (.iload_n 3, 1) := by decide +kernel
theorem dL_law_1076 : decode cL_law 1076 = .ok (.iconst 3, 1) := by decide +kernel
theorem dL_law_1077 : decode cL_law 1077 = .ok (.iadd, 1) := by decide +kernel
theorem dL_law_1078 : decode cL_law 1078 = .ok (.iaload, 1) := by decide +kernel
theorem dL_law_1079 : decode cL_law 1079 = .ok (.invokevirtual 138, 3) := by decide +kernel
theorem dL_law_1082 : decode cL_law 1082 = .ok (.aload_n 2, 1) := by decide +kernel
theorem dL_law_1083 : decode cL_law 1083 = .ok (.aload_n 0, 1) := by decide +kernel
theorem dL_law_1084 : decode cL_law 1084 = .ok (.iload_n 3, 1) := by decide +kernel
theorem dL_law_1085 : decode cL_law 1085 = .ok (.iconst 1, 1) := by decide +kernel
theorem dL_law_1086 : decode cL_law 1086 = .ok (.iadd, 1) := by decide +kernel
theorem dL_law_1087 : decode cL_law 1087 = .ok (.iaload, 1) := by decide +kernel
theorem dL_law_1088 : decode cL_law 1088 = .ok (.aload_n 0, 1) := by decide +kernel
theorem dL_law_1089 : decode cL_law 1089 = .ok (.iload_n 3, 1) := by decide +kernel
theorem dL_law_1090 : decode cL_law 1090 = .ok (.iconst 2, 1) := by decide +kernel
theorem dL_law_1091 : decode cL_law 1091 = .ok (.iadd, 1) := by decide +kernel
theorem dL_law_1092 : decode cL_law 1092 = .ok (.iaload, 1) := by decide +kernel
theorem dL_law_1093 : decode cL_law 1093 = .ok (.aload_n 0, 1) := by decide +kernel
theorem dL_law_1094 : decode cL_law 1094 = .ok (.iload_n 3, 1) := by decide +kernel
theorem dL_law_1095 : decode cL_law 1095 = .ok (.iconst 3, 1) := by decide +kernel
theorem dL_law_1096 : decode cL_law 1096 = .ok (.iadd, 1) := by decide +kernel
theorem dL_law_1097 : decode cL_law 1097 = .ok (.iaload, 1) := by decide +kernel
theorem dL_law_1098 : decode cL_law 1098 = .ok (.invokevirtual 141, 3) := by decide +kernel
theorem dL_law_1101 : decode cL_law 1101 = .ok (.if_icmp .eq 131, 3) := by decide +kernel
theorem dL_law_1104 : decode cL_law 1104 = .ok (.iconst 0, 1) := by decide +kernel
theorem dL_law_1105 : decode cL_law 1105 = .ok (.ireturn, 1) := by decide +kernel
theorem dL_law_1106 : decode cL_law 1106 = .ok (.aload_n 1, 1) := by decide +kernel
theorem dL_law_1107 : decode cL_law 1107 = .ok (.aload_n 0, 1) := by decide +kernel
theorem dL_law_1108 : decode cL_law 1108 = .ok (.iload_n 3, 1) := by decide +kernel
theorem dL_law_1109 : decode cL_law 1109 = .ok (.iconst 1, 1) := by decide +kernel
theorem dL_law_1110 : decode cL_law 1110 = .ok (.iadd, 1) := by decide +kernel
theorem dL_law_1111 : decode cL_law 1111 = .ok (.iaload, 1) := by decide +kernel
theorem dL_law_1112 : decode cL_law 1112 = .ok (.aload_n 0, 1) := by decide +kernel
theorem dL_law_1113 : decode cL_law 1113 = .ok (.iload_n 3, 1) := by decide +kernel
theorem dL_law_1114 : decode cL_law 1114 = .ok (.iconst 2, 1) := by decide +kernel
theorem dL_law_1115 : decode cL_law 1115 = .ok (.iadd, 1) := by decide +kernel
theorem dL_law_1116 : decode cL_law 1116 = .ok (.iaload, 1) := by decide +kernel
theorem dL_law_1117 : decode cL_law 1117 = .ok (.invokevirtual 142, 3) := by decide +kernel
theorem dL_law_1120 : decode cL_law 1120 = .ok (.aload_n 2, 1) := by decide +kernel
theorem dL_law_1121 : decode cL_law 1121 = .ok (.aload_n 0, 1) := by decide +kernel
theorem dL_law_1122 : decode cL_law 1122 = .ok (.iload_n 3, 1) := by decide +kernel
theorem dL_law_1123 : decode cL_law 1123 = .ok (.iconst 1, 1) := by decide +kernel
theorem dL_law_1124 : decode cL_law 1124 = .ok (.iadd, 1) := by decide +kernel
theorem dL_law_1125 : decode cL_law 1125 = .ok (.iaload, 1) := by decide +kernel
theorem dL_law_1126 : decode cL_law 1126 = .ok (.aload_n 0, 1) := by decide +kernel
theorem dL_law_1127 : decode cL_law 1127 = .ok (.iload_n 3, 1) := by decide +kernel
theorem dL_law_1128 : decode cL_law 1128 = .ok (.iconst 2, 1) := by decide +kernel
theorem dL_law_1129 : decode cL_law 1129 = .ok (.iadd, 1) := by decide +kernel
theorem dL_law_1130 : decode cL_law 1130 = .ok (.iaload, 1) := by decide +kernel
theorem dL_law_1131 : decode cL_law 1131 = .ok (.invokevirtual 145, 3) := by decide +kernel
theorem dL_law_1134 : decode cL_law 1134 = .ok (.lcmp, 1) := by decide +kernel
theorem dL_law_1135 : decode cL_law 1135 = .ok (.ifCond .eq 97, 3) := by decide +kernel
theorem dL_law_1138 : decode cL_law 1138 = .ok (.iconst 0, 1) := by decide +kernel
theorem dL_law_1139 : decode cL_law 1139 = .ok (.ireturn, 1) := by decide +kernel
theorem dL_law_1140 : decode cL_law 1140 = .ok (.aload_n 1, 1) := by decide +kernel
theorem dL_law_1141 : decode cL_law 1141 = .ok (.aload_n 0, 1) := by decide +kernel
theorem dL_law_1142 : decode cL_law 1142 = .ok (.iload_n 3, 1) := by decide +kernel
theorem dL_law_1143 : decode cL_law 1143 = .ok (.iconst 1, 1) := by decide +kernel
theorem dL_law_1144 : decode cL_law 1144 = .ok (.iadd, 1) := by decide +kernel
theorem dL_law_1145 : decode cL_law 1145 = .ok (.iaload, 1) := by decide +kernel
theorem dL_law_1146 : decode cL_law 1146 = .ok (.aload_n 0, 1) := by decide +kernel
theorem dL_law_1147 : decode cL_law 1147 = .ok (.iload_n 3, 1) := by decide +kernel
theorem dL_law_1148 : decode cL_law 1148 = .ok (.iconst 2, 1) := by decide +kernel
theorem dL_law_1149 : decode cL_law 1149 = .ok (.iadd, 1) := by decide +kernel
theorem dL_law_1150 : decode cL_law 1150 = .ok (.iaload, 1) := by decide +kernel
theorem dL_law_1151 : decode cL_law 1151 = .ok (.aload_n 0, 1) := by decide +kernel
theorem dL_law_1152 : decode cL_law 1152 = .ok (.iload_n 3, 1) := by decide +kernel
theorem dL_law_1153 : decode cL_law 1153 = .ok (.iconst 3, 1) := by decide +kernel
theorem dL_law_1154 : decode cL_law 1154 = .ok (.iadd, 1) := by decide +kernel
theorem dL_law_1155 : decode cL_law 1155 = .ok (.iaload, 1) := by decide +kernel
theorem dL_law_1156 : decode cL_law 1156 = .ok (.invokevirtual 146, 3) := by decide +kernel
theorem dL_law_1159 : decode cL_law 1159 = .ok (.aload_n 2, 1) := by decide +kernel
theorem dL_law_1160 : decode cL_law 1160 = .ok (.aload_n 0, 1) := by decide +kernel
theorem dL_law_1161 : decode cL_law 1161 = .ok (.iload_n 3, 1) := by decide +kernel
theorem dL_law_1162 : decode cL_law 1162 = .ok (.iconst 1, 1) := by decide +kernel
theorem dL_law_1163 : decode cL_law 1163 = .ok (.iadd, 1) := by decide +kernel
theorem dL_law_1164 : decode cL_law 1164 = .ok (.iaload, 1) := by decide +kernel
theorem dL_law_1165 : decode cL_law 1165 = .ok (.aload_n 0, 1) := by decide +kernel
theorem dL_law_1166 : decode cL_law 1166 = .ok (.iload_n 3, 1) := by decide +kernel
theorem dL_law_1167 : decode cL_law 1167 = .ok (.iconst 2, 1) := by decide +kernel
theorem dL_law_1168 : decode cL_law 1168 = .ok (.iadd, 1) := by decide +kernel
theorem dL_law_1169 : decode cL_law 1169 = .ok (.iaload, 1) := by decide +kernel
theorem dL_law_1170 : decode cL_law 1170 = .ok (.aload_n 0, 1) := by decide +kernel
theorem dL_law_1171 : decode cL_law 1171 = .ok (.iload_n 3, 1) := by decide +kernel
theorem dL_law_1172 : decode cL_law 1172 = .ok (.iconst 3, 1) := by decide +kernel
theorem dL_law_1173 : decode cL_law 1173 = .ok (.iadd, 1) := by decide +kernel
theorem dL_law_1174 : decode cL_law 1174 = .ok (.iaload, 1) := by decide +kernel
theorem dL_law_1175 : decode cL_law 1175 = .ok (.invokevirtual 149, 3) := by decide +kernel
theorem dL_law_1178 : decode cL_law 1178 = .ok (.if_icmp .eq 54, 3) := by decide +kernel
theorem dL_law_1181 : decode cL_law 1181 = .ok (.iconst 0, 1) := by decide +kernel
theorem dL_law_1182 : decode cL_law 1182 = .ok (.ireturn, 1) := by decide +kernel
theorem dL_law_1183 : decode cL_law 1183 = .ok (.aload_n 1, 1) := by decide +kernel
theorem dL_law_1184 : decode cL_law 1184 = .ok (.invokevirtual 150, 3) := by decide +kernel
theorem dL_law_1187 : decode cL_law 1187 = .ok (.aload_n 2, 1) := by decide +kernel
theorem dL_law_1188 : decode cL_law 1188 = .ok (.invokevirtual 153, 3) := by decide +kernel
theorem dL_law_1191 : decode cL_law 1191 = .ok (.if_icmp .eq 41, 3) := by decide +kernel
theorem dL_law_1194 : decode cL_law 1194 = .ok (.iconst 0, 1) := by decide +kernel
theorem dL_law_1195 : decode cL_law 1195 = .ok (.ireturn, 1) := by decide +kernel
theorem dL_law_1196 : decode cL_law 1196 = .ok (.aload_n 1, 1) := by decide +kernel
theorem dL_law_1197 : decode cL_law 1197 = .ok (.invokevirtual 154, 3) := by decide +kernel
theorem dL_law_1200 : decode cL_law 1200 = .ok (.aload_n 2, 1) := by decide +kernel
theorem dL_law_1201 : decode cL_law 1201 = .ok (.invokevirtual 157, 3) := by decide +kernel
theorem dL_law_1204 : decode cL_law 1204 = .ok (.if_icmp .eq 28, 3) := by decide +kernel
theorem dL_law_1207 : decode cL_law 1207 = .ok (.iconst 0, 1) := by decide +kernel
theorem dL_law_1208 : decode cL_law 1208 = .ok (.ireturn, 1) := by decide +kernel
theorem dL_law_1209 : decode cL_law 1209 = .ok (.aload_n 1, 1) := by decide +kernel
theorem dL_law_1210 : decode cL_law 1210 = .ok (.aload_n 0, 1) := by decide +kernel
theorem dL_law_1211 : decode cL_law 1211 = .ok (.iload_n 3, 1) := by decide +kernel
theorem dL_law_1212 : decode cL_law 1212 = .ok (.iconst 1, 1) := by decide +kernel
theorem dL_law_1213 : decode cL_law 1213 = .ok (.iadd, 1) := by decide +kernel
theorem dL_law_1214 : decode cL_law 1214 = .ok (.iaload, 1) := by decide +kernel
theorem dL_law_1215 : decode cL_law 1215 = .ok (.invokevirtual 158, 3) := by decide +kernel
theorem dL_law_1218 : decode cL_law 1218 = .ok (.aload_n 2, 1) := by decide +kernel
theorem dL_law_1219 : decode cL_law 1219 = .ok (.aload_n 0, 1) := by decide +kernel
theorem dL_law_1220 : decode cL_law 1220 = .ok (.iload_n 3, 1) := by decide +kernel
theorem dL_law_1221 : decode cL_law 1221 = .ok (.iconst 1, 1) := by decide +kernel
theorem dL_law_1222 : decode cL_law 1222 = .ok (.iadd, 1) := by decide +kernel
theorem dL_law_1223 : decode cL_law 1223 = .ok (.iaload, 1) := by decide +kernel
theorem dL_law_1224 : decode cL_law 1224 = .ok (.invokevirtual 161, 3) := by decide +kernel
theorem dL_law_1227 : decode cL_law 1227 = .ok (.if_icmp .eq 5, 3) := by decide +kernel
theorem dL_law_1230 : decode cL_law 1230 = .ok (.iconst 0, 1) := by decide +kernel
theorem dL_law_1231 : decode cL_law 1231 = .ok (.ireturn, 1) := by decide +kernel
theorem dL_law_1232 : decode cL_law 1232 = .ok (.iinc 3 4, 3) := by decide +kernel
theorem dL_law_1235 : decode cL_law 1235 = .ok (.goto (-1217), 3) := by decide +kernel
theorem dL_law_1238 : decode cL_law 1238 = .ok (.iconst 1, 1) := by decide +kernel
theorem dL_law_1239 : decode cL_law 1239 = .ok (.ireturn, 1) := by decide +kernel
