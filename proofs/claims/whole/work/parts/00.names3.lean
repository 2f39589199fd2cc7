set_option maxRecDepth 20000 in
theorem ggX2_isInsidePair_X2_isHigh : GoodIn wsX2_isInsidePair wsX2_isHigh := goodIn_r _ [4, 5, 6] (by decide +kernel) (by decide +kernel)
set_option maxRecDepth 20000 in
theorem gX2_isInsidePair_X2_isHigh : GoodIn wsX2_isInsidePair (va_wsS RX2 167 yX2_isHigh wsX2_isHigh) := goodIn_app (goodIn_of _ (by decide +kernel)) ggX2_isInsidePair_X2_isHigh
set_option maxRecDepth 20000 in
theorem ggX2_isInsidePair_X2_isLow : GoodIn wsX2_isInsidePair wsX2_isLow := goodIn_r _ [9, 6, 10] (by decide +kernel) (by decide +kernel)
set_option maxRecDepth 20000 in
theorem gX2_isInsidePair_X2_isLow : GoodIn wsX2_isInsidePair (va_wsS RX2 170 yX2_isLow wsX2_isLow) := goodIn_app (goodIn_of _ (by decide +kernel)) ggX2_isInsidePair_X2_isLow
theorem dX2_isInsidePair_0 : decode cX2_isInsidePair 0 = .ok (.iload_n 2, 1) := by decide +kernel
theorem dX2_isInsidePair_1 : decode cX2_isInsidePair 1 = .ok (.iconst 1, 1) := by decide +kernel
theorem dX2_isInsidePair_2 : decode cX2_isInsidePair 2 = .ok (.if_icmp .lt 14, 3) := by decide +kernel
theorem dX2_isInsidePair_5 : decode cX2_isInsidePair 5 = .ok (.iload_n 2, 1) := by decide +kernel
theorem dX2_isInsidePair_6 : decode cX2_isInsidePair 6 = .ok (.iload_n 1, 1) := by decide +kernel
theorem dX2_isInsidePair_7 : decode cX2_isInsidePair 7 = .ok (.if_icmp .ge 9, 3) := by decide +kernel
theorem dX2_isInsidePair_10 : decode cX2_isInsidePair 10 = .ok (.iload_n 2, 1) := by decide +kernel
theorem dX2_isInsidePair_11 : decode cX2_isInsidePair 11 = .ok (.aload_n 0, 1) := by decide +kernel
theorem dX2_isInsidePair_12 : decode cX2_isInsidePair 12 = .ok (.arraylength, 1) := by decide +kernel
theorem dX2_isInsidePair_13 : decode cX2_isInsidePair 13 = .ok (.if_icmp .lt 5, 3) := by decide +kernel
theorem dX2_isInsidePair_16 : decode cX2_isInsidePair 16 = .ok (.iconst 0, 1) := by decide +kernel
theorem dX2_isInsidePair_17 : decode cX2_isInsidePair 17 = .ok (.ireturn, 1) := by decide +kernel
theorem dX2_isInsidePair_18 : decode cX2_isInsidePair 18 = .ok (.aload_n 0, 1) := by decide +kernel
theorem dX2_isInsidePair_19 : decode cX2_isInsidePair 19 = .ok (.iload_n 2, 1) := by decide +kernel
theorem dX2_isInsidePair_20 : decode cX2_isInsidePair 20 = .ok (.iconst 1, 1) := by decide +kernel
theorem dX2_isInsidePair_21 : decode cX2_isInsidePair 21 = .ok (.isub, 1) := by decide +kernel
theorem dX2_isInsidePair_22 : decode cX2_isInsidePair 22 = .ok (.iaload, 1) := by decide +kernel
theorem dX2_isInsidePair_23 : decode cX2_isInsidePair 23 = .ok (.invokestatic 167, 3) := by decide +kernel
theorem dX2_isInsidePair_26 : decode cX2_isInsidePair 26 = .ok (.ifCond .eq 16, 3) := by decide +kernel
theorem dX2_isInsidePair_29 : decode cX2_isInsidePair 29 = .ok (.aload_n 0, 1) := by decide +kernel
theorem dX2_isInsidePair_30 : decode cX2_isInsidePair 30 = .ok (.iload_n 2, 1) := by decide +kernel
theorem dX2_isInsidePair_31 : decode cX2_isInsidePair 31 = .ok (.iaload, 1) := by decide +kernel
theorem dX2_isInsidePair_32 : decode cX2_isInsidePair 32 = .ok (.invokestatic 170, 3) := by decide +kernel
theorem dX2_isInsidePair_35 : decode cX2_isInsidePair 35 = .ok (.ifCond .eq 7, 3) := by decide +kernel
theorem dX2_isInsidePair_38 : decode cX2_isInsidePair 38 = .ok (.iconst 1, 1) := by decide +kernel
theorem dX2_isInsidePair_39 : decode cX2_isInsidePair 39 = .ok (.goto 4, 3) := by decide +kernel
theorem dX2_isInsidePair_42 : decode cX2_isInsidePair 42 = .ok (.iconst 0, 1) := by decide +kernel
theorem dX2_isInsidePair_43 : decode cX2_isInsidePair 43 = .ok (.ireturn, 1) := by decide +kernel
theorem dX2_pairedPoint_0 : decode cX2_pairedPoint 0 = .ok (.iload_n 1, 1) := by decide +kernel
theorem dX2_pairedPoint_1 : decode cX2_pairedPoint 1 = .ok (.ifCond .lt 11, 3) := by decide +kernel
theorem dX2_pairedPoint_4 : decode cX2_pairedPoint 4 = .ok (.iload_n 1, 1) := by decide +kernel
theorem dX2_pairedPoint_5 : decode cX2_pairedPoint 5 = .ok (.aload_n 0, 1) := by decide +kernel
theorem dX2_pairedPoint_6 : decode cX2_pairedPoint 6 = .ok (.arraylength, 1) := by decide +kernel
theorem dX2_pairedPoint_7 : decode cX2_pairedPoint 7 = .ok (.iconst 1, 1) := by decide +kernel
theorem dX2_pairedPoint_8 : decode cX2_pairedPoint 8 = .ok (.isub, 1) := by decide +kernel
theorem dX2_pairedPoint_9 : decode cX2_pairedPoint 9 = .ok (.if_icmp .lt 5, 3) := by decide +kernel
theorem dX2_pairedPoint_12 : decode cX2_pairedPoint 12 = .ok (.iconst 0, 1) := by decide +kernel
theorem dX2_pairedPoint_13 : decode cX2_pairedPoint 13 = .ok (.ireturn, 1) := by decide +kernel
theorem dX2_pairedPoint_14 : decode cX2_pairedPoint 14 = .ok (.ldc 173, 2) := by decide +kernel
theorem dX2_pairedPoint_16 : decode cX2_pairedPoint 16 = .ok (.aload_n 0, 1) := by decide +kernel
theorem dX2_pairedPoint_17 : decode cX2_pairedPoint 17 = .ok (.iload_n 1, 1) := by decide +kernel
theorem dX2_pairedPoint_18 : decode cX2_pairedPoint 18 = .ok (.iaload, 1) := by decide +kernel
theorem dX2_pairedPoint_19 : decode cX2_pairedPoint 19 = .ok (.ldc 182, 2) := by decide +kernel
theorem dX2_pairedPoint_21 : decode cX2_pairedPoint 21 = .ok (.isub, 1) := by decide +kernel
theorem dX2_pairedPoint_22 : decode cX2_pairedPoint 22 = .ok (.sipush 1024, 3) := by decide +kernel
theorem dX2_pairedPoint_25 : decode cX2_pairedPoint 25 = .ok (.imul, 1) := by decide +kernel
theorem dX2_pairedPoint_26 : decode cX2_pairedPoint 26 = .ok (.iadd, 1) := by decide +kernel
theorem dX2_pairedPoint_27 : decode cX2_pairedPoint 27 = .ok (.aload_n 0, 1) := by decide +kernel
theorem dX2_pairedPoint_28 : decode cX2_pairedPoint 28 = .ok (.iload_n 1, 1) := by decide +kernel
theorem dX2_pairedPoint_29 : decode cX2_pairedPoint 29 = .ok (.iconst 1, 1) := by decide +kernel
theorem dX2_pairedPoint_30 : decode cX2_pairedPoint 30 = .ok (.iadd, 1) := by decide +kernel
theorem dX2_pairedPoint_31 : decode cX2_pairedPoint 31 = .ok (.iaload, 1) := by decide +kernel
theorem dX2_pairedPoint_32 : decode cX2_pairedPoint 32 = .ok (.ldc 183, 2) := by decide +kernel
theorem dX2_pairedPoint_34 : decode cX2_pairedPoint 34 = .ok (.isub, 1) := by decide +kernel
theorem dX2_pairedPoint_35 : decode cX2_pairedPoint 35 = .ok (.iadd, 1) := by decide +kernel
theorem dX2_pairedPoint_36 : decode cX2_pairedPoint 36 = .ok (.ireturn, 1) := by decide +kernel
set_option maxRecDepth 20000 in
theorem ggX2_partsPair_X2_isInsidePair : GoodIn wsX2_partsPair wsX2_isInsidePair := goodIn_r _ [6, 7, 8, 5, 9, 10, 11, 12, 13, 14, 15] (by decide +kernel) (by decide +kernel)
set_option maxRecDepth 20000 in
theorem gX2_partsPair_X2_isInsidePair : GoodIn wsX2_partsPair (va_wsS RX2 185 yX2_isInsidePair wsX2_isInsidePair) := goodIn_app (goodIn_of _ (by decide +kernel)) ggX2_partsPair_X2_isInsidePair
theorem dX2_partsPair_0 : decode cX2_partsPair 0 = .ok (.aload_n 0, 1) := by decide +kernel
theorem dX2_partsPair_1 : decode cX2_partsPair 1 = .ok (.getfield 94, 3) := by decide +kernel
theorem dX2_partsPair_4 : decode cX2_partsPair 4 = .ok (.ifCond .ne 23, 3) := by decide +kernel
theorem dX2_partsPair_7 : decode cX2_partsPair 7 = .ok (.aload_n 0, 1) := by decide +kernel
theorem dX2_partsPair_8 : decode cX2_partsPair 8 = .ok (.getfield 93, 3) := by decide +kernel
theorem dX2_partsPair_11 : decode cX2_partsPair 11 = .ok (.aload_n 0, 1) := by decide +kernel
theorem dX2_partsPair_12 : decode cX2_partsPair 12 = .ok (.getfield 93, 3) := by decide +kernel
theorem dX2_partsPair_15 : decode cX2_partsPair 15 = .ok (.arraylength, 1) := by decide +kernel
theorem dX2_partsPair_16 : decode cX2_partsPair 16 = .ok (.iload_n 1, 1) := by decide +kernel
theorem dX2_partsPair_17 : decode cX2_partsPair 17 = .ok (.invokestatic 185, 3) := by decide +kernel
theorem dX2_partsPair_20 : decode cX2_partsPair 20 = .ok (.ifCond .eq 7, 3) := by decide +kernel
theorem dX2_partsPair_23 : decode cX2_partsPair 23 = .ok (.iconst 1, 1) := by decide +kernel
theorem dX2_partsPair_24 : decode cX2_partsPair 24 = .ok (.goto 4, 3) := by decide +kernel
theorem dX2_partsPair_27 : decode cX2_partsPair 27 = .ok (.iconst 0, 1) := by decide +kernel
theorem dX2_partsPair_28 : decode cX2_partsPair 28 = .ok (.ireturn, 1) := by decide +kernel
theorem dX2_isBeyond_0 : decode cX2_isBeyond 0 = .ok (.aload_n 0, 1) := by decide +kernel
theorem dX2_isBeyond_1 : decode cX2_isBeyond 1 = .ok (.getfield 93, 3) := by decide +kernel
theorem dX2_isBeyond_4 : decode cX2_isBeyond 4 = .ok (.arraylength, 1) := by decide +kernel
theorem dX2_isBeyond_5 : decode cX2_isBeyond 5 = .ok (.istore_n 3, 1) := by decide +kernel
theorem dX2_isBeyond_6 : decode cX2_isBeyond 6 = .ok (.iload_n 1, 1) := by decide +kernel
theorem dX2_isBeyond_7 : decode cX2_isBeyond 7 = .ok (.ifCond .lt 19, 3) := by decide +kernel
theorem dX2_isBeyond_10 : decode cX2_isBeyond 10 = .ok (.iload_n 2, 1) := by decide +kernel
theorem dX2_isBeyond_11 : decode cX2_isBeyond 11 = .ok (.ifCond .lt 15, 3) := by decide +kernel
theorem dX2_isBeyond_14 : decode cX2_isBeyond 14 = .ok (.iload_n 1, 1) := by decide +kernel
theorem dX2_isBeyond_15 : decode cX2_isBeyond 15 = .ok (.iload_n 3, 1) := by decide +kernel
theorem dX2_isBeyond_16 : decode cX2_isBeyond 16 = .ok (.if_icmp .gt 10, 3) := by decide +kernel
theorem dX2_isBeyond_19 : decode cX2_isBeyond 19 = .ok (.iload_n 2, 1) := by decide +kernel
theorem dX2_isBeyond_20 : decode cX2_isBeyond 20 = .ok (.iload_n 3, 1) := by decide +kernel
theorem dX2_isBeyond_21 : decode cX2_isBeyond 21 = .ok (.iload_n 1, 1) := by decide +kernel
theorem dX2_isBeyond_22 : decode cX2_isBeyond 22 = .ok (.isub, 1) := by decide +kernel
theorem dX2_isBeyond_23 : decode cX2_isBeyond 23 = .ok (.if_icmp .le 7, 3) := by decide +kernel
theorem dX2_isBeyond_26 : decode cX2_isBeyond 26 = .ok (.iconst 1, 1) := by decide +kernel
theorem dX2_isBeyond_27 : decode cX2_isBeyond 27 = .ok (.goto 4, 3) := by decide +kernel
theorem dX2_isBeyond_30 : decode cX2_isBeyond 30 = .ok (.iconst 0, 1) := by decide +kernel
theorem dX2_isBeyond_31 : decode cX2_isBeyond 31 = .ok (.ireturn, 1) := by decide +kernel
set_option maxRecDepth 20000 in
theorem ggX2_listPoints_X0_empty : GoodIn wsX2_listPoints wsX0_empty := goodIn_r _ [7, 8, 39, 40] (by decide +kernel) (by decide +kernel)
set_option maxRecDepth 20000 in
theorem gX2_listPoints_X0_empty : GoodIn wsX2_listPoints (wsV RX2 68 RX0 yX0_empty wsX0_empty) := goodIn_app (goodIn_of _ (by decide +kernel)) ggX2_listPoints_X0_empty
set_option maxRecDepth 20000 in
theorem ggX2_listPoints_X0_addPointsOf : GoodIn wsX2_listPoints wsX0_addPointsOf := goodIn_r _ [12, 13, 14, 15, 16, 17, 18, 19, 20, 21, 22, 23, 24, 25, 26, 27, 28, 29, 30, 6, 31, 8, 32, 39, 40] (by decide +kernel) (by decide +kernel)
set_option maxRecDepth 20000 in
theorem gX2_listPoints_X0_addPointsOf : GoodIn wsX2_listPoints (wsV RX2 78 RX0 yX0_addPointsOf wsX0_addPointsOf) := goodIn_app (goodIn_of _ (by decide +kernel)) ggX2_listPoints_X0_addPointsOf
set_option maxRecDepth 20000 in
theorem ggX2_listPoints_X0_addAll : GoodIn wsX2_listPoints wsX0_addAll := goodIn_r _ [36, 28, 29, 30, 6, 31, 8, 32, 39, 40] (by decide +kernel) (by decide +kernel)
set_option maxRecDepth 20000 in
theorem gX2_listPoints_X0_addAll : GoodIn wsX2_listPoints (wsV RX2 140 RX0 yX0_addAll wsX0_addAll) := goodIn_app (goodIn_of _ (by decide +kernel)) ggX2_listPoints_X0_addAll
theorem dX2_listPoints_0 : decode cX2_listPoints 0 = .ok (.aload_n 1, 1) := by decide +kernel
theorem dX2_listPoints_1 : decode cX2_listPoints 1 = .ok (.invokevirtual 68, 3) := by decide +kernel
theorem dX2_listPoints_4 : decode cX2_listPoints 4 = .ok (.aload_n 0, 1) := by decide +kernel
theorem dX2_listPoints_5 : decode cX2_listPoints 5 = .ok (.getfield 94, 3) := by decide +kernel
theorem dX2_listPoints_8 : decode cX2_listPoints 8 = .ok (.ifCond .ne 19, 3) := by decide +kernel
theorem dX2_listPoints_11 : decode cX2_listPoints 11 = .ok (.aload_n 1, 1) := by decide +kernel
theorem dX2_listPoints_12 : decode cX2_listPoints 12 = .ok (.aload_n 0, 1) := by decide +kernel
theorem dX2_listPoints_13 : decode cX2_listPoints 13 = .ok (.getfield 93, 3) := by decide +kernel
theorem dX2_listPoints_16 : decode cX2_listPoints 16 = .ok (.aload_n 0, 1) := by decide +kernel
theorem dX2_listPoints_17 : decode cX2_listPoints 17 = .ok (.getfield 93, 3) := by decide +kernel
theorem dX2_listPoints_20 : decode cX2_listPoints 20 = .ok (.arraylength, 1) := by decide +kernel
theorem dX2_listPoints_21 : decode cX2_listPoints 21 = .ok (.invokevirtual 78, 3) := by decide +kernel
theorem dX2_listPoints_24 : decode cX2_listPoints 24 = .ok (.goto 11, 3) := by decide +kernel
theorem dX2_listPoints_27 : decode cX2_listPoints 27 = .ok (.aload_n 1, 1) := by decide +kernel
theorem dX2_listPoints_28 : decode cX2_listPoints 28 = .ok (.aload_n 0, 1) := by decide +kernel
theorem dX2_listPoints_29 : decode cX2_listPoints 29 = .ok (.getfield 93, 3) := by decide +kernel
theorem dX2_listPoints_32 : decode cX2_listPoints 32 = .ok (.invokevirtual 140, 3) := by decide +kernel
theorem dX2_listPoints_35 : decode cX2_listPoints 35 = .ok (.return_, 1) := by decide +kernel
set_option maxRecDepth 20000 in
theorem ggX2_listUnits_X0_empty : GoodIn wsX2_listUnits wsX0_empty := goodIn_r _ [7, 8, 27, 28] (by decide +kernel) (by decide +kernel)
set_option maxRecDepth 20000 in
theorem gX2_listUnits_X0_empty : GoodIn wsX2_listUnits (wsV RX2 68 RX0 yX0_empty wsX0_empty) := goodIn_app (goodIn_of _ (by decide +kernel)) ggX2_listUnits_X0_empty
set_option maxRecDepth 20000 in
theorem ggX2_listUnits_X0_addAll : GoodIn wsX2_listUnits wsX0_addAll := goodIn_r _ [12, 13, 14, 15, 6, 16, 8, 17, 27, 28] (by decide +kernel) (by decide +kernel)
set_option maxRecDepth 20000 in
theorem gX2_listUnits_X0_addAll : GoodIn wsX2_listUnits (wsV RX2 140 RX0 yX0_addAll wsX0_addAll) := goodIn_app (goodIn_of _ (by decide +kernel)) ggX2_listUnits_X0_addAll
set_option maxRecDepth 20000 in
theorem ggX2_listUnits_X0_addUnitsOf : GoodIn wsX2_listUnits wsX0_addUnitsOf := goodIn_r _ [21, 22, 23, 24, 13, 14, 15, 6, 16, 8, 17, 27, 28] (by decide +kernel) (by decide +kernel)
set_option maxRecDepth 20000 in
theorem gX2_listUnits_X0_addUnitsOf : GoodIn wsX2_listUnits (wsV RX2 58 RX0 yX0_addUnitsOf wsX0_addUnitsOf) := goodIn_app (goodIn_of _ (by decide +kernel)) ggX2_listUnits_X0_addUnitsOf
theorem dX2_listUnits_0 : decode cX2_listUnits 0 = .ok (.aload_n 1, 1) := by decide +kernel
theorem dX2_listUnits_1 : decode cX2_listUnits 1 = .ok (.invokevirtual 68, 3) := by decide +kernel
theorem dX2_listUnits_4 : decode cX2_listUnits 4 = .ok (.aload_n 0, 1) := by decide +kernel
theorem dX2_listUnits_5 : decode cX2_listUnits 5 = .ok (.getfield 94, 3) := by decide +kernel
theorem dX2_listUnits_8 : decode cX2_listUnits 8 = .ok (.iconst 1, 1) := by decide +kernel
theorem dX2_listUnits_9 : decode cX2_listUnits 9 = .ok (.if_icmp .eq 12, 3) := by decide +kernel
theorem dX2_listUnits_12 : decode cX2_listUnits 12 = .ok (.aload_n 1, 1) := by decide +kernel
theorem dX2_listUnits_13 : decode cX2_listUnits 13 = .ok (.aload_n 0, 1) := by decide +kernel
theorem dX2_listUnits_14 : decode cX2_listUnits 14 = .ok (.getfield 93, 3) := by decide +kernel
theorem dX2_listUnits_17 : decode cX2_listUnits 17 = .ok (.invokevirtual 140, 3) := by decide +kernel
theorem dX2_listUnits_20 : decode cX2_listUnits 20 = .ok (.return_, 1) := by decide +kernel
theorem dX2_listUnits_21 : decode cX2_listUnits 21 = .ok (.iconst 0, 1) := by decide +kernel
theorem dX2_listUnits_22 : decode cX2_listUnits 22 = .ok (.istore_n 2, 1) := by decide +kernel
theorem dX2_listUnits_23 : decode cX2_listUnits 23 = .ok (.iload_n 2, 1) := by decide +kernel
theorem dX2_listUnits_24 : decode cX2_listUnits 24 = .ok (.aload_n 0, 1) := by decide +kernel
theorem dX2_listUnits_25 : decode cX2_listUnits 25 = .ok (.getfield 93, 3) := by decide +kernel
theorem dX2_listUnits_28 : decode cX2_listUnits 28 = .ok (.arraylength, 1) := by decide +kernel
theorem dX2_listUnits_29 : decode cX2_listUnits 29 = .ok (.if_icmp .ge 19, 3) := by decide +kernel
theorem dX2_listUnits_32 : decode cX2_listUnits 32 = .ok (.aload_n 1, 1) := by decide +kernel
theorem dX2_listUnits_33 : decode cX2_listUnits 33 = .ok (.aload_n 0, 1) := by decide +kernel
theorem dX2_listUnits_34 : decode cX2_listUnits 34 = .ok (.getfield 93, 3) := by decide +kernel
theorem dX2_listUnits_37 : decode cX2_listUnits 37 = .ok (.iload_n 2, 1) := by decide +kernel
theorem dX2_listUnits_38 : decode cX2_listUnits 38 = .ok (.iaload, 1) := by decide +kernel
theorem dX2_listUnits_39 : decode cX2_listUnits 39 = .ok (.invokevirtual 58, 3) := by decide +kernel
theorem dX2_listUnits_42 : decode cX2_listUnits 42 = .ok (.iinc 2 1, 3) := by decide +kernel
theorem dX2_listUnits_45 : decode cX2_listUnits 45 = .ok (.goto (-22), 3) := by decide +kernel
theorem dX2_listUnits_48 : decode cX2_listUnits 48 = .ok (.return_, 1) := by decide +kernel
set_option maxRecDepth 20000 in
theorem ggX2_firstUntellable_X2_isHigh : GoodIn wsX2_firstUntellable wsX2_isHigh := goodIn_r _ [6, 7, 8] (by decide +kernel) (by decide +kernel)
set_option maxRecDepth 20000 in
theorem gX2_firstUntellable_X2_isHigh : GoodIn wsX2_firstUntellable (va_wsS RX2 167 yX2_isHigh wsX2_isHigh) := goodIn_app (goodIn_of _ (by decide +kernel)) ggX2_firstUntellable_X2_isHigh
set_option maxRecDepth 20000 in
theorem ggX2_firstUntellable_X2_isLow : GoodIn wsX2_firstUntellable wsX2_isLow := goodIn_r _ [11, 8, 12] (by decide +kernel) (by decide +kernel)
set_option maxRecDepth 20000 in
theorem gX2_firstUntellable_X2_isLow : GoodIn wsX2_firstUntellable (va_wsS RX2 170 yX2_isLow wsX2_isLow) := goodIn_app (goodIn_of _ (by decide +kernel)) ggX2_firstUntellable_X2_isLow
theorem dX2_firstUntellable_0 : decode cX2_firstUntellable 0 = .ok (.iconst 0, 1) := by decide +kernel
theorem dX2_firstUntellable_1 : decode cX2_firstUntellable 1 = .ok (.istore_n 2, 1) := by decide +kernel
theorem dX2_firstUntellable_2 : decode cX2_firstUntellable 2 = .ok (.iload_n 2, 1) := by decide +kernel
theorem dX2_firstUntellable_3 : decode cX2_firstUntellable 3 = .ok (.aload_n 0, 1) := by decide +kernel
theorem dX2_firstUntellable_4 : decode cX2_firstUntellable 4 = .ok (.getfield 48, 3) := by decide +kernel
theorem dX2_firstUntellable_7 : decode cX2_firstUntellable 7 = .ok (.if_icmp .ge 56, 3) := by decide +kernel
theorem dX2_firstUntellable_10 : decode cX2_firstUntellable 10 = .ok (.iload_n 2, 1) := by decide +kernel
theorem dX2_firstUntellable_11 : decode cX2_firstUntellable 11 = .ok (.aload_n 0, 1) := by decide +kernel
theorem dX2_firstUntellable_12 : decode cX2_firstUntellable 12 = .ok (.getfield 74, 3) := by decide +kernel
theorem dX2_firstUntellable_15 : decode cX2_firstUntellable 15 = .ok (.arraylength, 1) := by decide +kernel
theorem dX2_firstUntellable_16 : decode cX2_firstUntellable 16 = .ok (.if_icmp .ge 47, 3) := by decide +kernel
theorem dX2_firstUntellable_19 : decode cX2_firstUntellable 19 = .ok (.aload_n 0, 1) := by decide +kernel
theorem dX2_firstUntellable_20 : decode cX2_firstUntellable 20 = .ok (.getfield 74, 3) := by decide +kernel
theorem dX2_firstUntellable_23 : decode cX2_firstUntellable 23 = .ok (.iload_n 2, 1) := by decide +kernel
theorem dX2_firstUntellable_24 : decode cX2_firstUntellable 24 = .ok (.iaload, 1) := by decide +kernel
theorem dX2_firstUntellable_25 : decode cX2_firstUntellable 25 = .ok (.istore_n 3, 1) := by decide +kernel
theorem dX2_firstUntellable_26 : decode cX2_firstUntellable 26 = .ok (.iload_n 1, 1) := by decide +kernel
theorem dX2_firstUntellable_27 : decode cX2_firstUntellable 27 = .ok (.iconst 3, 1) := by decide +kernel
theorem dX2_firstUntellable_28 : decode cX2_firstUntellable 28 = .ok (.if_icmp .ne 13, 3) := by decide +kernel
theorem dX2_firstUntellable_31 : decode cX2_firstUntellable 31 = .ok (.iload_n 3, 1) := by decide +kernel
theorem dX2_firstUntellable_32 : decode cX2_firstUntellable 32 = .ok (.sipush 255, 3) := by decide +kernel
theorem dX2_firstUntellable_35 : decode cX2_firstUntellable 35 = .ok (.if_icmp .le 22, 3) := by decide +kernel
theorem dX2_firstUntellable_38 : decode cX2_firstUntellable 38 = .ok (.goto 17, 3) := by decide +kernel
theorem dX2_firstUntellable_41 : decode cX2_firstUntellable 41 = .ok (.iload_n 3, 1) := by decide +kernel
theorem dX2_firstUntellable_42 : decode cX2_firstUntellable 42 = .ok (.invokestatic 167, 3) := by decide +kernel
theorem dX2_firstUntellable_45 : decode cX2_firstUntellable 45 = .ok (.ifCond .ne 10, 3) := by decide +kernel
theorem dX2_firstUntellable_48 : decode cX2_firstUntellable 48 = .ok (.iload_n 3, 1) := by decide +kernel
theorem dX2_firstUntellable_49 : decode cX2_firstUntellable 49 = .ok (.invokestatic 170, 3) := by decide +kernel
theorem dX2_firstUntellable_52 : decode cX2_firstUntellable 52 = .ok (.ifCond .eq 5, 3) := by decide +kernel
theorem dX2_firstUntellable_55 : decode cX2_firstUntellable 55 = .ok (.iload_n 2, 1) := by decide +kernel
theorem dX2_firstUntellable_56 : decode cX2_firstUntellable 56 = .ok (.ireturn, 1) := by decide +kernel
theorem dX2_firstUntellable_57 : decode cX2_firstUntellable 57 = .ok (.iinc 2 1, 3) := by decide +kernel
theorem dX2_firstUntellable_60 : decode cX2_firstUntellable 60 = .ok (.goto (-58), 3) := by decide +kernel
theorem dX2_firstUntellable_63 : decode cX2_firstUntellable 63 = .ok (.iconst (-1), 1) := by decide +kernel
theorem dX2_firstUntellable_64 : decode cX2_firstUntellable 64 = .ok (.ireturn, 1) := by decide +kernel
set_option maxRecDepth 20000 in
theorem ggX2_tellUnits_X0_add : GoodIn wsX2_tellUnits wsX0_add := goodIn_r _ [7, 8, 9, 10, 11] (by decide +kernel) (by decide +kernel)
set_option maxRecDepth 20000 in
theorem gX2_tellUnits_X0_add : GoodIn wsX2_tellUnits (wsV RX2 65 RX0 yX0_add wsX0_add) := goodIn_app (goodIn_of _ (by decide +kernel)) ggX2_tellUnits_X0_add
theorem dX2_tellUnits_0 : decode cX2_tellUnits 0 = .ok (.iconst 0, 1) := by decide +kernel
theorem dX2_tellUnits_1 : decode cX2_tellUnits 1 = .ok (.istore_n 3, 1) := by decide +kernel
theorem dX2_tellUnits_2 : decode cX2_tellUnits 2 = .ok (.iload_n 3, 1) := by decide +kernel
theorem dX2_tellUnits_3 : decode cX2_tellUnits 3 = .ok (.aload_n 0, 1) := by decide +kernel
theorem dX2_tellUnits_4 : decode cX2_tellUnits 4 = .ok (.getfield 48, 3) := by decide +kernel
theorem dX2_tellUnits_7 : decode cX2_tellUnits 7 = .ok (.if_icmp .ge 74, 3) := by decide +kernel
theorem dX2_tellUnits_10 : decode cX2_tellUnits 10 = .ok (.iload_n 3, 1) := by decide +kernel
theorem dX2_tellUnits_11 : decode cX2_tellUnits 11 = .ok (.aload_n 0, 1) := by decide +kernel
theorem dX2_tellUnits_12 : decode cX2_tellUnits 12 = .ok (.getfield 74, 3) := by decide +kernel
theorem dX2_tellUnits_15 : decode cX2_tellUnits 15 = .ok (.arraylength, 1) := by decide +kernel
theorem dX2_tellUnits_16 : decode cX2_tellUnits 16 = .ok (.if_icmp .ge 65, 3) := by decide +kernel
theorem dX2_tellUnits_19 : decode cX2_tellUnits 19 = .ok (.aload_n 0, 1) := by decide +kernel
theorem dX2_tellUnits_20 : decode cX2_tellUnits 20 = .ok (.getfield 74, 3) := by decide +kernel
theorem dX2_tellUnits_23 : decode cX2_tellUnits 23 = .ok (.iload_n 3, 1) := by decide +kernel
theorem dX2_tellUnits_24 : decode cX2_tellUnits 24 = .ok (.iaload, 1) := by decide +kernel
theorem dX2_tellUnits_25 : decode cX2_tellUnits 25 = .ok (.sipush 256, 3) := by decide +kernel
theorem dX2_tellUnits_28 : decode cX2_tellUnits 28 = .ok (.idiv, 1) := by decide +kernel
theorem dX2_tellUnits_29 : decode cX2_tellUnits 29 = .ok (.istore 4, 2) := by decide +kernel
theorem dX2_tellUnits_31 : decode cX2_tellUnits 31 = .ok (.aload_n 0, 1) := by decide +kernel
theorem dX2_tellUnits_32 : decode cX2_tellUnits 32 = .ok (.getfield 74, 3) := by decide +kernel
theorem dX2_tellUnits_35 : decode cX2_tellUnits 35 = .ok (.iload_n 3, 1) := by decide +kernel
theorem dX2_tellUnits_36 : decode cX2_tellUnits 36 = .ok (.iaload, 1) := by decide +kernel
theorem dX2_tellUnits_37 : decode cX2_tellUnits 37 = .ok (.sipush 256, 3) := by decide +kernel
theorem dX2_tellUnits_40 : decode cX2_tellUnits 40 = .ok (.irem, 1) := by decide +kernel
theorem dX2_tellUnits_41 : decode cX2_tellUnits 41 = .ok (.istore 5, 2) := by decide +kernel
theorem dX2_tellUnits_43 : decode cX2_tellUnits 43 = .ok (.aload_n 2, 1) := by decide +kernel
theorem dX2_tellUnits_44 : decode cX2_tellUnits 44 = .ok (.iload_n 1, 1) := by decide +kernel
theorem dX2_tellUnits_45 : decode cX2_tellUnits 45 = .ok (.iconst 1, 1) := by decide +kernel
theorem dX2_tellUnits_46 : decode cX2_tellUnits 46 = .ok (.if_icmp .ne 8, 3) := by decide +kernel
theorem dX2_tellUnits_49 : decode cX2_tellUnits 49 = .ok (.iload 4, 2) := by decide +kernel
theorem dX2_tellUnits_51 : decode cX2_tellUnits 51 = .ok (.goto 5, 3) := by decide +kernel
theorem dX2_tellUnits_54 : decode cX2_tellUnits 54 = .ok (.iload 5, 2) := by decide +kernel
theorem dX2_tellUnits_56 : decode cX2_tellUnits 56 = .ok (.invokevirtual 65, 3) := by decide +kernel
theorem dX2_tellUnits_59 : decode cX2_tellUnits 59 = .ok (.aload_n 2, 1) := by decide +kernel
theorem dX2_tellUnits_60 : decode cX2_tellUnits 60 = .ok (.iload_n 1, 1) := by decide +kernel
theorem dX2_tellUnits_61 : decode cX2_tellUnits 61 = .ok (.iconst 1, 1) := by decide +kernel
theorem dX2_tellUnits_62 : decode cX2_tellUnits 62 = .ok (.if_icmp .ne 8, 3) := by decide +kernel
theorem dX2_tellUnits_65 : decode cX2_tellUnits 65 = .ok (.iload 5, 2) := by decide +kernel
theorem dX2_tellUnits_67 : decode cX2_tellUnits 67 = .ok (.goto 5, 3) := by decide +kernel
theorem dX2_tellUnits_70 : decode cX2_tellUnits 70 = .ok (.iload 4, 2) := by decide +kernel
theorem dX2_tellUnits_72 : decode cX2_tellUnits 72 = .ok (.invokevirtual 65, 3) := by decide +kernel
theorem dX2_tellUnits_75 : decode cX2_tellUnits 75 = .ok (.iinc 3 1, 3) := by decide +kernel
theorem dX2_tellUnits_78 : decode cX2_tellUnits 78 = .ok (.goto (-76), 3) := by decide +kernel
theorem dX2_tellUnits_81 : decode cX2_tellUnits 81 = .ok (.return_, 1) := by decide +kernel
set_option maxRecDepth 20000 in
theorem ggX2_tellPoints_X0_add : GoodIn wsX2_tellPoints wsX0_add := goodIn_r _ [7, 8, 9, 16, 17] (by decide +kernel) (by decide +kernel)
set_option maxRecDepth 20000 in
theorem gX2_tellPoints_X0_add : GoodIn wsX2_tellPoints (wsV RX2 65 RX0 yX0_add wsX0_add) := goodIn_app (goodIn_of _ (by decide +kernel)) ggX2_tellPoints_X0_add
set_option maxRecDepth 20000 in
theorem ggX2_tellPoints_X2_tellInManyBytes : GoodIn wsX2_tellPoints wsX2_tellInManyBytes := goodIn_r _ [13, 14, 15, 3, 4, 5, 6, 7, 8, 9, 16, 17] (by decide +kernel) (by decide +kernel)
set_option maxRecDepth 20000 in
theorem gX2_tellPoints_X2_tellInManyBytes : GoodIn wsX2_tellPoints (va_wsS RX2 189 yX2_tellInManyBytes wsX2_tellInManyBytes) := goodIn_app (goodIn_of _ (by decide +kernel)) ggX2_tellPoints_X2_tellInManyBytes
theorem dX2_tellPoints_0 : decode cX2_tellPoints 0 = .ok (.iconst 0, 1) := by decide +kernel
theorem dX2_tellPoints_1 : decode cX2_tellPoints 1 = .ok (.istore_n 3, 1) := by decide +kernel
theorem dX2_tellPoints_2 : decode cX2_tellPoints 2 = .ok (.iload_n 3, 1) := by decide +kernel
theorem dX2_tellPoints_3 : decode cX2_tellPoints 3 = .ok (.aload_n 0, 1) := by decide +kernel
theorem dX2_tellPoints_4 : decode cX2_tellPoints 4 = .ok (.getfield 48, 3) := by decide +kernel
theorem dX2_tellPoints_7 : decode cX2_tellPoints 7 = .ok (.if_icmp .ge 46, 3) := by decide +kernel
theorem dX2_tellPoints_10 : decode cX2_tellPoints 10 = .ok (.iload_n 3, 1) := by decide +kernel
theorem dX2_tellPoints_11 : decode cX2_tellPoints 11 = .ok (.aload_n 0, 1) := by decide +kernel
theorem dX2_tellPoints_12 : decode cX2_tellPoints 12 = .ok (.getfield 74, 3) := by decide +kernel
theorem dX2_tellPoints_15 : decode cX2_tellPoints 15 = .ok (.arraylength, 1) := by decide +kernel
theorem dX2_tellPoints_16 : decode cX2_tellPoints 16 = .ok (.if_icmp .ge 37, 3) := by decide +kernel
theorem dX2_tellPoints_19 : decode cX2_tellPoints 19 = .ok (.iload_n 1, 1) := by decide +kernel
theorem dX2_tellPoints_20 : decode cX2_tellPoints 20 = .ok (.iconst 3, 1) := by decide +kernel
theorem dX2_tellPoints_21 : decode cX2_tellPoints 21 = .ok (.if_icmp .ne 16, 3) := by decide +kernel
theorem dX2_tellPoints_24 : decode cX2_tellPoints 24 = .ok (.aload_n 2, 1) := by decide +kernel
theorem dX2_tellPoints_25 : decode cX2_tellPoints 25 = .ok (.aload_n 0, 1) := by decide +kernel
theorem dX2_tellPoints_26 : decode cX2_tellPoints 26 = .ok (.getfield 74, 3) := by decide +kernel
theorem dX2_tellPoints_29 : decode cX2_tellPoints 29 = .ok (.iload_n 3, 1) := by decide +kernel
theorem dX2_tellPoints_30 : decode cX2_tellPoints 30 = .ok (.iaload, 1) := by decide +kernel
theorem dX2_tellPoints_31 : decode cX2_tellPoints 31 = .ok (.invokevirtual 65, 3) := by decide +kernel
theorem dX2_tellPoints_34 : decode cX2_tellPoints 34 = .ok (.goto 13, 3) := by decide +kernel
theorem dX2_tellPoints_37 : decode cX2_tellPoints 37 = .ok (.aload_n 0, 1) := by decide +kernel
theorem dX2_tellPoints_38 : decode cX2_tellPoints 38 = .ok (.getfield 74, 3) := by decide +kernel
theorem dX2_tellPoints_41 : decode cX2_tellPoints 41 = .ok (.iload_n 3, 1) := by decide +kernel
theorem dX2_tellPoints_42 : decode cX2_tellPoints 42 = .ok (.iaload, 1) := by decide +kernel
theorem dX2_tellPoints_43 : decode cX2_tellPoints 43 = .ok (.aload_n 2, 1) := by decide +kernel
theorem dX2_tellPoints_44 : decode cX2_tellPoints 44 = .ok (.invokestatic 189, 3) := by decide +kernel
theorem dX2_tellPoints_47 : decode cX2_tellPoints 47 = .ok (.iinc 3 1, 3) := by decide +kernel
theorem dX2_tellPoints_50 : decode cX2_tellPoints 50 = .ok (.goto (-48), 3) := by decide +kernel
theorem dX2_tellPoints_53 : decode cX2_tellPoints 53 = .ok (.return_, 1) := by decide +kernel
set_option maxRecDepth 20000 in
theorem ggX2_tellInManyBytes_X0_add : GoodIn wsX2_tellInManyBytes wsX0_add := goodIn_r _ [7, 8, 9, 10, 11] (by decide +kernel) (by decide +kernel)
set_option maxRecDepth 20000 in
theorem gX2_tellInManyBytes_X0_add : GoodIn wsX2_tellInManyBytes (wsV RX2 65 RX0 yX0_add wsX0_add) := goodIn_app (goodIn_of _ (by decide +kernel)) ggX2_tellInManyBytes_X0_add
theorem dX2_tellInManyBytes_0 : decode cX2_tellInManyBytes 0 = .ok (.iload_n 0, 1) := by decide +kernel
theorem dX2_tellInManyBytes_1 : decode cX2_tellInManyBytes 1 = .ok (.sipush 128, 3) := by decide +kernel
theorem dX2_tellInManyBytes_4 : decode cX2_tellInManyBytes 4 = .ok (.if_icmp .ge 9, 3) := by decide +kernel
theorem dX2_tellInManyBytes_7 : decode cX2_tellInManyBytes 7 = .ok (.aload_n 1, 1) := by decide +kernel
theorem dX2_tellInManyBytes_8 : decode cX2_tellInManyBytes 8 = .ok (.iload_n 0, 1) := by decide +kernel
theorem dX2_tellInManyBytes_9 : decode cX2_tellInManyBytes 9 = .ok (.invokevirtual 65, 3) := by decide +kernel
theorem dX2_tellInManyBytes_12 : decode cX2_tellInManyBytes 12 = .ok (.return_, 1) := by decide +kernel
theorem dX2_tellInManyBytes_13 : decode cX2_tellInManyBytes 13 = .ok (.iload_n 0, 1) := by decide +kernel
theorem dX2_tellInManyBytes_14 : decode cX2_tellInManyBytes 14 = .ok (.sipush 2048, 3) := by decide +kernel
theorem dX2_tellInManyBytes_17 : decode cX2_tellInManyBytes 17 = .ok (.if_icmp .ge 18, 3) := by decide +kernel
theorem dX2_tellInManyBytes_20 : decode cX2_tellInManyBytes 20 = .ok (.aload_n 1, 1) := by decide +kernel
theorem dX2_tellInManyBytes_21 : decode cX2_tellInManyBytes 21 = .ok (.sipush 192, 3) := by decide +kernel
theorem dX2_tellInManyBytes_24 : decode cX2_tellInManyBytes 24 = .ok (.iload_n 0, 1) := by decide +kernel
theorem dX2_tellInManyBytes_25 : decode cX2_tellInManyBytes 25 = .ok (.bipush 64, 2) := by decide +kernel
theorem dX2_tellInManyBytes_27 : decode cX2_tellInManyBytes 27 = .ok (.idiv, 1) := by decide +kernel
theorem dX2_tellInManyBytes_28 : decode cX2_tellInManyBytes 28 = .ok (.iadd, 1) := by decide +kernel
theorem dX2_tellInManyBytes_29 : decode cX2_tellInManyBytes 29 = .ok (.invokevirtual 65, 3) := by decide +kernel
theorem dX2_tellInManyBytes_32 : decode cX2_tellInManyBytes 32 = .ok (.goto 83, 3) := by decide +kernel
theorem dX2_tellInManyBytes_35 : decode cX2_tellInManyBytes 35 = .ok (.iload_n 0, 1) := by decide +kernel
theorem dX2_tellInManyBytes_36 : decode cX2_tellInManyBytes 36 = .ok (.ldc 173, 2) := by decide +kernel
theorem dX2_tellInManyBytes_38 : decode cX2_tellInManyBytes 38 = .ok (.if_icmp .ge 34, 3) := by decide +kernel
theorem dX2_tellInManyBytes_41 : decode cX2_tellInManyBytes 41 = .ok (.aload_n 1, 1) := by decide +kernel
theorem dX2_tellInManyBytes_42 : decode cX2_tellInManyBytes 42 = .ok (.sipush 224, 3) := by decide +kernel
theorem dX2_tellInManyBytes_45 : decode cX2_tellInManyBytes 45 = .ok (.iload_n 0, 1) := by decide +kernel
theorem dX2_tellInManyBytes_46 : decode cX2_tellInManyBytes 46 = .ok (.sipush 4096, 3) := by decide +kernel
theorem dX2_tellInManyBytes_49 : decode cX2_tellInManyBytes 49 = .ok (.idiv, 1) := by decide +kernel
theorem dX2_tellInManyBytes_50 : decode cX2_tellInManyBytes 50 = .ok (.iadd, 1) := by decide +kernel
theorem dX2_tellInManyBytes_51 : decode cX2_tellInManyBytes 51 = .ok (.invokevirtual 65, 3) := by decide +kernel
theorem dX2_tellInManyBytes_54 : decode cX2_tellInManyBytes 54 = .ok (.aload_n 1, 1) := by decide +kernel
theorem dX2_tellInManyBytes_55 : decode cX2_tellInManyBytes 55 = .ok (.sipush 128, 3) := by decide +kernel
theorem dX2_tellInManyBytes_58 : decode cX2_tellInManyBytes 58 = .ok (.iload_n 0, 1) := by decide +kernel
theorem dX2_tellInManyBytes_59 : decode cX2_tellInManyBytes 59 = .ok (.bipush 64, 2) := by decide +kernel
theorem dX2_tellInManyBytes_61 : decode cX2_tellInManyBytes 61 = .ok (.idiv, 1) := by decide +kernel
theorem dX2_tellInManyBytes_62 : decode cX2_tellInManyBytes 62 = .ok (.bipush 64, 2) := by decide +kernel
theorem dX2_tellInManyBytes_64 : decode cX2_tellInManyBytes 64 = .ok (.irem, 1) := by decide +kernel
theorem dX2_tellInManyBytes_65 : decode cX2_tellInManyBytes 65 = .ok (.iadd, 1) := by decide +kernel
theorem dX2_tellInManyBytes_66 : decode cX2_tellInManyBytes 66 = .ok (.invokevirtual 65, 3) := by decide +kernel
theorem dX2_tellInManyBytes_69 : decode cX2_tellInManyBytes 69 = .ok (.goto 46, 3) := by decide +kernel
theorem dX2_tellInManyBytes_72 : decode cX2_tellInManyBytes 72 = .ok (.aload_n 1, 1) := by decide +kernel
theorem dX2_tellInManyBytes_73 : decode cX2_tellInManyBytes 73 = .ok (.sipush 240, 3) := by decide +kernel
theorem dX2_tellInManyBytes_76 : decode cX2_tellInManyBytes 76 = .ok (.iload_n 0, 1) := by decide +kernel
theorem dX2_tellInManyBytes_77 : decode cX2_tellInManyBytes 77 = .ok (.ldc 192, 2) := by decide +kernel
theorem dX2_tellInManyBytes_79 : decode cX2_tellInManyBytes 79 = .ok (.idiv, 1) := by decide +kernel
theorem dX2_tellInManyBytes_80 : decode cX2_tellInManyBytes 80 = .ok (.iadd, 1) := by decide +kernel
theorem dX2_tellInManyBytes_81 : decode cX2_tellInManyBytes 81 = .ok (.invokevirtual 65, 3) := by decide +kernel
theorem dX2_tellInManyBytes_84 : decode cX2_tellInManyBytes 84 = .ok (.aload_n 1, 1) := by decide +kernel
theorem dX2_tellInManyBytes_85 : decode cX2_tellInManyBytes 85 = .ok (.sipush 128, 3) := by decide +kernel
theorem dX2_tellInManyBytes_88 : decode cX2_tellInManyBytes 88 = .ok (.iload_n 0, 1) := by decide +kernel
theorem dX2_tellInManyBytes_89 : decode cX2_tellInManyBytes 89 = .ok (.sipush 4096, 3) := by decide +kernel
theorem dX2_tellInManyBytes_92 : decode cX2_tellInManyBytes 92 = .ok (.idiv, 1) := by decide +kernel
theorem dX2_tellInManyBytes_93 : decode cX2_tellInManyBytes 93 = .ok (.bipush 64, 2) := by decide +kernel
theorem dX2_tellInManyBytes_95 : decode cX2_tellInManyBytes 95 = .ok (.irem, 1) := by decide +kernel
theorem dX2_tellInManyBytes_96 : decode cX2_tellInManyBytes 96 = .ok (.iadd, 1) := by decide +kernel
theorem dX2_tellInManyBytes_97 : decode cX2_tellInManyBytes 97 = .ok (.invokevirtual 65, 3) := by decide +kernel
theorem dX2_tellInManyBytes_100 : decode cX2_tellInManyBytes 100 = .ok (.aload_n 1, 1) := by decide +kernel
theorem dX2_tellInManyBytes_101 : decode cX2_tellInManyBytes 101 = .ok (.sipush 128, 3) := by decide +kernel
theorem dX2_tellInManyBytes_104 : decode cX2_tellInManyBytes 104 = .ok (.iload_n 0, 1) := by decide +kernel
theorem dX2_tellInManyBytes_105 : decode cX2_tellInManyBytes 105 = .ok (.bipush 64, 2) := by decide +kernel
theorem dX2_tellInManyBytes_107 : decode cX2_tellInManyBytes 107 = .ok (.idiv, 1) := by decide +kernel
theorem dX2_tellInManyBytes_108 : decode cX2_tellInManyBytes 108 = .ok (.bipush 64, 2) := by decide +kernel
theorem dX2_tellInManyBytes_110 : decode cX2_tellInManyBytes 110 = .ok (.irem, 1) := by decide +kernel
theorem dX2_tellInManyBytes_111 : decode cX2_tellInManyBytes 111 = .ok (.iadd, 1) := by decide +kernel
theorem dX2_tellInManyBytes_112 : decode cX2_tellInManyBytes 112 = .ok (.invokevirtual 65, 3) := by decide +kernel
theorem dX2_tellInManyBytes_115 : decode cX2_tellInManyBytes 115 = .ok (.aload_n 1, 1) := by decide +kernel
theorem dX2_tellInManyBytes_116 : decode cX2_tellInManyBytes 116 = .ok (.sipush 128, 3) := by decide +kernel
theorem dX2_tellInManyBytes_119 : decode cX2_tellInManyBytes 119 = .ok (.iload_n 0, 1) := by decide +kernel
theorem dX2_tellInManyBytes_120 : decode cX2_tellInManyBytes 120 = .ok (.bipush 64, 2) := by decide +kernel
theorem dX2_tellInManyBytes_122 : decode cX2_tellInManyBytes 122 = .ok (.irem, 1) := by decide +kernel
theorem dX2_tellInManyBytes_123 : decode cX2_tellInManyBytes 123 = .ok (.iadd, 1) := by decide +kernel
theorem dX2_tellInManyBytes_124 : decode cX2_tellInManyBytes 124 = .ok (.invokevirtual 65, 3) := by decide +kernel
theorem dX2_tellInManyBytes_127 : decode cX2_tellInManyBytes 127 = .ok (.return_, 1) := by decide +kernel
set_option maxRecDepth 20000 in
theorem ggX2_readUnits_X0_empty : GoodIn wsX2_readUnits wsX0_empty := goodIn_r _ [5, 6, 55, 56] (by decide +kernel) (by decide +kernel)
set_option maxRecDepth 20000 in
theorem gX2_readUnits_X0_empty : GoodIn wsX2_readUnits (wsV RX2 68 RX0 yX0_empty wsX0_empty) := goodIn_app (goodIn_of _ (by decide +kernel)) ggX2_readUnits_X0_empty
set_option maxRecDepth 20000 in
theorem ggX2_readUnits_X2_readManyBytes : GoodIn wsX2_readUnits wsX2_readManyBytes := goodIn_r _ [10, 11, 12, 13, 9, 14, 15, 16, 17, 18, 19, 20, 21, 22, 23, 24, 25, 26, 27, 28, 29, 30, 31, 32, 33, 34, 35, 36, 37, 4, 38, 39, 40, 41, 42, 43, 44, 45, 6, 46, 55, 56] (by decide +kernel) (by decide +kernel)
set_option maxRecDepth 20000 in
theorem gX2_readUnits_X2_readManyBytes : GoodIn wsX2_readUnits (va_wsS RX2 193 yX2_readManyBytes wsX2_readManyBytes) := goodIn_app (goodIn_of _ (by decide +kernel)) ggX2_readUnits_X2_readManyBytes
set_option maxRecDepth 20000 in
theorem ggX2_readUnits_X0_addAll : GoodIn wsX2_readUnits wsX0_addAll := goodIn_r _ [50, 42, 43, 44, 4, 45, 6, 46, 55, 56] (by decide +kernel) (by decide +kernel)
set_option maxRecDepth 20000 in
theorem gX2_readUnits_X0_addAll : GoodIn wsX2_readUnits (wsV RX2 140 RX0 yX0_addAll wsX0_addAll) := goodIn_app (goodIn_of _ (by decide +kernel)) ggX2_readUnits_X0_addAll
set_option maxRecDepth 20000 in
theorem ggX2_readUnits_X2_readTwoBytes : GoodIn wsX2_readUnits wsX2_readTwoBytes := goodIn_r _ [53, 11, 54, 43, 44, 4, 45, 6, 46, 55, 56] (by decide +kernel) (by decide +kernel)
set_option maxRecDepth 20000 in
theorem gX2_readUnits_X2_readTwoBytes : GoodIn wsX2_readUnits (va_wsS RX2 197 yX2_readTwoBytes wsX2_readTwoBytes) := goodIn_app (goodIn_of _ (by decide +kernel)) ggX2_readUnits_X2_readTwoBytes
theorem dX2_readUnits_0 : decode cX2_readUnits 0 = .ok (.aload_n 2, 1) := by decide +kernel
theorem dX2_readUnits_1 : decode cX2_readUnits 1 = .ok (.invokevirtual 68, 3) := by decide +kernel
theorem dX2_readUnits_4 : decode cX2_readUnits 4 = .ok (.iload_n 1, 1) := by decide +kernel
theorem dX2_readUnits_5 : decode cX2_readUnits 5 = .ok (.ifCond .ne 9, 3) := by decide +kernel
theorem dX2_readUnits_8 : decode cX2_readUnits 8 = .ok (.aload_n 0, 1) := by decide +kernel
theorem dX2_readUnits_9 : decode cX2_readUnits 9 = .ok (.aload_n 2, 1) := by decide +kernel
theorem dX2_readUnits_10 : decode cX2_readUnits 10 = .ok (.invokestatic 193, 3) := by decide +kernel
theorem dX2_readUnits_13 : decode cX2_readUnits 13 = .ok (.ireturn, 1) := by decide +kernel
theorem dX2_readUnits_14 : decode cX2_readUnits 14 = .ok (.iload_n 1, 1) := by decide +kernel
theorem dX2_readUnits_15 : decode cX2_readUnits 15 = .ok (.iconst 3, 1) := by decide +kernel
theorem dX2_readUnits_16 : decode cX2_readUnits 16 = .ok (.if_icmp .ne 10, 3) := by decide +kernel
theorem dX2_readUnits_19 : decode cX2_readUnits 19 = .ok (.aload_n 2, 1) := by decide +kernel
theorem dX2_readUnits_20 : decode cX2_readUnits 20 = .ok (.aload_n 0, 1) := by decide +kernel
theorem dX2_readUnits_21 : decode cX2_readUnits 21 = .ok (.invokevirtual 140, 3) := by decide +kernel
theorem dX2_readUnits_24 : decode cX2_readUnits 24 = .ok (.iconst (-1), 1) := by decide +kernel
theorem dX2_readUnits_25 : decode cX2_readUnits 25 = .ok (.ireturn, 1) := by decide +kernel
theorem dX2_readUnits_26 : decode cX2_readUnits 26 = .ok (.aload_n 0, 1) := by decide +kernel
theorem dX2_readUnits_27 : decode cX2_readUnits 27 = .ok (.iload_n 1, 1) := by decide +kernel
theorem dX2_readUnits_28 : decode cX2_readUnits 28 = .ok (.aload_n 2, 1) := by decide +kernel
theorem dX2_readUnits_29 : decode cX2_readUnits 29 = .ok (.invokestatic 197, 3) := by decide +kernel
theorem dX2_readUnits_32 : decode cX2_readUnits 32 = .ok (.ireturn, 1) := by decide +kernel
set_option maxRecDepth 20000 in
theorem ggX2_readTwoBytes_X0_add : GoodIn wsX2_readTwoBytes wsX0_add := goodIn_r _ [6, 7, 8, 9, 10] (by decide +kernel) (by decide +kernel)
set_option maxRecDepth 20000 in
theorem gX2_readTwoBytes_X0_add : GoodIn wsX2_readTwoBytes (wsV RX2 65 RX0 yX0_add wsX0_add) := goodIn_app (goodIn_of _ (by decide +kernel)) ggX2_readTwoBytes_X0_add
theorem dX2_readTwoBytes_0 : decode cX2_readTwoBytes 0 = .ok (.iconst 0, 1) := by decide +kernel
theorem dX2_readTwoBytes_1 : decode cX2_readTwoBytes 1 = .ok (.istore_n 3, 1) := by decide +kernel
theorem dX2_readTwoBytes_2 : decode cX2_readTwoBytes 2 = .ok (.iload_n 3, 1) := by decide +kernel
theorem dX2_readTwoBytes_3 : decode cX2_readTwoBytes 3 = .ok (.aload_n 0, 1) := by decide +kernel
theorem dX2_readTwoBytes_4 : decode cX2_readTwoBytes 4 = .ok (.arraylength, 1) := by decide +kernel
theorem dX2_readTwoBytes_5 : decode cX2_readTwoBytes 5 = .ok (.if_icmp .ge 77, 3) := by decide +kernel
theorem dX2_readTwoBytes_8 : decode cX2_readTwoBytes 8 = .ok (.aload_n 2, 1) := by decide +kernel
theorem dX2_readTwoBytes_9 : decode cX2_readTwoBytes 9 = .ok (.getfield 48, 3) := by decide +kernel
theorem dX2_readTwoBytes_12 : decode cX2_readTwoBytes 12 = .ok (.bipush 60, 2) := by decide +kernel
theorem dX2_readTwoBytes_14 : decode cX2_readTwoBytes 14 = .ok (.if_icmp .gt 68, 3) := by decide +kernel
theorem dX2_readTwoBytes_17 : decode cX2_readTwoBytes 17 = .ok (.iload_n 3, 1) := by decide +kernel
theorem dX2_readTwoBytes_18 : decode cX2_readTwoBytes 18 = .ok (.aload_n 0, 1) := by decide +kernel
theorem dX2_readTwoBytes_19 : decode cX2_readTwoBytes 19 = .ok (.arraylength, 1) := by decide +kernel
theorem dX2_readTwoBytes_20 : decode cX2_readTwoBytes 20 = .ok (.iconst 1, 1) := by decide +kernel
theorem dX2_readTwoBytes_21 : decode cX2_readTwoBytes 21 = .ok (.isub, 1) := by decide +kernel
theorem dX2_readTwoBytes_22 : decode cX2_readTwoBytes 22 = .ok (.if_icmp .ne 5, 3) := by decide +kernel
theorem dX2_readTwoBytes_25 : decode cX2_readTwoBytes 25 = .ok (.iload_n 3, 1) := by decide +kernel
theorem dX2_readTwoBytes_26 : decode cX2_readTwoBytes 26 = .ok (.ireturn, 1) := by decide +kernel
theorem dX2_readTwoBytes_27 : decode cX2_readTwoBytes 27 = .ok (.iload_n 1, 1) := by decide +kernel
theorem dX2_readTwoBytes_28 : decode cX2_readTwoBytes 28 = .ok (.iconst 1, 1) := by decide +kernel
theorem dX2_readTwoBytes_29 : decode cX2_readTwoBytes 29 = .ok (.if_icmp .ne 9, 3) := by decide +kernel
theorem dX2_readTwoBytes_32 : decode cX2_readTwoBytes 32 = .ok (.aload_n 0, 1) := by decide +kernel
theorem dX2_readTwoBytes_33 : decode cX2_readTwoBytes 33 = .ok (.iload_n 3, 1) := by decide +kernel
theorem dX2_readTwoBytes_34 : decode cX2_readTwoBytes 34 = .ok (.iaload, 1) := by decide +kernel
theorem dX2_readTwoBytes_35 : decode cX2_readTwoBytes 35 = .ok (.goto 8, 3) := by decide +kernel
theorem dX2_readTwoBytes_38 : decode cX2_readTwoBytes 38 = .ok (.aload_n 0, 1) := by decide +kernel
theorem dX2_readTwoBytes_39 : decode cX2_readTwoBytes 39 = .ok (.iload_n 3, 1) := by decide +kernel
theorem dX2_readTwoBytes_40 : decode cX2_readTwoBytes 40 = .ok (.iconst 1, 1) := by decide +kernel
theorem dX2_readTwoBytes_41 : decode cX2_readTwoBytes 41 = .ok (.iadd, 1) := by decide +kernel
theorem dX2_readTwoBytes_42 : decode cX2_readTwoBytes 42 = .ok (.iaload, 1) := by decide +kernel
theorem dX2_readTwoBytes_43 : decode cX2_readTwoBytes 43 = .ok (.istore 4, 2) := by decide +kernel
theorem dX2_readTwoBytes_45 : decode cX2_readTwoBytes 45 = .ok (.iload_n 1, 1) := by decide +kernel
theorem dX2_readTwoBytes_46 : decode cX2_readTwoBytes 46 = .ok (.iconst 1, 1) := by decide +kernel
theorem dX2_readTwoBytes_47 : decode cX2_readTwoBytes 47 = .ok (.if_icmp .ne 11, 3) := by decide +kernel
theorem dX2_readTwoBytes_50 : decode cX2_readTwoBytes 50 = .ok (.aload_n 0, 1) := by decide +kernel
theorem dX2_readTwoBytes_51 : decode cX2_readTwoBytes 51 = .ok (.iload_n 3, 1) := by decide +kernel
theorem dX2_readTwoBytes_52 : decode cX2_readTwoBytes 52 = .ok (.iconst 1, 1) := by decide +kernel
theorem dX2_readTwoBytes_53 : decode cX2_readTwoBytes 53 = .ok (.iadd, 1) := by decide +kernel
theorem dX2_readTwoBytes_54 : decode cX2_readTwoBytes 54 = .ok (.iaload, 1) := by decide +kernel
theorem dX2_readTwoBytes_55 : decode cX2_readTwoBytes 55 = .ok (.goto 6, 3) := by decide +kernel
theorem dX2_readTwoBytes_58 : decode cX2_readTwoBytes 58 = .ok (.aload_n 0, 1) := by decide +kernel
theorem dX2_readTwoBytes_59 : decode cX2_readTwoBytes 59 = .ok (.iload_n 3, 1) := by decide +kernel
theorem dX2_readTwoBytes_60 : decode cX2_readTwoBytes 60 = .ok (.iaload, 1) := by decide +kernel
theorem dX2_readTwoBytes_61 : decode cX2_readTwoBytes 61 = .ok (.istore 5, 2) := by decide +kernel
theorem dX2_readTwoBytes_63 : decode cX2_readTwoBytes 63 = .ok (.aload_n 2, 1) := by decide +kernel
theorem dX2_readTwoBytes_64 : decode cX2_readTwoBytes 64 = .ok (.iload 4, 2) := by decide +kernel
theorem dX2_readTwoBytes_66 : decode cX2_readTwoBytes 66 = .ok (.sipush 256, 3) := by decide +kernel
theorem dX2_readTwoBytes_69 : decode cX2_readTwoBytes 69 = .ok (.imul, 1) := by decide +kernel
theorem dX2_readTwoBytes_70 : decode cX2_readTwoBytes 70 = .ok (.iload 5, 2) := by decide +kernel
theorem dX2_readTwoBytes_72 : decode cX2_readTwoBytes 72 = .ok (.iadd, 1) := by decide +kernel
theorem dX2_readTwoBytes_73 : decode cX2_readTwoBytes 73 = .ok (.invokevirtual 65, 3) := by decide +kernel
theorem dX2_readTwoBytes_76 : decode cX2_readTwoBytes 76 = .ok (.iinc 3 2, 3) := by decide +kernel
theorem dX2_readTwoBytes_79 : decode cX2_readTwoBytes 79 = .ok (.goto (-77), 3) := by decide +kernel
theorem dX2_readTwoBytes_82 : decode cX2_readTwoBytes 82 = .ok (.iconst (-1), 1) := by decide +kernel
theorem dX2_readTwoBytes_83 : decode cX2_readTwoBytes 83 = .ok (.ireturn, 1) := by decide +kernel
set_option maxRecDepth 20000 in
theorem ggX2_readManyBytes_X2_pointFrom : GoodIn wsX2_readManyBytes wsX2_pointFrom := goodIn_r _ [5, 6, 7, 4, 8, 9, 10, 11, 12, 13, 14, 15, 16, 17, 18, 19, 20, 21, 22, 23, 24, 25] (by decide +kernel) (by decide +kernel)
set_option maxRecDepth 20000 in
theorem gX2_readManyBytes_X2_pointFrom : GoodIn wsX2_readManyBytes (va_wsS RX2 200 yX2_pointFrom wsX2_pointFrom) := goodIn_app (goodIn_of _ (by decide +kernel)) ggX2_readManyBytes_X2_pointFrom
set_option maxRecDepth 20000 in
theorem ggX2_readManyBytes_X0_addUnitsOf : GoodIn wsX2_readManyBytes wsX0_addUnitsOf := goodIn_r _ [30, 31, 32, 33, 34, 35, 36, 29, 37, 38, 39, 40, 41] (by decide +kernel) (by decide +kernel)
set_option maxRecDepth 20000 in
theorem gX2_readManyBytes_X0_addUnitsOf : GoodIn wsX2_readManyBytes (wsV RX2 58 RX0 yX0_addUnitsOf wsX0_addUnitsOf) := goodIn_app (goodIn_of _ (by decide +kernel)) ggX2_readManyBytes_X0_addUnitsOf
set_option maxRecDepth 20000 in
theorem ggX2_readManyBytes_X2_byteCount : GoodIn wsX2_readManyBytes wsX2_byteCount := goodIn_r _ [8] (by decide +kernel) (by decide +kernel)
set_option maxRecDepth 20000 in
theorem gX2_readManyBytes_X2_byteCount : GoodIn wsX2_readManyBytes (va_wsS RX2 204 yX2_byteCount wsX2_byteCount) := goodIn_app (goodIn_of _ (by decide +kernel)) ggX2_readManyBytes_X2_byteCount
theorem dX2_readManyBytes_0 : decode cX2_readManyBytes 0 = .ok (.iconst 0, 1) := by decide +kernel
theorem dX2_readManyBytes_1 : decode cX2_readManyBytes 1 = .ok (.istore_n 2, 1) := by decide +kernel
theorem dX2_readManyBytes_2 : decode cX2_readManyBytes 2 = .ok (.iconst 0, 1) := by decide +kernel
theorem dX2_readManyBytes_3 : decode cX2_readManyBytes 3 = .ok (.istore_n 3, 1) := by decide +kernel
theorem dX2_readManyBytes_4 : decode cX2_readManyBytes 4 = .ok (.iload_n 3, 1) := by decide +kernel
theorem dX2_readManyBytes_5 : decode cX2_readManyBytes 5 = .ok (.aload_n 0, 1) := by decide +kernel
theorem dX2_readManyBytes_6 : decode cX2_readManyBytes 6 = .ok (.arraylength, 1) := by decide +kernel
theorem dX2_readManyBytes_7 : decode cX2_readManyBytes 7 = .ok (.if_icmp .ge 53, 3) := by decide +kernel
theorem dX2_readManyBytes_10 : decode cX2_readManyBytes 10 = .ok (.aload_n 1, 1) := by decide +kernel
theorem dX2_readManyBytes_11 : decode cX2_readManyBytes 11 = .ok (.getfield 48, 3) := by decide +kernel
theorem dX2_readManyBytes_14 : decode cX2_readManyBytes 14 = .ok (.bipush 60, 2) := by decide +kernel
theorem dX2_readManyBytes_16 : decode cX2_readManyBytes 16 = .ok (.if_icmp .gt 44, 3) := by decide +kernel
theorem dX2_readManyBytes_19 : decode cX2_readManyBytes 19 = .ok (.iload_n 3, 1) := by decide +kernel
theorem dX2_readManyBytes_20 : decode cX2_readManyBytes 20 = .ok (.iload_n 2, 1) := by decide +kernel
theorem dX2_readManyBytes_21 : decode cX2_readManyBytes 21 = .ok (.if_icmp .lt 33, 3) := by decide +kernel
theorem dX2_readManyBytes_24 : decode cX2_readManyBytes 24 = .ok (.aload_n 0, 1) := by decide +kernel
theorem dX2_readManyBytes_25 : decode cX2_readManyBytes 25 = .ok (.iload_n 3, 1) := by decide +kernel
theorem dX2_readManyBytes_26 : decode cX2_readManyBytes 26 = .ok (.invokestatic 200, 3) := by decide +kernel
theorem dX2_readManyBytes_29 : decode cX2_readManyBytes 29 = .ok (.istore 4, 2) := by decide +kernel
theorem dX2_readManyBytes_31 : decode cX2_readManyBytes 31 = .ok (.iload 4, 2) := by decide +kernel
theorem dX2_readManyBytes_33 : decode cX2_readManyBytes 33 = .ok (.iconst (-1), 1) := by decide +kernel
theorem dX2_readManyBytes_34 : decode cX2_readManyBytes 34 = .ok (.if_icmp .ne 5, 3) := by decide +kernel
theorem dX2_readManyBytes_37 : decode cX2_readManyBytes 37 = .ok (.iload_n 3, 1) := by decide +kernel
theorem dX2_readManyBytes_38 : decode cX2_readManyBytes 38 = .ok (.ireturn, 1) := by decide +kernel
theorem dX2_readManyBytes_39 : decode cX2_readManyBytes 39 = .ok (.aload_n 1, 1) := by decide +kernel
theorem dX2_readManyBytes_40 : decode cX2_readManyBytes 40 = .ok (.iload 4, 2) := by decide +kernel
theorem dX2_readManyBytes_42 : decode cX2_readManyBytes 42 = .ok (.invokevirtual 58, 3) := by decide +kernel
theorem dX2_readManyBytes_45 : decode cX2_readManyBytes 45 = .ok (.iload_n 3, 1) := by decide +kernel
theorem dX2_readManyBytes_46 : decode cX2_readManyBytes 46 = .ok (.aload_n 0, 1) := by decide +kernel
theorem dX2_readManyBytes_47 : decode cX2_readManyBytes 47 = .ok (.iload_n 3, 1) := by decide +kernel
theorem dX2_readManyBytes_48 : decode cX2_readManyBytes 48 = .ok (.iaload, 1) := by decide +kernel
theorem dX2_readManyBytes_49 : decode cX2_readManyBytes 49 = .ok (.invokestatic 204, 3) := by decide +kernel
theorem dX2_readManyBytes_52 : decode cX2_readManyBytes 52 = .ok (.iadd, 1) := by decide +kernel
theorem dX2_readManyBytes_53 : decode cX2_readManyBytes 53 = .ok (.istore_n 2, 1) := by decide +kernel
theorem dX2_readManyBytes_54 : decode cX2_readManyBytes 54 = .ok (.iinc 3 1, 3) := by decide +kernel
theorem dX2_readManyBytes_57 : decode cX2_readManyBytes 57 = .ok (.goto (-53), 3) := by decide +kernel
theorem dX2_readManyBytes_60 : decode cX2_readManyBytes 60 = .ok (.iconst (-1), 1) := by decide +kernel
theorem dX2_readManyBytes_61 : decode cX2_readManyBytes 61 = .ok (.ireturn, 1) := by decide +kernel
theorem dX2_byteCount_0 : decode cX2_byteCount 0 = .ok (.iload_n 0, 1) := by decide +kernel
theorem dX2_byteCount_1 : decode cX2_byteCount 1 = .ok (.sipush 128, 3) := by decide +kernel
theorem dX2_byteCount_4 : decode cX2_byteCount 4 = .ok (.if_icmp .ge 5, 3) := by decide +kernel
theorem dX2_byteCount_7 : decode cX2_byteCount 7 = .ok (.iconst 1, 1) := by decide +kernel
theorem dX2_byteCount_8 : decode cX2_byteCount 8 = .ok (.ireturn, 1) := by decide +kernel
theorem dX2_byteCount_9 : decode cX2_byteCount 9 = .ok (.iload_n 0, 1) := by decide +kernel
theorem dX2_byteCount_10 : decode cX2_byteCount 10 = .ok (.sipush 194, 3) := by decide +kernel
theorem dX2_byteCount_13 : decode cX2_byteCount 13 = .ok (.if_icmp .lt 10, 3) := by decide +kernel
theorem dX2_byteCount_16 : decode cX2_byteCount 16 = .ok (.iload_n 0, 1) := by decide +kernel
theorem dX2_byteCount_17 : decode cX2_byteCount 17 = .ok (.sipush 244, 3) := by decide +kernel
theorem dX2_byteCount_20 : decode cX2_byteCount 20 = .ok (.if_icmp .le 5, 3) := by decide +kernel
theorem dX2_byteCount_23 : decode cX2_byteCount 23 = .ok (.iconst 0, 1) := by decide +kernel
theorem dX2_byteCount_24 : decode cX2_byteCount 24 = .ok (.ireturn, 1) := by decide +kernel
theorem dX2_byteCount_25 : decode cX2_byteCount 25 = .ok (.iload_n 0, 1) := by decide +kernel
theorem dX2_byteCount_26 : decode cX2_byteCount 26 = .ok (.sipush 224, 3) := by decide +kernel
theorem dX2_byteCount_29 : decode cX2_byteCount 29 = .ok (.if_icmp .ge 5, 3) := by decide +kernel
theorem dX2_byteCount_32 : decode cX2_byteCount 32 = .ok (.iconst 2, 1) := by decide +kernel
theorem dX2_byteCount_33 : decode cX2_byteCount 33 = .ok (.ireturn, 1) := by decide +kernel
theorem dX2_byteCount_34 : decode cX2_byteCount 34 = .ok (.iload_n 0, 1) := by decide +kernel
theorem dX2_byteCount_35 : decode cX2_byteCount 35 = .ok (.sipush 240, 3) := by decide +kernel
theorem dX2_byteCount_38 : decode cX2_byteCount 38 = .ok (.if_icmp .ge 7, 3) := by decide +kernel
theorem dX2_byteCount_41 : decode cX2_byteCount 41 = .ok (.iconst 3, 1) := by decide +kernel
theorem dX2_byteCount_42 : decode cX2_byteCount 42 = .ok (.goto 4, 3) := by decide +kernel
theorem dX2_byteCount_45 : decode cX2_byteCount 45 = .ok (.iconst 4, 1) := by decide +kernel
theorem dX2_byteCount_46 : decode cX2_byteCount 46 = .ok (.ireturn, 1) := by decide +kernel
set_option maxRecDepth 20000 in
theorem ggX2_pointFrom_X2_byteCount : GoodIn wsX2_pointFrom wsX2_byteCount := goodIn_r _ [4] (by decide +kernel) (by decide +kernel)
set_option maxRecDepth 20000 in
theorem gX2_pointFrom_X2_byteCount : GoodIn wsX2_pointFrom (va_wsS RX2 204 yX2_byteCount wsX2_byteCount) := goodIn_app (goodIn_of _ (by decide +kernel)) ggX2_pointFrom_X2_byteCount
set_option maxRecDepth 20000 in
theorem ggX2_pointFrom_X2_firstByteOffset : GoodIn wsX2_pointFrom wsX2_firstByteOffset := goodIn_r _ [7] (by decide +kernel) (by decide +kernel)
set_option maxRecDepth 20000 in
theorem gX2_pointFrom_X2_firstByteOffset : GoodIn wsX2_pointFrom (va_wsS RX2 207 yX2_firstByteOffset wsX2_firstByteOffset) := goodIn_app (goodIn_of _ (by decide +kernel)) ggX2_pointFrom_X2_firstByteOffset
set_option maxRecDepth 20000 in
theorem ggX2_pointFrom_X2_isToldIn : GoodIn wsX2_pointFrom wsX2_isToldIn := goodIn_r _ [10, 11, 12, 13, 14, 3, 15, 16, 17, 18, 19, 20, 21] (by decide +kernel) (by decide +kernel)
set_option maxRecDepth 20000 in
theorem gX2_pointFrom_X2_isToldIn : GoodIn wsX2_pointFrom (va_wsS RX2 210 yX2_isToldIn wsX2_isToldIn) := goodIn_app (goodIn_of _ (by decide +kernel)) ggX2_pointFrom_X2_isToldIn
theorem dX2_pointFrom_0 : decode cX2_pointFrom 0 = .ok (.iload_n 1, 1) := by decide +kernel
theorem dX2_pointFrom_1 : decode cX2_pointFrom 1 = .ok (.ifCond .lt 9, 3) := by decide +kernel
theorem dX2_pointFrom_4 : decode cX2_pointFrom 4 = .ok (.iload_n 1, 1) := by decide +kernel
theorem dX2_pointFrom_5 : decode cX2_pointFrom 5 = .ok (.aload_n 0, 1) := by decide +kernel
theorem dX2_pointFrom_6 : decode cX2_pointFrom 6 = .ok (.arraylength, 1) := by decide +kernel
theorem dX2_pointFrom_7 : decode cX2_pointFrom 7 = .ok (.if_icmp .lt 5, 3) := by decide +kernel
theorem dX2_pointFrom_10 : decode cX2_pointFrom 10 = .ok (.iconst (-1), 1) := by decide +kernel
theorem dX2_pointFrom_11 : decode cX2_pointFrom 11 = .ok (.ireturn, 1) := by decide +kernel
theorem dX2_pointFrom_12 : decode cX2_pointFrom 12 = .ok (.aload_n 0, 1) := by decide +kernel
theorem dX2_pointFrom_13 : decode cX2_pointFrom 13 = .ok (.iload_n 1, 1) := by decide +kernel
theorem dX2_pointFrom_14 : decode cX2_pointFrom 14 = .ok (.iaload, 1) := by decide +kernel
theorem dX2_pointFrom_15 : decode cX2_pointFrom 15 = .ok (.invokestatic 204, 3) := by decide +kernel
theorem dX2_pointFrom_18 : decode cX2_pointFrom 18 = .ok (.istore_n 2, 1) := by decide +kernel
theorem dX2_pointFrom_19 : decode cX2_pointFrom 19 = .ok (.iload_n 2, 1) := by decide +kernel
theorem dX2_pointFrom_20 : decode cX2_pointFrom 20 = .ok (.ifCond .eq 11, 3) := by decide +kernel
theorem dX2_pointFrom_23 : decode cX2_pointFrom 23 = .ok (.iload_n 2, 1) := by decide +kernel
theorem dX2_pointFrom_24 : decode cX2_pointFrom 24 = .ok (.aload_n 0, 1) := by decide +kernel
theorem dX2_pointFrom_25 : decode cX2_pointFrom 25 = .ok (.arraylength, 1) := by decide +kernel
theorem dX2_pointFrom_26 : decode cX2_pointFrom 26 = .ok (.iload_n 1, 1) := by decide +kernel
theorem dX2_pointFrom_27 : decode cX2_pointFrom 27 = .ok (.isub, 1) := by decide +kernel
theorem dX2_pointFrom_28 : decode cX2_pointFrom 28 = .ok (.if_icmp .le 5, 3) := by decide +kernel
theorem dX2_pointFrom_31 : decode cX2_pointFrom 31 = .ok (.iconst (-1), 1) := by decide +kernel
theorem dX2_pointFrom_32 : decode cX2_pointFrom 32 = .ok (.ireturn, 1) := by decide +kernel
theorem dX2_pointFrom_33 : decode cX2_pointFrom 33 = .ok (.aload_n 0, 1) := by decide +kernel
theorem dX2_pointFrom_34 : decode cX2_pointFrom 34 = .ok (.iload_n 1, 1) := by decide +kernel
theorem dX2_pointFrom_35 : decode cX2_pointFrom 35 = .ok (.iaload, 1) := by decide +kernel
theorem dX2_pointFrom_36 : decode cX2_pointFrom 36 = .ok (.iload_n 2, 1) := by decide +kernel
theorem dX2_pointFrom_37 : decode cX2_pointFrom 37 = .ok (.invokestatic 207, 3) := by decide +kernel
theorem dX2_pointFrom_40 : decode cX2_pointFrom 40 = .ok (.isub, 1) := by decide +kernel
theorem dX2_pointFrom_41 : decode cX2_pointFrom 41 = .ok (.istore_n 3, 1) := by decide +kernel
theorem dX2_pointFrom_42 : decode cX2_pointFrom 42 = .ok (.iload_n 1, 1) := by decide +kernel
theorem dX2_pointFrom_43 : decode cX2_pointFrom 43 = .ok (.iconst 1, 1) := by decide +kernel
theorem dX2_pointFrom_44 : decode cX2_pointFrom 44 = .ok (.iadd, 1) := by decide +kernel
theorem dX2_pointFrom_45 : decode cX2_pointFrom 45 = .ok (.istore 4, 2) := by decide +kernel
theorem dX2_pointFrom_47 : decode cX2_pointFrom 47 = .ok (.iload 4, 2) := by decide +kernel
theorem dX2_pointFrom_49 : decode cX2_pointFrom 49 = .ok (.iload_n 1, 1) := by decide +kernel
theorem dX2_pointFrom_50 : decode cX2_pointFrom 50 = .ok (.iload_n 2, 1) := by decide +kernel
theorem dX2_pointFrom_51 : decode cX2_pointFrom 51 = .ok (.iadd, 1) := by decide +kernel
theorem dX2_pointFrom_52 : decode cX2_pointFrom 52 = .ok (.if_icmp .ge 52, 3) := by decide +kernel
theorem dX2_pointFrom_55 : decode cX2_pointFrom 55 = .ok (.iload 4, 2) := by decide +kernel
theorem dX2_pointFrom_57 : decode cX2_pointFrom 57 = .ok (.aload_n 0, 1) := by decide +kernel
theorem dX2_pointFrom_58 : decode cX2_pointFrom 58 = .ok (.arraylength, 1) := by decide +kernel
theorem dX2_pointFrom_59 : decode cX2_pointFrom 59 = .ok (.if_icmp .ge 45, 3) := by decide +kernel
theorem dX2_pointFrom_62 : decode cX2_pointFrom 62 = .ok (.aload_n 0, 1) := by decide +kernel
theorem dX2_pointFrom_63 : decode cX2_pointFrom 63 = .ok (.iload 4, 2) := by decide +kernel
theorem dX2_pointFrom_65 : decode cX2_pointFrom 65 = .ok (.iaload, 1) := by decide +kernel
theorem dX2_pointFrom_66 : decode cX2_pointFrom 66 = .ok (.sipush 128, 3) := by decide +kernel
theorem dX2_pointFrom_69 : decode cX2_pointFrom 69 = .ok (.if_icmp .lt 13, 3) := by decide +kernel
theorem dX2_pointFrom_72 : decode cX2_pointFrom 72 = .ok (.aload_n 0, 1) := by decide +kernel
theorem dX2_pointFrom_73 : decode cX2_pointFrom 73 = .ok (.iload 4, 2) := by decide +kernel
theorem dX2_pointFrom_75 : decode cX2_pointFrom 75 = .ok (.iaload, 1) := by decide +kernel
theorem dX2_pointFrom_76 : decode cX2_pointFrom 76 = .ok (.sipush 191, 3) := by decide +kernel
theorem dX2_pointFrom_79 : decode cX2_pointFrom 79 = .ok (.if_icmp .le 5, 3) := by decide +kernel
theorem dX2_pointFrom_82 : decode cX2_pointFrom 82 = .ok (.iconst (-1), 1) := by decide +kernel
theorem dX2_pointFrom_83 : decode cX2_pointFrom 83 = .ok (.ireturn, 1) := by decide +kernel
theorem dX2_pointFrom_84 : decode cX2_pointFrom 84 = .ok (.iload_n 3, 1) := by decide +kernel
theorem dX2_pointFrom_85 : decode cX2_pointFrom 85 = .ok (.bipush 64, 2) := by decide +kernel
theorem dX2_pointFrom_87 : decode cX2_pointFrom 87 = .ok (.imul, 1) := by decide +kernel
theorem dX2_pointFrom_88 : decode cX2_pointFrom 88 = .ok (.aload_n 0, 1) := by decide +kernel
theorem dX2_pointFrom_89 : decode cX2_pointFrom 89 = .ok (.iload 4, 2) := by decide +kernel
theorem dX2_pointFrom_91 : decode cX2_pointFrom 91 = .ok (.iaload, 1) := by decide +kernel
theorem dX2_pointFrom_92 : decode cX2_pointFrom 92 = .ok (.sipush 128, 3) := by decide +kernel
theorem dX2_pointFrom_95 : decode cX2_pointFrom 95 = .ok (.isub, 1) := by decide +kernel
theorem dX2_pointFrom_96 : decode cX2_pointFrom 96 = .ok (.iadd, 1) := by decide +kernel
theorem dX2_pointFrom_97 : decode cX2_pointFrom 97 = .ok (.istore_n 3, 1) := by decide +kernel
theorem dX2_pointFrom_98 : decode cX2_pointFrom 98 = .ok (.iinc 4 1, 3) := by decide +kernel
theorem dX2_pointFrom_101 : decode cX2_pointFrom 101 = .ok (.goto (-54), 3) := by decide +kernel
theorem dX2_pointFrom_104 : decode cX2_pointFrom 104 = .ok (.iload_n 3, 1) := by decide +kernel
theorem dX2_pointFrom_105 : decode cX2_pointFrom 105 = .ok (.iload_n 2, 1) := by decide +kernel
theorem dX2_pointFrom_106 : decode cX2_pointFrom 106 = .ok (.invokestatic 210, 3) := by decide +kernel
theorem dX2_pointFrom_109 : decode cX2_pointFrom 109 = .ok (.ifCond .eq 7, 3) := by decide +kernel
theorem dX2_pointFrom_112 : decode cX2_pointFrom 112 = .ok (.iload_n 3, 1) := by decide +kernel
theorem dX2_pointFrom_113 : decode cX2_pointFrom 113 = .ok (.goto 4, 3) := by decide +kernel
theorem dX2_pointFrom_116 : decode cX2_pointFrom 116 = .ok (.iconst (-1), 1) := by decide +kernel
theorem dX2_pointFrom_117 : decode cX2_pointFrom 117 = .ok (.ireturn, 1) := by decide +kernel
theorem dX2_firstByteOffset_0 : decode cX2_firstByteOffset 0 = .ok (.iload_n 0, 1) := by decide +kernel
theorem dX2_firstByteOffset_1 : decode cX2_firstByteOffset 1 = .ok (.tableswitch 39 2 4 #[27, 31, 35], 27) := by decide +kernel
theorem dX2_firstByteOffset_28 : decode cX2_firstByteOffset 28 = .ok (.sipush 192, 3) := by decide +kernel
theorem dX2_firstByteOffset_31 : decode cX2_firstByteOffset 31 = .ok (.ireturn, 1) := by decide +kernel
theorem dX2_firstByteOffset_32 : decode cX2_firstByteOffset 32 = .ok (.sipush 224, 3) := by decide +kernel
theorem dX2_firstByteOffset_35 : decode cX2_firstByteOffset 35 = .ok (.ireturn, 1) := by decide +kernel
theorem dX2_firstByteOffset_36 : decode cX2_firstByteOffset 36 = .ok (.sipush 240, 3) := by decide +kernel
theorem dX2_firstByteOffset_39 : decode cX2_firstByteOffset 39 = .ok (.ireturn, 1) := by decide +kernel
theorem dX2_firstByteOffset_40 : decode cX2_firstByteOffset 40 = .ok (.iconst 0, 1) := by decide +kernel
theorem dX2_firstByteOffset_41 : decode cX2_firstByteOffset 41 = .ok (.ireturn, 1) := by decide +kernel
set_option maxRecDepth 20000 in
theorem ggX2_isToldIn_X2_isHigh : GoodIn wsX2_isToldIn wsX2_isHigh := goodIn_r _ [6, 7, 8] (by decide +kernel) (by decide +kernel)
set_option maxRecDepth 20000 in
theorem gX2_isToldIn_X2_isHigh : GoodIn wsX2_isToldIn (va_wsS RX2 167 yX2_isHigh wsX2_isHigh) := goodIn_app (goodIn_of _ (by decide +kernel)) ggX2_isToldIn_X2_isHigh
set_option maxRecDepth 20000 in
theorem ggX2_isToldIn_X2_isLow : GoodIn wsX2_isToldIn wsX2_isLow := goodIn_r _ [11, 8, 12] (by decide +kernel) (by decide +kernel)
set_option maxRecDepth 20000 in
theorem gX2_isToldIn_X2_isLow : GoodIn wsX2_isToldIn (va_wsS RX2 170 yX2_isLow wsX2_isLow) := goodIn_app (goodIn_of _ (by decide +kernel)) ggX2_isToldIn_X2_isLow
theorem dX2_isToldIn_0 : decode cX2_isToldIn 0 = .ok (.iload_n 1, 1) := by decide +kernel
theorem dX2_isToldIn_1 : decode cX2_isToldIn 1 = .ok (.iconst 3, 1) := by decide +kernel
theorem dX2_isToldIn_2 : decode cX2_isToldIn 2 = .ok (.if_icmp .ne 30, 3) := by decide +kernel
theorem dX2_isToldIn_5 : decode cX2_isToldIn 5 = .ok (.iload_n 0, 1) := by decide +kernel
theorem dX2_isToldIn_6 : decode cX2_isToldIn 6 = .ok (.sipush 2048, 3) := by decide +kernel
theorem dX2_isToldIn_9 : decode cX2_isToldIn 9 = .ok (.if_icmp .lt 21, 3) := by decide +kernel
theorem dX2_isToldIn_12 : decode cX2_isToldIn 12 = .ok (.iload_n 0, 1) := by decide +kernel
theorem dX2_isToldIn_13 : decode cX2_isToldIn 13 = .ok (.invokestatic 167, 3) := by decide +kernel
theorem dX2_isToldIn_16 : decode cX2_isToldIn 16 = .ok (.ifCond .ne 14, 3) := by decide +kernel
theorem dX2_isToldIn_19 : decode cX2_isToldIn 19 = .ok (.iload_n 0, 1) := by decide +kernel
theorem dX2_isToldIn_20 : decode cX2_isToldIn 20 = .ok (.invokestatic 170, 3) := by decide +kernel
theorem dX2_isToldIn_23 : decode cX2_isToldIn 23 = .ok (.ifCond .ne 7, 3) := by decide +kernel
theorem dX2_isToldIn_26 : decode cX2_isToldIn 26 = .ok (.iconst 1, 1) := by decide +kernel
theorem dX2_isToldIn_27 : decode cX2_isToldIn 27 = .ok (.goto 4, 3) := by decide +kernel
theorem dX2_isToldIn_30 : decode cX2_isToldIn 30 = .ok (.iconst 0, 1) := by decide +kernel
theorem dX2_isToldIn_31 : decode cX2_isToldIn 31 = .ok (.ireturn, 1) := by decide +kernel
theorem dX2_isToldIn_32 : decode cX2_isToldIn 32 = .ok (.iload_n 1, 1) := by decide +kernel
theorem dX2_isToldIn_33 : decode cX2_isToldIn 33 = .ok (.iconst 4, 1) := by decide +kernel
theorem dX2_isToldIn_34 : decode cX2_isToldIn 34 = .ok (.if_icmp .ne 21, 3) := by decide +kernel
theorem dX2_isToldIn_37 : decode cX2_isToldIn 37 = .ok (.iload_n 0, 1) := by decide +kernel
theorem dX2_isToldIn_38 : decode cX2_isToldIn 38 = .ok (.ldc 173, 2) := by decide +kernel
theorem dX2_isToldIn_40 : decode cX2_isToldIn 40 = .ok (.if_icmp .lt 13, 3) := by decide +kernel
theorem dX2_isToldIn_43 : decode cX2_isToldIn 43 = .ok (.iload_n 0, 1) := by decide +kernel
theorem dX2_isToldIn_44 : decode cX2_isToldIn 44 = .ok (.ldc 181, 2) := by decide +kernel
theorem dX2_isToldIn_46 : decode cX2_isToldIn 46 = .ok (.if_icmp .gt 7, 3) := by decide +kernel
theorem dX2_isToldIn_49 : decode cX2_isToldIn 49 = .ok (.iconst 1, 1) := by decide +kernel
theorem dX2_isToldIn_50 : decode cX2_isToldIn 50 = .ok (.goto 4, 3) := by decide +kernel
theorem dX2_isToldIn_53 : decode cX2_isToldIn 53 = .ok (.iconst 0, 1) := by decide +kernel
theorem dX2_isToldIn_54 : decode cX2_isToldIn 54 = .ok (.ireturn, 1) := by decide +kernel
theorem dX2_isToldIn_55 : decode cX2_isToldIn 55 = .ok (.iconst 1, 1) := by decide +kernel
theorem dX2_isToldIn_56 : decode cX2_isToldIn 56 = .ok (.ireturn, 1) := by decide +kernel
set_option maxRecDepth 20000 in
theorem ggX2_standsAt_X2_isBeyond : GoodIn wsX2_standsAt wsX2_isBeyond := goodIn_r _ [5, 1, 22, 23] (by decide +kernel) (by decide +kernel)
set_option maxRecDepth 20000 in
theorem gX2_standsAt_X2_isBeyond : GoodIn wsX2_standsAt (va_wsS RX2 128 yX2_isBeyond wsX2_isBeyond) := goodIn_app (goodIn_of _ (by decide +kernel)) ggX2_standsAt_X2_isBeyond
set_option maxRecDepth 20000 in
theorem ggX2_standsAt_X2_partsPair : GoodIn wsX2_standsAt wsX2_partsPair := goodIn_r _ [8, 9, 1, 10, 11, 4, 12, 13, 14, 15, 16, 17, 18, 19, 20, 21, 22, 23] (by decide +kernel) (by decide +kernel)
set_option maxRecDepth 20000 in
theorem gX2_standsAt_X2_partsPair : GoodIn wsX2_standsAt (va_wsS RX2 132 yX2_partsPair wsX2_partsPair) := goodIn_app (goodIn_of _ (by decide +kernel)) ggX2_standsAt_X2_partsPair
theorem dX2_standsAt_0 : decode cX2_standsAt 0 = .ok (.aload_n 1, 1) := by decide +kernel
theorem dX2_standsAt_1 : decode cX2_standsAt 1 = .ok (.getfield 93, 3) := by decide +kernel
theorem dX2_standsAt_4 : decode cX2_standsAt 4 = .ok (.arraylength, 1) := by decide +kernel
theorem dX2_standsAt_5 : decode cX2_standsAt 5 = .ok (.istore_n 3, 1) := by decide +kernel
theorem dX2_standsAt_6 : decode cX2_standsAt 6 = .ok (.aload_n 0, 1) := by decide +kernel
theorem dX2_standsAt_7 : decode cX2_standsAt 7 = .ok (.iload_n 2, 1) := by decide +kernel
theorem dX2_standsAt_8 : decode cX2_standsAt 8 = .ok (.iload_n 3, 1) := by decide +kernel
theorem dX2_standsAt_9 : decode cX2_standsAt 9 = .ok (.invokestatic 128, 3) := by decide +kernel
theorem dX2_standsAt_12 : decode cX2_standsAt 12 = .ok (.ifCond .ne 21, 3) := by decide +kernel
theorem dX2_standsAt_15 : decode cX2_standsAt 15 = .ok (.aload_n 0, 1) := by decide +kernel
theorem dX2_standsAt_16 : decode cX2_standsAt 16 = .ok (.iload_n 2, 1) := by decide +kernel
theorem dX2_standsAt_17 : decode cX2_standsAt 17 = .ok (.invokestatic 132, 3) := by decide +kernel
theorem dX2_standsAt_20 : decode cX2_standsAt 20 = .ok (.ifCond .ne 13, 3) := by decide +kernel
theorem dX2_standsAt_23 : decode cX2_standsAt 23 = .ok (.aload_n 0, 1) := by decide +kernel
theorem dX2_standsAt_24 : decode cX2_standsAt 24 = .ok (.iload_n 2, 1) := by decide +kernel
theorem dX2_standsAt_25 : decode cX2_standsAt 25 = .ok (.iload_n 3, 1) := by decide +kernel
theorem dX2_standsAt_26 : decode cX2_standsAt 26 = .ok (.iadd, 1) := by decide +kernel
theorem dX2_standsAt_27 : decode cX2_standsAt 27 = .ok (.invokestatic 132, 3) := by decide +kernel
theorem dX2_standsAt_30 : decode cX2_standsAt 30 = .ok (.ifCond .eq 5, 3) := by decide +kernel
theorem dX2_standsAt_33 : decode cX2_standsAt 33 = .ok (.iconst 0, 1) := by decide +kernel
theorem dX2_standsAt_34 : decode cX2_standsAt 34 = .ok (.ireturn, 1) := by decide +kernel
theorem dX2_standsAt_35 : decode cX2_standsAt 35 = .ok (.iconst 0, 1) := by decide +kernel
theorem dX2_standsAt_36 : decode cX2_standsAt 36 = .ok (.istore 4, 2) := by decide +kernel
theorem dX2_standsAt_38 : decode cX2_standsAt 38 = .ok (.iload 4, 2) := by decide +kernel
theorem dX2_standsAt_40 : decode cX2_standsAt 40 = .ok (.iload_n 3, 1) := by decide +kernel
theorem dX2_standsAt_41 : decode cX2_standsAt 41 = .ok (.if_icmp .ge 30, 3) := by decide +kernel
theorem dX2_standsAt_44 : decode cX2_standsAt 44 = .ok (.aload_n 0, 1) := by decide +kernel
theorem dX2_standsAt_45 : decode cX2_standsAt 45 = .ok (.getfield 93, 3) := by decide +kernel
theorem dX2_standsAt_48 : decode cX2_standsAt 48 = .ok (.iload_n 2, 1) := by decide +kernel
theorem dX2_standsAt_49 : decode cX2_standsAt 49 = .ok (.iload 4, 2) := by decide +kernel
theorem dX2_standsAt_51 : decode cX2_standsAt 51 = .ok (.iadd, 1) := by decide +kernel
theorem dX2_standsAt_52 : decode cX2_standsAt 52 = .ok (.iaload, 1) := by decide +kernel
theorem dX2_standsAt_53 : decode cX2_standsAt 53 = .ok (.aload_n 1, 1) := by decide +kernel
theorem dX2_standsAt_54 : decode cX2_standsAt 54 = .ok (.getfield 93, 3) := by decide +kernel
theorem dX2_standsAt_57 : decode cX2_standsAt 57 = .ok (.iload 4, 2) := by decide +kernel
theorem dX2_standsAt_59 : decode cX2_standsAt 59 = .ok (.iaload, 1) := by decide +kernel
theorem dX2_standsAt_60 : decode cX2_standsAt 60 = .ok (.if_icmp .eq 5, 3) := by decide +kernel
theorem dX2_standsAt_63 : decode cX2_standsAt 63 = .ok (.iconst 0, 1) := by decide +kernel
theorem dX2_standsAt_64 : decode cX2_standsAt 64 = .ok (.ireturn, 1) := by decide +kernel
theorem dX2_standsAt_65 : decode cX2_standsAt 65 = .ok (.iinc 4 1, 3) := by decide +kernel
theorem dX2_standsAt_68 : decode cX2_standsAt 68 = .ok (.goto (-30), 3) := by decide +kernel
theorem dX2_standsAt_71 : decode cX2_standsAt 71 = .ok (.iconst 1, 1) := by decide +kernel
theorem dX2_standsAt_72 : decode cX2_standsAt 72 = .ok (.ireturn, 1) := by decide +kernel
theorem dX2_order_0 : decode cX2_order 0 = .ok (.aload_n 0, 1) := by decide +kernel
theorem dX2_order_1 : decode cX2_order 1 = .ok (.getfield 48, 3) := by decide +kernel
theorem dX2_order_4 : decode cX2_order 4 = .ok (.aload_n 0, 1) := by decide +kernel
theorem dX2_order_5 : decode cX2_order 5 = .ok (.getfield 74, 3) := by decide +kernel
theorem dX2_order_8 : decode cX2_order 8 = .ok (.arraylength, 1) := by decide +kernel
theorem dX2_order_9 : decode cX2_order 9 = .ok (.invokestatic 214, 3) := by decide +kernel
theorem dX2_order_12 : decode cX2_order 12 = .ok (.aload_n 1, 1) := by decide +kernel
theorem dX2_order_13 : decode cX2_order 13 = .ok (.getfield 48, 3) := by decide +kernel
theorem dX2_order_16 : decode cX2_order 16 = .ok (.aload_n 1, 1) := by decide +kernel
theorem dX2_order_17 : decode cX2_order 17 = .ok (.getfield 74, 3) := by decide +kernel
theorem dX2_order_20 : decode cX2_order 20 = .ok (.arraylength, 1) := by decide +kernel
theorem dX2_order_21 : decode cX2_order 21 = .ok (.invokestatic 214, 3) := by decide +kernel
theorem dX2_order_24 : decode cX2_order 24 = .ok (.invokestatic 214, 3) := by decide +kernel
theorem dX2_order_27 : decode cX2_order 27 = .ok (.istore_n 2, 1) := by decide +kernel
theorem dX2_order_28 : decode cX2_order 28 = .ok (.iconst 0, 1) := by decide +kernel
theorem dX2_order_29 : decode cX2_order 29 = .ok (.istore_n 3, 1) := by decide +kernel
theorem dX2_order_30 : decode cX2_order 30 = .ok (.iload_n 3, 1) := by decide +kernel
theorem dX2_order_31 : decode cX2_order 31 = .ok (.iload_n 2, 1) := by decide +kernel
theorem dX2_order_32 : decode cX2_order 32 = .ok (.if_icmp .ge 45, 3) := by decide +kernel
theorem dX2_order_35 : decode cX2_order 35 = .ok (.aload_n 0, 1) := by decide +kernel
theorem dX2_order_36 : decode cX2_order 36 = .ok (.getfield 74, 3) := by decide +kernel
theorem dX2_order_39 : decode cX2_order 39 = .ok (.iload_n 3, 1) := by decide +kernel
theorem dX2_order_40 : decode cX2_order 40 = .ok (.iaload, 1) := by decide +kernel
theorem dX2_order_41 : decode cX2_order 41 = .ok (.aload_n 1, 1) := by decide +kernel
theorem dX2_order_42 : decode cX2_order 42 = .ok (.getfield 74, 3) := by decide +kernel
theorem dX2_order_45 : decode cX2_order 45 = .ok (.iload_n 3, 1) := by decide +kernel
theorem dX2_order_46 : decode cX2_order 46 = .ok (.iaload, 1) := by decide +kernel
theorem dX2_order_47 : decode cX2_order 47 = .ok (.if_icmp .eq 24, 3) := by decide +kernel
theorem dX2_order_50 : decode cX2_order 50 = .ok (.aload_n 0, 1) := by decide +kernel
theorem dX2_order_51 : decode cX2_order 51 = .ok (.getfield 74, 3) := by decide +kernel
theorem dX2_order_54 : decode cX2_order 54 = .ok (.iload_n 3, 1) := by decide +kernel
theorem dX2_order_55 : decode cX2_order 55 = .ok (.iaload, 1) := by decide +kernel
theorem dX2_order_56 : decode cX2_order 56 = .ok (.aload_n 1, 1) := by decide +kernel
theorem dX2_order_57 : decode cX2_order 57 = .ok (.getfield 74, 3) := by decide +kernel
theorem dX2_order_60 : decode cX2_order 60 = .ok (.iload_n 3, 1) := by decide +kernel
theorem dX2_order_61 : decode cX2_order 61 = .ok (.iaload, 1) := by decide +kernel
theorem dX2_order_62 : decode cX2_order 62 = .ok (.if_icmp .ge 7, 3) := by decide +kernel
theorem dX2_order_65 : decode cX2_order 65 = .ok (.iconst (-1), 1) := by decide +kernel
theorem dX2_order_66 : decode cX2_order 66 = .ok (.goto 4, 3) := by decide +kernel
theorem dX2_order_69 : decode cX2_order 69 = .ok (.iconst 1, 1) := by decide +kernel
theorem dX2_order_70 : decode cX2_order 70 = .ok (.ireturn, 1) := by decide +kernel
theorem dX2_order_71 : decode cX2_order 71 = .ok (.iinc 3 1, 3) := by decide +kernel
theorem dX2_order_74 : decode cX2_order 74 = .ok (.goto (-44), 3) := by decide +kernel
theorem dX2_order_77 : decode cX2_order 77 = .ok (.aload_n 0, 1) := by decide +kernel
theorem dX2_order_78 : decode cX2_order 78 = .ok (.getfield 48, 3) := by decide +kernel
theorem dX2_order_81 : decode cX2_order 81 = .ok (.aload_n 1, 1) := by decide +kernel
theorem dX2_order_82 : decode cX2_order 82 = .ok (.getfield 48, 3) := by decide +kernel
theorem dX2_order_85 : decode cX2_order 85 = .ok (.if_icmp .ne 7, 3) := by decide +kernel
theorem dX2_order_88 : decode cX2_order 88 = .ok (.iconst 0, 1) := by decide +kernel
theorem dX2_order_89 : decode cX2_order 89 = .ok (.goto 19, 3) := by decide +kernel
theorem dX2_order_92 : decode cX2_order 92 = .ok (.aload_n 0, 1) := by decide +kernel
theorem dX2_order_93 : decode cX2_order 93 = .ok (.getfield 48, 3) := by decide +kernel
theorem dX2_order_96 : decode cX2_order 96 = .ok (.aload_n 1, 1) := by decide +kernel
theorem dX2_order_97 : decode cX2_order 97 = .ok (.getfield 48, 3) := by decide +kernel
theorem dX2_order_100 : decode cX2_order 100 = .ok (.if_icmp .ge 7, 3) := by decide +kernel
theorem dX2_order_103 : decode cX2_order 103 = .ok (.iconst (-1), 1) := by decide +kernel
theorem dX2_order_104 : decode cX2_order 104 = .ok (.goto 4, 3) := by decide +kernel
theorem dX2_order_107 : decode cX2_order 107 = .ok (.iconst 1, 1) := by decide +kernel
theorem dX2_order_108 : decode cX2_order 108 = .ok (.ireturn, 1) := by decide +kernel
theorem dX2_hasSameItems_0 : decode cX2_hasSameItems 0 = .ok (.aload_n 0, 1) := by decide +kernel
theorem dX2_hasSameItems_1 : decode cX2_hasSameItems 1 = .ok (.ifnull 20, 3) := by decide +kernel
theorem dX2_hasSameItems_4 : decode cX2_hasSameItems 4 = .ok (.aload_n 1, 1) := by decide +kernel
theorem dX2_hasSameItems_5 : decode cX2_hasSameItems 5 = .ok (.ifnull 16, 3) := by decide +kernel
theorem dX2_hasSameItems_8 : decode cX2_hasSameItems 8 = .ok (.aload_n 0, 1) := by decide +kernel
theorem dX2_hasSameItems_9 : decode cX2_hasSameItems 9 = .ok (.getfield 93, 3) := by decide +kernel
theorem dX2_hasSameItems_12 : decode cX2_hasSameItems 12 = .ok (.arraylength, 1) := by decide +kernel
theorem dX2_hasSameItems_13 : decode cX2_hasSameItems 13 = .ok (.aload_n 1, 1) := by decide +kernel
theorem dX2_hasSameItems_14 : decode cX2_hasSameItems 14 = .ok (.getfield 93, 3) := by decide +kernel
theorem dX2_hasSameItems_17 : decode cX2_hasSameItems 17 = .ok (.arraylength, 1) := by decide +kernel
theorem dX2_hasSameItems_18 : decode cX2_hasSameItems 18 = .ok (.if_icmp .eq 5, 3) := by decide +kernel
theorem dX2_hasSameItems_21 : decode cX2_hasSameItems 21 = .ok (.iconst 0, 1) := by decide +kernel
theorem dX2_hasSameItems_22 : decode cX2_hasSameItems 22 = .ok (.ireturn, 1) := by decide +kernel
theorem dX2_hasSameItems_23 : decode cX2_hasSameItems 23 = .ok (.iconst 0, 1) := by decide +kernel
theorem dX2_hasSameItems_24 : decode cX2_hasSameItems 24 = .ok (.istore_n 2, 1) := by decide +kernel
theorem dX2_hasSameItems_25 : decode cX2_hasSameItems 25 = .ok (.iload_n 2, 1) := by decide +kernel
theorem dX2_hasSameItems_26 : decode cX2_hasSameItems 26 = .ok (.aload_n 0, 1) := by decide +kernel
theorem dX2_hasSameItems_27 : decode cX2_hasSameItems 27 = .ok (.getfield 93, 3) := by decide +kernel
theorem dX2_hasSameItems_30 : decode cX2_hasSameItems 30 = .ok (.arraylength, 1) := by decide +kernel
theorem dX2_hasSameItems_31 : decode cX2_hasSameItems 31 = .ok (.if_icmp .ge 35, 3) := by decide +kernel
theorem dX2_hasSameItems_34 : decode cX2_hasSameItems 34 = .ok (.iload_n 2, 1) := by decide +kernel
theorem dX2_hasSameItems_35 : decode cX2_hasSameItems 35 = .ok (.aload_n 1, 1) := by decide +kernel
theorem dX2_hasSameItems_36 : decode cX2_hasSameItems 36 = .ok (.getfield 93, 3) := by decide +kernel
theorem dX2_hasSameItems_39 : decode cX2_hasSameItems 39 = .ok (.arraylength, 1) := by decide +kernel
theorem dX2_hasSameItems_40 : decode cX2_hasSameItems 40 = .ok (.if_icmp .ge 26, 3) := by decide +kernel
theorem dX2_hasSameItems_43 : decode cX2_hasSameItems 43 = .ok (.aload_n 0, 1) := by decide +kernel
theorem dX2_hasSameItems_44 : decode cX2_hasSameItems 44 = .ok (.getfield 93, 3) := by decide +kernel
theorem dX2_hasSameItems_47 : decode cX2_hasSameItems 47 = .ok (.iload_n 2, 1) := by decide +kernel
theorem dX2_hasSameItems_48 : decode cX2_hasSameItems 48 = .ok (.iaload, 1) := by decide +kernel
theorem dX2_hasSameItems_49 : decode cX2_hasSameItems 49 = .ok (.aload_n 1, 1) := by decide +kernel
theorem dX2_hasSameItems_50 : decode cX2_hasSameItems 50 = .ok (.getfield 93, 3) := by decide +kernel
theorem dX2_hasSameItems_53 : decode cX2_hasSameItems 53 = .ok (.iload_n 2, 1) := by decide +kernel
theorem dX2_hasSameItems_54 : decode cX2_hasSameItems 54 = .ok (.iaload, 1) := by decide +kernel
theorem dX2_hasSameItems_55 : decode cX2_hasSameItems 55 = .ok (.if_icmp .eq 5, 3) := by decide +kernel
theorem dX2_hasSameItems_58 : decode cX2_hasSameItems 58 = .ok (.iconst 0, 1) := by decide +kernel
theorem dX2_hasSameItems_59 : decode cX2_hasSameItems 59 = .ok (.ireturn, 1) := by decide +kernel
theorem dX2_hasSameItems_60 : decode cX2_hasSameItems 60 = .ok (.iinc 2 1, 3) := by decide +kernel
theorem dX2_hasSameItems_63 : decode cX2_hasSameItems 63 = .ok (.goto (-38), 3) := by decide +kernel
theorem dX2_hasSameItems_66 : decode cX2_hasSameItems 66 = .ok (.iconst 1, 1) := by decide +kernel
theorem dX2_hasSameItems_67 : decode cX2_hasSameItems 67 = .ok (.ireturn, 1) := by decide +kernel
theorem dX2_greater_0 : decode cX2_greater 0 = .ok (.iload_n 0, 1) := by decide +kernel
theorem dX2_greater_1 : decode cX2_greater 1 = .ok (.bipush 97, 2) := by decide +kernel
theorem dX2_greater_3 : decode cX2_greater 3 = .ok (.if_icmp .lt 9, 3) := by decide +kernel
theorem dX2_greater_6 : decode cX2_greater 6 = .ok (.iload_n 0, 1) := by decide +kernel
theorem dX2_greater_7 : decode cX2_greater 7 = .ok (.bipush 122, 2) := by decide +kernel
theorem dX2_greater_9 : decode cX2_greater 9 = .ok (.if_icmp .le 24, 3) := by decide +kernel
theorem dX2_greater_12 : decode cX2_greater 12 = .ok (.iload_n 0, 1) := by decide +kernel
theorem dX2_greater_13 : decode cX2_greater 13 = .ok (.sipush 224, 3) := by decide +kernel
theorem dX2_greater_16 : decode cX2_greater 16 = .ok (.if_icmp .lt 22, 3) := by decide +kernel
theorem dX2_greater_19 : decode cX2_greater 19 = .ok (.iload_n 0, 1) := by decide +kernel
theorem dX2_greater_20 : decode cX2_greater 20 = .ok (.sipush 254, 3) := by decide +kernel
theorem dX2_greater_23 : decode cX2_greater 23 = .ok (.if_icmp .gt 15, 3) := by decide +kernel
theorem dX2_greater_26 : decode cX2_greater 26 = .ok (.iload_n 0, 1) := by decide +kernel
theorem dX2_greater_27 : decode cX2_greater 27 = .ok (.sipush 247, 3) := by decide +kernel
theorem dX2_greater_30 : decode cX2_greater 30 = .ok (.if_icmp .eq 8, 3) := by decide +kernel
theorem dX2_greater_33 : decode cX2_greater 33 = .ok (.iload_n 0, 1) := by decide +kernel
theorem dX2_greater_34 : decode cX2_greater 34 = .ok (.bipush 32, 2) := by decide +kernel
theorem dX2_greater_36 : decode cX2_greater 36 = .ok (.isub, 1) := by decide +kernel
theorem dX2_greater_37 : decode cX2_greater 37 = .ok (.ireturn, 1) := by decide +kernel
theorem dX2_greater_38 : decode cX2_greater 38 = .ok (.iload_n 0, 1) := by decide +kernel
theorem dX2_greater_39 : decode cX2_greater 39 = .ok (.sipush 255, 3) := by decide +kernel
theorem dX2_greater_42 : decode cX2_greater 42 = .ok (.if_icmp .ne 9, 3) := by decide +kernel
theorem dX2_greater_45 : decode cX2_greater 45 = .ok (.sipush 376, 3) := by decide +kernel
theorem dX2_greater_48 : decode cX2_greater 48 = .ok (.goto 4, 3) := by decide +kernel
theorem dX2_greater_51 : decode cX2_greater 51 = .ok (.iload_n 0, 1) := by decide +kernel
theorem dX2_greater_52 : decode cX2_greater 52 = .ok (.ireturn, 1) := by decide +kernel
theorem dX2_lesser_0 : decode cX2_lesser 0 = .ok (.iload_n 0, 1) := by decide +kernel
theorem dX2_lesser_1 : decode cX2_lesser 1 = .ok (.bipush 65, 2) := by decide +kernel
theorem dX2_lesser_3 : decode cX2_lesser 3 = .ok (.if_icmp .lt 9, 3) := by decide +kernel
theorem dX2_lesser_6 : decode cX2_lesser 6 = .ok (.iload_n 0, 1) := by decide +kernel
theorem dX2_lesser_7 : decode cX2_lesser 7 = .ok (.bipush 90, 2) := by decide +kernel
theorem dX2_lesser_9 : decode cX2_lesser 9 = .ok (.if_icmp .le 24, 3) := by decide +kernel
theorem dX2_lesser_12 : decode cX2_lesser 12 = .ok (.iload_n 0, 1) := by decide +kernel
theorem dX2_lesser_13 : decode cX2_lesser 13 = .ok (.sipush 192, 3) := by decide +kernel
theorem dX2_lesser_16 : decode cX2_lesser 16 = .ok (.if_icmp .lt 22, 3) := by decide +kernel
theorem dX2_lesser_19 : decode cX2_lesser 19 = .ok (.iload_n 0, 1) := by decide +kernel
theorem dX2_lesser_20 : decode cX2_lesser 20 = .ok (.sipush 222, 3) := by decide +kernel
theorem dX2_lesser_23 : decode cX2_lesser 23 = .ok (.if_icmp .gt 15, 3) := by decide +kernel
theorem dX2_lesser_26 : decode cX2_lesser 26 = .ok (.iload_n 0, 1) := by decide +kernel
theorem dX2_lesser_27 : decode cX2_lesser 27 = .ok (.sipush 215, 3) := by decide +kernel
theorem dX2_lesser_30 : decode cX2_lesser 30 = .ok (.if_icmp .eq 8, 3) := by decide +kernel
theorem dX2_lesser_33 : decode cX2_lesser 33 = .ok (.iload_n 0, 1) := by decide +kernel
theorem dX2_lesser_34 : decode cX2_lesser 34 = .ok (.bipush 32, 2) := by decide +kernel
theorem dX2_lesser_36 : decode cX2_lesser 36 = .ok (.iadd, 1) := by decide +kernel
theorem dX2_lesser_37 : decode cX2_lesser 37 = .ok (.ireturn, 1) := by decide +kernel
theorem dX2_lesser_38 : decode cX2_lesser 38 = .ok (.iload_n 0, 1) := by decide +kernel
theorem dX2_lesser_39 : decode cX2_lesser 39 = .ok (.sipush 376, 3) := by decide +kernel
theorem dX2_lesser_42 : decode cX2_lesser 42 = .ok (.if_icmp .ne 9, 3) := by decide +kernel
theorem dX2_lesser_45 : decode cX2_lesser 45 = .ok (.sipush 255, 3) := by decide +kernel
theorem dX2_lesser_48 : decode cX2_lesser 48 = .ok (.goto 4, 3) := by decide +kernel
theorem dX2_lesser_51 : decode cX2_lesser 51 = .ok (.iload_n 0, 1) := by decide +kernel
theorem dX2_lesser_52 : decode cX2_lesser 52 = .ok (.ireturn, 1) := by decide +kernel
theorem dX3_init_0 : decode cX3_init 0 = .ok (.aload_n 0, 1) := by decide +kernel
theorem dX3_init_1 : decode cX3_init 1 = .ok (.invokespecial 1, 3) := by decide +kernel
theorem dX3_init_4 : decode cX3_init 4 = .ok (.aload_n 0, 1) := by decide +kernel
theorem dX3_init_5 : decode cX3_init 5 = .ok (.bipush 10, 2) := by decide +kernel
theorem dX3_init_7 : decode cX3_init 7 = .ok (.newarray .int, 2) := by decide +kernel
theorem dX3_init_9 : decode cX3_init 9 = .ok (.putfield 7, 3) := by decide +kernel
theorem dX3_init_12 : decode cX3_init 12 = .ok (.aload_n 0, 1) := by decide +kernel
theorem dX3_init_13 : decode cX3_init 13 = .ok (.bipush 12, 2) := by decide +kernel
theorem dX3_init_15 : decode cX3_init 15 = .ok (.newarray .int, 2) := by decide +kernel
theorem dX3_init_17 : decode cX3_init 17 = .ok (.putfield 13, 3) := by decide +kernel
theorem dX3_init_20 : decode cX3_init 20 = .ok (.aload_n 0, 1) := by decide +kernel
theorem dX3_init_21 : decode cX3_init 21 = .ok (.bipush 24, 2) := by decide +kernel
theorem dX3_init_23 : decode cX3_init 23 = .ok (.newarray .int, 2) := by decide +kernel
theorem dX3_init_25 : decode cX3_init 25 = .ok (.putfield 16, 3) := by decide +kernel
theorem dX3_init_28 : decode cX3_init 28 = .ok (.aload_n 0, 1) := by decide +kernel
theorem dX3_init_29 : decode cX3_init 29 = .ok (.bipush 24, 2) := by decide +kernel
theorem dX3_init_31 : decode cX3_init 31 = .ok (.newarray .int, 2) := by decide +kernel
theorem dX3_init_33 : decode cX3_init 33 = .ok (.putfield 19, 3) := by decide +kernel
theorem dX3_init_36 : decode cX3_init 36 = .ok (.aload_n 0, 1) := by decide +kernel
theorem dX3_init_37 : decode cX3_init 37 = .ok (.sipush 5760, 3) := by decide +kernel
theorem dX3_init_40 : decode cX3_init 40 = .ok (.newarray .int, 2) := by decide +kernel
theorem dX3_init_42 : decode cX3_init 42 = .ok (.putfield 22, 3) := by decide +kernel
theorem dX3_init_45 : decode cX3_init 45 = .ok (.aload_n 0, 1) := by decide +kernel
theorem dX3_init_46 : decode cX3_init 46 = .ok (.bipush 60, 2) := by decide +kernel
theorem dX3_init_48 : decode cX3_init 48 = .ok (.newarray .int, 2) := by decide +kernel
theorem dX3_init_50 : decode cX3_init 50 = .ok (.putfield 25, 3) := by decide +kernel
theorem dX3_init_53 : decode cX3_init 53 = .ok (.aload_n 0, 1) := by decide +kernel
theorem dX3_init_54 : decode cX3_init 54 = .ok (.iconst (-1), 1) := by decide +kernel
theorem dX3_init_55 : decode cX3_init 55 = .ok (.putfield 28, 3) := by decide +kernel
theorem dX3_init_58 : decode cX3_init 58 = .ok (.aload_n 0, 1) := by decide +kernel
theorem dX3_init_59 : decode cX3_init 59 = .ok (.sipush 240, 3) := by decide +kernel
theorem dX3_init_62 : decode cX3_init 62 = .ok (.newarray .int, 2) := by decide +kernel
theorem dX3_init_64 : decode cX3_init 64 = .ok (.putfield 32, 3) := by decide +kernel
theorem dX3_init_67 : decode cX3_init 67 = .ok (.aload_n 0, 1) := by decide +kernel
theorem dX3_init_68 : decode cX3_init 68 = .ok (.sipush 480, 3) := by decide +kernel
theorem dX3_init_71 : decode cX3_init 71 = .ok (.newarray .int, 2) := by decide +kernel
theorem dX3_init_73 : decode cX3_init 73 = .ok (.putfield 35, 3) := by decide +kernel
theorem dX3_init_76 : decode cX3_init 76 = .ok (.aload_n 0, 1) := by decide +kernel
theorem dX3_init_77 : decode cX3_init 77 = .ok (.sipush 480, 3) := by decide +kernel
theorem dX3_init_80 : decode cX3_init 80 = .ok (.newarray .int, 2) := by decide +kernel
theorem dX3_init_82 : decode cX3_init 82 = .ok (.putfield 38, 3) := by decide +kernel
theorem dX3_init_85 : decode cX3_init 85 = .ok (.aload_n 0, 1) := by decide +kernel
theorem dX3_init_86 : decode cX3_init 86 = .ok (.sipush 480, 3) := by decide +kernel
theorem dX3_init_89 : decode cX3_init 89 = .ok (.newarray .int, 2) := by decide +kernel
theorem dX3_init_91 : decode cX3_init 91 = .ok (.putfield 41, 3) := by decide +kernel
theorem dX3_init_94 : decode cX3_init 94 = .ok (.iconst 0, 1) := by decide +kernel
theorem dX3_init_95 : decode cX3_init 95 = .ok (.istore_n 1, 1) := by decide +kernel
theorem dX3_init_96 : decode cX3_init 96 = .ok (.iload_n 1, 1) := by decide +kernel
theorem dX3_init_97 : decode cX3_init 97 = .ok (.bipush 10, 2) := by decide +kernel
theorem dX3_init_99 : decode cX3_init 99 = .ok (.if_icmp .ge 16, 3) := by decide +kernel
theorem dX3_init_102 : decode cX3_init 102 = .ok (.aload_n 0, 1) := by decide +kernel
theorem dX3_init_103 : decode cX3_init 103 = .ok (.getfield 7, 3) := by decide +kernel
theorem dX3_init_106 : decode cX3_init 106 = .ok (.iload_n 1, 1) := by decide +kernel
theorem dX3_init_107 : decode cX3_init 107 = .ok (.iconst (-1), 1) := by decide +kernel
theorem dX3_init_108 : decode cX3_init 108 = .ok (.iastore, 1) := by decide +kernel
theorem dX3_init_109 : decode cX3_init 109 = .ok (.iinc 1 1, 3) := by decide +kernel
theorem dX3_init_112 : decode cX3_init 112 = .ok (.goto (-16), 3) := by decide +kernel
theorem dX3_init_115 : decode cX3_init 115 = .ok (.return_, 1) := by decide +kernel
theorem dX3_within_0 : decode cX3_within 0 = .ok (.iload_n 0, 1) := by decide +kernel
theorem dX3_within_1 : decode cX3_within 1 = .ok (.iload_n 1, 1) := by decide +kernel
theorem dX3_within_2 : decode cX3_within 2 = .ok (.if_icmp .lt 12, 3) := by decide +kernel
theorem dX3_within_5 : decode cX3_within 5 = .ok (.iload_n 0, 1) := by decide +kernel
theorem dX3_within_6 : decode cX3_within 6 = .ok (.iload_n 2, 1) := by decide +kernel
theorem dX3_within_7 : decode cX3_within 7 = .ok (.if_icmp .gt 7, 3) := by decide +kernel
theorem dX3_within_10 : decode cX3_within 10 = .ok (.iconst 1, 1) := by decide +kernel
theorem dX3_within_11 : decode cX3_within 11 = .ok (.goto 4, 3) := by decide +kernel
theorem dX3_within_14 : decode cX3_within 14 = .ok (.iconst 0, 1) := by decide +kernel
theorem dX3_within_15 : decode cX3_within 15 = .ok (.ireturn, 1) := by decide +kernel
set_option maxRecDepth 20000 in
theorem ggX3_isText_X3_within : GoodIn wsX3_isText wsX3_within := goodIn_r _ [4] (by decide +kernel) (by decide +kernel)
set_option maxRecDepth 20000 in
theorem gX3_isText_X3_within : GoodIn wsX3_isText (va_wsS RX3 44 yX3_within wsX3_within) := goodIn_app (goodIn_of _ (by decide +kernel)) ggX3_isText_X3_within
theorem dX3_isText_0 : decode cX3_isText 0 = .ok (.iload_n 0, 1) := by decide +kernel
theorem dX3_isText_1 : decode cX3_isText 1 = .ok (.iconst 0, 1) := by decide +kernel
theorem dX3_isText_2 : decode cX3_isText 2 = .ok (.bipush 9, 2) := by decide +kernel
theorem dX3_isText_4 : decode cX3_isText 4 = .ok (.invokestatic 44, 3) := by decide +kernel
theorem dX3_isText_7 : decode cX3_isText 7 = .ok (.ireturn, 1) := by decide +kernel
