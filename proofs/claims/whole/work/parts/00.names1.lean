theorem dX0_init_0 : decode cX0_init 0 = .ok (.aload_n 0, 1) := by decide +kernel
theorem dX0_init_1 : decode cX0_init 1 = .ok (.invokespecial 3, 3) := by decide +kernel
theorem dX0_init_4 : decode cX0_init 4 = .ok (.aload_n 0, 1) := by decide +kernel
theorem dX0_init_5 : decode cX0_init 5 = .ok (.iload_n 1, 1) := by decide +kernel
theorem dX0_init_6 : decode cX0_init 6 = .ok (.ifCond .ge 7, 3) := by decide +kernel
theorem dX0_init_9 : decode cX0_init 9 = .ok (.iconst 0, 1) := by decide +kernel
theorem dX0_init_10 : decode cX0_init 10 = .ok (.goto 4, 3) := by decide +kernel
theorem dX0_init_13 : decode cX0_init 13 = .ok (.iload_n 1, 1) := by decide +kernel
theorem dX0_init_14 : decode cX0_init 14 = .ok (.newarray .int, 2) := by decide +kernel
theorem dX0_init_16 : decode cX0_init 16 = .ok (.putfield 9, 3) := by decide +kernel
theorem dX0_init_19 : decode cX0_init 19 = .ok (.aload_n 0, 1) := by decide +kernel
theorem dX0_init_20 : decode cX0_init 20 = .ok (.iconst 0, 1) := by decide +kernel
theorem dX0_init_21 : decode cX0_init 21 = .ok (.putfield 15, 3) := by decide +kernel
theorem dX0_init_24 : decode cX0_init 24 = .ok (.return_, 1) := by decide +kernel
theorem dX0_empty_0 : decode cX0_empty 0 = .ok (.aload_n 0, 1) := by decide +kernel
theorem dX0_empty_1 : decode cX0_empty 1 = .ok (.iconst 0, 1) := by decide +kernel
theorem dX0_empty_2 : decode cX0_empty 2 = .ok (.putfield 15, 3) := by decide +kernel
theorem dX0_empty_5 : decode cX0_empty 5 = .ok (.return_, 1) := by decide +kernel
theorem dX0_add_0 : decode cX0_add 0 = .ok (.aload_n 0, 1) := by decide +kernel
theorem dX0_add_1 : decode cX0_add 1 = .ok (.getfield 15, 3) := by decide +kernel
theorem dX0_add_4 : decode cX0_add 4 = .ok (.ifCond .lt 35, 3) := by decide +kernel
theorem dX0_add_7 : decode cX0_add 7 = .ok (.aload_n 0, 1) := by decide +kernel
theorem dX0_add_8 : decode cX0_add 8 = .ok (.getfield 15, 3) := by decide +kernel
theorem dX0_add_11 : decode cX0_add 11 = .ok (.aload_n 0, 1) := by decide +kernel
theorem dX0_add_12 : decode cX0_add 12 = .ok (.getfield 9, 3) := by decide +kernel
theorem dX0_add_15 : decode cX0_add 15 = .ok (.arraylength, 1) := by decide +kernel
theorem dX0_add_16 : decode cX0_add 16 = .ok (.if_icmp .ge 23, 3) := by decide +kernel
theorem dX0_add_19 : decode cX0_add 19 = .ok (.aload_n 0, 1) := by decide +kernel
theorem dX0_add_20 : decode cX0_add 20 = .ok (.getfield 9, 3) := by decide +kernel
theorem dX0_add_23 : decode cX0_add 23 = .ok (.aload_n 0, 1) := by decide +kernel
theorem dX0_add_24 : decode cX0_add 24 = .ok (.getfield 15, 3) := by decide +kernel
theorem dX0_add_27 : decode cX0_add 27 = .ok (.iload_n 1, 1) := by decide +kernel
theorem dX0_add_28 : decode cX0_add 28 = .ok (.iastore, 1) := by decide +kernel
theorem dX0_add_29 : decode cX0_add 29 = .ok (.aload_n 0, 1) := by decide +kernel
theorem dX0_add_30 : decode cX0_add 30 = .ok (.dup, 1) := by decide +kernel
theorem dX0_add_31 : decode cX0_add 31 = .ok (.getfield 15, 3) := by decide +kernel
theorem dX0_add_34 : decode cX0_add 34 = .ok (.iconst 1, 1) := by decide +kernel
theorem dX0_add_35 : decode cX0_add 35 = .ok (.iadd, 1) := by decide +kernel
theorem dX0_add_36 : decode cX0_add 36 = .ok (.putfield 15, 3) := by decide +kernel
theorem dX0_add_39 : decode cX0_add 39 = .ok (.return_, 1) := by decide +kernel
set_option maxRecDepth 20000 in
theorem ggX0_addAll_X0_add : GoodIn wsX0_addAll wsX0_add := goodIn_r _ [5, 6, 7, 8, 9] (by decide +kernel) (by decide +kernel)
set_option maxRecDepth 20000 in
theorem gX0_addAll_X0_add : GoodIn wsX0_addAll (wsV RX0 19 RX0 yX0_add wsX0_add) := goodIn_app (goodIn_of _ (by decide +kernel)) ggX0_addAll_X0_add
theorem dX0_addAll_0 : decode cX0_addAll 0 = .ok (.iconst 0, 1) := by decide +kernel
theorem dX0_addAll_1 : decode cX0_addAll 1 = .ok (.istore_n 2, 1) := by decide +kernel
theorem dX0_addAll_2 : decode cX0_addAll 2 = .ok (.iload_n 2, 1) := by decide +kernel
theorem dX0_addAll_3 : decode cX0_addAll 3 = .ok (.aload_n 1, 1) := by decide +kernel
theorem dX0_addAll_4 : decode cX0_addAll 4 = .ok (.arraylength, 1) := by decide +kernel
theorem dX0_addAll_5 : decode cX0_addAll 5 = .ok (.if_icmp .ge 16, 3) := by decide +kernel
theorem dX0_addAll_8 : decode cX0_addAll 8 = .ok (.aload_n 0, 1) := by decide +kernel
theorem dX0_addAll_9 : decode cX0_addAll 9 = .ok (.aload_n 1, 1) := by decide +kernel
theorem dX0_addAll_10 : decode cX0_addAll 10 = .ok (.iload_n 2, 1) := by decide +kernel
theorem dX0_addAll_11 : decode cX0_addAll 11 = .ok (.iaload, 1) := by decide +kernel
theorem dX0_addAll_12 : decode cX0_addAll 12 = .ok (.invokevirtual 19, 3) := by decide +kernel
theorem dX0_addAll_15 : decode cX0_addAll 15 = .ok (.iinc 2 1, 3) := by decide +kernel
theorem dX0_addAll_18 : decode cX0_addAll 18 = .ok (.goto (-16), 3) := by decide +kernel
theorem dX0_addAll_21 : decode cX0_addAll 21 = .ok (.return_, 1) := by decide +kernel
set_option maxRecDepth 20000 in
theorem ggX0_addUnitsOf_X0_add : GoodIn wsX0_addUnitsOf wsX0_add := goodIn_r _ [8, 9, 10, 11, 12] (by decide +kernel) (by decide +kernel)
set_option maxRecDepth 20000 in
theorem gX0_addUnitsOf_X0_add : GoodIn wsX0_addUnitsOf (wsV RX0 19 RX0 yX0_add wsX0_add) := goodIn_app (goodIn_of _ (by decide +kernel)) ggX0_addUnitsOf_X0_add
theorem dX0_addUnitsOf_0 : decode cX0_addUnitsOf 0 = .ok (.iload_n 1, 1) := by decide +kernel
theorem dX0_addUnitsOf_1 : decode cX0_addUnitsOf 1 = .ok (.ldc 23, 2) := by decide +kernel
theorem dX0_addUnitsOf_3 : decode cX0_addUnitsOf 3 = .ok (.if_icmp .ge 9, 3) := by decide +kernel
theorem dX0_addUnitsOf_6 : decode cX0_addUnitsOf 6 = .ok (.aload_n 0, 1) := by decide +kernel
theorem dX0_addUnitsOf_7 : decode cX0_addUnitsOf 7 = .ok (.iload_n 1, 1) := by decide +kernel
theorem dX0_addUnitsOf_8 : decode cX0_addUnitsOf 8 = .ok (.invokevirtual 19, 3) := by decide +kernel
theorem dX0_addUnitsOf_11 : decode cX0_addUnitsOf 11 = .ok (.return_, 1) := by decide +kernel
theorem dX0_addUnitsOf_12 : decode cX0_addUnitsOf 12 = .ok (.iload_n 1, 1) := by decide +kernel
theorem dX0_addUnitsOf_13 : decode cX0_addUnitsOf 13 = .ok (.ldc 23, 2) := by decide +kernel
theorem dX0_addUnitsOf_15 : decode cX0_addUnitsOf 15 = .ok (.isub, 1) := by decide +kernel
theorem dX0_addUnitsOf_16 : decode cX0_addUnitsOf 16 = .ok (.istore_n 2, 1) := by decide +kernel
theorem dX0_addUnitsOf_17 : decode cX0_addUnitsOf 17 = .ok (.aload_n 0, 1) := by decide +kernel
theorem dX0_addUnitsOf_18 : decode cX0_addUnitsOf 18 = .ok (.ldc 24, 2) := by decide +kernel
theorem dX0_addUnitsOf_20 : decode cX0_addUnitsOf 20 = .ok (.iload_n 2, 1) := by decide +kernel
theorem dX0_addUnitsOf_21 : decode cX0_addUnitsOf 21 = .ok (.sipush 1024, 3) := by decide +kernel
theorem dX0_addUnitsOf_24 : decode cX0_addUnitsOf 24 = .ok (.idiv, 1) := by decide +kernel
theorem dX0_addUnitsOf_25 : decode cX0_addUnitsOf 25 = .ok (.iadd, 1) := by decide +kernel
theorem dX0_addUnitsOf_26 : decode cX0_addUnitsOf 26 = .ok (.invokevirtual 19, 3) := by decide +kernel
theorem dX0_addUnitsOf_29 : decode cX0_addUnitsOf 29 = .ok (.aload_n 0, 1) := by decide +kernel
theorem dX0_addUnitsOf_30 : decode cX0_addUnitsOf 30 = .ok (.ldc 25, 2) := by decide +kernel
theorem dX0_addUnitsOf_32 : decode cX0_addUnitsOf 32 = .ok (.iload_n 2, 1) := by decide +kernel
theorem dX0_addUnitsOf_33 : decode cX0_addUnitsOf 33 = .ok (.sipush 1024, 3) := by decide +kernel
theorem dX0_addUnitsOf_36 : decode cX0_addUnitsOf 36 = .ok (.irem, 1) := by decide +kernel
theorem dX0_addUnitsOf_37 : decode cX0_addUnitsOf 37 = .ok (.iadd, 1) := by decide +kernel
theorem dX0_addUnitsOf_38 : decode cX0_addUnitsOf 38 = .ok (.invokevirtual 19, 3) := by decide +kernel
theorem dX0_addUnitsOf_41 : decode cX0_addUnitsOf 41 = .ok (.return_, 1) := by decide +kernel
set_option maxRecDepth 20000 in
theorem ggX0_addPointsOf_X2_isInsidePair : GoodIn wsX0_addPointsOf wsX2_isInsidePair := goodIn_r _ [3, 4, 5, 2, 6, 7, 8, 9, 10, 11, 12] (by decide +kernel) (by decide +kernel)
set_option maxRecDepth 20000 in
theorem gX0_addPointsOf_X2_isInsidePair_n26 : GoodIn wsX0_addPointsOf (wsX2_isInsidePair) := ggX0_addPointsOf_X2_isInsidePair
set_option maxRecDepth 20000 in
theorem ggX0_addPointsOf_X2_pairedPoint : GoodIn wsX0_addPointsOf wsX2_pairedPoint := goodIn_r _ [14, 15, 7, 8] (by decide +kernel) (by decide +kernel)
set_option maxRecDepth 20000 in
theorem gX0_addPointsOf_X2_pairedPoint_n30 : GoodIn wsX0_addPointsOf (wsX2_pairedPoint) := ggX0_addPointsOf_X2_pairedPoint
set_option maxRecDepth 20000 in
theorem ggX0_addPointsOf_X0_add : GoodIn wsX0_addPointsOf wsX0_add := goodIn_r _ [20, 21, 22, 23, 24] (by decide +kernel) (by decide +kernel)
set_option maxRecDepth 20000 in
theorem gX0_addPointsOf_X0_add : GoodIn wsX0_addPointsOf (wsV RX0 19 RX0 yX0_add wsX0_add) := goodIn_app (goodIn_of _ (by decide +kernel)) ggX0_addPointsOf_X0_add
theorem dX0_addPointsOf_0 : decode cX0_addPointsOf 0 = .ok (.iconst 0, 1) := by decide +kernel
theorem dX0_addPointsOf_1 : decode cX0_addPointsOf 1 = .ok (.istore_n 3, 1) := by decide +kernel
theorem dX0_addPointsOf_2 : decode cX0_addPointsOf 2 = .ok (.iload_n 3, 1) := by decide +kernel
theorem dX0_addPointsOf_3 : decode cX0_addPointsOf 3 = .ok (.iload_n 2, 1) := by decide +kernel
theorem dX0_addPointsOf_4 : decode cX0_addPointsOf 4 = .ok (.if_icmp .ge 54, 3) := by decide +kernel
theorem dX0_addPointsOf_7 : decode cX0_addPointsOf 7 = .ok (.iload_n 3, 1) := by decide +kernel
theorem dX0_addPointsOf_8 : decode cX0_addPointsOf 8 = .ok (.aload_n 1, 1) := by decide +kernel
theorem dX0_addPointsOf_9 : decode cX0_addPointsOf 9 = .ok (.arraylength, 1) := by decide +kernel
theorem dX0_addPointsOf_10 : decode cX0_addPointsOf 10 = .ok (.if_icmp .ge 48, 3) := by decide +kernel
theorem dX0_addPointsOf_13 : decode cX0_addPointsOf 13 = .ok (.aload_n 1, 1) := by decide +kernel
theorem dX0_addPointsOf_14 : decode cX0_addPointsOf 14 = .ok (.iload_n 2, 1) := by decide +kernel
theorem dX0_addPointsOf_15 : decode cX0_addPointsOf 15 = .ok (.iload_n 3, 1) := by decide +kernel
theorem dX0_addPointsOf_16 : decode cX0_addPointsOf 16 = .ok (.iconst 1, 1) := by decide +kernel
theorem dX0_addPointsOf_17 : decode cX0_addPointsOf 17 = .ok (.iadd, 1) := by decide +kernel
theorem dX0_addPointsOf_18 : decode cX0_addPointsOf 18 = .ok (.invokestatic 26, 3) := by decide +kernel
theorem dX0_addPointsOf_21 : decode cX0_addPointsOf 21 = .ok (.ifCond .eq 15, 3) := by decide +kernel
theorem dX0_addPointsOf_24 : decode cX0_addPointsOf 24 = .ok (.aload_n 0, 1) := by decide +kernel
theorem dX0_addPointsOf_25 : decode cX0_addPointsOf 25 = .ok (.aload_n 1, 1) := by decide +kernel
theorem dX0_addPointsOf_26 : decode cX0_addPointsOf 26 = .ok (.iload_n 3, 1) := by decide +kernel
theorem dX0_addPointsOf_27 : decode cX0_addPointsOf 27 = .ok (.invokestatic 30, 3) := by decide +kernel
theorem dX0_addPointsOf_30 : decode cX0_addPointsOf 30 = .ok (.invokevirtual 19, 3) := by decide +kernel
theorem dX0_addPointsOf_33 : decode cX0_addPointsOf 33 = .ok (.goto 19, 3) := by decide +kernel
theorem dX0_addPointsOf_36 : decode cX0_addPointsOf 36 = .ok (.aload_n 1, 1) := by decide +kernel
theorem dX0_addPointsOf_37 : decode cX0_addPointsOf 37 = .ok (.iload_n 2, 1) := by decide +kernel
theorem dX0_addPointsOf_38 : decode cX0_addPointsOf 38 = .ok (.iload_n 3, 1) := by decide +kernel
theorem dX0_addPointsOf_39 : decode cX0_addPointsOf 39 = .ok (.invokestatic 26, 3) := by decide +kernel
theorem dX0_addPointsOf_42 : decode cX0_addPointsOf 42 = .ok (.ifCond .ne 10, 3) := by decide +kernel
theorem dX0_addPointsOf_45 : decode cX0_addPointsOf 45 = .ok (.aload_n 0, 1) := by decide +kernel
theorem dX0_addPointsOf_46 : decode cX0_addPointsOf 46 = .ok (.aload_n 1, 1) := by decide +kernel
theorem dX0_addPointsOf_47 : decode cX0_addPointsOf 47 = .ok (.iload_n 3, 1) := by decide +kernel
theorem dX0_addPointsOf_48 : decode cX0_addPointsOf 48 = .ok (.iaload, 1) := by decide +kernel
theorem dX0_addPointsOf_49 : decode cX0_addPointsOf 49 = .ok (.invokevirtual 19, 3) := by decide +kernel
theorem dX0_addPointsOf_52 : decode cX0_addPointsOf 52 = .ok (.iinc 3 1, 3) := by decide +kernel
theorem dX0_addPointsOf_55 : decode cX0_addPointsOf 55 = .ok (.goto (-53), 3) := by decide +kernel
theorem dX0_addPointsOf_58 : decode cX0_addPointsOf 58 = .ok (.return_, 1) := by decide +kernel
set_option maxRecDepth 20000 in
theorem ggX1_init_J7_copyOf_59c91 : GoodIn wsX1_init wsJ7_copyOf_59c91 := goodIn_r _ [11, 12, 13, 14, 15, 16, 17, 18, 19, 20, 21, 22, 23, 24, 25, 26] (by decide +kernel) (by decide +kernel)
set_option maxRecDepth 20000 in
theorem gX1_init_J7_copyOf_59c91 : GoodIn wsX1_init (va_wsS RX1 24 yJ7_copyOf_59c91 wsJ7_copyOf_59c91) := goodIn_app (goodIn_of _ (by decide +kernel)) ggX1_init_J7_copyOf_59c91
theorem dX1_init_0 : decode cX1_init 0 = .ok (.aload_n 0, 1) := by decide +kernel
theorem dX1_init_1 : decode cX1_init 1 = .ok (.invokespecial 3, 3) := by decide +kernel
theorem dX1_init_4 : decode cX1_init 4 = .ok (.aload_n 0, 1) := by decide +kernel
theorem dX1_init_5 : decode cX1_init 5 = .ok (.iload_n 1, 1) := by decide +kernel
theorem dX1_init_6 : decode cX1_init 6 = .ok (.putfield 9, 3) := by decide +kernel
theorem dX1_init_9 : decode cX1_init 9 = .ok (.aload_n 0, 1) := by decide +kernel
theorem dX1_init_10 : decode cX1_init 10 = .ok (.aload_n 2, 1) := by decide +kernel
theorem dX1_init_11 : decode cX1_init 11 = .ok (.getfield 15, 3) := by decide +kernel
theorem dX1_init_14 : decode cX1_init 14 = .ok (.aload_n 2, 1) := by decide +kernel
theorem dX1_init_15 : decode cX1_init 15 = .ok (.getfield 21, 3) := by decide +kernel
theorem dX1_init_18 : decode cX1_init 18 = .ok (.ifCond .ge 7, 3) := by decide +kernel
theorem dX1_init_21 : decode cX1_init 21 = .ok (.iconst 0, 1) := by decide +kernel
theorem dX1_init_22 : decode cX1_init 22 = .ok (.goto 7, 3) := by decide +kernel
theorem dX1_init_25 : decode cX1_init 25 = .ok (.aload_n 2, 1) := by decide +kernel
theorem dX1_init_26 : decode cX1_init 26 = .ok (.getfield 21, 3) := by decide +kernel
theorem dX1_init_29 : decode cX1_init 29 = .ok (.invokestatic 24, 3) := by decide +kernel
theorem dX1_init_32 : decode cX1_init 32 = .ok (.putfield 30, 3) := by decide +kernel
theorem dX1_init_35 : decode cX1_init 35 = .ok (.return_, 1) := by decide +kernel
theorem dX1_mostItems_0 : decode cX1_mostItems 0 = .ok (.aload_n 0, 1) := by decide +kernel
theorem dX1_mostItems_1 : decode cX1_mostItems 1 = .ok (.getfield 9, 3) := by decide +kernel
theorem dX1_mostItems_4 : decode cX1_mostItems 4 = .ok (.iconst 2, 1) := by decide +kernel
theorem dX1_mostItems_5 : decode cX1_mostItems 5 = .ok (.if_icmp .ne 9, 3) := by decide +kernel
theorem dX1_mostItems_8 : decode cX1_mostItems 8 = .ok (.sipush 240, 3) := by decide +kernel
theorem dX1_mostItems_11 : decode cX1_mostItems 11 = .ok (.goto 5, 3) := by decide +kernel
theorem dX1_mostItems_14 : decode cX1_mostItems 14 = .ok (.bipush 60, 2) := by decide +kernel
theorem dX1_mostItems_16 : decode cX1_mostItems 16 = .ok (.ireturn, 1) := by decide +kernel
set_option maxRecDepth 20000 in
theorem ggX2_init_X0_init : GoodIn wsX2_init wsX0_init := goodIn_r _ [18, 19, 2, 3, 20, 21, 22, 31, 32] (by decide +kernel) (by decide +kernel)
set_option maxRecDepth 20000 in
theorem gX2_init_X0_init : GoodIn wsX2_init (wsX0_init) := ggX2_init_X0_init
theorem dX2_init_0 : decode cX2_init 0 = .ok (.aload_n 0, 1) := by decide +kernel
theorem dX2_init_1 : decode cX2_init 1 = .ok (.invokespecial 1, 3) := by decide +kernel
theorem dX2_init_4 : decode cX2_init 4 = .ok (.aload_n 0, 1) := by decide +kernel
theorem dX2_init_5 : decode cX2_init 5 = .ok (.bipush 10, 2) := by decide +kernel
theorem dX2_init_7 : decode cX2_init 7 = .ok (.anewarray 9, 3) := by decide +kernel
theorem dX2_init_10 : decode cX2_init 10 = .ok (.putfield 11, 3) := by decide +kernel
theorem dX2_init_13 : decode cX2_init 13 = .ok (.aload_n 0, 1) := by decide +kernel
theorem dX2_init_14 : decode cX2_init 14 = .ok (.bipush 12, 2) := by decide +kernel
theorem dX2_init_16 : decode cX2_init 16 = .ok (.anewarray 9, 3) := by decide +kernel
theorem dX2_init_19 : decode cX2_init 19 = .ok (.putfield 15, 3) := by decide +kernel
theorem dX2_init_22 : decode cX2_init 22 = .ok (.aload_n 0, 1) := by decide +kernel
theorem dX2_init_23 : decode cX2_init 23 = .ok (.iconst 0, 1) := by decide +kernel
theorem dX2_init_24 : decode cX2_init 24 = .ok (.putfield 18, 3) := by decide +kernel
theorem dX2_init_27 : decode cX2_init 27 = .ok (.aload_n 0, 1) := by decide +kernel
theorem dX2_init_28 : decode cX2_init 28 = .ok (.new 22, 3) := by decide +kernel
theorem dX2_init_31 : decode cX2_init 31 = .ok (.dup, 1) := by decide +kernel
theorem dX2_init_32 : decode cX2_init 32 = .ok (.bipush 60, 2) := by decide +kernel
theorem dX2_init_34 : decode cX2_init 34 = .ok (.invokespecial 24, 3) := by decide +kernel
theorem dX2_init_37 : decode cX2_init 37 = .ok (.putfield 27, 3) := by decide +kernel
theorem dX2_init_40 : decode cX2_init 40 = .ok (.aload_n 0, 1) := by decide +kernel
theorem dX2_init_41 : decode cX2_init 41 = .ok (.new 22, 3) := by decide +kernel
theorem dX2_init_44 : decode cX2_init 44 = .ok (.dup, 1) := by decide +kernel
theorem dX2_init_45 : decode cX2_init 45 = .ok (.sipush 240, 3) := by decide +kernel
theorem dX2_init_48 : decode cX2_init 48 = .ok (.invokespecial 24, 3) := by decide +kernel
theorem dX2_init_51 : decode cX2_init 51 = .ok (.putfield 31, 3) := by decide +kernel
theorem dX2_init_54 : decode cX2_init 54 = .ok (.aload_n 0, 1) := by decide +kernel
theorem dX2_init_55 : decode cX2_init 55 = .ok (.new 22, 3) := by decide +kernel
theorem dX2_init_58 : decode cX2_init 58 = .ok (.dup, 1) := by decide +kernel
theorem dX2_init_59 : decode cX2_init 59 = .ok (.sipush 240, 3) := by decide +kernel
theorem dX2_init_62 : decode cX2_init 62 = .ok (.invokespecial 24, 3) := by decide +kernel
theorem dX2_init_65 : decode cX2_init 65 = .ok (.putfield 34, 3) := by decide +kernel
theorem dX2_init_68 : decode cX2_init 68 = .ok (.aload_n 0, 1) := by decide +kernel
theorem dX2_init_69 : decode cX2_init 69 = .ok (.iconst 0, 1) := by decide +kernel
theorem dX2_init_70 : decode cX2_init 70 = .ok (.putfield 37, 3) := by decide +kernel
theorem dX2_init_73 : decode cX2_init 73 = .ok (.aload_n 0, 1) := by decide +kernel
theorem dX2_init_74 : decode cX2_init 74 = .ok (.iconst (-1), 1) := by decide +kernel
theorem dX2_init_75 : decode cX2_init 75 = .ok (.putfield 40, 3) := by decide +kernel
theorem dX2_init_78 : decode cX2_init 78 = .ok (.return_, 1) := by decide +kernel
theorem dX2_code_0 : decode cX2_code 0 = .ok (.aload_n 0, 1) := by decide +kernel
theorem dX2_code_1 : decode cX2_code 1 = .ok (.getfield 37, 3) := by decide +kernel
theorem dX2_code_4 : decode cX2_code 4 = .ok (.ireturn, 1) := by decide +kernel
theorem dX2_place_0 : decode cX2_place 0 = .ok (.aload_n 0, 1) := by decide +kernel
theorem dX2_place_1 : decode cX2_place 1 = .ok (.getfield 40, 3) := by decide +kernel
theorem dX2_place_4 : decode cX2_place 4 = .ok (.ireturn, 1) := by decide +kernel
set_option maxRecDepth 20000 in
theorem ggX2_point_X2_isNoPoint : GoodIn wsX2_point wsX2_isNoPoint := goodIn_r _ [7, 8] (by decide +kernel) (by decide +kernel)
set_option maxRecDepth 20000 in
theorem gX2_point_X2_isNoPoint : GoodIn wsX2_point (va_wsS RX2 43 yX2_isNoPoint wsX2_isNoPoint) := goodIn_app (goodIn_of _ (by decide +kernel)) ggX2_point_X2_isNoPoint
set_option maxRecDepth 20000 in
theorem ggX2_point_X2_unitCount : GoodIn wsX2_point wsX2_unitCount := goodIn_r _ [11, 12] (by decide +kernel) (by decide +kernel)
set_option maxRecDepth 20000 in
theorem gX2_point_X2_unitCount : GoodIn wsX2_point (va_wsS RX2 51 yX2_unitCount wsX2_unitCount) := goodIn_app (goodIn_of _ (by decide +kernel)) ggX2_point_X2_unitCount
set_option maxRecDepth 20000 in
theorem ggX2_point_X2_refuse : GoodIn wsX2_point wsX2_refuse := goodIn_r _ [16, 17, 36, 37, 38, 39, 40, 41, 42, 43] (by decide +kernel) (by decide +kernel)
set_option maxRecDepth 20000 in
theorem gX2_point_X2_refuse : GoodIn wsX2_point (wsV RX2 55 RX2 yX2_refuse wsX2_refuse) := goodIn_app (goodIn_of _ (by decide +kernel)) ggX2_point_X2_refuse
set_option maxRecDepth 20000 in
theorem ggX2_point_X0_addUnitsOf : GoodIn wsX2_point wsX0_addUnitsOf := goodIn_r _ [22, 23, 24, 25, 26, 27, 28, 21, 29, 30, 31, 44, 45] (by decide +kernel) (by decide +kernel)
set_option maxRecDepth 20000 in
theorem gX2_point_X0_addUnitsOf : GoodIn wsX2_point (wsV RX2 58 RX0 yX0_addUnitsOf wsX0_addUnitsOf) := goodIn_app (goodIn_of _ (by decide +kernel)) ggX2_point_X0_addUnitsOf
set_option maxRecDepth 20000 in
theorem ggX2_point_X2_done : GoodIn wsX2_point wsX2_done := goodIn_r _ [35, 17, 36, 37, 38, 39, 40, 41, 42, 43] (by decide +kernel) (by decide +kernel)
set_option maxRecDepth 20000 in
theorem gX2_point_X2_done : GoodIn wsX2_point (wsV RX2 61 RX2 yX2_done wsX2_done) := goodIn_app (goodIn_of _ (by decide +kernel)) ggX2_point_X2_done
theorem dX2_point_0 : decode cX2_point 0 = .ok (.iload_n 1, 1) := by decide +kernel
theorem dX2_point_1 : decode cX2_point 1 = .ok (.invokestatic 43, 3) := by decide +kernel
theorem dX2_point_4 : decode cX2_point 4 = .ok (.ifCond .eq 6, 3) := by decide +kernel
theorem dX2_point_7 : decode cX2_point 7 = .ok (.ldc 47, 2) := by decide +kernel
theorem dX2_point_9 : decode cX2_point 9 = .ok (.ireturn, 1) := by decide +kernel
theorem dX2_point_10 : decode cX2_point 10 = .ok (.aload_n 0, 1) := by decide +kernel
theorem dX2_point_11 : decode cX2_point 11 = .ok (.getfield 27, 3) := by decide +kernel
theorem dX2_point_14 : decode cX2_point 14 = .ok (.getfield 48, 3) := by decide +kernel
theorem dX2_point_17 : decode cX2_point 17 = .ok (.iload_n 1, 1) := by decide +kernel
theorem dX2_point_18 : decode cX2_point 18 = .ok (.invokestatic 51, 3) := by decide +kernel
theorem dX2_point_21 : decode cX2_point 21 = .ok (.iadd, 1) := by decide +kernel
theorem dX2_point_22 : decode cX2_point 22 = .ok (.bipush 60, 2) := by decide +kernel
theorem dX2_point_24 : decode cX2_point 24 = .ok (.if_icmp .le 10, 3) := by decide +kernel
theorem dX2_point_27 : decode cX2_point 27 = .ok (.aload_n 0, 1) := by decide +kernel
theorem dX2_point_28 : decode cX2_point 28 = .ok (.bipush 6, 2) := by decide +kernel
theorem dX2_point_30 : decode cX2_point 30 = .ok (.invokevirtual 55, 3) := by decide +kernel
theorem dX2_point_33 : decode cX2_point 33 = .ok (.ireturn, 1) := by decide +kernel
theorem dX2_point_34 : decode cX2_point 34 = .ok (.aload_n 0, 1) := by decide +kernel
theorem dX2_point_35 : decode cX2_point 35 = .ok (.getfield 27, 3) := by decide +kernel
theorem dX2_point_38 : decode cX2_point 38 = .ok (.iload_n 1, 1) := by decide +kernel
theorem dX2_point_39 : decode cX2_point 39 = .ok (.invokevirtual 58, 3) := by decide +kernel
theorem dX2_point_42 : decode cX2_point 42 = .ok (.aload_n 0, 1) := by decide +kernel
theorem dX2_point_43 : decode cX2_point 43 = .ok (.aload_n 0, 1) := by decide +kernel
theorem dX2_point_44 : decode cX2_point 44 = .ok (.getfield 27, 3) := by decide +kernel
theorem dX2_point_47 : decode cX2_point 47 = .ok (.getfield 48, 3) := by decide +kernel
theorem dX2_point_50 : decode cX2_point 50 = .ok (.invokevirtual 61, 3) := by decide +kernel
theorem dX2_point_53 : decode cX2_point 53 = .ok (.ireturn, 1) := by decide +kernel
set_option maxRecDepth 20000 in
theorem ggX2_unit_X2_refuse : GoodIn wsX2_unit wsX2_refuse := goodIn_r _ [9, 10, 22, 23, 24, 25, 26, 27, 28, 29] (by decide +kernel) (by decide +kernel)
set_option maxRecDepth 20000 in
theorem gX2_unit_X2_refuse : GoodIn wsX2_unit (wsV RX2 55 RX2 yX2_refuse wsX2_refuse) := goodIn_app (goodIn_of _ (by decide +kernel)) ggX2_unit_X2_refuse
set_option maxRecDepth 20000 in
theorem ggX2_unit_X0_add : GoodIn wsX2_unit wsX0_add := goodIn_r _ [15, 16, 17, 30, 31] (by decide +kernel) (by decide +kernel)
set_option maxRecDepth 20000 in
theorem gX2_unit_X0_add : GoodIn wsX2_unit (wsV RX2 65 RX0 yX0_add wsX0_add) := goodIn_app (goodIn_of _ (by decide +kernel)) ggX2_unit_X0_add
set_option maxRecDepth 20000 in
theorem ggX2_unit_X2_done : GoodIn wsX2_unit wsX2_done := goodIn_r _ [21, 10, 22, 23, 24, 25, 26, 27, 28, 29] (by decide +kernel) (by decide +kernel)
set_option maxRecDepth 20000 in
theorem gX2_unit_X2_done : GoodIn wsX2_unit (wsV RX2 61 RX2 yX2_done wsX2_done) := goodIn_app (goodIn_of _ (by decide +kernel)) ggX2_unit_X2_done
theorem dX2_unit_0 : decode cX2_unit 0 = .ok (.iload_n 1, 1) := by decide +kernel
theorem dX2_unit_1 : decode cX2_unit 1 = .ok (.ifCond .lt 9, 3) := by decide +kernel
theorem dX2_unit_4 : decode cX2_unit 4 = .ok (.iload_n 1, 1) := by decide +kernel
theorem dX2_unit_5 : decode cX2_unit 5 = .ok (.ldc 64, 2) := by decide +kernel
theorem dX2_unit_7 : decode cX2_unit 7 = .ok (.if_icmp .le 6, 3) := by decide +kernel
theorem dX2_unit_10 : decode cX2_unit 10 = .ok (.ldc 47, 2) := by decide +kernel
theorem dX2_unit_12 : decode cX2_unit 12 = .ok (.ireturn, 1) := by decide +kernel
theorem dX2_unit_13 : decode cX2_unit 13 = .ok (.aload_n 0, 1) := by decide +kernel
theorem dX2_unit_14 : decode cX2_unit 14 = .ok (.getfield 27, 3) := by decide +kernel
theorem dX2_unit_17 : decode cX2_unit 17 = .ok (.getfield 48, 3) := by decide +kernel
theorem dX2_unit_20 : decode cX2_unit 20 = .ok (.bipush 60, 2) := by decide +kernel
theorem dX2_unit_22 : decode cX2_unit 22 = .ok (.if_icmp .lt 10, 3) := by decide +kernel
theorem dX2_unit_25 : decode cX2_unit 25 = .ok (.aload_n 0, 1) := by decide +kernel
theorem dX2_unit_26 : decode cX2_unit 26 = .ok (.bipush 6, 2) := by decide +kernel
theorem dX2_unit_28 : decode cX2_unit 28 = .ok (.invokevirtual 55, 3) := by decide +kernel
theorem dX2_unit_31 : decode cX2_unit 31 = .ok (.ireturn, 1) := by decide +kernel
theorem dX2_unit_32 : decode cX2_unit 32 = .ok (.aload_n 0, 1) := by decide +kernel
theorem dX2_unit_33 : decode cX2_unit 33 = .ok (.getfield 27, 3) := by decide +kernel
theorem dX2_unit_36 : decode cX2_unit 36 = .ok (.iload_n 1, 1) := by decide +kernel
theorem dX2_unit_37 : decode cX2_unit 37 = .ok (.invokevirtual 65, 3) := by decide +kernel
theorem dX2_unit_40 : decode cX2_unit 40 = .ok (.aload_n 0, 1) := by decide +kernel
theorem dX2_unit_41 : decode cX2_unit 41 = .ok (.aload_n 0, 1) := by decide +kernel
theorem dX2_unit_42 : decode cX2_unit 42 = .ok (.getfield 27, 3) := by decide +kernel
theorem dX2_unit_45 : decode cX2_unit 45 = .ok (.getfield 48, 3) := by decide +kernel
theorem dX2_unit_48 : decode cX2_unit 48 = .ok (.invokevirtual 61, 3) := by decide +kernel
theorem dX2_unit_51 : decode cX2_unit 51 = .ok (.ireturn, 1) := by decide +kernel
set_option maxRecDepth 20000 in
theorem ggX2_fresh_X0_empty : GoodIn wsX2_fresh wsX0_empty := goodIn_r _ [7, 8, 17, 18] (by decide +kernel) (by decide +kernel)
set_option maxRecDepth 20000 in
theorem gX2_fresh_X0_empty : GoodIn wsX2_fresh (wsV RX2 68 RX0 yX0_empty wsX0_empty) := goodIn_app (goodIn_of _ (by decide +kernel)) ggX2_fresh_X0_empty
theorem dX2_fresh_0 : decode cX2_fresh 0 = .ok (.aload_n 0, 1) := by decide +kernel
theorem dX2_fresh_1 : decode cX2_fresh 1 = .ok (.getfield 27, 3) := by decide +kernel
theorem dX2_fresh_4 : decode cX2_fresh 4 = .ok (.getfield 48, 3) := by decide +kernel
theorem dX2_fresh_7 : decode cX2_fresh 7 = .ok (.istore_n 1, 1) := by decide +kernel
theorem dX2_fresh_8 : decode cX2_fresh 8 = .ok (.aload_n 0, 1) := by decide +kernel
theorem dX2_fresh_9 : decode cX2_fresh 9 = .ok (.getfield 27, 3) := by decide +kernel
theorem dX2_fresh_12 : decode cX2_fresh 12 = .ok (.invokevirtual 68, 3) := by decide +kernel
theorem dX2_fresh_15 : decode cX2_fresh 15 = .ok (.iload_n 1, 1) := by decide +kernel
theorem dX2_fresh_16 : decode cX2_fresh 16 = .ok (.ireturn, 1) := by decide +kernel
set_option maxRecDepth 20000 in
theorem ggX2_lay_X2_isNoText : GoodIn wsX2_lay wsX2_isNoText := goodIn_r _ [9] (by decide +kernel) (by decide +kernel)
set_option maxRecDepth 20000 in
theorem gX2_lay_X2_isNoText : GoodIn wsX2_lay (va_wsS RX2 71 yX2_isNoText wsX2_isNoText) := goodIn_app (goodIn_of _ (by decide +kernel)) ggX2_lay_X2_isNoText
set_option maxRecDepth 20000 in
theorem ggX2_lay_X0_empty : GoodIn wsX2_lay wsX0_empty := goodIn_r _ [14, 15, 94, 95] (by decide +kernel) (by decide +kernel)
set_option maxRecDepth 20000 in
theorem gX2_lay_X0_empty : GoodIn wsX2_lay (wsV RX2 68 RX0 yX0_empty wsX0_empty) := goodIn_app (goodIn_of _ (by decide +kernel)) ggX2_lay_X0_empty
set_option maxRecDepth 20000 in
theorem ggX2_lay_X0_addPointsOf : GoodIn wsX2_lay wsX0_addPointsOf := goodIn_r _ [19, 20, 8, 21, 22, 23, 24, 25, 26, 27, 28, 29, 30, 31, 32, 33, 34, 35, 36, 13, 37, 15, 38, 94, 95] (by decide +kernel) (by decide +kernel)
set_option maxRecDepth 20000 in
theorem gX2_lay_X0_addPointsOf : GoodIn wsX2_lay (wsV RX2 78 RX0 yX0_addPointsOf wsX0_addPointsOf) := goodIn_app (goodIn_of _ (by decide +kernel)) ggX2_lay_X0_addPointsOf
set_option maxRecDepth 20000 in
theorem ggX2_lay_X2_maskOf : GoodIn wsX2_lay wsX2_maskOf := goodIn_r _ [41, 42] (by decide +kernel) (by decide +kernel)
set_option maxRecDepth 20000 in
theorem gX2_lay_X2_maskOf : GoodIn wsX2_lay (va_wsS RX2 82 yX2_maskOf wsX2_maskOf) := goodIn_app (goodIn_of _ (by decide +kernel)) ggX2_lay_X2_maskOf
set_option maxRecDepth 20000 in
theorem ggX2_lay_X0_add : GoodIn wsX2_lay wsX0_add := goodIn_r _ [37, 15, 38, 94, 95] (by decide +kernel) (by decide +kernel)
set_option maxRecDepth 20000 in
theorem gX2_lay_X0_add : GoodIn wsX2_lay (wsV RX2 65 RX0 yX0_add wsX0_add) := goodIn_app (goodIn_of _ (by decide +kernel)) ggX2_lay_X0_add
set_option maxRecDepth 20000 in
theorem ggX2_lay_X2_setText : GoodIn wsX2_lay wsX2_setText := goodIn_r _ [47, 48, 49, 50, 51, 5, 52, 53, 54, 55, 56, 57, 58, 59, 60, 61, 62, 63, 64, 65, 66, 67, 68, 69, 70, 71, 72, 73, 74, 75, 76, 77, 78, 79, 80, 81, 82, 83, 8, 84, 85, 86, 87, 88, 89, 90, 91, 92, 93, 96, 97, 94, 95] (by decide +kernel) (by decide +kernel)
set_option maxRecDepth 20000 in
theorem gX2_lay_X2_setText : GoodIn wsX2_lay (wsV RX2 85 RX2 yX2_setText wsX2_setText) := goodIn_app (goodIn_of _ (by decide +kernel)) ggX2_lay_X2_setText
theorem dX2_lay_0 : decode cX2_lay 0 = .ok (.iload_n 1, 1) := by decide +kernel
theorem dX2_lay_1 : decode cX2_lay 1 = .ok (.invokestatic 71, 3) := by decide +kernel
theorem dX2_lay_4 : decode cX2_lay 4 = .ok (.ifCond .ne 12, 3) := by decide +kernel
theorem dX2_lay_7 : decode cX2_lay 7 = .ok (.iload_n 2, 1) := by decide +kernel
theorem dX2_lay_8 : decode cX2_lay 8 = .ok (.ifCond .lt 8, 3) := by decide +kernel
theorem dX2_lay_11 : decode cX2_lay 11 = .ok (.iload_n 2, 1) := by decide +kernel
theorem dX2_lay_12 : decode cX2_lay 12 = .ok (.iconst 2, 1) := by decide +kernel
theorem dX2_lay_13 : decode cX2_lay 13 = .ok (.if_icmp .le 6, 3) := by decide +kernel
theorem dX2_lay_16 : decode cX2_lay 16 = .ok (.ldc 47, 2) := by decide +kernel
theorem dX2_lay_18 : decode cX2_lay 18 = .ok (.ireturn, 1) := by decide +kernel
theorem dX2_lay_19 : decode cX2_lay 19 = .ok (.aload_n 0, 1) := by decide +kernel
theorem dX2_lay_20 : decode cX2_lay 20 = .ok (.getfield 31, 3) := by decide +kernel
theorem dX2_lay_23 : decode cX2_lay 23 = .ok (.invokevirtual 68, 3) := by decide +kernel
theorem dX2_lay_26 : decode cX2_lay 26 = .ok (.iload_n 2, 1) := by decide +kernel
theorem dX2_lay_27 : decode cX2_lay 27 = .ok (.iconst 1, 1) := by decide +kernel
theorem dX2_lay_28 : decode cX2_lay 28 = .ok (.if_icmp .ne 27, 3) := by decide +kernel
theorem dX2_lay_31 : decode cX2_lay 31 = .ok (.aload_n 0, 1) := by decide +kernel
theorem dX2_lay_32 : decode cX2_lay 32 = .ok (.getfield 31, 3) := by decide +kernel
theorem dX2_lay_35 : decode cX2_lay 35 = .ok (.aload_n 0, 1) := by decide +kernel
theorem dX2_lay_36 : decode cX2_lay 36 = .ok (.getfield 27, 3) := by decide +kernel
theorem dX2_lay_39 : decode cX2_lay 39 = .ok (.getfield 74, 3) := by decide +kernel
theorem dX2_lay_42 : decode cX2_lay 42 = .ok (.aload_n 0, 1) := by decide +kernel
theorem dX2_lay_43 : decode cX2_lay 43 = .ok (.getfield 27, 3) := by decide +kernel
theorem dX2_lay_46 : decode cX2_lay 46 = .ok (.getfield 48, 3) := by decide +kernel
theorem dX2_lay_49 : decode cX2_lay 49 = .ok (.invokevirtual 78, 3) := by decide +kernel
theorem dX2_lay_52 : decode cX2_lay 52 = .ok (.goto 61, 3) := by decide +kernel
theorem dX2_lay_55 : decode cX2_lay 55 = .ok (.iload_n 2, 1) := by decide +kernel
theorem dX2_lay_56 : decode cX2_lay 56 = .ok (.invokestatic 82, 3) := by decide +kernel
theorem dX2_lay_59 : decode cX2_lay 59 = .ok (.istore_n 3, 1) := by decide +kernel
theorem dX2_lay_60 : decode cX2_lay 60 = .ok (.iconst 0, 1) := by decide +kernel
theorem dX2_lay_61 : decode cX2_lay 61 = .ok (.istore 4, 2) := by decide +kernel
theorem dX2_lay_63 : decode cX2_lay 63 = .ok (.iload 4, 2) := by decide +kernel
theorem dX2_lay_65 : decode cX2_lay 65 = .ok (.aload_n 0, 1) := by decide +kernel
theorem dX2_lay_66 : decode cX2_lay 66 = .ok (.getfield 27, 3) := by decide +kernel
theorem dX2_lay_69 : decode cX2_lay 69 = .ok (.getfield 48, 3) := by decide +kernel
theorem dX2_lay_72 : decode cX2_lay 72 = .ok (.if_icmp .ge 41, 3) := by decide +kernel
theorem dX2_lay_75 : decode cX2_lay 75 = .ok (.iload 4, 2) := by decide +kernel
theorem dX2_lay_77 : decode cX2_lay 77 = .ok (.aload_n 0, 1) := by decide +kernel
theorem dX2_lay_78 : decode cX2_lay 78 = .ok (.getfield 27, 3) := by decide +kernel
theorem dX2_lay_81 : decode cX2_lay 81 = .ok (.getfield 74, 3) := by decide +kernel
theorem dX2_lay_84 : decode cX2_lay 84 = .ok (.arraylength, 1) := by decide +kernel
theorem dX2_lay_85 : decode cX2_lay 85 = .ok (.if_icmp .ge 28, 3) := by decide +kernel
theorem dX2_lay_88 : decode cX2_lay 88 = .ok (.aload_n 0, 1) := by decide +kernel
theorem dX2_lay_89 : decode cX2_lay 89 = .ok (.getfield 31, 3) := by decide +kernel
theorem dX2_lay_92 : decode cX2_lay 92 = .ok (.aload_n 0, 1) := by decide +kernel
theorem dX2_lay_93 : decode cX2_lay 93 = .ok (.getfield 27, 3) := by decide +kernel
theorem dX2_lay_96 : decode cX2_lay 96 = .ok (.getfield 74, 3) := by decide +kernel
theorem dX2_lay_99 : decode cX2_lay 99 = .ok (.iload 4, 2) := by decide +kernel
theorem dX2_lay_101 : decode cX2_lay 101 = .ok (.iaload, 1) := by decide +kernel
theorem dX2_lay_102 : decode cX2_lay 102 = .ok (.iload_n 3, 1) := by decide +kernel
theorem dX2_lay_103 : decode cX2_lay 103 = .ok (.iand, 1) := by decide +kernel
theorem dX2_lay_104 : decode cX2_lay 104 = .ok (.invokevirtual 65, 3) := by decide +kernel
theorem dX2_lay_107 : decode cX2_lay 107 = .ok (.iinc 4 1, 3) := by decide +kernel
theorem dX2_lay_110 : decode cX2_lay 110 = .ok (.goto (-47), 3) := by decide +kernel
theorem dX2_lay_113 : decode cX2_lay 113 = .ok (.aload_n 0, 1) := by decide +kernel
theorem dX2_lay_114 : decode cX2_lay 114 = .ok (.iload_n 1, 1) := by decide +kernel
theorem dX2_lay_115 : decode cX2_lay 115 = .ok (.iload_n 2, 1) := by decide +kernel
theorem dX2_lay_116 : decode cX2_lay 116 = .ok (.aload_n 0, 1) := by decide +kernel
theorem dX2_lay_117 : decode cX2_lay 117 = .ok (.getfield 31, 3) := by decide +kernel
theorem dX2_lay_120 : decode cX2_lay 120 = .ok (.invokevirtual 85, 3) := by decide +kernel
theorem dX2_lay_123 : decode cX2_lay 123 = .ok (.ireturn, 1) := by decide +kernel
set_option maxRecDepth 20000 in
theorem ggX2_share_X2_isNoText : GoodIn wsX2_share wsX2_isNoText := goodIn_r _ [6] (by decide +kernel) (by decide +kernel)
set_option maxRecDepth 20000 in
theorem gX2_share_X2_isNoText : GoodIn wsX2_share (va_wsS RX2 71 yX2_isNoText wsX2_isNoText) := goodIn_app (goodIn_of _ (by decide +kernel)) ggX2_share_X2_isNoText
set_option maxRecDepth 20000 in
theorem ggX2_share_X2_sortOf : GoodIn wsX2_share wsX2_sortOf := goodIn_r _ [9, 10, 19, 20] (by decide +kernel) (by decide +kernel)
set_option maxRecDepth 20000 in
theorem gX2_share_X2_sortOf : GoodIn wsX2_share (va_wsS RX2 89 yX2_sortOf wsX2_sortOf) := goodIn_app (goodIn_of _ (by decide +kernel)) ggX2_share_X2_sortOf
theorem dX2_share_0 : decode cX2_share 0 = .ok (.iload_n 1, 1) := by decide +kernel
theorem dX2_share_1 : decode cX2_share 1 = .ok (.invokestatic 71, 3) := by decide +kernel
theorem dX2_share_4 : decode cX2_share 4 = .ok (.ifCond .ne 10, 3) := by decide +kernel
theorem dX2_share_7 : decode cX2_share 7 = .ok (.iload_n 2, 1) := by decide +kernel
theorem dX2_share_8 : decode cX2_share 8 = .ok (.invokestatic 71, 3) := by decide +kernel
theorem dX2_share_11 : decode cX2_share 11 = .ok (.ifCond .eq 6, 3) := by decide +kernel
theorem dX2_share_14 : decode cX2_share 14 = .ok (.ldc 47, 2) := by decide +kernel
theorem dX2_share_16 : decode cX2_share 16 = .ok (.ireturn, 1) := by decide +kernel
theorem dX2_share_17 : decode cX2_share 17 = .ok (.aload_n 0, 1) := by decide +kernel
theorem dX2_share_18 : decode cX2_share 18 = .ok (.getfield 11, 3) := by decide +kernel
theorem dX2_share_21 : decode cX2_share 21 = .ok (.iload_n 1, 1) := by decide +kernel
theorem dX2_share_22 : decode cX2_share 22 = .ok (.aload_n 0, 1) := by decide +kernel
theorem dX2_share_23 : decode cX2_share 23 = .ok (.getfield 11, 3) := by decide +kernel
theorem dX2_share_26 : decode cX2_share 26 = .ok (.iload_n 2, 1) := by decide +kernel
theorem dX2_share_27 : decode cX2_share 27 = .ok (.aaload, 1) := by decide +kernel
theorem dX2_share_28 : decode cX2_share 28 = .ok (.aastore, 1) := by decide +kernel
theorem dX2_share_29 : decode cX2_share 29 = .ok (.aload_n 0, 1) := by decide +kernel
theorem dX2_share_30 : decode cX2_share 30 = .ok (.getfield 11, 3) := by decide +kernel
theorem dX2_share_33 : decode cX2_share 33 = .ok (.iload_n 1, 1) := by decide +kernel
theorem dX2_share_34 : decode cX2_share 34 = .ok (.aaload, 1) := by decide +kernel
theorem dX2_share_35 : decode cX2_share 35 = .ok (.invokestatic 89, 3) := by decide +kernel
theorem dX2_share_38 : decode cX2_share 38 = .ok (.ireturn, 1) := by decide +kernel
set_option maxRecDepth 20000 in
theorem ggX2_nothing_X2_isNoText : GoodIn wsX2_nothing wsX2_isNoText := goodIn_r _ [6] (by decide +kernel) (by decide +kernel)
set_option maxRecDepth 20000 in
theorem gX2_nothing_X2_isNoText : GoodIn wsX2_nothing (va_wsS RX2 71 yX2_isNoText wsX2_isNoText) := goodIn_app (goodIn_of _ (by decide +kernel)) ggX2_nothing_X2_isNoText
set_option maxRecDepth 20000 in
theorem ggX2_nothing_X2_sortOf : GoodIn wsX2_nothing wsX2_sortOf := goodIn_r _ [9, 10, 19, 20] (by decide +kernel) (by decide +kernel)
set_option maxRecDepth 20000 in
theorem gX2_nothing_X2_sortOf : GoodIn wsX2_nothing (va_wsS RX2 89 yX2_sortOf wsX2_sortOf) := goodIn_app (goodIn_of _ (by decide +kernel)) ggX2_nothing_X2_sortOf
theorem dX2_nothing_0 : decode cX2_nothing 0 = .ok (.iload_n 1, 1) := by decide +kernel
theorem dX2_nothing_1 : decode cX2_nothing 1 = .ok (.invokestatic 71, 3) := by decide +kernel
theorem dX2_nothing_4 : decode cX2_nothing 4 = .ok (.ifCond .eq 6, 3) := by decide +kernel
theorem dX2_nothing_7 : decode cX2_nothing 7 = .ok (.ldc 47, 2) := by decide +kernel
theorem dX2_nothing_9 : decode cX2_nothing 9 = .ok (.ireturn, 1) := by decide +kernel
theorem dX2_nothing_10 : decode cX2_nothing 10 = .ok (.aload_n 0, 1) := by decide +kernel
theorem dX2_nothing_11 : decode cX2_nothing 11 = .ok (.getfield 11, 3) := by decide +kernel
theorem dX2_nothing_14 : decode cX2_nothing 14 = .ok (.iload_n 1, 1) := by decide +kernel
theorem dX2_nothing_15 : decode cX2_nothing 15 = .ok (.aaload, 1) := by decide +kernel
theorem dX2_nothing_16 : decode cX2_nothing 16 = .ok (.invokestatic 89, 3) := by decide +kernel
theorem dX2_nothing_19 : decode cX2_nothing 19 = .ok (.istore_n 2, 1) := by decide +kernel
theorem dX2_nothing_20 : decode cX2_nothing 20 = .ok (.aload_n 0, 1) := by decide +kernel
theorem dX2_nothing_21 : decode cX2_nothing 21 = .ok (.getfield 11, 3) := by decide +kernel
theorem dX2_nothing_24 : decode cX2_nothing 24 = .ok (.iload_n 1, 1) := by decide +kernel
theorem dX2_nothing_25 : decode cX2_nothing 25 = .ok (.aconst_null, 1) := by decide +kernel
theorem dX2_nothing_26 : decode cX2_nothing 26 = .ok (.aastore, 1) := by decide +kernel
theorem dX2_nothing_27 : decode cX2_nothing 27 = .ok (.iload_n 2, 1) := by decide +kernel
theorem dX2_nothing_28 : decode cX2_nothing 28 = .ok (.ireturn, 1) := by decide +kernel
set_option maxRecDepth 20000 in
theorem ggX2_sort_X2_isNoText : GoodIn wsX2_sort wsX2_isNoText := goodIn_r _ [6] (by decide +kernel) (by decide +kernel)
set_option maxRecDepth 20000 in
theorem gX2_sort_X2_isNoText : GoodIn wsX2_sort (va_wsS RX2 71 yX2_isNoText wsX2_isNoText) := goodIn_app (goodIn_of _ (by decide +kernel)) ggX2_sort_X2_isNoText
set_option maxRecDepth 20000 in
theorem ggX2_sort_X2_sortOf : GoodIn wsX2_sort wsX2_sortOf := goodIn_r _ [9, 10, 19, 20] (by decide +kernel) (by decide +kernel)
set_option maxRecDepth 20000 in
theorem gX2_sort_X2_sortOf : GoodIn wsX2_sort (va_wsS RX2 89 yX2_sortOf wsX2_sortOf) := goodIn_app (goodIn_of _ (by decide +kernel)) ggX2_sort_X2_sortOf
theorem dX2_sort_0 : decode cX2_sort 0 = .ok (.iload_n 1, 1) := by decide +kernel
theorem dX2_sort_1 : decode cX2_sort 1 = .ok (.invokestatic 71, 3) := by decide +kernel
theorem dX2_sort_4 : decode cX2_sort 4 = .ok (.ifCond .eq 6, 3) := by decide +kernel
theorem dX2_sort_7 : decode cX2_sort 7 = .ok (.ldc 47, 2) := by decide +kernel
theorem dX2_sort_9 : decode cX2_sort 9 = .ok (.ireturn, 1) := by decide +kernel
theorem dX2_sort_10 : decode cX2_sort 10 = .ok (.aload_n 0, 1) := by decide +kernel
theorem dX2_sort_11 : decode cX2_sort 11 = .ok (.getfield 11, 3) := by decide +kernel
theorem dX2_sort_14 : decode cX2_sort 14 = .ok (.iload_n 1, 1) := by decide +kernel
theorem dX2_sort_15 : decode cX2_sort 15 = .ok (.aaload, 1) := by decide +kernel
theorem dX2_sort_16 : decode cX2_sort 16 = .ok (.invokestatic 89, 3) := by decide +kernel
theorem dX2_sort_19 : decode cX2_sort 19 = .ok (.ireturn, 1) := by decide +kernel
set_option maxRecDepth 20000 in
theorem ggX2_length_X2_isNoText : GoodIn wsX2_length wsX2_isNoText := goodIn_r _ [7] (by decide +kernel) (by decide +kernel)
set_option maxRecDepth 20000 in
theorem gX2_length_X2_isNoText : GoodIn wsX2_length (va_wsS RX2 71 yX2_isNoText wsX2_isNoText) := goodIn_app (goodIn_of _ (by decide +kernel)) ggX2_length_X2_isNoText
set_option maxRecDepth 20000 in
theorem ggX2_length_X2_refuse : GoodIn wsX2_length wsX2_refuse := goodIn_r _ [11, 12, 17, 18, 19, 20, 21, 22, 23, 24] (by decide +kernel) (by decide +kernel)
set_option maxRecDepth 20000 in
theorem gX2_length_X2_refuse : GoodIn wsX2_length (wsV RX2 55 RX2 yX2_refuse wsX2_refuse) := goodIn_app (goodIn_of _ (by decide +kernel)) ggX2_length_X2_refuse
set_option maxRecDepth 20000 in
theorem ggX2_length_X2_done : GoodIn wsX2_length wsX2_done := goodIn_r _ [16, 12, 17, 18, 19, 20, 21, 22, 23, 24] (by decide +kernel) (by decide +kernel)
set_option maxRecDepth 20000 in
theorem gX2_length_X2_done : GoodIn wsX2_length (wsV RX2 61 RX2 yX2_done wsX2_done) := goodIn_app (goodIn_of _ (by decide +kernel)) ggX2_length_X2_done
theorem dX2_length_0 : decode cX2_length 0 = .ok (.iload_n 1, 1) := by decide +kernel
theorem dX2_length_1 : decode cX2_length 1 = .ok (.invokestatic 71, 3) := by decide +kernel
theorem dX2_length_4 : decode cX2_length 4 = .ok (.ifCond .eq 6, 3) := by decide +kernel
theorem dX2_length_7 : decode cX2_length 7 = .ok (.ldc 47, 2) := by decide +kernel
theorem dX2_length_9 : decode cX2_length 9 = .ok (.ireturn, 1) := by decide +kernel
theorem dX2_length_10 : decode cX2_length 10 = .ok (.aload_n 0, 1) := by decide +kernel
theorem dX2_length_11 : decode cX2_length 11 = .ok (.getfield 11, 3) := by decide +kernel
theorem dX2_length_14 : decode cX2_length 14 = .ok (.iload_n 1, 1) := by decide +kernel
theorem dX2_length_15 : decode cX2_length 15 = .ok (.aaload, 1) := by decide +kernel
theorem dX2_length_16 : decode cX2_length 16 = .ok (.astore_n 2, 1) := by decide +kernel
theorem dX2_length_17 : decode cX2_length 17 = .ok (.aload_n 2, 1) := by decide +kernel
theorem dX2_length_18 : decode cX2_length 18 = .ok (.ifnonnull 9, 3) := by decide +kernel
theorem dX2_length_21 : decode cX2_length 21 = .ok (.aload_n 0, 1) := by decide +kernel
theorem dX2_length_22 : decode cX2_length 22 = .ok (.iconst 1, 1) := by decide +kernel
theorem dX2_length_23 : decode cX2_length 23 = .ok (.invokevirtual 55, 3) := by decide +kernel
theorem dX2_length_26 : decode cX2_length 26 = .ok (.ireturn, 1) := by decide +kernel
theorem dX2_length_27 : decode cX2_length 27 = .ok (.aload_n 0, 1) := by decide +kernel
theorem dX2_length_28 : decode cX2_length 28 = .ok (.aload_n 2, 1) := by decide +kernel
theorem dX2_length_29 : decode cX2_length 29 = .ok (.getfield 93, 3) := by decide +kernel
theorem dX2_length_32 : decode cX2_length 32 = .ok (.arraylength, 1) := by decide +kernel
theorem dX2_length_33 : decode cX2_length 33 = .ok (.invokevirtual 61, 3) := by decide +kernel
theorem dX2_length_36 : decode cX2_length 36 = .ok (.ireturn, 1) := by decide +kernel
set_option maxRecDepth 20000 in
theorem ggX2_points_X2_isNoText : GoodIn wsX2_points wsX2_isNoText := goodIn_r _ [9] (by decide +kernel) (by decide +kernel)
set_option maxRecDepth 20000 in
theorem gX2_points_X2_isNoText : GoodIn wsX2_points (va_wsS RX2 71 yX2_isNoText wsX2_isNoText) := goodIn_app (goodIn_of _ (by decide +kernel)) ggX2_points_X2_isNoText
set_option maxRecDepth 20000 in
theorem ggX2_points_X2_refuse : GoodIn wsX2_points wsX2_refuse := goodIn_r _ [13, 14, 56, 57, 58, 59, 60, 61, 62, 63] (by decide +kernel) (by decide +kernel)
set_option maxRecDepth 20000 in
theorem gX2_points_X2_refuse : GoodIn wsX2_points (wsV RX2 55 RX2 yX2_refuse wsX2_refuse) := goodIn_app (goodIn_of _ (by decide +kernel)) ggX2_points_X2_refuse
set_option maxRecDepth 20000 in
theorem ggX2_points_X2_listPoints : GoodIn wsX2_points wsX2_listPoints := goodIn_r _ [17, 3, 18, 19, 20, 21, 22, 23, 24, 25, 26, 27, 28, 29, 8, 30, 31, 32, 33, 34, 35, 36, 37, 38, 39, 40, 41, 42, 43, 44, 45, 46, 47, 48, 49, 50, 51, 64, 65, 66, 67] (by decide +kernel) (by decide +kernel)
set_option maxRecDepth 20000 in
theorem gX2_points_X2_listPoints : GoodIn wsX2_points (va_wsS RX2 97 yX2_listPoints wsX2_listPoints) := goodIn_app (goodIn_of _ (by decide +kernel)) ggX2_points_X2_listPoints
set_option maxRecDepth 20000 in
theorem ggX2_points_X2_done : GoodIn wsX2_points wsX2_done := goodIn_r _ [55, 14, 56, 57, 58, 59, 60, 61, 62, 63] (by decide +kernel) (by decide +kernel)
set_option maxRecDepth 20000 in
theorem gX2_points_X2_done : GoodIn wsX2_points (wsV RX2 61 RX2 yX2_done wsX2_done) := goodIn_app (goodIn_of _ (by decide +kernel)) ggX2_points_X2_done
theorem dX2_points_0 : decode cX2_points 0 = .ok (.iload_n 1, 1) := by decide +kernel
theorem dX2_points_1 : decode cX2_points 1 = .ok (.invokestatic 71, 3) := by decide +kernel
theorem dX2_points_4 : decode cX2_points 4 = .ok (.ifCond .eq 6, 3) := by decide +kernel
theorem dX2_points_7 : decode cX2_points 7 = .ok (.ldc 47, 2) := by decide +kernel
theorem dX2_points_9 : decode cX2_points 9 = .ok (.ireturn, 1) := by decide +kernel
theorem dX2_points_10 : decode cX2_points 10 = .ok (.aload_n 0, 1) := by decide +kernel
theorem dX2_points_11 : decode cX2_points 11 = .ok (.getfield 11, 3) := by decide +kernel
theorem dX2_points_14 : decode cX2_points 14 = .ok (.iload_n 1, 1) := by decide +kernel
theorem dX2_points_15 : decode cX2_points 15 = .ok (.aaload, 1) := by decide +kernel
theorem dX2_points_16 : decode cX2_points 16 = .ok (.astore_n 2, 1) := by decide +kernel
theorem dX2_points_17 : decode cX2_points 17 = .ok (.aload_n 2, 1) := by decide +kernel
theorem dX2_points_18 : decode cX2_points 18 = .ok (.ifnonnull 9, 3) := by decide +kernel
theorem dX2_points_21 : decode cX2_points 21 = .ok (.aload_n 0, 1) := by decide +kernel
theorem dX2_points_22 : decode cX2_points 22 = .ok (.iconst 1, 1) := by decide +kernel
theorem dX2_points_23 : decode cX2_points 23 = .ok (.invokevirtual 55, 3) := by decide +kernel
theorem dX2_points_26 : decode cX2_points 26 = .ok (.ireturn, 1) := by decide +kernel
theorem dX2_points_27 : decode cX2_points 27 = .ok (.aload_n 2, 1) := by decide +kernel
theorem dX2_points_28 : decode cX2_points 28 = .ok (.getfield 94, 3) := by decide +kernel
theorem dX2_points_31 : decode cX2_points 31 = .ok (.iconst 2, 1) := by decide +kernel
theorem dX2_points_32 : decode cX2_points 32 = .ok (.if_icmp .ne 9, 3) := by decide +kernel
theorem dX2_points_35 : decode cX2_points 35 = .ok (.aload_n 0, 1) := by decide +kernel
theorem dX2_points_36 : decode cX2_points 36 = .ok (.iconst 2, 1) := by decide +kernel
theorem dX2_points_37 : decode cX2_points 37 = .ok (.invokevirtual 55, 3) := by decide +kernel
theorem dX2_points_40 : decode cX2_points 40 = .ok (.ireturn, 1) := by decide +kernel
theorem dX2_points_41 : decode cX2_points 41 = .ok (.aload_n 2, 1) := by decide +kernel
theorem dX2_points_42 : decode cX2_points 42 = .ok (.aload_n 0, 1) := by decide +kernel
theorem dX2_points_43 : decode cX2_points 43 = .ok (.getfield 31, 3) := by decide +kernel
theorem dX2_points_46 : decode cX2_points 46 = .ok (.invokestatic 97, 3) := by decide +kernel
theorem dX2_points_49 : decode cX2_points 49 = .ok (.aload_n 0, 1) := by decide +kernel
theorem dX2_points_50 : decode cX2_points 50 = .ok (.aload_n 0, 1) := by decide +kernel
theorem dX2_points_51 : decode cX2_points 51 = .ok (.getfield 31, 3) := by decide +kernel
theorem dX2_points_54 : decode cX2_points 54 = .ok (.getfield 48, 3) := by decide +kernel
theorem dX2_points_57 : decode cX2_points 57 = .ok (.invokevirtual 61, 3) := by decide +kernel
theorem dX2_points_60 : decode cX2_points 60 = .ok (.ireturn, 1) := by decide +kernel
set_option maxRecDepth 20000 in
theorem ggX2_at_X2_isNoText : GoodIn wsX2_at wsX2_isNoText := goodIn_r _ [7] (by decide +kernel) (by decide +kernel)
set_option maxRecDepth 20000 in
theorem gX2_at_X2_isNoText : GoodIn wsX2_at (va_wsS RX2 71 yX2_isNoText wsX2_isNoText) := goodIn_app (goodIn_of _ (by decide +kernel)) ggX2_at_X2_isNoText
set_option maxRecDepth 20000 in
theorem ggX2_at_X2_refuse : GoodIn wsX2_at wsX2_refuse := goodIn_r _ [11, 12, 17, 18, 19, 20, 21, 22, 23, 24] (by decide +kernel) (by decide +kernel)
set_option maxRecDepth 20000 in
theorem gX2_at_X2_refuse : GoodIn wsX2_at (wsV RX2 55 RX2 yX2_refuse wsX2_refuse) := goodIn_app (goodIn_of _ (by decide +kernel)) ggX2_at_X2_refuse
set_option maxRecDepth 20000 in
theorem ggX2_at_X2_done : GoodIn wsX2_at wsX2_done := goodIn_r _ [16, 12, 17, 18, 19, 20, 21, 22, 23, 24] (by decide +kernel) (by decide +kernel)
set_option maxRecDepth 20000 in
theorem gX2_at_X2_done : GoodIn wsX2_at (wsV RX2 61 RX2 yX2_done wsX2_done) := goodIn_app (goodIn_of _ (by decide +kernel)) ggX2_at_X2_done
theorem dX2_at_0 : decode cX2_at 0 = .ok (.iload_n 1, 1) := by decide +kernel
theorem dX2_at_1 : decode cX2_at 1 = .ok (.invokestatic 71, 3) := by decide +kernel
theorem dX2_at_4 : decode cX2_at 4 = .ok (.ifCond .eq 6, 3) := by decide +kernel
theorem dX2_at_7 : decode cX2_at 7 = .ok (.ldc 47, 2) := by decide +kernel
theorem dX2_at_9 : decode cX2_at 9 = .ok (.ireturn, 1) := by decide +kernel
theorem dX2_at_10 : decode cX2_at 10 = .ok (.aload_n 0, 1) := by decide +kernel
theorem dX2_at_11 : decode cX2_at 11 = .ok (.getfield 11, 3) := by decide +kernel
theorem dX2_at_14 : decode cX2_at 14 = .ok (.iload_n 1, 1) := by decide +kernel
theorem dX2_at_15 : decode cX2_at 15 = .ok (.aaload, 1) := by decide +kernel
theorem dX2_at_16 : decode cX2_at 16 = .ok (.astore_n 3, 1) := by decide +kernel
theorem dX2_at_17 : decode cX2_at 17 = .ok (.aload_n 3, 1) := by decide +kernel
theorem dX2_at_18 : decode cX2_at 18 = .ok (.ifnonnull 9, 3) := by decide +kernel
theorem dX2_at_21 : decode cX2_at 21 = .ok (.aload_n 0, 1) := by decide +kernel
theorem dX2_at_22 : decode cX2_at 22 = .ok (.iconst 1, 1) := by decide +kernel
theorem dX2_at_23 : decode cX2_at 23 = .ok (.invokevirtual 55, 3) := by decide +kernel
theorem dX2_at_26 : decode cX2_at 26 = .ok (.ireturn, 1) := by decide +kernel
theorem dX2_at_27 : decode cX2_at 27 = .ok (.iload_n 2, 1) := by decide +kernel
theorem dX2_at_28 : decode cX2_at 28 = .ok (.ifCond .lt 12, 3) := by decide +kernel
theorem dX2_at_31 : decode cX2_at 31 = .ok (.iload_n 2, 1) := by decide +kernel
theorem dX2_at_32 : decode cX2_at 32 = .ok (.aload_n 3, 1) := by decide +kernel
theorem dX2_at_33 : decode cX2_at 33 = .ok (.getfield 93, 3) := by decide +kernel
theorem dX2_at_36 : decode cX2_at 36 = .ok (.arraylength, 1) := by decide +kernel
theorem dX2_at_37 : decode cX2_at 37 = .ok (.if_icmp .lt 9, 3) := by decide +kernel
theorem dX2_at_40 : decode cX2_at 40 = .ok (.aload_n 0, 1) := by decide +kernel
theorem dX2_at_41 : decode cX2_at 41 = .ok (.iconst 3, 1) := by decide +kernel
theorem dX2_at_42 : decode cX2_at 42 = .ok (.invokevirtual 55, 3) := by decide +kernel
theorem dX2_at_45 : decode cX2_at 45 = .ok (.ireturn, 1) := by decide +kernel
theorem dX2_at_46 : decode cX2_at 46 = .ok (.aload_n 0, 1) := by decide +kernel
theorem dX2_at_47 : decode cX2_at 47 = .ok (.aload_n 3, 1) := by decide +kernel
theorem dX2_at_48 : decode cX2_at 48 = .ok (.getfield 93, 3) := by decide +kernel
theorem dX2_at_51 : decode cX2_at 51 = .ok (.iload_n 2, 1) := by decide +kernel
theorem dX2_at_52 : decode cX2_at 52 = .ok (.iaload, 1) := by decide +kernel
theorem dX2_at_53 : decode cX2_at 53 = .ok (.invokevirtual 61, 3) := by decide +kernel
theorem dX2_at_56 : decode cX2_at 56 = .ok (.ireturn, 1) := by decide +kernel
set_option maxRecDepth 20000 in
theorem ggX2_pointAt_X2_isNoText : GoodIn wsX2_pointAt wsX2_isNoText := goodIn_r _ [10] (by decide +kernel) (by decide +kernel)
set_option maxRecDepth 20000 in
theorem gX2_pointAt_X2_isNoText : GoodIn wsX2_pointAt (va_wsS RX2 71 yX2_isNoText wsX2_isNoText) := goodIn_app (goodIn_of _ (by decide +kernel)) ggX2_pointAt_X2_isNoText
set_option maxRecDepth 20000 in
theorem ggX2_pointAt_X2_refuse : GoodIn wsX2_pointAt wsX2_refuse := goodIn_r _ [14, 15, 57, 58, 59, 60, 61, 62, 63, 64] (by decide +kernel) (by decide +kernel)
set_option maxRecDepth 20000 in
theorem gX2_pointAt_X2_refuse : GoodIn wsX2_pointAt (wsV RX2 55 RX2 yX2_refuse wsX2_refuse) := goodIn_app (goodIn_of _ (by decide +kernel)) ggX2_pointAt_X2_refuse
set_option maxRecDepth 20000 in
theorem ggX2_pointAt_X2_listPoints : GoodIn wsX2_pointAt wsX2_listPoints := goodIn_r _ [18, 3, 19, 20, 21, 22, 23, 24, 25, 26, 27, 28, 29, 30, 9, 31, 32, 33, 34, 35, 36, 37, 38, 39, 40, 41, 42, 43, 44, 45, 46, 47, 48, 49, 50, 51, 52, 65, 66, 67, 68] (by decide +kernel) (by decide +kernel)
set_option maxRecDepth 20000 in
theorem gX2_pointAt_X2_listPoints : GoodIn wsX2_pointAt (va_wsS RX2 97 yX2_listPoints wsX2_listPoints) := goodIn_app (goodIn_of _ (by decide +kernel)) ggX2_pointAt_X2_listPoints
set_option maxRecDepth 20000 in
theorem ggX2_pointAt_X2_done : GoodIn wsX2_pointAt wsX2_done := goodIn_r _ [56, 15, 57, 58, 59, 60, 61, 62, 63, 64] (by decide +kernel) (by decide +kernel)
set_option maxRecDepth 20000 in
theorem gX2_pointAt_X2_done : GoodIn wsX2_pointAt (wsV RX2 61 RX2 yX2_done wsX2_done) := goodIn_app (goodIn_of _ (by decide +kernel)) ggX2_pointAt_X2_done
theorem dX2_pointAt_0 : decode cX2_pointAt 0 = .ok (.iload_n 1, 1) := by decide +kernel
theorem dX2_pointAt_1 : decode cX2_pointAt 1 = .ok (.invokestatic 71, 3) := by decide +kernel
theorem dX2_pointAt_4 : decode cX2_pointAt 4 = .ok (.ifCond .eq 6, 3) := by decide +kernel
theorem dX2_pointAt_7 : decode cX2_pointAt 7 = .ok (.ldc 47, 2) := by decide +kernel
theorem dX2_pointAt_9 : decode cX2_pointAt 9 = .ok (.ireturn, 1) := by decide +kernel
theorem dX2_pointAt_10 : decode cX2_pointAt 10 = .ok (.aload_n 0, 1) := by decide +kernel
theorem dX2_pointAt_11 : decode cX2_pointAt 11 = .ok (.getfield 11, 3) := by decide +kernel
theorem dX2_pointAt_14 : decode cX2_pointAt 14 = .ok (.iload_n 1, 1) := by decide +kernel
theorem dX2_pointAt_15 : decode cX2_pointAt 15 = .ok (.aaload, 1) := by decide +kernel
theorem dX2_pointAt_16 : decode cX2_pointAt 16 = .ok (.astore_n 3, 1) := by decide +kernel
theorem dX2_pointAt_17 : decode cX2_pointAt 17 = .ok (.aload_n 3, 1) := by decide +kernel
theorem dX2_pointAt_18 : decode cX2_pointAt 18 = .ok (.ifnonnull 9, 3) := by decide +kernel
theorem dX2_pointAt_21 : decode cX2_pointAt 21 = .ok (.aload_n 0, 1) := by decide +kernel
theorem dX2_pointAt_22 : decode cX2_pointAt 22 = .ok (.iconst 1, 1) := by decide +kernel
theorem dX2_pointAt_23 : decode cX2_pointAt 23 = .ok (.invokevirtual 55, 3) := by decide +kernel
theorem dX2_pointAt_26 : decode cX2_pointAt 26 = .ok (.ireturn, 1) := by decide +kernel
theorem dX2_pointAt_27 : decode cX2_pointAt 27 = .ok (.aload_n 3, 1) := by decide +kernel
theorem dX2_pointAt_28 : decode cX2_pointAt 28 = .ok (.getfield 94, 3) := by decide +kernel
theorem dX2_pointAt_31 : decode cX2_pointAt 31 = .ok (.iconst 2, 1) := by decide +kernel
theorem dX2_pointAt_32 : decode cX2_pointAt 32 = .ok (.if_icmp .ne 9, 3) := by decide +kernel
theorem dX2_pointAt_35 : decode cX2_pointAt 35 = .ok (.aload_n 0, 1) := by decide +kernel
theorem dX2_pointAt_36 : decode cX2_pointAt 36 = .ok (.iconst 2, 1) := by decide +kernel
theorem dX2_pointAt_37 : decode cX2_pointAt 37 = .ok (.invokevirtual 55, 3) := by decide +kernel
theorem dX2_pointAt_40 : decode cX2_pointAt 40 = .ok (.ireturn, 1) := by decide +kernel
theorem dX2_pointAt_41 : decode cX2_pointAt 41 = .ok (.aload_n 3, 1) := by decide +kernel
theorem dX2_pointAt_42 : decode cX2_pointAt 42 = .ok (.aload_n 0, 1) := by decide +kernel
theorem dX2_pointAt_43 : decode cX2_pointAt 43 = .ok (.getfield 31, 3) := by decide +kernel
theorem dX2_pointAt_46 : decode cX2_pointAt 46 = .ok (.invokestatic 97, 3) := by decide +kernel
theorem dX2_pointAt_49 : decode cX2_pointAt 49 = .ok (.iload_n 2, 1) := by decide +kernel
theorem dX2_pointAt_50 : decode cX2_pointAt 50 = .ok (.ifCond .lt 26, 3) := by decide +kernel
theorem dX2_pointAt_53 : decode cX2_pointAt 53 = .ok (.iload_n 2, 1) := by decide +kernel
theorem dX2_pointAt_54 : decode cX2_pointAt 54 = .ok (.aload_n 0, 1) := by decide +kernel
theorem dX2_pointAt_55 : decode cX2_pointAt 55 = .ok (.getfield 31, 3) := by decide +kernel
theorem dX2_pointAt_58 : decode cX2_pointAt 58 = .ok (.getfield 48, 3) := by decide +kernel
theorem dX2_pointAt_61 : decode cX2_pointAt 61 = .ok (.if_icmp .ge 15, 3) := by decide +kernel
theorem dX2_pointAt_64 : decode cX2_pointAt 64 = .ok (.iload_n 2, 1) := by decide +kernel
theorem dX2_pointAt_65 : decode cX2_pointAt 65 = .ok (.aload_n 0, 1) := by decide +kernel
theorem dX2_pointAt_66 : decode cX2_pointAt 66 = .ok (.getfield 31, 3) := by decide +kernel
theorem dX2_pointAt_69 : decode cX2_pointAt 69 = .ok (.getfield 74, 3) := by decide +kernel
theorem dX2_pointAt_72 : decode cX2_pointAt 72 = .ok (.arraylength, 1) := by decide +kernel
theorem dX2_pointAt_73 : decode cX2_pointAt 73 = .ok (.if_icmp .lt 9, 3) := by decide +kernel
theorem dX2_pointAt_76 : decode cX2_pointAt 76 = .ok (.aload_n 0, 1) := by decide +kernel
theorem dX2_pointAt_77 : decode cX2_pointAt 77 = .ok (.iconst 3, 1) := by decide +kernel
theorem dX2_pointAt_78 : decode cX2_pointAt 78 = .ok (.invokevirtual 55, 3) := by decide +kernel
theorem dX2_pointAt_81 : decode cX2_pointAt 81 = .ok (.ireturn, 1) := by decide +kernel
theorem dX2_pointAt_82 : decode cX2_pointAt 82 = .ok (.aload_n 0, 1) := by decide +kernel
theorem dX2_pointAt_83 : decode cX2_pointAt 83 = .ok (.aload_n 0, 1) := by decide +kernel
theorem dX2_pointAt_84 : decode cX2_pointAt 84 = .ok (.getfield 31, 3) := by decide +kernel
theorem dX2_pointAt_87 : decode cX2_pointAt 87 = .ok (.getfield 74, 3) := by decide +kernel
theorem dX2_pointAt_90 : decode cX2_pointAt 90 = .ok (.iload_n 2, 1) := by decide +kernel
theorem dX2_pointAt_91 : decode cX2_pointAt 91 = .ok (.iaload, 1) := by decide +kernel
theorem dX2_pointAt_92 : decode cX2_pointAt 92 = .ok (.invokevirtual 61, 3) := by decide +kernel
theorem dX2_pointAt_95 : decode cX2_pointAt 95 = .ok (.ireturn, 1) := by decide +kernel
set_option maxRecDepth 20000 in
theorem ggX2_put_X2_isNoText : GoodIn wsX2_put wsX2_isNoText := goodIn_r _ [8] (by decide +kernel) (by decide +kernel)
set_option maxRecDepth 20000 in
theorem gX2_put_X2_isNoText : GoodIn wsX2_put (va_wsS RX2 71 yX2_isNoText wsX2_isNoText) := goodIn_app (goodIn_of _ (by decide +kernel)) ggX2_put_X2_isNoText
set_option maxRecDepth 20000 in
theorem ggX2_put_X2_refuse : GoodIn wsX2_put wsX2_refuse := goodIn_r _ [12, 13, 22, 23, 24, 25, 26, 27, 28, 29] (by decide +kernel) (by decide +kernel)
set_option maxRecDepth 20000 in
theorem gX2_put_X2_refuse : GoodIn wsX2_put (wsV RX2 55 RX2 yX2_refuse wsX2_refuse) := goodIn_app (goodIn_of _ (by decide +kernel)) ggX2_put_X2_refuse
set_option maxRecDepth 20000 in
theorem ggX2_put_X2_maskOf : GoodIn wsX2_put wsX2_maskOf := goodIn_r _ [16, 17] (by decide +kernel) (by decide +kernel)
set_option maxRecDepth 20000 in
theorem gX2_put_X2_maskOf : GoodIn wsX2_put (va_wsS RX2 82 yX2_maskOf wsX2_maskOf) := goodIn_app (goodIn_of _ (by decide +kernel)) ggX2_put_X2_maskOf
set_option maxRecDepth 20000 in
theorem ggX2_put_X2_done : GoodIn wsX2_put wsX2_done := goodIn_r _ [21, 13, 22, 23, 24, 25, 26, 27, 28, 29] (by decide +kernel) (by decide +kernel)
set_option maxRecDepth 20000 in
theorem gX2_put_X2_done : GoodIn wsX2_put (wsV RX2 61 RX2 yX2_done wsX2_done) := goodIn_app (goodIn_of _ (by decide +kernel)) ggX2_put_X2_done
theorem dX2_put_0 : decode cX2_put 0 = .ok (.iload_n 1, 1) := by decide +kernel
theorem dX2_put_1 : decode cX2_put 1 = .ok (.invokestatic 71, 3) := by decide +kernel
theorem dX2_put_4 : decode cX2_put 4 = .ok (.ifCond .eq 6, 3) := by decide +kernel
theorem dX2_put_7 : decode cX2_put 7 = .ok (.ldc 47, 2) := by decide +kernel
theorem dX2_put_9 : decode cX2_put 9 = .ok (.ireturn, 1) := by decide +kernel
theorem dX2_put_10 : decode cX2_put 10 = .ok (.aload_n 0, 1) := by decide +kernel
theorem dX2_put_11 : decode cX2_put 11 = .ok (.getfield 11, 3) := by decide +kernel
theorem dX2_put_14 : decode cX2_put 14 = .ok (.iload_n 1, 1) := by decide +kernel
theorem dX2_put_15 : decode cX2_put 15 = .ok (.aaload, 1) := by decide +kernel
theorem dX2_put_16 : decode cX2_put 16 = .ok (.astore 4, 2) := by decide +kernel
theorem dX2_put_18 : decode cX2_put 18 = .ok (.aload 4, 2) := by decide +kernel
theorem dX2_put_20 : decode cX2_put 20 = .ok (.ifnonnull 9, 3) := by decide +kernel
theorem dX2_put_23 : decode cX2_put 23 = .ok (.aload_n 0, 1) := by decide +kernel
theorem dX2_put_24 : decode cX2_put 24 = .ok (.iconst 1, 1) := by decide +kernel
theorem dX2_put_25 : decode cX2_put 25 = .ok (.invokevirtual 55, 3) := by decide +kernel
theorem dX2_put_28 : decode cX2_put 28 = .ok (.ireturn, 1) := by decide +kernel
theorem dX2_put_29 : decode cX2_put 29 = .ok (.aload 4, 2) := by decide +kernel
theorem dX2_put_31 : decode cX2_put 31 = .ok (.getfield 94, 3) := by decide +kernel
theorem dX2_put_34 : decode cX2_put 34 = .ok (.iconst 1, 1) := by decide +kernel
theorem dX2_put_35 : decode cX2_put 35 = .ok (.if_icmp .ne 9, 3) := by decide +kernel
theorem dX2_put_38 : decode cX2_put 38 = .ok (.aload_n 0, 1) := by decide +kernel
theorem dX2_put_39 : decode cX2_put 39 = .ok (.iconst 2, 1) := by decide +kernel
theorem dX2_put_40 : decode cX2_put 40 = .ok (.invokevirtual 55, 3) := by decide +kernel
theorem dX2_put_43 : decode cX2_put 43 = .ok (.ireturn, 1) := by decide +kernel
theorem dX2_put_44 : decode cX2_put 44 = .ok (.iload_n 2, 1) := by decide +kernel
theorem dX2_put_45 : decode cX2_put 45 = .ok (.ifCond .lt 13, 3) := by decide +kernel
theorem dX2_put_48 : decode cX2_put 48 = .ok (.iload_n 2, 1) := by decide +kernel
theorem dX2_put_49 : decode cX2_put 49 = .ok (.aload 4, 2) := by decide +kernel
theorem dX2_put_51 : decode cX2_put 51 = .ok (.getfield 93, 3) := by decide +kernel
theorem dX2_put_54 : decode cX2_put 54 = .ok (.arraylength, 1) := by decide +kernel
theorem dX2_put_55 : decode cX2_put 55 = .ok (.if_icmp .lt 9, 3) := by decide +kernel
theorem dX2_put_58 : decode cX2_put 58 = .ok (.aload_n 0, 1) := by decide +kernel
theorem dX2_put_59 : decode cX2_put 59 = .ok (.iconst 3, 1) := by decide +kernel
theorem dX2_put_60 : decode cX2_put 60 = .ok (.invokevirtual 55, 3) := by decide +kernel
theorem dX2_put_63 : decode cX2_put 63 = .ok (.ireturn, 1) := by decide +kernel
theorem dX2_put_64 : decode cX2_put 64 = .ok (.aload 4, 2) := by decide +kernel
theorem dX2_put_66 : decode cX2_put 66 = .ok (.getfield 93, 3) := by decide +kernel
theorem dX2_put_69 : decode cX2_put 69 = .ok (.iload_n 2, 1) := by decide +kernel
theorem dX2_put_70 : decode cX2_put 70 = .ok (.iaload, 1) := by decide +kernel
theorem dX2_put_71 : decode cX2_put 71 = .ok (.istore 5, 2) := by decide +kernel
theorem dX2_put_73 : decode cX2_put 73 = .ok (.aload 4, 2) := by decide +kernel
theorem dX2_put_75 : decode cX2_put 75 = .ok (.getfield 93, 3) := by decide +kernel
theorem dX2_put_78 : decode cX2_put 78 = .ok (.iload_n 2, 1) := by decide +kernel
theorem dX2_put_79 : decode cX2_put 79 = .ok (.iload_n 3, 1) := by decide +kernel
theorem dX2_put_80 : decode cX2_put 80 = .ok (.aload 4, 2) := by decide +kernel
theorem dX2_put_82 : decode cX2_put 82 = .ok (.getfield 94, 3) := by decide +kernel
theorem dX2_put_85 : decode cX2_put 85 = .ok (.invokestatic 82, 3) := by decide +kernel
theorem dX2_put_88 : decode cX2_put 88 = .ok (.iand, 1) := by decide +kernel
theorem dX2_put_89 : decode cX2_put 89 = .ok (.iastore, 1) := by decide +kernel
theorem dX2_put_90 : decode cX2_put 90 = .ok (.aload_n 0, 1) := by decide +kernel
theorem dX2_put_91 : decode cX2_put 91 = .ok (.iload 5, 2) := by decide +kernel
theorem dX2_put_93 : decode cX2_put 93 = .ok (.invokevirtual 61, 3) := by decide +kernel
theorem dX2_put_96 : decode cX2_put 96 = .ok (.ireturn, 1) := by decide +kernel
set_option maxRecDepth 20000 in
theorem ggX2_turnInto_X2_isNoText : GoodIn wsX2_turnInto wsX2_isNoText := goodIn_r _ [9] (by decide +kernel) (by decide +kernel)
set_option maxRecDepth 20000 in
theorem gX2_turnInto_X2_isNoText : GoodIn wsX2_turnInto (va_wsS RX2 71 yX2_isNoText wsX2_isNoText) := goodIn_app (goodIn_of _ (by decide +kernel)) ggX2_turnInto_X2_isNoText
set_option maxRecDepth 20000 in
theorem ggX2_turnInto_X2_isNoWay : GoodIn wsX2_turnInto wsX2_isNoWay := goodIn_r _ [12] (by decide +kernel) (by decide +kernel)
set_option maxRecDepth 20000 in
theorem gX2_turnInto_X2_isNoWay : GoodIn wsX2_turnInto (va_wsS RX2 101 yX2_isNoWay wsX2_isNoWay) := goodIn_app (goodIn_of _ (by decide +kernel)) ggX2_turnInto_X2_isNoWay
set_option maxRecDepth 20000 in
theorem ggX2_turnInto_X2_refuse : GoodIn wsX2_turnInto wsX2_refuse := goodIn_r _ [16, 17, 105, 106, 107, 108, 109, 110, 111, 112] (by decide +kernel) (by decide +kernel)
set_option maxRecDepth 20000 in
theorem gX2_turnInto_X2_refuse : GoodIn wsX2_turnInto (wsV RX2 55 RX2 yX2_refuse wsX2_refuse) := goodIn_app (goodIn_of _ (by decide +kernel)) ggX2_turnInto_X2_refuse
set_option maxRecDepth 20000 in
theorem ggX2_turnInto_X2_listPoints : GoodIn wsX2_turnInto wsX2_listPoints := goodIn_r _ [20, 3, 21, 22, 23, 24, 25, 26, 27, 28, 29, 30, 31, 32, 8, 33, 34, 35, 36, 37, 38, 39, 40, 41, 42, 43, 44, 45, 46, 47, 48, 49, 50, 51, 52, 53, 54, 113, 114, 115, 116] (by decide +kernel) (by decide +kernel)
set_option maxRecDepth 20000 in
theorem gX2_turnInto_X2_listPoints : GoodIn wsX2_turnInto (va_wsS RX2 97 yX2_listPoints wsX2_listPoints) := goodIn_app (goodIn_of _ (by decide +kernel)) ggX2_turnInto_X2_listPoints
set_option maxRecDepth 20000 in
theorem ggX2_turnInto_X2_listUnits : GoodIn wsX2_turnInto wsX2_listUnits := goodIn_r _ [57, 3, 21, 22, 23, 24, 25, 26, 27, 51, 52, 53, 54, 46, 47, 48, 49, 50, 58, 59, 60, 61, 62, 63, 64, 113, 114, 115, 116] (by decide +kernel) (by decide +kernel)
set_option maxRecDepth 20000 in
theorem gX2_turnInto_X2_listUnits : GoodIn wsX2_turnInto (va_wsS RX2 104 yX2_listUnits wsX2_listUnits) := goodIn_app (goodIn_of _ (by decide +kernel)) ggX2_turnInto_X2_listUnits
set_option maxRecDepth 20000 in
theorem ggX2_turnInto_X2_setText : GoodIn wsX2_turnInto wsX2_setText := goodIn_r _ [68, 2, 69, 70, 71, 5, 72, 73, 74, 75, 76, 77, 78, 79, 80, 81, 82, 83, 84, 85, 86, 87, 88, 89, 90, 91, 92, 93, 94, 95, 96, 97, 98, 99, 100, 101, 102, 103, 8, 104, 17, 105, 106, 107, 108, 109, 110, 111, 112, 113, 114, 115, 116] (by decide +kernel) (by decide +kernel)
set_option maxRecDepth 20000 in
theorem gX2_turnInto_X2_setText : GoodIn wsX2_turnInto (wsV RX2 85 RX2 yX2_setText wsX2_setText) := goodIn_app (goodIn_of _ (by decide +kernel)) ggX2_turnInto_X2_setText
theorem dX2_turnInto_0 : decode cX2_turnInto 0 = .ok (.iload_n 1, 1) := by decide +kernel
theorem dX2_turnInto_1 : decode cX2_turnInto 1 = .ok (.invokestatic 71, 3) := by decide +kernel
theorem dX2_turnInto_4 : decode cX2_turnInto 4 = .ok (.ifCond .ne 17, 3) := by decide +kernel
theorem dX2_turnInto_7 : decode cX2_turnInto 7 = .ok (.iload_n 2, 1) := by decide +kernel
theorem dX2_turnInto_8 : decode cX2_turnInto 8 = .ok (.invokestatic 71, 3) := by decide +kernel
theorem dX2_turnInto_11 : decode cX2_turnInto 11 = .ok (.ifCond .ne 10, 3) := by decide +kernel
theorem dX2_turnInto_14 : decode cX2_turnInto 14 = .ok (.iload_n 3, 1) := by decide +kernel
theorem dX2_turnInto_15 : decode cX2_turnInto 15 = .ok (.invokestatic 101, 3) := by decide +kernel
theorem dX2_turnInto_18 : decode cX2_turnInto 18 = .ok (.ifCond .eq 6, 3) := by decide +kernel
theorem dX2_turnInto_21 : decode cX2_turnInto 21 = .ok (.ldc 47, 2) := by decide +kernel
theorem dX2_turnInto_23 : decode cX2_turnInto 23 = .ok (.ireturn, 1) := by decide +kernel
theorem dX2_turnInto_24 : decode cX2_turnInto 24 = .ok (.aload_n 0, 1) := by decide +kernel
theorem dX2_turnInto_25 : decode cX2_turnInto 25 = .ok (.getfield 11, 3) := by decide +kernel
theorem dX2_turnInto_28 : decode cX2_turnInto 28 = .ok (.iload_n 2, 1) := by decide +kernel
theorem dX2_turnInto_29 : decode cX2_turnInto 29 = .ok (.aaload, 1) := by decide +kernel
theorem dX2_turnInto_30 : decode cX2_turnInto 30 = .ok (.astore 4, 2) := by decide +kernel
theorem dX2_turnInto_32 : decode cX2_turnInto 32 = .ok (.aload 4, 2) := by decide +kernel
theorem dX2_turnInto_34 : decode cX2_turnInto 34 = .ok (.ifnonnull 9, 3) := by decide +kernel
theorem dX2_turnInto_37 : decode cX2_turnInto 37 = .ok (.aload_n 0, 1) := by decide +kernel
theorem dX2_turnInto_38 : decode cX2_turnInto 38 = .ok (.iconst 1, 1) := by decide +kernel
theorem dX2_turnInto_39 : decode cX2_turnInto 39 = .ok (.invokevirtual 55, 3) := by decide +kernel
theorem dX2_turnInto_42 : decode cX2_turnInto 42 = .ok (.ireturn, 1) := by decide +kernel
theorem dX2_turnInto_43 : decode cX2_turnInto 43 = .ok (.aload 4, 2) := by decide +kernel
theorem dX2_turnInto_45 : decode cX2_turnInto 45 = .ok (.getfield 94, 3) := by decide +kernel
theorem dX2_turnInto_48 : decode cX2_turnInto 48 = .ok (.iconst 2, 1) := by decide +kernel
theorem dX2_turnInto_49 : decode cX2_turnInto 49 = .ok (.if_icmp .ne 9, 3) := by decide +kernel
theorem dX2_turnInto_52 : decode cX2_turnInto 52 = .ok (.aload_n 0, 1) := by decide +kernel
theorem dX2_turnInto_53 : decode cX2_turnInto 53 = .ok (.iconst 2, 1) := by decide +kernel
theorem dX2_turnInto_54 : decode cX2_turnInto 54 = .ok (.invokevirtual 55, 3) := by decide +kernel
theorem dX2_turnInto_57 : decode cX2_turnInto 57 = .ok (.ireturn, 1) := by decide +kernel
theorem dX2_turnInto_58 : decode cX2_turnInto 58 = .ok (.iload_n 3, 1) := by decide +kernel
theorem dX2_turnInto_59 : decode cX2_turnInto 59 = .ok (.iconst 1, 1) := by decide +kernel
theorem dX2_turnInto_60 : decode cX2_turnInto 60 = .ok (.if_icmp .ne 15, 3) := by decide +kernel
theorem dX2_turnInto_63 : decode cX2_turnInto 63 = .ok (.aload 4, 2) := by decide +kernel
theorem dX2_turnInto_65 : decode cX2_turnInto 65 = .ok (.aload_n 0, 1) := by decide +kernel
theorem dX2_turnInto_66 : decode cX2_turnInto 66 = .ok (.getfield 31, 3) := by decide +kernel
theorem dX2_turnInto_69 : decode cX2_turnInto 69 = .ok (.invokestatic 97, 3) := by decide +kernel
theorem dX2_turnInto_72 : decode cX2_turnInto 72 = .ok (.goto 12, 3) := by decide +kernel
theorem dX2_turnInto_75 : decode cX2_turnInto 75 = .ok (.aload 4, 2) := by decide +kernel
theorem dX2_turnInto_77 : decode cX2_turnInto 77 = .ok (.aload_n 0, 1) := by decide +kernel
theorem dX2_turnInto_78 : decode cX2_turnInto 78 = .ok (.getfield 31, 3) := by decide +kernel
theorem dX2_turnInto_81 : decode cX2_turnInto 81 = .ok (.invokestatic 104, 3) := by decide +kernel
theorem dX2_turnInto_84 : decode cX2_turnInto 84 = .ok (.aload_n 0, 1) := by decide +kernel
theorem dX2_turnInto_85 : decode cX2_turnInto 85 = .ok (.getfield 31, 3) := by decide +kernel
theorem dX2_turnInto_88 : decode cX2_turnInto 88 = .ok (.getfield 48, 3) := by decide +kernel
theorem dX2_turnInto_91 : decode cX2_turnInto 91 = .ok (.bipush 60, 2) := by decide +kernel
theorem dX2_turnInto_93 : decode cX2_turnInto 93 = .ok (.if_icmp .le 10, 3) := by decide +kernel
theorem dX2_turnInto_96 : decode cX2_turnInto 96 = .ok (.aload_n 0, 1) := by decide +kernel
theorem dX2_turnInto_97 : decode cX2_turnInto 97 = .ok (.bipush 6, 2) := by decide +kernel
theorem dX2_turnInto_99 : decode cX2_turnInto 99 = .ok (.invokevirtual 55, 3) := by decide +kernel
theorem dX2_turnInto_102 : decode cX2_turnInto 102 = .ok (.ireturn, 1) := by decide +kernel
theorem dX2_turnInto_103 : decode cX2_turnInto 103 = .ok (.aload_n 0, 1) := by decide +kernel
theorem dX2_turnInto_104 : decode cX2_turnInto 104 = .ok (.iload_n 1, 1) := by decide +kernel
theorem dX2_turnInto_105 : decode cX2_turnInto 105 = .ok (.iload_n 3, 1) := by decide +kernel
theorem dX2_turnInto_106 : decode cX2_turnInto 106 = .ok (.aload_n 0, 1) := by decide +kernel
theorem dX2_turnInto_107 : decode cX2_turnInto 107 = .ok (.getfield 31, 3) := by decide +kernel
theorem dX2_turnInto_110 : decode cX2_turnInto 110 = .ok (.invokevirtual 85, 3) := by decide +kernel
theorem dX2_turnInto_113 : decode cX2_turnInto 113 = .ok (.ireturn, 1) := by decide +kernel
set_option maxRecDepth 20000 in
theorem ggX2_tell_X2_isNoText : GoodIn wsX2_tell wsX2_isNoText := goodIn_r _ [9] (by decide +kernel) (by decide +kernel)
set_option maxRecDepth 20000 in
theorem gX2_tell_X2_isNoText : GoodIn wsX2_tell (va_wsS RX2 71 yX2_isNoText wsX2_isNoText) := goodIn_app (goodIn_of _ (by decide +kernel)) ggX2_tell_X2_isNoText
set_option maxRecDepth 20000 in
theorem ggX2_tell_X2_isNoForm : GoodIn wsX2_tell wsX2_isNoForm := goodIn_r _ [12] (by decide +kernel) (by decide +kernel)
set_option maxRecDepth 20000 in
theorem gX2_tell_X2_isNoForm : GoodIn wsX2_tell (va_wsS RX2 107 yX2_isNoForm wsX2_isNoForm) := goodIn_app (goodIn_of _ (by decide +kernel)) ggX2_tell_X2_isNoForm
set_option maxRecDepth 20000 in
theorem ggX2_tell_X2_refuse : GoodIn wsX2_tell wsX2_refuse := goodIn_r _ [16, 17, 126, 127, 128, 129, 130, 131, 132, 133] (by decide +kernel) (by decide +kernel)
set_option maxRecDepth 20000 in
theorem gX2_tell_X2_refuse : GoodIn wsX2_tell (wsV RX2 55 RX2 yX2_refuse wsX2_refuse) := goodIn_app (goodIn_of _ (by decide +kernel)) ggX2_tell_X2_refuse
set_option maxRecDepth 20000 in
theorem ggX2_tell_X0_empty : GoodIn wsX2_tell wsX0_empty := goodIn_r _ [22, 23, 136, 137] (by decide +kernel) (by decide +kernel)
set_option maxRecDepth 20000 in
theorem gX2_tell_X0_empty : GoodIn wsX2_tell (wsV RX2 68 RX0 yX0_empty wsX0_empty) := goodIn_app (goodIn_of _ (by decide +kernel)) ggX2_tell_X0_empty
set_option maxRecDepth 20000 in
theorem ggX2_tell_X2_listUnits : GoodIn wsX2_tell wsX2_listUnits := goodIn_r _ [26, 3, 27, 18, 19, 20, 21, 22, 23, 28, 29, 30, 31, 32, 33, 34, 35, 36, 37, 38, 39, 40, 41, 42, 43, 134, 135, 136, 137] (by decide +kernel) (by decide +kernel)
set_option maxRecDepth 20000 in
theorem gX2_tell_X2_listUnits : GoodIn wsX2_tell (va_wsS RX2 104 yX2_listUnits wsX2_listUnits) := goodIn_app (goodIn_of _ (by decide +kernel)) ggX2_tell_X2_listUnits
set_option maxRecDepth 20000 in
theorem ggX2_tell_X2_tellUnits : GoodIn wsX2_tell wsX2_tellUnits := goodIn_r _ [46, 47, 48, 49, 33, 34, 21, 35, 23, 36, 136, 137] (by decide +kernel) (by decide +kernel)
set_option maxRecDepth 20000 in
theorem gX2_tell_X2_tellUnits : GoodIn wsX2_tell (va_wsS RX2 110 yX2_tellUnits wsX2_tellUnits) := goodIn_app (goodIn_of _ (by decide +kernel)) ggX2_tell_X2_tellUnits
set_option maxRecDepth 20000 in
theorem ggX2_tell_X2_setText : GoodIn wsX2_tell wsX2_setText := goodIn_r _ [53, 2, 54, 55, 56, 47, 57, 58, 59, 60, 61, 62, 63, 64, 65, 66, 67, 68, 69, 70, 71, 72, 73, 74, 75, 76, 77, 78, 79, 80, 81, 82, 83, 84, 85, 86, 87, 88, 8, 89, 17, 126, 127, 128, 129, 130, 131, 132, 133, 134, 135, 136, 137] (by decide +kernel) (by decide +kernel)
set_option maxRecDepth 20000 in
theorem gX2_tell_X2_setText : GoodIn wsX2_tell (wsV RX2 85 RX2 yX2_setText wsX2_setText) := goodIn_app (goodIn_of _ (by decide +kernel)) ggX2_tell_X2_setText
set_option maxRecDepth 20000 in
theorem ggX2_tell_X2_listPoints : GoodIn wsX2_tell wsX2_listPoints := goodIn_r _ [92, 3, 27, 18, 19, 20, 21, 22, 23, 93, 94, 95, 96, 97, 8, 98, 99, 100, 101, 102, 103, 104, 105, 106, 107, 108, 109, 110, 32, 33, 34, 35, 36, 28, 29, 30, 31, 134, 135, 136, 137] (by decide +kernel) (by decide +kernel)
set_option maxRecDepth 20000 in
theorem gX2_tell_X2_listPoints : GoodIn wsX2_tell (va_wsS RX2 97 yX2_listPoints wsX2_listPoints) := goodIn_app (goodIn_of _ (by decide +kernel)) ggX2_tell_X2_listPoints
set_option maxRecDepth 20000 in
theorem ggX2_tell_X2_firstUntellable : GoodIn wsX2_tell wsX2_firstUntellable := goodIn_r _ [113, 47, 48, 99, 100, 8, 101, 102, 103, 104, 105, 106, 107, 136, 137] (by decide +kernel) (by decide +kernel)
set_option maxRecDepth 20000 in
theorem gX2_tell_X2_firstUntellable : GoodIn wsX2_tell (va_wsS RX2 114 yX2_firstUntellable wsX2_firstUntellable) := goodIn_app (goodIn_of _ (by decide +kernel)) ggX2_tell_X2_firstUntellable
set_option maxRecDepth 20000 in
theorem ggX2_tell_X2_refuseAt : GoodIn wsX2_tell wsX2_refuseAt := goodIn_r _ [117, 118, 13, 14, 15, 8, 16, 17, 126, 127, 128, 129, 130, 131, 132, 133] (by decide +kernel) (by decide +kernel)
set_option maxRecDepth 20000 in
theorem gX2_tell_X2_refuseAt : GoodIn wsX2_tell (wsV RX2 118 RX2 yX2_refuseAt wsX2_refuseAt) := goodIn_app (goodIn_of _ (by decide +kernel)) ggX2_tell_X2_refuseAt
set_option maxRecDepth 20000 in
theorem ggX2_tell_X2_tellPoints : GoodIn wsX2_tell wsX2_tellPoints := goodIn_r _ [121, 47, 48, 49, 33, 34, 21, 35, 23, 36, 122, 123, 8, 124, 110, 125, 136, 137] (by decide +kernel) (by decide +kernel)
set_option maxRecDepth 20000 in
theorem gX2_tell_X2_tellPoints : GoodIn wsX2_tell (va_wsS RX2 121 yX2_tellPoints wsX2_tellPoints) := goodIn_app (goodIn_of _ (by decide +kernel)) ggX2_tell_X2_tellPoints
theorem dX2_tell_0 : decode cX2_tell 0 = .ok (.iload_n 1, 1) := by decide +kernel
theorem dX2_tell_1 : decode cX2_tell 1 = .ok (.invokestatic 71, 3) := by decide +kernel
theorem dX2_tell_4 : decode cX2_tell 4 = .ok (.ifCond .ne 17, 3) := by decide +kernel
theorem dX2_tell_7 : decode cX2_tell 7 = .ok (.iload_n 2, 1) := by decide +kernel
theorem dX2_tell_8 : decode cX2_tell 8 = .ok (.invokestatic 71, 3) := by decide +kernel
theorem dX2_tell_11 : decode cX2_tell 11 = .ok (.ifCond .ne 10, 3) := by decide +kernel
theorem dX2_tell_14 : decode cX2_tell 14 = .ok (.iload_n 3, 1) := by decide +kernel
theorem dX2_tell_15 : decode cX2_tell 15 = .ok (.invokestatic 107, 3) := by decide +kernel
theorem dX2_tell_18 : decode cX2_tell 18 = .ok (.ifCond .eq 6, 3) := by decide +kernel
theorem dX2_tell_21 : decode cX2_tell 21 = .ok (.ldc 47, 2) := by decide +kernel
theorem dX2_tell_23 : decode cX2_tell 23 = .ok (.ireturn, 1) := by decide +kernel
theorem dX2_tell_24 : decode cX2_tell 24 = .ok (.aload_n 0, 1) := by decide +kernel
theorem dX2_tell_25 : decode cX2_tell 25 = .ok (.getfield 11, 3) := by decide +kernel
theorem dX2_tell_28 : decode cX2_tell 28 = .ok (.iload_n 2, 1) := by decide +kernel
theorem dX2_tell_29 : decode cX2_tell 29 = .ok (.aaload, 1) := by decide +kernel
theorem dX2_tell_30 : decode cX2_tell 30 = .ok (.astore 4, 2) := by decide +kernel
theorem dX2_tell_32 : decode cX2_tell 32 = .ok (.aload 4, 2) := by decide +kernel
theorem dX2_tell_34 : decode cX2_tell 34 = .ok (.ifnonnull 9, 3) := by decide +kernel
theorem dX2_tell_37 : decode cX2_tell 37 = .ok (.aload_n 0, 1) := by decide +kernel
theorem dX2_tell_38 : decode cX2_tell 38 = .ok (.iconst 1, 1) := by decide +kernel
theorem dX2_tell_39 : decode cX2_tell 39 = .ok (.invokevirtual 55, 3) := by decide +kernel
theorem dX2_tell_42 : decode cX2_tell 42 = .ok (.ireturn, 1) := by decide +kernel
theorem dX2_tell_43 : decode cX2_tell 43 = .ok (.aload 4, 2) := by decide +kernel
theorem dX2_tell_45 : decode cX2_tell 45 = .ok (.getfield 94, 3) := by decide +kernel
theorem dX2_tell_48 : decode cX2_tell 48 = .ok (.iconst 2, 1) := by decide +kernel
theorem dX2_tell_49 : decode cX2_tell 49 = .ok (.if_icmp .ne 9, 3) := by decide +kernel
theorem dX2_tell_52 : decode cX2_tell 52 = .ok (.aload_n 0, 1) := by decide +kernel
theorem dX2_tell_53 : decode cX2_tell 53 = .ok (.iconst 2, 1) := by decide +kernel
theorem dX2_tell_54 : decode cX2_tell 54 = .ok (.invokevirtual 55, 3) := by decide +kernel
theorem dX2_tell_57 : decode cX2_tell 57 = .ok (.ireturn, 1) := by decide +kernel
theorem dX2_tell_58 : decode cX2_tell 58 = .ok (.aload_n 0, 1) := by decide +kernel
theorem dX2_tell_59 : decode cX2_tell 59 = .ok (.getfield 34, 3) := by decide +kernel
theorem dX2_tell_62 : decode cX2_tell 62 = .ok (.invokevirtual 68, 3) := by decide +kernel
theorem dX2_tell_65 : decode cX2_tell 65 = .ok (.iload_n 3, 1) := by decide +kernel
theorem dX2_tell_66 : decode cX2_tell 66 = .ok (.iconst 1, 1) := by decide +kernel
theorem dX2_tell_67 : decode cX2_tell 67 = .ok (.if_icmp .eq 8, 3) := by decide +kernel
theorem dX2_tell_70 : decode cX2_tell 70 = .ok (.iload_n 3, 1) := by decide +kernel
theorem dX2_tell_71 : decode cX2_tell 71 = .ok (.iconst 2, 1) := by decide +kernel
theorem dX2_tell_72 : decode cX2_tell 72 = .ok (.if_icmp .ne 35, 3) := by decide +kernel
theorem dX2_tell_75 : decode cX2_tell 75 = .ok (.aload 4, 2) := by decide +kernel
theorem dX2_tell_77 : decode cX2_tell 77 = .ok (.aload_n 0, 1) := by decide +kernel
theorem dX2_tell_78 : decode cX2_tell 78 = .ok (.getfield 31, 3) := by decide +kernel
theorem dX2_tell_81 : decode cX2_tell 81 = .ok (.invokestatic 104, 3) := by decide +kernel
theorem dX2_tell_84 : decode cX2_tell 84 = .ok (.aload_n 0, 1) := by decide +kernel
theorem dX2_tell_85 : decode cX2_tell 85 = .ok (.getfield 31, 3) := by decide +kernel
theorem dX2_tell_88 : decode cX2_tell 88 = .ok (.iload_n 3, 1) := by decide +kernel
theorem dX2_tell_89 : decode cX2_tell 89 = .ok (.aload_n 0, 1) := by decide +kernel
theorem dX2_tell_90 : decode cX2_tell 90 = .ok (.getfield 34, 3) := by decide +kernel
theorem dX2_tell_93 : decode cX2_tell 93 = .ok (.invokestatic 110, 3) := by decide +kernel
theorem dX2_tell_96 : decode cX2_tell 96 = .ok (.aload_n 0, 1) := by decide +kernel
theorem dX2_tell_97 : decode cX2_tell 97 = .ok (.iload_n 1, 1) := by decide +kernel
theorem dX2_tell_98 : decode cX2_tell 98 = .ok (.iconst 2, 1) := by decide +kernel
theorem dX2_tell_99 : decode cX2_tell 99 = .ok (.aload_n 0, 1) := by decide +kernel
theorem dX2_tell_100 : decode cX2_tell 100 = .ok (.getfield 34, 3) := by decide +kernel
theorem dX2_tell_103 : decode cX2_tell 103 = .ok (.invokevirtual 85, 3) := by decide +kernel
theorem dX2_tell_106 : decode cX2_tell 106 = .ok (.ireturn, 1) := by decide +kernel
theorem dX2_tell_107 : decode cX2_tell 107 = .ok (.aload 4, 2) := by decide +kernel
theorem dX2_tell_109 : decode cX2_tell 109 = .ok (.aload_n 0, 1) := by decide +kernel
theorem dX2_tell_110 : decode cX2_tell 110 = .ok (.getfield 31, 3) := by decide +kernel
theorem dX2_tell_113 : decode cX2_tell 113 = .ok (.invokestatic 97, 3) := by decide +kernel
theorem dX2_tell_116 : decode cX2_tell 116 = .ok (.aload_n 0, 1) := by decide +kernel
theorem dX2_tell_117 : decode cX2_tell 117 = .ok (.getfield 31, 3) := by decide +kernel
theorem dX2_tell_120 : decode cX2_tell 120 = .ok (.iload_n 3, 1) := by decide +kernel
theorem dX2_tell_121 : decode cX2_tell 121 = .ok (.invokestatic 114, 3) := by decide +kernel
theorem dX2_tell_124 : decode cX2_tell 124 = .ok (.istore 5, 2) := by decide +kernel
theorem dX2_tell_126 : decode cX2_tell 126 = .ok (.iload 5, 2) := by decide +kernel
theorem dX2_tell_128 : decode cX2_tell 128 = .ok (.iconst (-1), 1) := by decide +kernel
theorem dX2_tell_129 : decode cX2_tell 129 = .ok (.if_icmp .eq 10, 3) := by decide +kernel
theorem dX2_tell_132 : decode cX2_tell 132 = .ok (.aload_n 0, 1) := by decide +kernel
theorem dX2_tell_133 : decode cX2_tell 133 = .ok (.iload 5, 2) := by decide +kernel
theorem dX2_tell_135 : decode cX2_tell 135 = .ok (.invokevirtual 118, 3) := by decide +kernel
theorem dX2_tell_138 : decode cX2_tell 138 = .ok (.ireturn, 1) := by decide +kernel
theorem dX2_tell_139 : decode cX2_tell 139 = .ok (.aload_n 0, 1) := by decide +kernel
theorem dX2_tell_140 : decode cX2_tell 140 = .ok (.getfield 31, 3) := by decide +kernel
theorem dX2_tell_143 : decode cX2_tell 143 = .ok (.iload_n 3, 1) := by decide +kernel
theorem dX2_tell_144 : decode cX2_tell 144 = .ok (.aload_n 0, 1) := by decide +kernel
theorem dX2_tell_145 : decode cX2_tell 145 = .ok (.getfield 34, 3) := by decide +kernel
theorem dX2_tell_148 : decode cX2_tell 148 = .ok (.invokestatic 121, 3) := by decide +kernel
theorem dX2_tell_151 : decode cX2_tell 151 = .ok (.aload_n 0, 1) := by decide +kernel
theorem dX2_tell_152 : decode cX2_tell 152 = .ok (.iload_n 1, 1) := by decide +kernel
theorem dX2_tell_153 : decode cX2_tell 153 = .ok (.iconst 2, 1) := by decide +kernel
theorem dX2_tell_154 : decode cX2_tell 154 = .ok (.aload_n 0, 1) := by decide +kernel
theorem dX2_tell_155 : decode cX2_tell 155 = .ok (.getfield 34, 3) := by decide +kernel
theorem dX2_tell_158 : decode cX2_tell 158 = .ok (.invokevirtual 85, 3) := by decide +kernel
theorem dX2_tell_161 : decode cX2_tell 161 = .ok (.ireturn, 1) := by decide +kernel
set_option maxRecDepth 20000 in
theorem ggX2_read_X2_isNoText : GoodIn wsX2_read wsX2_isNoText := goodIn_r _ [10] (by decide +kernel) (by decide +kernel)
set_option maxRecDepth 20000 in
theorem gX2_read_X2_isNoText : GoodIn wsX2_read (va_wsS RX2 71 yX2_isNoText wsX2_isNoText) := goodIn_app (goodIn_of _ (by decide +kernel)) ggX2_read_X2_isNoText
set_option maxRecDepth 20000 in
theorem ggX2_read_X2_isNoForm : GoodIn wsX2_read wsX2_isNoForm := goodIn_r _ [13] (by decide +kernel) (by decide +kernel)
set_option maxRecDepth 20000 in
theorem gX2_read_X2_isNoForm : GoodIn wsX2_read (va_wsS RX2 107 yX2_isNoForm wsX2_isNoForm) := goodIn_app (goodIn_of _ (by decide +kernel)) ggX2_read_X2_isNoForm
set_option maxRecDepth 20000 in
theorem ggX2_read_X2_refuse : GoodIn wsX2_read wsX2_refuse := goodIn_r _ [17, 18, 119, 120, 121, 122, 123, 124, 125, 126] (by decide +kernel) (by decide +kernel)
set_option maxRecDepth 20000 in
theorem gX2_read_X2_refuse : GoodIn wsX2_read (wsV RX2 55 RX2 yX2_refuse wsX2_refuse) := goodIn_app (goodIn_of _ (by decide +kernel)) ggX2_read_X2_refuse
set_option maxRecDepth 20000 in
theorem ggX2_read_X2_readUnits : GoodIn wsX2_read wsX2_readUnits := goodIn_r _ [21, 22, 23, 24, 25, 26, 27, 28, 29, 9, 30, 6, 31, 32, 33, 34, 35, 36, 37, 38, 39, 40, 41, 42, 43, 44, 45, 46, 47, 48, 49, 50, 51, 52, 53, 54, 55, 56, 57, 58, 59, 60, 61, 62, 63, 64, 65, 66, 67, 68, 69, 70, 71, 72, 73, 129, 130] (by decide +kernel) (by decide +kernel)
set_option maxRecDepth 20000 in
theorem gX2_read_X2_readUnits : GoodIn wsX2_read (va_wsS RX2 124 yX2_readUnits wsX2_readUnits) := goodIn_app (goodIn_of _ (by decide +kernel)) ggX2_read_X2_readUnits
set_option maxRecDepth 20000 in
theorem ggX2_read_X2_refuseAt : GoodIn wsX2_read wsX2_refuseAt := goodIn_r _ [77, 78, 14, 15, 16, 9, 17, 18, 119, 120, 121, 122, 123, 124, 125, 126] (by decide +kernel) (by decide +kernel)
set_option maxRecDepth 20000 in
theorem gX2_read_X2_refuseAt : GoodIn wsX2_read (wsV RX2 118 RX2 yX2_refuseAt wsX2_refuseAt) := goodIn_app (goodIn_of _ (by decide +kernel)) ggX2_read_X2_refuseAt
set_option maxRecDepth 20000 in
theorem ggX2_read_X2_setText : GoodIn wsX2_read wsX2_setText := goodIn_r _ [82, 2, 83, 84, 85, 6, 86, 87, 88, 89, 90, 91, 92, 93, 94, 95, 96, 97, 98, 99, 100, 101, 102, 103, 104, 105, 106, 107, 108, 109, 110, 111, 112, 113, 114, 115, 116, 117, 9, 118, 18, 119, 120, 121, 122, 123, 124, 125, 126, 127, 128, 129, 130] (by decide +kernel) (by decide +kernel)
set_option maxRecDepth 20000 in
theorem gX2_read_X2_setText : GoodIn wsX2_read (wsV RX2 85 RX2 yX2_setText wsX2_setText) := goodIn_app (goodIn_of _ (by decide +kernel)) ggX2_read_X2_setText
theorem dX2_read_0 : decode cX2_read 0 = .ok (.iload_n 1, 1) := by decide +kernel
theorem dX2_read_1 : decode cX2_read 1 = .ok (.invokestatic 71, 3) := by decide +kernel
theorem dX2_read_4 : decode cX2_read 4 = .ok (.ifCond .ne 17, 3) := by decide +kernel
theorem dX2_read_7 : decode cX2_read 7 = .ok (.iload_n 2, 1) := by decide +kernel
theorem dX2_read_8 : decode cX2_read 8 = .ok (.invokestatic 71, 3) := by decide +kernel
theorem dX2_read_11 : decode cX2_read 11 = .ok (.ifCond .ne 10, 3) := by decide +kernel
theorem dX2_read_14 : decode cX2_read 14 = .ok (.iload_n 3, 1) := by decide +kernel
theorem dX2_read_15 : decode cX2_read 15 = .ok (.invokestatic 107, 3) := by decide +kernel
theorem dX2_read_18 : decode cX2_read 18 = .ok (.ifCond .eq 6, 3) := by decide +kernel
theorem dX2_read_21 : decode cX2_read 21 = .ok (.ldc 47, 2) := by decide +kernel
theorem dX2_read_23 : decode cX2_read 23 = .ok (.ireturn, 1) := by decide +kernel
theorem dX2_read_24 : decode cX2_read 24 = .ok (.aload_n 0, 1) := by decide +kernel
theorem dX2_read_25 : decode cX2_read 25 = .ok (.getfield 11, 3) := by decide +kernel
theorem dX2_read_28 : decode cX2_read 28 = .ok (.iload_n 2, 1) := by decide +kernel
theorem dX2_read_29 : decode cX2_read 29 = .ok (.aaload, 1) := by decide +kernel
theorem dX2_read_30 : decode cX2_read 30 = .ok (.astore 4, 2) := by decide +kernel
theorem dX2_read_32 : decode cX2_read 32 = .ok (.aload 4, 2) := by decide +kernel
theorem dX2_read_34 : decode cX2_read 34 = .ok (.ifnonnull 9, 3) := by decide +kernel
theorem dX2_read_37 : decode cX2_read 37 = .ok (.aload_n 0, 1) := by decide +kernel
theorem dX2_read_38 : decode cX2_read 38 = .ok (.iconst 1, 1) := by decide +kernel
theorem dX2_read_39 : decode cX2_read 39 = .ok (.invokevirtual 55, 3) := by decide +kernel
theorem dX2_read_42 : decode cX2_read 42 = .ok (.ireturn, 1) := by decide +kernel
theorem dX2_read_43 : decode cX2_read 43 = .ok (.aload 4, 2) := by decide +kernel
theorem dX2_read_45 : decode cX2_read 45 = .ok (.getfield 94, 3) := by decide +kernel
theorem dX2_read_48 : decode cX2_read 48 = .ok (.iconst 2, 1) := by decide +kernel
theorem dX2_read_49 : decode cX2_read 49 = .ok (.if_icmp .eq 9, 3) := by decide +kernel
theorem dX2_read_52 : decode cX2_read 52 = .ok (.aload_n 0, 1) := by decide +kernel
theorem dX2_read_53 : decode cX2_read 53 = .ok (.iconst 2, 1) := by decide +kernel
theorem dX2_read_54 : decode cX2_read 54 = .ok (.invokevirtual 55, 3) := by decide +kernel
theorem dX2_read_57 : decode cX2_read 57 = .ok (.ireturn, 1) := by decide +kernel
theorem dX2_read_58 : decode cX2_read 58 = .ok (.aload 4, 2) := by decide +kernel
theorem dX2_read_60 : decode cX2_read 60 = .ok (.getfield 93, 3) := by decide +kernel
theorem dX2_read_63 : decode cX2_read 63 = .ok (.iload_n 3, 1) := by decide +kernel
theorem dX2_read_64 : decode cX2_read 64 = .ok (.aload_n 0, 1) := by decide +kernel
theorem dX2_read_65 : decode cX2_read 65 = .ok (.getfield 31, 3) := by decide +kernel
theorem dX2_read_68 : decode cX2_read 68 = .ok (.invokestatic 124, 3) := by decide +kernel
theorem dX2_read_71 : decode cX2_read 71 = .ok (.istore 5, 2) := by decide +kernel
theorem dX2_read_73 : decode cX2_read 73 = .ok (.iload 5, 2) := by decide +kernel
theorem dX2_read_75 : decode cX2_read 75 = .ok (.iconst (-1), 1) := by decide +kernel
theorem dX2_read_76 : decode cX2_read 76 = .ok (.if_icmp .eq 10, 3) := by decide +kernel
theorem dX2_read_79 : decode cX2_read 79 = .ok (.aload_n 0, 1) := by decide +kernel
theorem dX2_read_80 : decode cX2_read 80 = .ok (.iload 5, 2) := by decide +kernel
theorem dX2_read_82 : decode cX2_read 82 = .ok (.invokevirtual 118, 3) := by decide +kernel
theorem dX2_read_85 : decode cX2_read 85 = .ok (.ireturn, 1) := by decide +kernel
theorem dX2_read_86 : decode cX2_read 86 = .ok (.aload_n 0, 1) := by decide +kernel
theorem dX2_read_87 : decode cX2_read 87 = .ok (.getfield 31, 3) := by decide +kernel
theorem dX2_read_90 : decode cX2_read 90 = .ok (.getfield 48, 3) := by decide +kernel
theorem dX2_read_93 : decode cX2_read 93 = .ok (.bipush 60, 2) := by decide +kernel
theorem dX2_read_95 : decode cX2_read 95 = .ok (.if_icmp .le 10, 3) := by decide +kernel
theorem dX2_read_98 : decode cX2_read 98 = .ok (.aload_n 0, 1) := by decide +kernel
theorem dX2_read_99 : decode cX2_read 99 = .ok (.bipush 6, 2) := by decide +kernel
theorem dX2_read_101 : decode cX2_read 101 = .ok (.invokevirtual 55, 3) := by decide +kernel
theorem dX2_read_104 : decode cX2_read 104 = .ok (.ireturn, 1) := by decide +kernel
theorem dX2_read_105 : decode cX2_read 105 = .ok (.aload_n 0, 1) := by decide +kernel
theorem dX2_read_106 : decode cX2_read 106 = .ok (.iload_n 1, 1) := by decide +kernel
theorem dX2_read_107 : decode cX2_read 107 = .ok (.iconst 0, 1) := by decide +kernel
theorem dX2_read_108 : decode cX2_read 108 = .ok (.aload_n 0, 1) := by decide +kernel
theorem dX2_read_109 : decode cX2_read 109 = .ok (.getfield 31, 3) := by decide +kernel
theorem dX2_read_112 : decode cX2_read 112 = .ok (.invokevirtual 85, 3) := by decide +kernel
theorem dX2_read_115 : decode cX2_read 115 = .ok (.ireturn, 1) := by decide +kernel
set_option maxRecDepth 20000 in
theorem ggX2_cut_X2_isNoText : GoodIn wsX2_cut wsX2_isNoText := goodIn_r _ [9] (by decide +kernel) (by decide +kernel)
set_option maxRecDepth 20000 in
theorem gX2_cut_X2_isNoText : GoodIn wsX2_cut (va_wsS RX2 71 yX2_isNoText wsX2_isNoText) := goodIn_app (goodIn_of _ (by decide +kernel)) ggX2_cut_X2_isNoText
set_option maxRecDepth 20000 in
theorem ggX2_cut_X2_refuse : GoodIn wsX2_cut wsX2_refuse := goodIn_r _ [13, 14, 85, 86, 87, 88, 89, 90, 91, 92] (by decide +kernel) (by decide +kernel)
set_option maxRecDepth 20000 in
theorem gX2_cut_X2_refuse : GoodIn wsX2_cut (wsV RX2 55 RX2 yX2_refuse wsX2_refuse) := goodIn_app (goodIn_of _ (by decide +kernel)) ggX2_cut_X2_refuse
