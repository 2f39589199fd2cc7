set_option maxRecDepth 20000 in
theorem ggX3_turnInto_X3_become : GoodIn wsX3_turnInto wsX3_become := goodIn_r _ [68, 22, 36, 41, 21, 69, 70, 71, 8, 72, 73, 74, 75, 76, 77, 78, 27, 79, 80, 81, 82, 83, 84, 85, 86, 87, 88, 89, 90, 91, 92, 93, 94, 95, 96] (by decide +kernel) (by decide +kernel)
set_option maxRecDepth 20000 in
theorem gX3_turnInto_X3_become : GoodIn wsX3_turnInto (wsV RX3 115 RX3 yX3_become wsX3_become) := goodIn_app (goodIn_of _ (by decide +kernel)) ggX3_turnInto_X3_become
theorem dX3_turnInto_0 : decode cX3_turnInto 0 = .ok (.iload_n 1, 1) := by decide +kernel
theorem dX3_turnInto_1 : decode cX3_turnInto 1 = .ok (.invokestatic 112, 3) := by decide +kernel
theorem dX3_turnInto_4 : decode cX3_turnInto 4 = .ok (.ifCond .eq 19, 3) := by decide +kernel
theorem dX3_turnInto_7 : decode cX3_turnInto 7 = .ok (.iload_n 2, 1) := by decide +kernel
theorem dX3_turnInto_8 : decode cX3_turnInto 8 = .ok (.invokestatic 112, 3) := by decide +kernel
theorem dX3_turnInto_11 : decode cX3_turnInto 11 = .ok (.ifCond .eq 12, 3) := by decide +kernel
theorem dX3_turnInto_14 : decode cX3_turnInto 14 = .ok (.iload_n 3, 1) := by decide +kernel
theorem dX3_turnInto_15 : decode cX3_turnInto 15 = .ok (.iconst 0, 1) := by decide +kernel
theorem dX3_turnInto_16 : decode cX3_turnInto 16 = .ok (.iconst 1, 1) := by decide +kernel
theorem dX3_turnInto_17 : decode cX3_turnInto 17 = .ok (.invokestatic 44, 3) := by decide +kernel
theorem dX3_turnInto_20 : decode cX3_turnInto 20 = .ok (.ifCond .ne 6, 3) := by decide +kernel
theorem dX3_turnInto_23 : decode cX3_turnInto 23 = .ok (.ldc 107, 2) := by decide +kernel
theorem dX3_turnInto_25 : decode cX3_turnInto 25 = .ok (.ireturn, 1) := by decide +kernel
theorem dX3_turnInto_26 : decode cX3_turnInto 26 = .ok (.aload_n 0, 1) := by decide +kernel
theorem dX3_turnInto_27 : decode cX3_turnInto 27 = .ok (.iload_n 2, 1) := by decide +kernel
theorem dX3_turnInto_28 : decode cX3_turnInto 28 = .ok (.invokevirtual 119, 3) := by decide +kernel
theorem dX3_turnInto_31 : decode cX3_turnInto 31 = .ok (.istore 4, 2) := by decide +kernel
theorem dX3_turnInto_33 : decode cX3_turnInto 33 = .ok (.iload 4, 2) := by decide +kernel
theorem dX3_turnInto_35 : decode cX3_turnInto 35 = .ok (.ifCond .eq 10, 3) := by decide +kernel
theorem dX3_turnInto_38 : decode cX3_turnInto 38 = .ok (.aload_n 0, 1) := by decide +kernel
theorem dX3_turnInto_39 : decode cX3_turnInto 39 = .ok (.iload 4, 2) := by decide +kernel
theorem dX3_turnInto_41 : decode cX3_turnInto 41 = .ok (.invokevirtual 56, 3) := by decide +kernel
theorem dX3_turnInto_44 : decode cX3_turnInto 44 = .ok (.ireturn, 1) := by decide +kernel
theorem dX3_turnInto_45 : decode cX3_turnInto 45 = .ok (.aload_n 0, 1) := by decide +kernel
theorem dX3_turnInto_46 : decode cX3_turnInto 46 = .ok (.iload_n 2, 1) := by decide +kernel
theorem dX3_turnInto_47 : decode cX3_turnInto 47 = .ok (.invokevirtual 122, 3) := by decide +kernel
theorem dX3_turnInto_50 : decode cX3_turnInto 50 = .ok (.iload_n 3, 1) := by decide +kernel
theorem dX3_turnInto_51 : decode cX3_turnInto 51 = .ok (.iconst 1, 1) := by decide +kernel
theorem dX3_turnInto_52 : decode cX3_turnInto 52 = .ok (.if_icmp .ne 18, 3) := by decide +kernel
theorem dX3_turnInto_55 : decode cX3_turnInto 55 = .ok (.aload_n 0, 1) := by decide +kernel
theorem dX3_turnInto_56 : decode cX3_turnInto 56 = .ok (.iload_n 1, 1) := by decide +kernel
theorem dX3_turnInto_57 : decode cX3_turnInto 57 = .ok (.iconst 1, 1) := by decide +kernel
theorem dX3_turnInto_58 : decode cX3_turnInto 58 = .ok (.aload_n 0, 1) := by decide +kernel
theorem dX3_turnInto_59 : decode cX3_turnInto 59 = .ok (.getfield 32, 3) := by decide +kernel
theorem dX3_turnInto_62 : decode cX3_turnInto 62 = .ok (.aload_n 0, 1) := by decide +kernel
theorem dX3_turnInto_63 : decode cX3_turnInto 63 = .ok (.getfield 74, 3) := by decide +kernel
theorem dX3_turnInto_66 : decode cX3_turnInto 66 = .ok (.invokevirtual 115, 3) := by decide +kernel
theorem dX3_turnInto_69 : decode cX3_turnInto 69 = .ok (.ireturn, 1) := by decide +kernel
theorem dX3_turnInto_70 : decode cX3_turnInto 70 = .ok (.aload_n 0, 1) := by decide +kernel
theorem dX3_turnInto_71 : decode cX3_turnInto 71 = .ok (.getfield 71, 3) := by decide +kernel
theorem dX3_turnInto_74 : decode cX3_turnInto 74 = .ok (.bipush 60, 2) := by decide +kernel
theorem dX3_turnInto_76 : decode cX3_turnInto 76 = .ok (.if_icmp .le 12, 3) := by decide +kernel
theorem dX3_turnInto_79 : decode cX3_turnInto 79 = .ok (.aload_n 0, 1) := by decide +kernel
theorem dX3_turnInto_80 : decode cX3_turnInto 80 = .ok (.bipush 6, 2) := by decide +kernel
theorem dX3_turnInto_82 : decode cX3_turnInto 82 = .ok (.invokevirtual 56, 3) := by decide +kernel
theorem dX3_turnInto_85 : decode cX3_turnInto 85 = .ok (.goto 17, 3) := by decide +kernel
theorem dX3_turnInto_88 : decode cX3_turnInto 88 = .ok (.aload_n 0, 1) := by decide +kernel
theorem dX3_turnInto_89 : decode cX3_turnInto 89 = .ok (.iload_n 1, 1) := by decide +kernel
theorem dX3_turnInto_90 : decode cX3_turnInto 90 = .ok (.iconst 0, 1) := by decide +kernel
theorem dX3_turnInto_91 : decode cX3_turnInto 91 = .ok (.aload_n 0, 1) := by decide +kernel
theorem dX3_turnInto_92 : decode cX3_turnInto 92 = .ok (.getfield 35, 3) := by decide +kernel
theorem dX3_turnInto_95 : decode cX3_turnInto 95 = .ok (.aload_n 0, 1) := by decide +kernel
theorem dX3_turnInto_96 : decode cX3_turnInto 96 = .ok (.getfield 71, 3) := by decide +kernel
theorem dX3_turnInto_99 : decode cX3_turnInto 99 = .ok (.invokevirtual 115, 3) := by decide +kernel
theorem dX3_turnInto_102 : decode cX3_turnInto 102 = .ok (.ireturn, 1) := by decide +kernel
theorem dX3_addByte_0 : decode cX3_addByte 0 = .ok (.aload_n 0, 1) := by decide +kernel
theorem dX3_addByte_1 : decode cX3_addByte 1 = .ok (.getfield 41, 3) := by decide +kernel
theorem dX3_addByte_4 : decode cX3_addByte 4 = .ok (.aload_n 0, 1) := by decide +kernel
theorem dX3_addByte_5 : decode cX3_addByte 5 = .ok (.getfield 125, 3) := by decide +kernel
theorem dX3_addByte_8 : decode cX3_addByte 8 = .ok (.iload_n 1, 1) := by decide +kernel
theorem dX3_addByte_9 : decode cX3_addByte 9 = .ok (.iastore, 1) := by decide +kernel
theorem dX3_addByte_10 : decode cX3_addByte 10 = .ok (.aload_n 0, 1) := by decide +kernel
theorem dX3_addByte_11 : decode cX3_addByte 11 = .ok (.dup, 1) := by decide +kernel
theorem dX3_addByte_12 : decode cX3_addByte 12 = .ok (.getfield 125, 3) := by decide +kernel
theorem dX3_addByte_15 : decode cX3_addByte 15 = .ok (.iconst 1, 1) := by decide +kernel
theorem dX3_addByte_16 : decode cX3_addByte 16 = .ok (.iadd, 1) := by decide +kernel
theorem dX3_addByte_17 : decode cX3_addByte 17 = .ok (.putfield 125, 3) := by decide +kernel
theorem dX3_addByte_20 : decode cX3_addByte 20 = .ok (.return_, 1) := by decide +kernel
set_option maxRecDepth 20000 in
theorem ggX3_addPoint_X3_addByte : GoodIn wsX3_addPoint wsX3_addByte := goodIn_r _ [7, 8, 9, 10, 11, 12, 13, 14, 15, 16, 17, 18, 19, 20, 21, 22, 23, 24, 25, 26, 27] (by decide +kernel) (by decide +kernel)
set_option maxRecDepth 20000 in
theorem gX3_addPoint_X3_addByte : GoodIn wsX3_addPoint (wsV RX3 128 RX3 yX3_addByte wsX3_addByte) := goodIn_app (goodIn_of _ (by decide +kernel)) ggX3_addPoint_X3_addByte
theorem dX3_addPoint_0 : decode cX3_addPoint 0 = .ok (.iload_n 1, 1) := by decide +kernel
theorem dX3_addPoint_1 : decode cX3_addPoint 1 = .ok (.sipush 128, 3) := by decide +kernel
theorem dX3_addPoint_4 : decode cX3_addPoint 4 = .ok (.if_icmp .ge 11, 3) := by decide +kernel
theorem dX3_addPoint_7 : decode cX3_addPoint 7 = .ok (.aload_n 0, 1) := by decide +kernel
theorem dX3_addPoint_8 : decode cX3_addPoint 8 = .ok (.iload_n 1, 1) := by decide +kernel
theorem dX3_addPoint_9 : decode cX3_addPoint 9 = .ok (.invokevirtual 128, 3) := by decide +kernel
theorem dX3_addPoint_12 : decode cX3_addPoint 12 = .ok (.goto 114, 3) := by decide +kernel
theorem dX3_addPoint_15 : decode cX3_addPoint 15 = .ok (.iload_n 1, 1) := by decide +kernel
theorem dX3_addPoint_16 : decode cX3_addPoint 16 = .ok (.sipush 2048, 3) := by decide +kernel
theorem dX3_addPoint_19 : decode cX3_addPoint 19 = .ok (.if_icmp .ge 30, 3) := by decide +kernel
theorem dX3_addPoint_22 : decode cX3_addPoint 22 = .ok (.aload_n 0, 1) := by decide +kernel
theorem dX3_addPoint_23 : decode cX3_addPoint 23 = .ok (.sipush 192, 3) := by decide +kernel
theorem dX3_addPoint_26 : decode cX3_addPoint 26 = .ok (.iload_n 1, 1) := by decide +kernel
theorem dX3_addPoint_27 : decode cX3_addPoint 27 = .ok (.bipush 64, 2) := by decide +kernel
theorem dX3_addPoint_29 : decode cX3_addPoint 29 = .ok (.idiv, 1) := by decide +kernel
theorem dX3_addPoint_30 : decode cX3_addPoint 30 = .ok (.iadd, 1) := by decide +kernel
theorem dX3_addPoint_31 : decode cX3_addPoint 31 = .ok (.invokevirtual 128, 3) := by decide +kernel
theorem dX3_addPoint_34 : decode cX3_addPoint 34 = .ok (.aload_n 0, 1) := by decide +kernel
theorem dX3_addPoint_35 : decode cX3_addPoint 35 = .ok (.sipush 128, 3) := by decide +kernel
theorem dX3_addPoint_38 : decode cX3_addPoint 38 = .ok (.iload_n 1, 1) := by decide +kernel
theorem dX3_addPoint_39 : decode cX3_addPoint 39 = .ok (.bipush 64, 2) := by decide +kernel
theorem dX3_addPoint_41 : decode cX3_addPoint 41 = .ok (.irem, 1) := by decide +kernel
theorem dX3_addPoint_42 : decode cX3_addPoint 42 = .ok (.iadd, 1) := by decide +kernel
theorem dX3_addPoint_43 : decode cX3_addPoint 43 = .ok (.invokevirtual 128, 3) := by decide +kernel
theorem dX3_addPoint_46 : decode cX3_addPoint 46 = .ok (.goto 80, 3) := by decide +kernel
theorem dX3_addPoint_49 : decode cX3_addPoint 49 = .ok (.iload_n 1, 1) := by decide +kernel
theorem dX3_addPoint_50 : decode cX3_addPoint 50 = .ok (.ldc 70, 2) := by decide +kernel
theorem dX3_addPoint_52 : decode cX3_addPoint 52 = .ok (.if_icmp .ge 19, 3) := by decide +kernel
theorem dX3_addPoint_55 : decode cX3_addPoint 55 = .ok (.aload_n 0, 1) := by decide +kernel
theorem dX3_addPoint_56 : decode cX3_addPoint 56 = .ok (.sipush 224, 3) := by decide +kernel
theorem dX3_addPoint_59 : decode cX3_addPoint 59 = .ok (.iload_n 1, 1) := by decide +kernel
theorem dX3_addPoint_60 : decode cX3_addPoint 60 = .ok (.sipush 4096, 3) := by decide +kernel
theorem dX3_addPoint_63 : decode cX3_addPoint 63 = .ok (.idiv, 1) := by decide +kernel
theorem dX3_addPoint_64 : decode cX3_addPoint 64 = .ok (.iadd, 1) := by decide +kernel
theorem dX3_addPoint_65 : decode cX3_addPoint 65 = .ok (.invokevirtual 128, 3) := by decide +kernel
theorem dX3_addPoint_68 : decode cX3_addPoint 68 = .ok (.goto 31, 3) := by decide +kernel
theorem dX3_addPoint_71 : decode cX3_addPoint 71 = .ok (.aload_n 0, 1) := by decide +kernel
theorem dX3_addPoint_72 : decode cX3_addPoint 72 = .ok (.sipush 240, 3) := by decide +kernel
theorem dX3_addPoint_75 : decode cX3_addPoint 75 = .ok (.iload_n 1, 1) := by decide +kernel
theorem dX3_addPoint_76 : decode cX3_addPoint 76 = .ok (.ldc 131, 2) := by decide +kernel
theorem dX3_addPoint_78 : decode cX3_addPoint 78 = .ok (.idiv, 1) := by decide +kernel
theorem dX3_addPoint_79 : decode cX3_addPoint 79 = .ok (.iadd, 1) := by decide +kernel
theorem dX3_addPoint_80 : decode cX3_addPoint 80 = .ok (.invokevirtual 128, 3) := by decide +kernel
theorem dX3_addPoint_83 : decode cX3_addPoint 83 = .ok (.aload_n 0, 1) := by decide +kernel
theorem dX3_addPoint_84 : decode cX3_addPoint 84 = .ok (.sipush 128, 3) := by decide +kernel
theorem dX3_addPoint_87 : decode cX3_addPoint 87 = .ok (.iload_n 1, 1) := by decide +kernel
theorem dX3_addPoint_88 : decode cX3_addPoint 88 = .ok (.sipush 4096, 3) := by decide +kernel
theorem dX3_addPoint_91 : decode cX3_addPoint 91 = .ok (.idiv, 1) := by decide +kernel
theorem dX3_addPoint_92 : decode cX3_addPoint 92 = .ok (.bipush 64, 2) := by decide +kernel
theorem dX3_addPoint_94 : decode cX3_addPoint 94 = .ok (.irem, 1) := by decide +kernel
theorem dX3_addPoint_95 : decode cX3_addPoint 95 = .ok (.iadd, 1) := by decide +kernel
theorem dX3_addPoint_96 : decode cX3_addPoint 96 = .ok (.invokevirtual 128, 3) := by decide +kernel
theorem dX3_addPoint_99 : decode cX3_addPoint 99 = .ok (.aload_n 0, 1) := by decide +kernel
theorem dX3_addPoint_100 : decode cX3_addPoint 100 = .ok (.sipush 128, 3) := by decide +kernel
theorem dX3_addPoint_103 : decode cX3_addPoint 103 = .ok (.iload_n 1, 1) := by decide +kernel
theorem dX3_addPoint_104 : decode cX3_addPoint 104 = .ok (.bipush 64, 2) := by decide +kernel
theorem dX3_addPoint_106 : decode cX3_addPoint 106 = .ok (.idiv, 1) := by decide +kernel
theorem dX3_addPoint_107 : decode cX3_addPoint 107 = .ok (.bipush 64, 2) := by decide +kernel
theorem dX3_addPoint_109 : decode cX3_addPoint 109 = .ok (.irem, 1) := by decide +kernel
theorem dX3_addPoint_110 : decode cX3_addPoint 110 = .ok (.iadd, 1) := by decide +kernel
theorem dX3_addPoint_111 : decode cX3_addPoint 111 = .ok (.invokevirtual 128, 3) := by decide +kernel
theorem dX3_addPoint_114 : decode cX3_addPoint 114 = .ok (.aload_n 0, 1) := by decide +kernel
theorem dX3_addPoint_115 : decode cX3_addPoint 115 = .ok (.sipush 128, 3) := by decide +kernel
theorem dX3_addPoint_118 : decode cX3_addPoint 118 = .ok (.iload_n 1, 1) := by decide +kernel
theorem dX3_addPoint_119 : decode cX3_addPoint 119 = .ok (.bipush 64, 2) := by decide +kernel
theorem dX3_addPoint_121 : decode cX3_addPoint 121 = .ok (.irem, 1) := by decide +kernel
theorem dX3_addPoint_122 : decode cX3_addPoint 122 = .ok (.iadd, 1) := by decide +kernel
theorem dX3_addPoint_123 : decode cX3_addPoint 123 = .ok (.invokevirtual 128, 3) := by decide +kernel
theorem dX3_addPoint_126 : decode cX3_addPoint 126 = .ok (.return_, 1) := by decide +kernel
set_option maxRecDepth 20000 in
theorem ggX3_tell_X3_isText : GoodIn wsX3_tell wsX3_isText := goodIn_r _ [11, 12, 13, 10, 14] (by decide +kernel) (by decide +kernel)
set_option maxRecDepth 20000 in
theorem gX3_tell_X3_isText : GoodIn wsX3_tell (va_wsS RX3 112 yX3_isText wsX3_isText) := goodIn_app (goodIn_of _ (by decide +kernel)) ggX3_tell_X3_isText
set_option maxRecDepth 20000 in
theorem ggX3_tell_X3_within : GoodIn wsX3_tell wsX3_within := goodIn_r _ [14] (by decide +kernel) (by decide +kernel)
set_option maxRecDepth 20000 in
theorem gX3_tell_X3_within : GoodIn wsX3_tell (va_wsS RX3 44 yX3_within wsX3_within) := goodIn_app (goodIn_of _ (by decide +kernel)) ggX3_tell_X3_within
set_option maxRecDepth 20000 in
theorem ggX3_tell_X3_wantsPoints : GoodIn wsX3_tell wsX3_wantsPoints := goodIn_r _ [18, 19, 20, 21, 10, 22, 23, 24, 95, 96, 97, 98, 99, 100, 101, 102, 103, 104, 105, 106, 107, 108, 109, 110, 111, 112] (by decide +kernel) (by decide +kernel)
set_option maxRecDepth 20000 in
theorem gX3_tell_X3_wantsPoints : GoodIn wsX3_tell (wsV RX3 119 RX3 yX3_wantsPoints wsX3_wantsPoints) := goodIn_app (goodIn_of _ (by decide +kernel)) ggX3_tell_X3_wantsPoints
set_option maxRecDepth 20000 in
theorem ggX3_tell_X3_no : GoodIn wsX3_tell wsX3_no := goodIn_r _ [28, 29, 95, 96, 97, 98, 99, 100, 101, 102, 103, 104, 105, 106, 107, 108, 109, 110, 111, 112] (by decide +kernel) (by decide +kernel)
set_option maxRecDepth 20000 in
theorem gX3_tell_X3_no : GoodIn wsX3_tell (wsV RX3 56 RX3 yX3_no wsX3_no) := goodIn_app (goodIn_of _ (by decide +kernel)) ggX3_tell_X3_no
set_option maxRecDepth 20000 in
theorem ggX3_tell_X3_take : GoodIn wsX3_tell wsX3_take := goodIn_r _ [33, 3, 4, 6, 7, 19, 20, 21, 10, 22, 23, 24, 34, 35, 36, 37, 38, 39, 40, 41, 42, 43, 44, 45, 46, 47, 48, 49, 50, 51, 52, 53, 54, 12, 13, 14, 55, 56, 57, 58, 59, 60, 61, 62, 63, 64, 65, 66, 95, 96, 97, 98, 99, 100, 101, 102, 103, 104, 105, 106, 107, 108, 109, 110, 111, 112] (by decide +kernel) (by decide +kernel)
set_option maxRecDepth 20000 in
theorem gX3_tell_X3_take : GoodIn wsX3_tell (wsV RX3 122 RX3 yX3_take wsX3_take) := goodIn_app (goodIn_of _ (by decide +kernel)) ggX3_tell_X3_take
set_option maxRecDepth 20000 in
theorem ggX3_tell_X3_addByte : GoodIn wsX3_tell wsX3_addByte := goodIn_r _ [70, 5, 2, 95, 96, 97, 98, 99, 100, 101, 102, 103, 104, 105, 106, 107, 108, 109, 110, 111, 112] (by decide +kernel) (by decide +kernel)
set_option maxRecDepth 20000 in
theorem gX3_tell_X3_addByte : GoodIn wsX3_tell (wsV RX3 128 RX3 yX3_addByte wsX3_addByte) := goodIn_app (goodIn_of _ (by decide +kernel)) ggX3_tell_X3_addByte
set_option maxRecDepth 20000 in
theorem ggX3_tell_X3_become : GoodIn wsX3_tell wsX3_become := goodIn_r _ [74, 24, 38, 43, 23, 75, 76, 77, 10, 78, 79, 80, 81, 82, 83, 84, 29, 95, 96, 97, 98, 99, 100, 101, 102, 103, 104, 105, 106, 107, 108, 109, 110, 111, 112] (by decide +kernel) (by decide +kernel)
set_option maxRecDepth 20000 in
theorem gX3_tell_X3_become : GoodIn wsX3_tell (wsV RX3 115 RX3 yX3_become wsX3_become) := goodIn_app (goodIn_of _ (by decide +kernel)) ggX3_tell_X3_become
set_option maxRecDepth 20000 in
theorem ggX3_tell_X3_isHigh : GoodIn wsX3_tell wsX3_isHigh := goodIn_r _ [53, 49, 54, 12, 13, 10, 14] (by decide +kernel) (by decide +kernel)
set_option maxRecDepth 20000 in
theorem gX3_tell_X3_isHigh : GoodIn wsX3_tell (va_wsS RX3 77 yX3_isHigh wsX3_isHigh) := goodIn_app (goodIn_of _ (by decide +kernel)) ggX3_tell_X3_isHigh
set_option maxRecDepth 20000 in
theorem ggX3_tell_X3_isLow : GoodIn wsX3_tell wsX3_isLow := goodIn_r _ [57, 50, 58, 12, 13, 10, 14] (by decide +kernel) (by decide +kernel)
set_option maxRecDepth 20000 in
theorem gX3_tell_X3_isLow : GoodIn wsX3_tell (va_wsS RX3 81 yX3_isLow wsX3_isLow) := goodIn_app (goodIn_of _ (by decide +kernel)) ggX3_tell_X3_isLow
set_option maxRecDepth 20000 in
theorem ggX3_tell_X3_breaks : GoodIn wsX3_tell wsX3_breaks := goodIn_r _ [88, 89, 25, 26, 27, 10, 28, 29, 95, 96, 97, 98, 99, 100, 101, 102, 103, 104, 105, 106, 107, 108, 109, 110, 111, 112] (by decide +kernel) (by decide +kernel)
set_option maxRecDepth 20000 in
theorem gX3_tell_X3_breaks : GoodIn wsX3_tell (wsV RX3 132 RX3 yX3_breaks wsX3_breaks) := goodIn_app (goodIn_of _ (by decide +kernel)) ggX3_tell_X3_breaks
set_option maxRecDepth 20000 in
theorem ggX3_tell_X3_addPoint : GoodIn wsX3_tell wsX3_addPoint := goodIn_r _ [93, 48, 94, 67, 68, 69, 10, 70, 5, 2, 95, 96, 97, 98, 99, 100, 101, 102, 103, 104, 105, 106, 107, 108, 109, 110, 111, 112] (by decide +kernel) (by decide +kernel)
set_option maxRecDepth 20000 in
theorem gX3_tell_X3_addPoint : GoodIn wsX3_tell (wsV RX3 135 RX3 yX3_addPoint wsX3_addPoint) := goodIn_app (goodIn_of _ (by decide +kernel)) ggX3_tell_X3_addPoint
theorem dX3_tell_0 : decode cX3_tell 0 = .ok (.iload_n 1, 1) := by decide +kernel
theorem dX3_tell_1 : decode cX3_tell 1 = .ok (.invokestatic 112, 3) := by decide +kernel
theorem dX3_tell_4 : decode cX3_tell 4 = .ok (.ifCond .eq 19, 3) := by decide +kernel
theorem dX3_tell_7 : decode cX3_tell 7 = .ok (.iload_n 2, 1) := by decide +kernel
theorem dX3_tell_8 : decode cX3_tell 8 = .ok (.invokestatic 112, 3) := by decide +kernel
theorem dX3_tell_11 : decode cX3_tell 11 = .ok (.ifCond .eq 12, 3) := by decide +kernel
theorem dX3_tell_14 : decode cX3_tell 14 = .ok (.iload_n 3, 1) := by decide +kernel
theorem dX3_tell_15 : decode cX3_tell 15 = .ok (.iconst 0, 1) := by decide +kernel
theorem dX3_tell_16 : decode cX3_tell 16 = .ok (.iconst 3, 1) := by decide +kernel
theorem dX3_tell_17 : decode cX3_tell 17 = .ok (.invokestatic 44, 3) := by decide +kernel
theorem dX3_tell_20 : decode cX3_tell 20 = .ok (.ifCond .ne 6, 3) := by decide +kernel
theorem dX3_tell_23 : decode cX3_tell 23 = .ok (.ldc 107, 2) := by decide +kernel
theorem dX3_tell_25 : decode cX3_tell 25 = .ok (.ireturn, 1) := by decide +kernel
theorem dX3_tell_26 : decode cX3_tell 26 = .ok (.aload_n 0, 1) := by decide +kernel
theorem dX3_tell_27 : decode cX3_tell 27 = .ok (.iload_n 2, 1) := by decide +kernel
theorem dX3_tell_28 : decode cX3_tell 28 = .ok (.invokevirtual 119, 3) := by decide +kernel
theorem dX3_tell_31 : decode cX3_tell 31 = .ok (.istore 4, 2) := by decide +kernel
theorem dX3_tell_33 : decode cX3_tell 33 = .ok (.iload 4, 2) := by decide +kernel
theorem dX3_tell_35 : decode cX3_tell 35 = .ok (.ifCond .eq 10, 3) := by decide +kernel
theorem dX3_tell_38 : decode cX3_tell 38 = .ok (.aload_n 0, 1) := by decide +kernel
theorem dX3_tell_39 : decode cX3_tell 39 = .ok (.iload 4, 2) := by decide +kernel
theorem dX3_tell_41 : decode cX3_tell 41 = .ok (.invokevirtual 56, 3) := by decide +kernel
theorem dX3_tell_44 : decode cX3_tell 44 = .ok (.ireturn, 1) := by decide +kernel
theorem dX3_tell_45 : decode cX3_tell 45 = .ok (.aload_n 0, 1) := by decide +kernel
theorem dX3_tell_46 : decode cX3_tell 46 = .ok (.iload_n 2, 1) := by decide +kernel
theorem dX3_tell_47 : decode cX3_tell 47 = .ok (.invokevirtual 122, 3) := by decide +kernel
theorem dX3_tell_50 : decode cX3_tell 50 = .ok (.aload_n 0, 1) := by decide +kernel
theorem dX3_tell_51 : decode cX3_tell 51 = .ok (.iconst 0, 1) := by decide +kernel
theorem dX3_tell_52 : decode cX3_tell 52 = .ok (.putfield 125, 3) := by decide +kernel
theorem dX3_tell_55 : decode cX3_tell 55 = .ok (.iload_n 3, 1) := by decide +kernel
theorem dX3_tell_56 : decode cX3_tell 56 = .ok (.iconst 1, 1) := by decide +kernel
theorem dX3_tell_57 : decode cX3_tell 57 = .ok (.if_icmp .eq 8, 3) := by decide +kernel
theorem dX3_tell_60 : decode cX3_tell 60 = .ok (.iload_n 3, 1) := by decide +kernel
theorem dX3_tell_61 : decode cX3_tell 61 = .ok (.iconst 2, 1) := by decide +kernel
theorem dX3_tell_62 : decode cX3_tell 62 = .ok (.if_icmp .ne 104, 3) := by decide +kernel
theorem dX3_tell_65 : decode cX3_tell 65 = .ok (.iconst 0, 1) := by decide +kernel
theorem dX3_tell_66 : decode cX3_tell 66 = .ok (.istore 5, 2) := by decide +kernel
theorem dX3_tell_68 : decode cX3_tell 68 = .ok (.iload 5, 2) := by decide +kernel
theorem dX3_tell_70 : decode cX3_tell 70 = .ok (.aload_n 0, 1) := by decide +kernel
theorem dX3_tell_71 : decode cX3_tell 71 = .ok (.getfield 71, 3) := by decide +kernel
theorem dX3_tell_74 : decode cX3_tell 74 = .ok (.if_icmp .ge 77, 3) := by decide +kernel
theorem dX3_tell_77 : decode cX3_tell 77 = .ok (.aload_n 0, 1) := by decide +kernel
theorem dX3_tell_78 : decode cX3_tell 78 = .ok (.iload_n 3, 1) := by decide +kernel
theorem dX3_tell_79 : decode cX3_tell 79 = .ok (.iconst 1, 1) := by decide +kernel
theorem dX3_tell_80 : decode cX3_tell 80 = .ok (.if_icmp .ne 17, 3) := by decide +kernel
theorem dX3_tell_83 : decode cX3_tell 83 = .ok (.aload_n 0, 1) := by decide +kernel
theorem dX3_tell_84 : decode cX3_tell 84 = .ok (.getfield 35, 3) := by decide +kernel
theorem dX3_tell_87 : decode cX3_tell 87 = .ok (.iload 5, 2) := by decide +kernel
theorem dX3_tell_89 : decode cX3_tell 89 = .ok (.iaload, 1) := by decide +kernel
theorem dX3_tell_90 : decode cX3_tell 90 = .ok (.sipush 256, 3) := by decide +kernel
theorem dX3_tell_93 : decode cX3_tell 93 = .ok (.idiv, 1) := by decide +kernel
theorem dX3_tell_94 : decode cX3_tell 94 = .ok (.goto 14, 3) := by decide +kernel
theorem dX3_tell_97 : decode cX3_tell 97 = .ok (.aload_n 0, 1) := by decide +kernel
theorem dX3_tell_98 : decode cX3_tell 98 = .ok (.getfield 35, 3) := by decide +kernel
theorem dX3_tell_101 : decode cX3_tell 101 = .ok (.iload 5, 2) := by decide +kernel
theorem dX3_tell_103 : decode cX3_tell 103 = .ok (.iaload, 1) := by decide +kernel
theorem dX3_tell_104 : decode cX3_tell 104 = .ok (.sipush 256, 3) := by decide +kernel
theorem dX3_tell_107 : decode cX3_tell 107 = .ok (.irem, 1) := by decide +kernel
theorem dX3_tell_108 : decode cX3_tell 108 = .ok (.invokevirtual 128, 3) := by decide +kernel
theorem dX3_tell_111 : decode cX3_tell 111 = .ok (.aload_n 0, 1) := by decide +kernel
theorem dX3_tell_112 : decode cX3_tell 112 = .ok (.iload_n 3, 1) := by decide +kernel
theorem dX3_tell_113 : decode cX3_tell 113 = .ok (.iconst 1, 1) := by decide +kernel
theorem dX3_tell_114 : decode cX3_tell 114 = .ok (.if_icmp .ne 17, 3) := by decide +kernel
theorem dX3_tell_117 : decode cX3_tell 117 = .ok (.aload_n 0, 1) := by decide +kernel
theorem dX3_tell_118 : decode cX3_tell 118 = .ok (.getfield 35, 3) := by decide +kernel
theorem dX3_tell_121 : decode cX3_tell 121 = .ok (.iload 5, 2) := by decide +kernel
theorem dX3_tell_123 : decode cX3_tell 123 = .ok (.iaload, 1) := by decide +kernel
theorem dX3_tell_124 : decode cX3_tell 124 = .ok (.sipush 256, 3) := by decide +kernel
theorem dX3_tell_127 : decode cX3_tell 127 = .ok (.irem, 1) := by decide +kernel
theorem dX3_tell_128 : decode cX3_tell 128 = .ok (.goto 14, 3) := by decide +kernel
theorem dX3_tell_131 : decode cX3_tell 131 = .ok (.aload_n 0, 1) := by decide +kernel
theorem dX3_tell_132 : decode cX3_tell 132 = .ok (.getfield 35, 3) := by decide +kernel
theorem dX3_tell_135 : decode cX3_tell 135 = .ok (.iload 5, 2) := by decide +kernel
theorem dX3_tell_137 : decode cX3_tell 137 = .ok (.iaload, 1) := by decide +kernel
theorem dX3_tell_138 : decode cX3_tell 138 = .ok (.sipush 256, 3) := by decide +kernel
theorem dX3_tell_141 : decode cX3_tell 141 = .ok (.idiv, 1) := by decide +kernel
theorem dX3_tell_142 : decode cX3_tell 142 = .ok (.invokevirtual 128, 3) := by decide +kernel
theorem dX3_tell_145 : decode cX3_tell 145 = .ok (.iinc 5 1, 3) := by decide +kernel
theorem dX3_tell_148 : decode cX3_tell 148 = .ok (.goto (-80), 3) := by decide +kernel
theorem dX3_tell_151 : decode cX3_tell 151 = .ok (.aload_n 0, 1) := by decide +kernel
theorem dX3_tell_152 : decode cX3_tell 152 = .ok (.iload_n 1, 1) := by decide +kernel
theorem dX3_tell_153 : decode cX3_tell 153 = .ok (.iconst 2, 1) := by decide +kernel
theorem dX3_tell_154 : decode cX3_tell 154 = .ok (.aload_n 0, 1) := by decide +kernel
theorem dX3_tell_155 : decode cX3_tell 155 = .ok (.getfield 41, 3) := by decide +kernel
theorem dX3_tell_158 : decode cX3_tell 158 = .ok (.aload_n 0, 1) := by decide +kernel
theorem dX3_tell_159 : decode cX3_tell 159 = .ok (.getfield 125, 3) := by decide +kernel
theorem dX3_tell_162 : decode cX3_tell 162 = .ok (.invokevirtual 115, 3) := by decide +kernel
theorem dX3_tell_165 : decode cX3_tell 165 = .ok (.ireturn, 1) := by decide +kernel
theorem dX3_tell_166 : decode cX3_tell 166 = .ok (.iconst 0, 1) := by decide +kernel
theorem dX3_tell_167 : decode cX3_tell 167 = .ok (.istore 5, 2) := by decide +kernel
theorem dX3_tell_169 : decode cX3_tell 169 = .ok (.iload 5, 2) := by decide +kernel
theorem dX3_tell_171 : decode cX3_tell 171 = .ok (.aload_n 0, 1) := by decide +kernel
theorem dX3_tell_172 : decode cX3_tell 172 = .ok (.getfield 74, 3) := by decide +kernel
theorem dX3_tell_175 : decode cX3_tell 175 = .ok (.if_icmp .ge 75, 3) := by decide +kernel
theorem dX3_tell_178 : decode cX3_tell 178 = .ok (.aload_n 0, 1) := by decide +kernel
theorem dX3_tell_179 : decode cX3_tell 179 = .ok (.getfield 32, 3) := by decide +kernel
theorem dX3_tell_182 : decode cX3_tell 182 = .ok (.iload 5, 2) := by decide +kernel
theorem dX3_tell_184 : decode cX3_tell 184 = .ok (.iaload, 1) := by decide +kernel
theorem dX3_tell_185 : decode cX3_tell 185 = .ok (.istore 6, 2) := by decide +kernel
theorem dX3_tell_187 : decode cX3_tell 187 = .ok (.iload_n 3, 1) := by decide +kernel
theorem dX3_tell_188 : decode cX3_tell 188 = .ok (.ifCond .ne 22, 3) := by decide +kernel
theorem dX3_tell_191 : decode cX3_tell 191 = .ok (.iload 6, 2) := by decide +kernel
theorem dX3_tell_193 : decode cX3_tell 193 = .ok (.invokestatic 77, 3) := by decide +kernel
theorem dX3_tell_196 : decode cX3_tell 196 = .ok (.ifCond .ne 22, 3) := by decide +kernel
theorem dX3_tell_199 : decode cX3_tell 199 = .ok (.iload 6, 2) := by decide +kernel
theorem dX3_tell_201 : decode cX3_tell 201 = .ok (.invokestatic 81, 3) := by decide +kernel
theorem dX3_tell_204 : decode cX3_tell 204 = .ok (.ifCond .eq 21, 3) := by decide +kernel
theorem dX3_tell_207 : decode cX3_tell 207 = .ok (.goto 11, 3) := by decide +kernel
theorem dX3_tell_210 : decode cX3_tell 210 = .ok (.iload 6, 2) := by decide +kernel
theorem dX3_tell_212 : decode cX3_tell 212 = .ok (.sipush 255, 3) := by decide +kernel
theorem dX3_tell_215 : decode cX3_tell 215 = .ok (.if_icmp .le 10, 3) := by decide +kernel
theorem dX3_tell_218 : decode cX3_tell 218 = .ok (.aload_n 0, 1) := by decide +kernel
theorem dX3_tell_219 : decode cX3_tell 219 = .ok (.iload 5, 2) := by decide +kernel
theorem dX3_tell_221 : decode cX3_tell 221 = .ok (.invokevirtual 132, 3) := by decide +kernel
theorem dX3_tell_224 : decode cX3_tell 224 = .ok (.ireturn, 1) := by decide +kernel
theorem dX3_tell_225 : decode cX3_tell 225 = .ok (.iload_n 3, 1) := by decide +kernel
theorem dX3_tell_226 : decode cX3_tell 226 = .ok (.ifCond .ne 12, 3) := by decide +kernel
theorem dX3_tell_229 : decode cX3_tell 229 = .ok (.aload_n 0, 1) := by decide +kernel
theorem dX3_tell_230 : decode cX3_tell 230 = .ok (.iload 6, 2) := by decide +kernel
theorem dX3_tell_232 : decode cX3_tell 232 = .ok (.invokevirtual 135, 3) := by decide +kernel
theorem dX3_tell_235 : decode cX3_tell 235 = .ok (.goto 9, 3) := by decide +kernel
theorem dX3_tell_238 : decode cX3_tell 238 = .ok (.aload_n 0, 1) := by decide +kernel
theorem dX3_tell_239 : decode cX3_tell 239 = .ok (.iload 6, 2) := by decide +kernel
theorem dX3_tell_241 : decode cX3_tell 241 = .ok (.invokevirtual 128, 3) := by decide +kernel
theorem dX3_tell_244 : decode cX3_tell 244 = .ok (.iinc 5 1, 3) := by decide +kernel
theorem dX3_tell_247 : decode cX3_tell 247 = .ok (.goto (-78), 3) := by decide +kernel
theorem dX3_tell_250 : decode cX3_tell 250 = .ok (.aload_n 0, 1) := by decide +kernel
theorem dX3_tell_251 : decode cX3_tell 251 = .ok (.iload_n 1, 1) := by decide +kernel
theorem dX3_tell_252 : decode cX3_tell 252 = .ok (.iconst 2, 1) := by decide +kernel
theorem dX3_tell_253 : decode cX3_tell 253 = .ok (.aload_n 0, 1) := by decide +kernel
theorem dX3_tell_254 : decode cX3_tell 254 = .ok (.getfield 41, 3) := by decide +kernel
theorem dX3_tell_257 : decode cX3_tell 257 = .ok (.aload_n 0, 1) := by decide +kernel
theorem dX3_tell_258 : decode cX3_tell 258 = .ok (.getfield 125, 3) := by decide +kernel
theorem dX3_tell_261 : decode cX3_tell 261 = .ok (.invokevirtual 115, 3) := by decide +kernel
theorem dX3_tell_264 : decode cX3_tell 264 = .ok (.ireturn, 1) := by decide +kernel
set_option maxRecDepth 20000 in
theorem ggX3_longOf_X3_within : GoodIn wsX3_longOf wsX3_within := goodIn_r _ [4] (by decide +kernel) (by decide +kernel)
set_option maxRecDepth 20000 in
theorem gX3_longOf_X3_within : GoodIn wsX3_longOf (va_wsS RX3 44 yX3_within wsX3_within) := goodIn_app (goodIn_of _ (by decide +kernel)) ggX3_longOf_X3_within
theorem dX3_longOf_0 : decode cX3_longOf 0 = .ok (.iload_n 0, 1) := by decide +kernel
theorem dX3_longOf_1 : decode cX3_longOf 1 = .ok (.sipush 128, 3) := by decide +kernel
theorem dX3_longOf_4 : decode cX3_longOf 4 = .ok (.if_icmp .ge 7, 3) := by decide +kernel
theorem dX3_longOf_7 : decode cX3_longOf 7 = .ok (.iconst 1, 1) := by decide +kernel
theorem dX3_longOf_8 : decode cX3_longOf 8 = .ok (.goto 55, 3) := by decide +kernel
theorem dX3_longOf_11 : decode cX3_longOf 11 = .ok (.iload_n 0, 1) := by decide +kernel
theorem dX3_longOf_12 : decode cX3_longOf 12 = .ok (.sipush 194, 3) := by decide +kernel
theorem dX3_longOf_15 : decode cX3_longOf 15 = .ok (.sipush 223, 3) := by decide +kernel
theorem dX3_longOf_18 : decode cX3_longOf 18 = .ok (.invokestatic 44, 3) := by decide +kernel
theorem dX3_longOf_21 : decode cX3_longOf 21 = .ok (.ifCond .eq 7, 3) := by decide +kernel
theorem dX3_longOf_24 : decode cX3_longOf 24 = .ok (.iconst 2, 1) := by decide +kernel
theorem dX3_longOf_25 : decode cX3_longOf 25 = .ok (.goto 38, 3) := by decide +kernel
theorem dX3_longOf_28 : decode cX3_longOf 28 = .ok (.iload_n 0, 1) := by decide +kernel
theorem dX3_longOf_29 : decode cX3_longOf 29 = .ok (.sipush 224, 3) := by decide +kernel
theorem dX3_longOf_32 : decode cX3_longOf 32 = .ok (.sipush 239, 3) := by decide +kernel
theorem dX3_longOf_35 : decode cX3_longOf 35 = .ok (.invokestatic 44, 3) := by decide +kernel
theorem dX3_longOf_38 : decode cX3_longOf 38 = .ok (.ifCond .eq 7, 3) := by decide +kernel
theorem dX3_longOf_41 : decode cX3_longOf 41 = .ok (.iconst 3, 1) := by decide +kernel
theorem dX3_longOf_42 : decode cX3_longOf 42 = .ok (.goto 21, 3) := by decide +kernel
theorem dX3_longOf_45 : decode cX3_longOf 45 = .ok (.iload_n 0, 1) := by decide +kernel
theorem dX3_longOf_46 : decode cX3_longOf 46 = .ok (.sipush 240, 3) := by decide +kernel
theorem dX3_longOf_49 : decode cX3_longOf 49 = .ok (.sipush 244, 3) := by decide +kernel
theorem dX3_longOf_52 : decode cX3_longOf 52 = .ok (.invokestatic 44, 3) := by decide +kernel
theorem dX3_longOf_55 : decode cX3_longOf 55 = .ok (.ifCond .eq 7, 3) := by decide +kernel
theorem dX3_longOf_58 : decode cX3_longOf 58 = .ok (.iconst 4, 1) := by decide +kernel
theorem dX3_longOf_59 : decode cX3_longOf 59 = .ok (.goto 4, 3) := by decide +kernel
theorem dX3_longOf_62 : decode cX3_longOf 62 = .ok (.iconst 0, 1) := by decide +kernel
theorem dX3_longOf_63 : decode cX3_longOf 63 = .ok (.ireturn, 1) := by decide +kernel
set_option maxRecDepth 20000 in
theorem ggX3_pointFrom_X3_manyOf : GoodIn wsX3_pointFrom wsX3_manyOf := goodIn_r _ [7, 8, 9, 28, 29, 30, 31, 32, 33, 34, 35, 36, 37, 38, 39, 40, 41, 42, 43, 44, 45] (by decide +kernel) (by decide +kernel)
set_option maxRecDepth 20000 in
theorem gX3_pointFrom_X3_manyOf : GoodIn wsX3_pointFrom (wsV RX3 91 RX3 yX3_manyOf wsX3_manyOf) := goodIn_app (goodIn_of _ (by decide +kernel)) ggX3_pointFrom_X3_manyOf
set_option maxRecDepth 20000 in
theorem ggX3_pointFrom_X3_item : GoodIn wsX3_pointFrom wsX3_item := goodIn_r _ [13, 14, 9, 28, 29, 30, 31, 32, 33, 34, 35, 36, 37, 38, 39, 40, 41, 42, 43, 44, 45] (by decide +kernel) (by decide +kernel)
set_option maxRecDepth 20000 in
theorem gX3_pointFrom_X3_item : GoodIn wsX3_pointFrom (wsV RX3 94 RX3 yX3_item wsX3_item) := goodIn_app (goodIn_of _ (by decide +kernel)) ggX3_pointFrom_X3_item
set_option maxRecDepth 20000 in
theorem ggX3_pointFrom_X3_within : GoodIn wsX3_pointFrom wsX3_within := goodIn_r _ [17] (by decide +kernel) (by decide +kernel)
set_option maxRecDepth 20000 in
theorem gX3_pointFrom_X3_within : GoodIn wsX3_pointFrom (va_wsS RX3 44 yX3_within wsX3_within) := goodIn_app (goodIn_of _ (by decide +kernel)) ggX3_pointFrom_X3_within
set_option maxRecDepth 20000 in
theorem ggX3_pointFrom_X3_isHigh : GoodIn wsX3_pointFrom wsX3_isHigh := goodIn_r _ [20, 21, 22, 15, 16, 6, 17] (by decide +kernel) (by decide +kernel)
set_option maxRecDepth 20000 in
theorem gX3_pointFrom_X3_isHigh : GoodIn wsX3_pointFrom (va_wsS RX3 77 yX3_isHigh wsX3_isHigh) := goodIn_app (goodIn_of _ (by decide +kernel)) ggX3_pointFrom_X3_isHigh
set_option maxRecDepth 20000 in
theorem ggX3_pointFrom_X3_isLow : GoodIn wsX3_pointFrom wsX3_isLow := goodIn_r _ [25, 26, 27, 15, 16, 6, 17] (by decide +kernel) (by decide +kernel)
set_option maxRecDepth 20000 in
theorem gX3_pointFrom_X3_isLow : GoodIn wsX3_pointFrom (va_wsS RX3 81 yX3_isLow wsX3_isLow) := goodIn_app (goodIn_of _ (by decide +kernel)) ggX3_pointFrom_X3_isLow
theorem dX3_pointFrom_0 : decode cX3_pointFrom 0 = .ok (.iload_n 3, 1) := by decide +kernel
theorem dX3_pointFrom_1 : decode cX3_pointFrom 1 = .ok (.ifCond .eq 14, 3) := by decide +kernel
theorem dX3_pointFrom_4 : decode cX3_pointFrom 4 = .ok (.iload_n 2, 1) := by decide +kernel
theorem dX3_pointFrom_5 : decode cX3_pointFrom 5 = .ok (.iload_n 3, 1) := by decide +kernel
theorem dX3_pointFrom_6 : decode cX3_pointFrom 6 = .ok (.iadd, 1) := by decide +kernel
theorem dX3_pointFrom_7 : decode cX3_pointFrom 7 = .ok (.aload_n 0, 1) := by decide +kernel
theorem dX3_pointFrom_8 : decode cX3_pointFrom 8 = .ok (.iload_n 1, 1) := by decide +kernel
theorem dX3_pointFrom_9 : decode cX3_pointFrom 9 = .ok (.invokevirtual 91, 3) := by decide +kernel
theorem dX3_pointFrom_12 : decode cX3_pointFrom 12 = .ok (.if_icmp .le 5, 3) := by decide +kernel
theorem dX3_pointFrom_15 : decode cX3_pointFrom 15 = .ok (.iconst (-1), 1) := by decide +kernel
theorem dX3_pointFrom_16 : decode cX3_pointFrom 16 = .ok (.ireturn, 1) := by decide +kernel
theorem dX3_pointFrom_17 : decode cX3_pointFrom 17 = .ok (.aload_n 0, 1) := by decide +kernel
theorem dX3_pointFrom_18 : decode cX3_pointFrom 18 = .ok (.iload_n 1, 1) := by decide +kernel
theorem dX3_pointFrom_19 : decode cX3_pointFrom 19 = .ok (.iload_n 2, 1) := by decide +kernel
theorem dX3_pointFrom_20 : decode cX3_pointFrom 20 = .ok (.invokevirtual 94, 3) := by decide +kernel
theorem dX3_pointFrom_23 : decode cX3_pointFrom 23 = .ok (.istore 4, 2) := by decide +kernel
theorem dX3_pointFrom_25 : decode cX3_pointFrom 25 = .ok (.iload_n 3, 1) := by decide +kernel
theorem dX3_pointFrom_26 : decode cX3_pointFrom 26 = .ok (.iconst 1, 1) := by decide +kernel
theorem dX3_pointFrom_27 : decode cX3_pointFrom 27 = .ok (.if_icmp .ne 8, 3) := by decide +kernel
theorem dX3_pointFrom_30 : decode cX3_pointFrom 30 = .ok (.iload 4, 2) := by decide +kernel
theorem dX3_pointFrom_32 : decode cX3_pointFrom 32 = .ok (.goto 37, 3) := by decide +kernel
theorem dX3_pointFrom_35 : decode cX3_pointFrom 35 = .ok (.iload_n 3, 1) := by decide +kernel
theorem dX3_pointFrom_36 : decode cX3_pointFrom 36 = .ok (.iconst 2, 1) := by decide +kernel
theorem dX3_pointFrom_37 : decode cX3_pointFrom 37 = .ok (.if_icmp .ne 12, 3) := by decide +kernel
theorem dX3_pointFrom_40 : decode cX3_pointFrom 40 = .ok (.iload 4, 2) := by decide +kernel
theorem dX3_pointFrom_42 : decode cX3_pointFrom 42 = .ok (.sipush 192, 3) := by decide +kernel
theorem dX3_pointFrom_45 : decode cX3_pointFrom 45 = .ok (.isub, 1) := by decide +kernel
theorem dX3_pointFrom_46 : decode cX3_pointFrom 46 = .ok (.goto 23, 3) := by decide +kernel
theorem dX3_pointFrom_49 : decode cX3_pointFrom 49 = .ok (.iload_n 3, 1) := by decide +kernel
theorem dX3_pointFrom_50 : decode cX3_pointFrom 50 = .ok (.iconst 3, 1) := by decide +kernel
theorem dX3_pointFrom_51 : decode cX3_pointFrom 51 = .ok (.if_icmp .ne 12, 3) := by decide +kernel
theorem dX3_pointFrom_54 : decode cX3_pointFrom 54 = .ok (.iload 4, 2) := by decide +kernel
theorem dX3_pointFrom_56 : decode cX3_pointFrom 56 = .ok (.sipush 224, 3) := by decide +kernel
theorem dX3_pointFrom_59 : decode cX3_pointFrom 59 = .ok (.isub, 1) := by decide +kernel
theorem dX3_pointFrom_60 : decode cX3_pointFrom 60 = .ok (.goto 9, 3) := by decide +kernel
theorem dX3_pointFrom_63 : decode cX3_pointFrom 63 = .ok (.iload 4, 2) := by decide +kernel
theorem dX3_pointFrom_65 : decode cX3_pointFrom 65 = .ok (.sipush 240, 3) := by decide +kernel
theorem dX3_pointFrom_68 : decode cX3_pointFrom 68 = .ok (.isub, 1) := by decide +kernel
theorem dX3_pointFrom_69 : decode cX3_pointFrom 69 = .ok (.istore 5, 2) := by decide +kernel
theorem dX3_pointFrom_71 : decode cX3_pointFrom 71 = .ok (.iconst 1, 1) := by decide +kernel
theorem dX3_pointFrom_72 : decode cX3_pointFrom 72 = .ok (.istore 6, 2) := by decide +kernel
theorem dX3_pointFrom_74 : decode cX3_pointFrom 74 = .ok (.iload 6, 2) := by decide +kernel
theorem dX3_pointFrom_76 : decode cX3_pointFrom 76 = .ok (.iload_n 3, 1) := by decide +kernel
theorem dX3_pointFrom_77 : decode cX3_pointFrom 77 = .ok (.if_icmp .ge 50, 3) := by decide +kernel
theorem dX3_pointFrom_80 : decode cX3_pointFrom 80 = .ok (.aload_n 0, 1) := by decide +kernel
theorem dX3_pointFrom_81 : decode cX3_pointFrom 81 = .ok (.iload_n 1, 1) := by decide +kernel
theorem dX3_pointFrom_82 : decode cX3_pointFrom 82 = .ok (.iload_n 2, 1) := by decide +kernel
theorem dX3_pointFrom_83 : decode cX3_pointFrom 83 = .ok (.iload 6, 2) := by decide +kernel
theorem dX3_pointFrom_85 : decode cX3_pointFrom 85 = .ok (.iadd, 1) := by decide +kernel
theorem dX3_pointFrom_86 : decode cX3_pointFrom 86 = .ok (.invokevirtual 94, 3) := by decide +kernel
theorem dX3_pointFrom_89 : decode cX3_pointFrom 89 = .ok (.istore 7, 2) := by decide +kernel
theorem dX3_pointFrom_91 : decode cX3_pointFrom 91 = .ok (.iload 7, 2) := by decide +kernel
theorem dX3_pointFrom_93 : decode cX3_pointFrom 93 = .ok (.sipush 128, 3) := by decide +kernel
theorem dX3_pointFrom_96 : decode cX3_pointFrom 96 = .ok (.sipush 191, 3) := by decide +kernel
theorem dX3_pointFrom_99 : decode cX3_pointFrom 99 = .ok (.invokestatic 44, 3) := by decide +kernel
theorem dX3_pointFrom_102 : decode cX3_pointFrom 102 = .ok (.ifCond .ne 5, 3) := by decide +kernel
theorem dX3_pointFrom_105 : decode cX3_pointFrom 105 = .ok (.iconst (-1), 1) := by decide +kernel
theorem dX3_pointFrom_106 : decode cX3_pointFrom 106 = .ok (.ireturn, 1) := by decide +kernel
theorem dX3_pointFrom_107 : decode cX3_pointFrom 107 = .ok (.bipush 64, 2) := by decide +kernel
theorem dX3_pointFrom_109 : decode cX3_pointFrom 109 = .ok (.iload 5, 2) := by decide +kernel
theorem dX3_pointFrom_111 : decode cX3_pointFrom 111 = .ok (.imul, 1) := by decide +kernel
theorem dX3_pointFrom_112 : decode cX3_pointFrom 112 = .ok (.iload 7, 2) := by decide +kernel
theorem dX3_pointFrom_114 : decode cX3_pointFrom 114 = .ok (.iadd, 1) := by decide +kernel
theorem dX3_pointFrom_115 : decode cX3_pointFrom 115 = .ok (.sipush 128, 3) := by decide +kernel
theorem dX3_pointFrom_118 : decode cX3_pointFrom 118 = .ok (.isub, 1) := by decide +kernel
theorem dX3_pointFrom_119 : decode cX3_pointFrom 119 = .ok (.istore 5, 2) := by decide +kernel
theorem dX3_pointFrom_121 : decode cX3_pointFrom 121 = .ok (.iinc 6 1, 3) := by decide +kernel
theorem dX3_pointFrom_124 : decode cX3_pointFrom 124 = .ok (.goto (-50), 3) := by decide +kernel
theorem dX3_pointFrom_127 : decode cX3_pointFrom 127 = .ok (.iload_n 3, 1) := by decide +kernel
theorem dX3_pointFrom_128 : decode cX3_pointFrom 128 = .ok (.iconst 3, 1) := by decide +kernel
theorem dX3_pointFrom_129 : decode cX3_pointFrom 129 = .ok (.if_icmp .lt 49, 3) := by decide +kernel
theorem dX3_pointFrom_132 : decode cX3_pointFrom 132 = .ok (.iload_n 3, 1) := by decide +kernel
theorem dX3_pointFrom_133 : decode cX3_pointFrom 133 = .ok (.iconst 3, 1) := by decide +kernel
theorem dX3_pointFrom_134 : decode cX3_pointFrom 134 = .ok (.if_icmp .ne 27, 3) := by decide +kernel
theorem dX3_pointFrom_137 : decode cX3_pointFrom 137 = .ok (.iload 5, 2) := by decide +kernel
theorem dX3_pointFrom_139 : decode cX3_pointFrom 139 = .ok (.sipush 2048, 3) := by decide +kernel
theorem dX3_pointFrom_142 : decode cX3_pointFrom 142 = .ok (.if_icmp .lt 19, 3) := by decide +kernel
theorem dX3_pointFrom_145 : decode cX3_pointFrom 145 = .ok (.iload 5, 2) := by decide +kernel
theorem dX3_pointFrom_147 : decode cX3_pointFrom 147 = .ok (.invokestatic 77, 3) := by decide +kernel
theorem dX3_pointFrom_150 : decode cX3_pointFrom 150 = .ok (.ifCond .ne 11, 3) := by decide +kernel
theorem dX3_pointFrom_153 : decode cX3_pointFrom 153 = .ok (.iload 5, 2) := by decide +kernel
theorem dX3_pointFrom_155 : decode cX3_pointFrom 155 = .ok (.invokestatic 81, 3) := by decide +kernel
theorem dX3_pointFrom_158 : decode cX3_pointFrom 158 = .ok (.ifCond .eq 20, 3) := by decide +kernel
theorem dX3_pointFrom_161 : decode cX3_pointFrom 161 = .ok (.iload_n 3, 1) := by decide +kernel
theorem dX3_pointFrom_162 : decode cX3_pointFrom 162 = .ok (.iconst 4, 1) := by decide +kernel
theorem dX3_pointFrom_163 : decode cX3_pointFrom 163 = .ok (.if_icmp .ne 19, 3) := by decide +kernel
theorem dX3_pointFrom_166 : decode cX3_pointFrom 166 = .ok (.iload 5, 2) := by decide +kernel
theorem dX3_pointFrom_168 : decode cX3_pointFrom 168 = .ok (.ldc 70, 2) := by decide +kernel
theorem dX3_pointFrom_170 : decode cX3_pointFrom 170 = .ok (.ldc 48, 2) := by decide +kernel
theorem dX3_pointFrom_172 : decode cX3_pointFrom 172 = .ok (.invokestatic 44, 3) := by decide +kernel
theorem dX3_pointFrom_175 : decode cX3_pointFrom 175 = .ok (.ifCond .eq 7, 3) := by decide +kernel
theorem dX3_pointFrom_178 : decode cX3_pointFrom 178 = .ok (.iconst 1, 1) := by decide +kernel
theorem dX3_pointFrom_179 : decode cX3_pointFrom 179 = .ok (.goto 4, 3) := by decide +kernel
theorem dX3_pointFrom_182 : decode cX3_pointFrom 182 = .ok (.iconst 0, 1) := by decide +kernel
theorem dX3_pointFrom_183 : decode cX3_pointFrom 183 = .ok (.istore 6, 2) := by decide +kernel
theorem dX3_pointFrom_185 : decode cX3_pointFrom 185 = .ok (.iload 6, 2) := by decide +kernel
theorem dX3_pointFrom_187 : decode cX3_pointFrom 187 = .ok (.ifCond .eq 8, 3) := by decide +kernel
theorem dX3_pointFrom_190 : decode cX3_pointFrom 190 = .ok (.iload 5, 2) := by decide +kernel
theorem dX3_pointFrom_192 : decode cX3_pointFrom 192 = .ok (.goto 4, 3) := by decide +kernel
theorem dX3_pointFrom_195 : decode cX3_pointFrom 195 = .ok (.iconst (-1), 1) := by decide +kernel
theorem dX3_pointFrom_196 : decode cX3_pointFrom 196 = .ok (.ireturn, 1) := by decide +kernel
set_option maxRecDepth 20000 in
theorem ggX3_read_X3_isText : GoodIn wsX3_read wsX3_isText := goodIn_r _ [7, 8, 9, 6, 10] (by decide +kernel) (by decide +kernel)
set_option maxRecDepth 20000 in
theorem gX3_read_X3_isText : GoodIn wsX3_read (va_wsS RX3 112 yX3_isText wsX3_isText) := goodIn_app (goodIn_of _ (by decide +kernel)) ggX3_read_X3_isText
set_option maxRecDepth 20000 in
theorem ggX3_read_X3_within : GoodIn wsX3_read wsX3_within := goodIn_r _ [10] (by decide +kernel) (by decide +kernel)
set_option maxRecDepth 20000 in
theorem gX3_read_X3_within : GoodIn wsX3_read (va_wsS RX3 44 yX3_within wsX3_within) := goodIn_app (goodIn_of _ (by decide +kernel)) ggX3_read_X3_within
set_option maxRecDepth 20000 in
theorem ggX3_read_X3_sortOf : GoodIn wsX3_read wsX3_sortOf := goodIn_r _ [14, 15, 16, 74, 75, 76, 77, 78, 79, 80, 81, 82, 83, 84, 85, 86, 87, 88, 89, 90, 91] (by decide +kernel) (by decide +kernel)
set_option maxRecDepth 20000 in
theorem gX3_read_X3_sortOf : GoodIn wsX3_read (wsV RX3 88 RX3 yX3_sortOf wsX3_sortOf) := goodIn_app (goodIn_of _ (by decide +kernel)) ggX3_read_X3_sortOf
set_option maxRecDepth 20000 in
theorem ggX3_read_X3_no : GoodIn wsX3_read wsX3_no := goodIn_r _ [20, 21, 74, 75, 76, 77, 78, 79, 80, 81, 82, 83, 84, 85, 86, 87, 88, 89, 90, 91] (by decide +kernel) (by decide +kernel)
set_option maxRecDepth 20000 in
theorem gX3_read_X3_no : GoodIn wsX3_read (wsV RX3 56 RX3 yX3_no wsX3_no) := goodIn_app (goodIn_of _ (by decide +kernel)) ggX3_read_X3_no
set_option maxRecDepth 20000 in
theorem ggX3_read_X3_manyOf : GoodIn wsX3_read wsX3_manyOf := goodIn_r _ [25, 26, 15, 74, 75, 76, 77, 78, 79, 80, 81, 82, 83, 84, 85, 86, 87, 88, 89, 90, 91] (by decide +kernel) (by decide +kernel)
set_option maxRecDepth 20000 in
theorem gX3_read_X3_manyOf : GoodIn wsX3_read (wsV RX3 91 RX3 yX3_manyOf wsX3_manyOf) := goodIn_app (goodIn_of _ (by decide +kernel)) ggX3_read_X3_manyOf
set_option maxRecDepth 20000 in
theorem ggX3_read_X3_item : GoodIn wsX3_read wsX3_item := goodIn_r _ [30, 31, 15, 74, 75, 76, 77, 78, 79, 80, 81, 82, 83, 84, 85, 86, 87, 88, 89, 90, 91] (by decide +kernel) (by decide +kernel)
set_option maxRecDepth 20000 in
theorem gX3_read_X3_item : GoodIn wsX3_read (wsV RX3 94 RX3 yX3_item wsX3_item) := goodIn_app (goodIn_of _ (by decide +kernel)) ggX3_read_X3_item
set_option maxRecDepth 20000 in
theorem ggX3_read_X3_longOf : GoodIn wsX3_read wsX3_longOf := goodIn_r _ [34, 8, 9, 6, 10] (by decide +kernel) (by decide +kernel)
set_option maxRecDepth 20000 in
theorem gX3_read_X3_longOf : GoodIn wsX3_read (va_wsS RX3 138 yX3_longOf wsX3_longOf) := goodIn_app (goodIn_of _ (by decide +kernel)) ggX3_read_X3_longOf
set_option maxRecDepth 20000 in
theorem ggX3_read_X3_pointFrom : GoodIn wsX3_read wsX3_pointFrom := goodIn_r _ [38, 39, 40, 22, 23, 24, 6, 25, 26, 15, 27, 28, 29, 30, 31, 8, 9, 10, 41, 42, 43, 44, 45, 46, 47, 48, 49, 50, 74, 75, 76, 77, 78, 79, 80, 81, 82, 83, 84, 85, 86, 87, 88, 89, 90, 91] (by decide +kernel) (by decide +kernel)
set_option maxRecDepth 20000 in
theorem gX3_read_X3_pointFrom : GoodIn wsX3_read (wsV RX3 141 RX3 yX3_pointFrom wsX3_pointFrom) := goodIn_app (goodIn_of _ (by decide +kernel)) ggX3_read_X3_pointFrom
set_option maxRecDepth 20000 in
theorem ggX3_read_X3_breaks : GoodIn wsX3_read wsX3_breaks := goodIn_r _ [54, 55, 17, 18, 19, 6, 20, 21, 74, 75, 76, 77, 78, 79, 80, 81, 82, 83, 84, 85, 86, 87, 88, 89, 90, 91] (by decide +kernel) (by decide +kernel)
set_option maxRecDepth 20000 in
theorem gX3_read_X3_breaks : GoodIn wsX3_read (wsV RX3 132 RX3 yX3_breaks wsX3_breaks) := goodIn_app (goodIn_of _ (by decide +kernel)) ggX3_read_X3_breaks
set_option maxRecDepth 20000 in
theorem ggX3_read_X3_addUnits : GoodIn wsX3_read wsX3_addUnits := goodIn_r _ [59, 39, 3, 2, 44, 49, 74, 75, 76, 77, 78, 79, 80, 81, 82, 83, 84, 85, 86, 87, 88, 89, 90, 91] (by decide +kernel) (by decide +kernel)
set_option maxRecDepth 20000 in
theorem gX3_read_X3_addUnits : GoodIn wsX3_read (wsV RX3 84 RX3 yX3_addUnits wsX3_addUnits) := goodIn_app (goodIn_of _ (by decide +kernel)) ggX3_read_X3_addUnits
set_option maxRecDepth 20000 in
theorem ggX3_read_X3_become : GoodIn wsX3_read wsX3_become := goodIn_r _ [63, 16, 26, 31, 15, 64, 65, 66, 6, 67, 68, 69, 70, 71, 72, 73, 21, 74, 75, 76, 77, 78, 79, 80, 81, 82, 83, 84, 85, 86, 87, 88, 89, 90, 91] (by decide +kernel) (by decide +kernel)
set_option maxRecDepth 20000 in
theorem gX3_read_X3_become : GoodIn wsX3_read (wsV RX3 115 RX3 yX3_become wsX3_become) := goodIn_app (goodIn_of _ (by decide +kernel)) ggX3_read_X3_become
theorem dX3_read_0 : decode cX3_read 0 = .ok (.iload_n 1, 1) := by decide +kernel
theorem dX3_read_1 : decode cX3_read 1 = .ok (.invokestatic 112, 3) := by decide +kernel
theorem dX3_read_4 : decode cX3_read 4 = .ok (.ifCond .eq 19, 3) := by decide +kernel
theorem dX3_read_7 : decode cX3_read 7 = .ok (.iload_n 2, 1) := by decide +kernel
theorem dX3_read_8 : decode cX3_read 8 = .ok (.invokestatic 112, 3) := by decide +kernel
theorem dX3_read_11 : decode cX3_read 11 = .ok (.ifCond .eq 12, 3) := by decide +kernel
theorem dX3_read_14 : decode cX3_read 14 = .ok (.iload_n 3, 1) := by decide +kernel
theorem dX3_read_15 : decode cX3_read 15 = .ok (.iconst 0, 1) := by decide +kernel
theorem dX3_read_16 : decode cX3_read 16 = .ok (.iconst 3, 1) := by decide +kernel
theorem dX3_read_17 : decode cX3_read 17 = .ok (.invokestatic 44, 3) := by decide +kernel
theorem dX3_read_20 : decode cX3_read 20 = .ok (.ifCond .ne 6, 3) := by decide +kernel
theorem dX3_read_23 : decode cX3_read 23 = .ok (.ldc 107, 2) := by decide +kernel
theorem dX3_read_25 : decode cX3_read 25 = .ok (.ireturn, 1) := by decide +kernel
theorem dX3_read_26 : decode cX3_read 26 = .ok (.aload_n 0, 1) := by decide +kernel
theorem dX3_read_27 : decode cX3_read 27 = .ok (.iload_n 2, 1) := by decide +kernel
theorem dX3_read_28 : decode cX3_read 28 = .ok (.invokevirtual 88, 3) := by decide +kernel
theorem dX3_read_31 : decode cX3_read 31 = .ok (.iconst 2, 1) := by decide +kernel
theorem dX3_read_32 : decode cX3_read 32 = .ok (.if_icmp .eq 22, 3) := by decide +kernel
theorem dX3_read_35 : decode cX3_read 35 = .ok (.aload_n 0, 1) := by decide +kernel
theorem dX3_read_36 : decode cX3_read 36 = .ok (.aload_n 0, 1) := by decide +kernel
theorem dX3_read_37 : decode cX3_read 37 = .ok (.iload_n 2, 1) := by decide +kernel
theorem dX3_read_38 : decode cX3_read 38 = .ok (.invokevirtual 88, 3) := by decide +kernel
theorem dX3_read_41 : decode cX3_read 41 = .ok (.iconst (-1), 1) := by decide +kernel
theorem dX3_read_42 : decode cX3_read 42 = .ok (.if_icmp .ne 7, 3) := by decide +kernel
theorem dX3_read_45 : decode cX3_read 45 = .ok (.iconst 1, 1) := by decide +kernel
theorem dX3_read_46 : decode cX3_read 46 = .ok (.goto 4, 3) := by decide +kernel
theorem dX3_read_49 : decode cX3_read 49 = .ok (.iconst 2, 1) := by decide +kernel
theorem dX3_read_50 : decode cX3_read 50 = .ok (.invokevirtual 56, 3) := by decide +kernel
theorem dX3_read_53 : decode cX3_read 53 = .ok (.ireturn, 1) := by decide +kernel
theorem dX3_read_54 : decode cX3_read 54 = .ok (.aload_n 0, 1) := by decide +kernel
theorem dX3_read_55 : decode cX3_read 55 = .ok (.iload_n 2, 1) := by decide +kernel
theorem dX3_read_56 : decode cX3_read 56 = .ok (.invokevirtual 91, 3) := by decide +kernel
theorem dX3_read_59 : decode cX3_read 59 = .ok (.istore 4, 2) := by decide +kernel
theorem dX3_read_61 : decode cX3_read 61 = .ok (.aload_n 0, 1) := by decide +kernel
theorem dX3_read_62 : decode cX3_read 62 = .ok (.iconst 0, 1) := by decide +kernel
theorem dX3_read_63 : decode cX3_read 63 = .ok (.putfield 71, 3) := by decide +kernel
theorem dX3_read_66 : decode cX3_read 66 = .ok (.iconst 0, 1) := by decide +kernel
theorem dX3_read_67 : decode cX3_read 67 = .ok (.istore 5, 2) := by decide +kernel
theorem dX3_read_69 : decode cX3_read 69 = .ok (.iload 5, 2) := by decide +kernel
theorem dX3_read_71 : decode cX3_read 71 = .ok (.iload 4, 2) := by decide +kernel
theorem dX3_read_73 : decode cX3_read 73 = .ok (.if_icmp .ge 162, 3) := by decide +kernel
theorem dX3_read_76 : decode cX3_read 76 = .ok (.aload_n 0, 1) := by decide +kernel
theorem dX3_read_77 : decode cX3_read 77 = .ok (.iload_n 2, 1) := by decide +kernel
theorem dX3_read_78 : decode cX3_read 78 = .ok (.iload 5, 2) := by decide +kernel
theorem dX3_read_80 : decode cX3_read 80 = .ok (.invokevirtual 94, 3) := by decide +kernel
theorem dX3_read_83 : decode cX3_read 83 = .ok (.istore 6, 2) := by decide +kernel
theorem dX3_read_85 : decode cX3_read 85 = .ok (.iload_n 3, 1) := by decide +kernel
theorem dX3_read_86 : decode cX3_read 86 = .ok (.ifCond .ne 11, 3) := by decide +kernel
theorem dX3_read_89 : decode cX3_read 89 = .ok (.iload 6, 2) := by decide +kernel
theorem dX3_read_91 : decode cX3_read 91 = .ok (.invokestatic 138, 3) := by decide +kernel
theorem dX3_read_94 : decode cX3_read 94 = .ok (.goto 13, 3) := by decide +kernel
theorem dX3_read_97 : decode cX3_read 97 = .ok (.iload_n 3, 1) := by decide +kernel
theorem dX3_read_98 : decode cX3_read 98 = .ok (.iconst 3, 1) := by decide +kernel
theorem dX3_read_99 : decode cX3_read 99 = .ok (.if_icmp .ne 7, 3) := by decide +kernel
theorem dX3_read_102 : decode cX3_read 102 = .ok (.iconst 1, 1) := by decide +kernel
theorem dX3_read_103 : decode cX3_read 103 = .ok (.goto 4, 3) := by decide +kernel
theorem dX3_read_106 : decode cX3_read 106 = .ok (.iconst 2, 1) := by decide +kernel
theorem dX3_read_107 : decode cX3_read 107 = .ok (.istore 7, 2) := by decide +kernel
theorem dX3_read_109 : decode cX3_read 109 = .ok (.iload_n 3, 1) := by decide +kernel
theorem dX3_read_110 : decode cX3_read 110 = .ok (.ifCond .ne 15, 3) := by decide +kernel
theorem dX3_read_113 : decode cX3_read 113 = .ok (.aload_n 0, 1) := by decide +kernel
theorem dX3_read_114 : decode cX3_read 114 = .ok (.iload_n 2, 1) := by decide +kernel
theorem dX3_read_115 : decode cX3_read 115 = .ok (.iload 5, 2) := by decide +kernel
theorem dX3_read_117 : decode cX3_read 117 = .ok (.iload 7, 2) := by decide +kernel
theorem dX3_read_119 : decode cX3_read 119 = .ok (.invokevirtual 141, 3) := by decide +kernel
theorem dX3_read_122 : decode cX3_read 122 = .ok (.goto 66, 3) := by decide +kernel
theorem dX3_read_125 : decode cX3_read 125 = .ok (.iload_n 3, 1) := by decide +kernel
theorem dX3_read_126 : decode cX3_read 126 = .ok (.iconst 3, 1) := by decide +kernel
theorem dX3_read_127 : decode cX3_read 127 = .ok (.if_icmp .ne 8, 3) := by decide +kernel
theorem dX3_read_130 : decode cX3_read 130 = .ok (.iload 6, 2) := by decide +kernel
theorem dX3_read_132 : decode cX3_read 132 = .ok (.goto 56, 3) := by decide +kernel
theorem dX3_read_135 : decode cX3_read 135 = .ok (.iload 5, 2) := by decide +kernel
theorem dX3_read_137 : decode cX3_read 137 = .ok (.iconst 1, 1) := by decide +kernel
theorem dX3_read_138 : decode cX3_read 138 = .ok (.iadd, 1) := by decide +kernel
theorem dX3_read_139 : decode cX3_read 139 = .ok (.iload 4, 2) := by decide +kernel
theorem dX3_read_141 : decode cX3_read 141 = .ok (.if_icmp .ne 7, 3) := by decide +kernel
theorem dX3_read_144 : decode cX3_read 144 = .ok (.iconst (-1), 1) := by decide +kernel
theorem dX3_read_145 : decode cX3_read 145 = .ok (.goto 43, 3) := by decide +kernel
theorem dX3_read_148 : decode cX3_read 148 = .ok (.iload_n 3, 1) := by decide +kernel
theorem dX3_read_149 : decode cX3_read 149 = .ok (.iconst 1, 1) := by decide +kernel
theorem dX3_read_150 : decode cX3_read 150 = .ok (.if_icmp .ne 22, 3) := by decide +kernel
theorem dX3_read_153 : decode cX3_read 153 = .ok (.sipush 256, 3) := by decide +kernel
theorem dX3_read_156 : decode cX3_read 156 = .ok (.iload 6, 2) := by decide +kernel
theorem dX3_read_158 : decode cX3_read 158 = .ok (.imul, 1) := by decide +kernel
theorem dX3_read_159 : decode cX3_read 159 = .ok (.aload_n 0, 1) := by decide +kernel
theorem dX3_read_160 : decode cX3_read 160 = .ok (.iload_n 2, 1) := by decide +kernel
theorem dX3_read_161 : decode cX3_read 161 = .ok (.iload 5, 2) := by decide +kernel
theorem dX3_read_163 : decode cX3_read 163 = .ok (.iconst 1, 1) := by decide +kernel
theorem dX3_read_164 : decode cX3_read 164 = .ok (.iadd, 1) := by decide +kernel
theorem dX3_read_165 : decode cX3_read 165 = .ok (.invokevirtual 94, 3) := by decide +kernel
theorem dX3_read_168 : decode cX3_read 168 = .ok (.iadd, 1) := by decide +kernel
theorem dX3_read_169 : decode cX3_read 169 = .ok (.goto 19, 3) := by decide +kernel
theorem dX3_read_172 : decode cX3_read 172 = .ok (.iload 6, 2) := by decide +kernel
theorem dX3_read_174 : decode cX3_read 174 = .ok (.sipush 256, 3) := by decide +kernel
theorem dX3_read_177 : decode cX3_read 177 = .ok (.aload_n 0, 1) := by decide +kernel
theorem dX3_read_178 : decode cX3_read 178 = .ok (.iload_n 2, 1) := by decide +kernel
theorem dX3_read_179 : decode cX3_read 179 = .ok (.iload 5, 2) := by decide +kernel
theorem dX3_read_181 : decode cX3_read 181 = .ok (.iconst 1, 1) := by decide +kernel
theorem dX3_read_182 : decode cX3_read 182 = .ok (.iadd, 1) := by decide +kernel
theorem dX3_read_183 : decode cX3_read 183 = .ok (.invokevirtual 94, 3) := by decide +kernel
theorem dX3_read_186 : decode cX3_read 186 = .ok (.imul, 1) := by decide +kernel
theorem dX3_read_187 : decode cX3_read 187 = .ok (.iadd, 1) := by decide +kernel
theorem dX3_read_188 : decode cX3_read 188 = .ok (.istore 8, 2) := by decide +kernel
theorem dX3_read_190 : decode cX3_read 190 = .ok (.iload 8, 2) := by decide +kernel
theorem dX3_read_192 : decode cX3_read 192 = .ok (.iconst (-1), 1) := by decide +kernel
theorem dX3_read_193 : decode cX3_read 193 = .ok (.if_icmp .ne 10, 3) := by decide +kernel
theorem dX3_read_196 : decode cX3_read 196 = .ok (.aload_n 0, 1) := by decide +kernel
theorem dX3_read_197 : decode cX3_read 197 = .ok (.iload 5, 2) := by decide +kernel
theorem dX3_read_199 : decode cX3_read 199 = .ok (.invokevirtual 132, 3) := by decide +kernel
theorem dX3_read_202 : decode cX3_read 202 = .ok (.ireturn, 1) := by decide +kernel
theorem dX3_read_203 : decode cX3_read 203 = .ok (.aload_n 0, 1) := by decide +kernel
theorem dX3_read_204 : decode cX3_read 204 = .ok (.iload 8, 2) := by decide +kernel
theorem dX3_read_206 : decode cX3_read 206 = .ok (.invokevirtual 84, 3) := by decide +kernel
theorem dX3_read_209 : decode cX3_read 209 = .ok (.aload_n 0, 1) := by decide +kernel
theorem dX3_read_210 : decode cX3_read 210 = .ok (.getfield 71, 3) := by decide +kernel
theorem dX3_read_213 : decode cX3_read 213 = .ok (.bipush 60, 2) := by decide +kernel
theorem dX3_read_215 : decode cX3_read 215 = .ok (.if_icmp .le 10, 3) := by decide +kernel
theorem dX3_read_218 : decode cX3_read 218 = .ok (.aload_n 0, 1) := by decide +kernel
theorem dX3_read_219 : decode cX3_read 219 = .ok (.bipush 6, 2) := by decide +kernel
theorem dX3_read_221 : decode cX3_read 221 = .ok (.invokevirtual 56, 3) := by decide +kernel
theorem dX3_read_224 : decode cX3_read 224 = .ok (.ireturn, 1) := by decide +kernel
theorem dX3_read_225 : decode cX3_read 225 = .ok (.iload 5, 2) := by decide +kernel
theorem dX3_read_227 : decode cX3_read 227 = .ok (.iload 7, 2) := by decide +kernel
theorem dX3_read_229 : decode cX3_read 229 = .ok (.iadd, 1) := by decide +kernel
theorem dX3_read_230 : decode cX3_read 230 = .ok (.istore 5, 2) := by decide +kernel
theorem dX3_read_232 : decode cX3_read 232 = .ok (.goto (-163), 3) := by decide +kernel
theorem dX3_read_235 : decode cX3_read 235 = .ok (.aload_n 0, 1) := by decide +kernel
theorem dX3_read_236 : decode cX3_read 236 = .ok (.iload_n 1, 1) := by decide +kernel
theorem dX3_read_237 : decode cX3_read 237 = .ok (.iconst 0, 1) := by decide +kernel
theorem dX3_read_238 : decode cX3_read 238 = .ok (.aload_n 0, 1) := by decide +kernel
theorem dX3_read_239 : decode cX3_read 239 = .ok (.getfield 35, 3) := by decide +kernel
theorem dX3_read_242 : decode cX3_read 242 = .ok (.aload_n 0, 1) := by decide +kernel
theorem dX3_read_243 : decode cX3_read 243 = .ok (.getfield 71, 3) := by decide +kernel
theorem dX3_read_246 : decode cX3_read 246 = .ok (.invokevirtual 115, 3) := by decide +kernel
theorem dX3_read_249 : decode cX3_read 249 = .ok (.ireturn, 1) := by decide +kernel
set_option maxRecDepth 20000 in
theorem ggX3_parts_X3_sortOf : GoodIn wsX3_parts wsX3_sortOf := goodIn_r _ [5, 6, 7, 31, 32, 33, 34, 35, 36, 37, 38, 39, 40, 41, 42, 43, 44, 45, 46, 47, 48] (by decide +kernel) (by decide +kernel)
set_option maxRecDepth 20000 in
theorem gX3_parts_X3_sortOf : GoodIn wsX3_parts (wsV RX3 88 RX3 yX3_sortOf wsX3_sortOf) := goodIn_app (goodIn_of _ (by decide +kernel)) ggX3_parts_X3_sortOf
set_option maxRecDepth 20000 in
theorem ggX3_parts_X3_manyOf : GoodIn wsX3_parts wsX3_manyOf := goodIn_r _ [11, 12, 6, 31, 32, 33, 34, 35, 36, 37, 38, 39, 40, 41, 42, 43, 44, 45, 46, 47, 48] (by decide +kernel) (by decide +kernel)
set_option maxRecDepth 20000 in
theorem gX3_parts_X3_manyOf : GoodIn wsX3_parts (wsV RX3 91 RX3 yX3_manyOf wsX3_manyOf) := goodIn_app (goodIn_of _ (by decide +kernel)) ggX3_parts_X3_manyOf
set_option maxRecDepth 20000 in
theorem ggX3_parts_X3_item : GoodIn wsX3_parts wsX3_item := goodIn_r _ [16, 17, 6, 31, 32, 33, 34, 35, 36, 37, 38, 39, 40, 41, 42, 43, 44, 45, 46, 47, 48] (by decide +kernel) (by decide +kernel)
set_option maxRecDepth 20000 in
theorem gX3_parts_X3_item : GoodIn wsX3_parts (wsV RX3 94 RX3 yX3_item wsX3_item) := goodIn_app (goodIn_of _ (by decide +kernel)) ggX3_parts_X3_item
set_option maxRecDepth 20000 in
theorem ggX3_parts_X3_isHigh : GoodIn wsX3_parts wsX3_isHigh := goodIn_r _ [20, 21, 22, 23, 24, 4, 25] (by decide +kernel) (by decide +kernel)
set_option maxRecDepth 20000 in
theorem gX3_parts_X3_isHigh : GoodIn wsX3_parts (va_wsS RX3 77 yX3_isHigh wsX3_isHigh) := goodIn_app (goodIn_of _ (by decide +kernel)) ggX3_parts_X3_isHigh
set_option maxRecDepth 20000 in
theorem ggX3_parts_X3_isLow : GoodIn wsX3_parts wsX3_isLow := goodIn_r _ [28, 29, 30, 23, 24, 4, 25] (by decide +kernel) (by decide +kernel)
set_option maxRecDepth 20000 in
theorem gX3_parts_X3_isLow : GoodIn wsX3_parts (va_wsS RX3 81 yX3_isLow wsX3_isLow) := goodIn_app (goodIn_of _ (by decide +kernel)) ggX3_parts_X3_isLow
theorem dX3_parts_0 : decode cX3_parts 0 = .ok (.aload_n 0, 1) := by decide +kernel
theorem dX3_parts_1 : decode cX3_parts 1 = .ok (.iload_n 1, 1) := by decide +kernel
theorem dX3_parts_2 : decode cX3_parts 2 = .ok (.invokevirtual 88, 3) := by decide +kernel
theorem dX3_parts_5 : decode cX3_parts 5 = .ok (.ifCond .ne 46, 3) := by decide +kernel
theorem dX3_parts_8 : decode cX3_parts 8 = .ok (.iload_n 2, 1) := by decide +kernel
theorem dX3_parts_9 : decode cX3_parts 9 = .ok (.ifCond .le 42, 3) := by decide +kernel
theorem dX3_parts_12 : decode cX3_parts 12 = .ok (.iload_n 2, 1) := by decide +kernel
theorem dX3_parts_13 : decode cX3_parts 13 = .ok (.aload_n 0, 1) := by decide +kernel
theorem dX3_parts_14 : decode cX3_parts 14 = .ok (.iload_n 1, 1) := by decide +kernel
theorem dX3_parts_15 : decode cX3_parts 15 = .ok (.invokevirtual 91, 3) := by decide +kernel
theorem dX3_parts_18 : decode cX3_parts 18 = .ok (.if_icmp .ge 33, 3) := by decide +kernel
theorem dX3_parts_21 : decode cX3_parts 21 = .ok (.aload_n 0, 1) := by decide +kernel
theorem dX3_parts_22 : decode cX3_parts 22 = .ok (.iload_n 1, 1) := by decide +kernel
theorem dX3_parts_23 : decode cX3_parts 23 = .ok (.iload_n 2, 1) := by decide +kernel
theorem dX3_parts_24 : decode cX3_parts 24 = .ok (.iconst 1, 1) := by decide +kernel
theorem dX3_parts_25 : decode cX3_parts 25 = .ok (.isub, 1) := by decide +kernel
theorem dX3_parts_26 : decode cX3_parts 26 = .ok (.invokevirtual 94, 3) := by decide +kernel
theorem dX3_parts_29 : decode cX3_parts 29 = .ok (.invokestatic 77, 3) := by decide +kernel
theorem dX3_parts_32 : decode cX3_parts 32 = .ok (.ifCond .eq 19, 3) := by decide +kernel
theorem dX3_parts_35 : decode cX3_parts 35 = .ok (.aload_n 0, 1) := by decide +kernel
theorem dX3_parts_36 : decode cX3_parts 36 = .ok (.iload_n 1, 1) := by decide +kernel
theorem dX3_parts_37 : decode cX3_parts 37 = .ok (.iload_n 2, 1) := by decide +kernel
theorem dX3_parts_38 : decode cX3_parts 38 = .ok (.invokevirtual 94, 3) := by decide +kernel
theorem dX3_parts_41 : decode cX3_parts 41 = .ok (.invokestatic 81, 3) := by decide +kernel
theorem dX3_parts_44 : decode cX3_parts 44 = .ok (.ifCond .eq 7, 3) := by decide +kernel
theorem dX3_parts_47 : decode cX3_parts 47 = .ok (.iconst 1, 1) := by decide +kernel
theorem dX3_parts_48 : decode cX3_parts 48 = .ok (.goto 4, 3) := by decide +kernel
theorem dX3_parts_51 : decode cX3_parts 51 = .ok (.iconst 0, 1) := by decide +kernel
theorem dX3_parts_52 : decode cX3_parts 52 = .ok (.ireturn, 1) := by decide +kernel
set_option maxRecDepth 20000 in
theorem ggX3_cut_X3_isText : GoodIn wsX3_cut wsX3_isText := goodIn_r _ [6, 7, 8, 5, 9] (by decide +kernel) (by decide +kernel)
set_option maxRecDepth 20000 in
theorem gX3_cut_X3_isText : GoodIn wsX3_cut (va_wsS RX3 112 yX3_isText wsX3_isText) := goodIn_app (goodIn_of _ (by decide +kernel)) ggX3_cut_X3_isText
set_option maxRecDepth 20000 in
theorem ggX3_cut_X3_sortOf : GoodIn wsX3_cut wsX3_sortOf := goodIn_r _ [13, 14, 15, 59, 60, 61, 62, 63, 64, 65, 66, 67, 68, 69, 70, 71, 72, 73, 74, 75, 76] (by decide +kernel) (by decide +kernel)
set_option maxRecDepth 20000 in
theorem gX3_cut_X3_sortOf : GoodIn wsX3_cut (wsV RX3 88 RX3 yX3_sortOf wsX3_sortOf) := goodIn_app (goodIn_of _ (by decide +kernel)) ggX3_cut_X3_sortOf
set_option maxRecDepth 20000 in
theorem ggX3_cut_X3_no : GoodIn wsX3_cut wsX3_no := goodIn_r _ [19, 20, 59, 60, 61, 62, 63, 64, 65, 66, 67, 68, 69, 70, 71, 72, 73, 74, 75, 76] (by decide +kernel) (by decide +kernel)
set_option maxRecDepth 20000 in
theorem gX3_cut_X3_no : GoodIn wsX3_cut (wsV RX3 56 RX3 yX3_no wsX3_no) := goodIn_app (goodIn_of _ (by decide +kernel)) ggX3_cut_X3_no
set_option maxRecDepth 20000 in
theorem ggX3_cut_X3_manyOf : GoodIn wsX3_cut wsX3_manyOf := goodIn_r _ [24, 25, 14, 59, 60, 61, 62, 63, 64, 65, 66, 67, 68, 69, 70, 71, 72, 73, 74, 75, 76] (by decide +kernel) (by decide +kernel)
set_option maxRecDepth 20000 in
theorem gX3_cut_X3_manyOf : GoodIn wsX3_cut (wsV RX3 91 RX3 yX3_manyOf wsX3_manyOf) := goodIn_app (goodIn_of _ (by decide +kernel)) ggX3_cut_X3_manyOf
set_option maxRecDepth 20000 in
theorem ggX3_cut_X3_parts : GoodIn wsX3_cut wsX3_parts := goodIn_r _ [29, 10, 11, 12, 5, 13, 14, 15, 21, 22, 23, 24, 25, 30, 31, 32, 33, 34, 35, 36, 37, 38, 39, 7, 8, 9, 40, 41, 42, 43, 44, 59, 60, 61, 62, 63, 64, 65, 66, 67, 68, 69, 70, 71, 72, 73, 74, 75, 76] (by decide +kernel) (by decide +kernel)
set_option maxRecDepth 20000 in
theorem gX3_cut_X3_parts : GoodIn wsX3_cut (wsV RX3 145 RX3 yX3_parts wsX3_parts) := goodIn_app (goodIn_of _ (by decide +kernel)) ggX3_cut_X3_parts
set_option maxRecDepth 20000 in
theorem ggX3_cut_X3_item : GoodIn wsX3_cut wsX3_item := goodIn_r _ [33, 34, 14, 59, 60, 61, 62, 63, 64, 65, 66, 67, 68, 69, 70, 71, 72, 73, 74, 75, 76] (by decide +kernel) (by decide +kernel)
set_option maxRecDepth 20000 in
theorem gX3_cut_X3_item : GoodIn wsX3_cut (wsV RX3 94 RX3 yX3_item wsX3_item) := goodIn_app (goodIn_of _ (by decide +kernel)) ggX3_cut_X3_item
set_option maxRecDepth 20000 in
theorem ggX3_cut_X3_become : GoodIn wsX3_cut wsX3_become := goodIn_r _ [48, 15, 25, 34, 14, 49, 50, 51, 5, 52, 53, 54, 55, 56, 57, 58, 20, 59, 60, 61, 62, 63, 64, 65, 66, 67, 68, 69, 70, 71, 72, 73, 74, 75, 76] (by decide +kernel) (by decide +kernel)
set_option maxRecDepth 20000 in
theorem gX3_cut_X3_become : GoodIn wsX3_cut (wsV RX3 115 RX3 yX3_become wsX3_become) := goodIn_app (goodIn_of _ (by decide +kernel)) ggX3_cut_X3_become
theorem dX3_cut_0 : decode cX3_cut 0 = .ok (.iload_n 1, 1) := by decide +kernel
theorem dX3_cut_1 : decode cX3_cut 1 = .ok (.invokestatic 112, 3) := by decide +kernel
theorem dX3_cut_4 : decode cX3_cut 4 = .ok (.ifCond .eq 10, 3) := by decide +kernel
theorem dX3_cut_7 : decode cX3_cut 7 = .ok (.iload_n 2, 1) := by decide +kernel
theorem dX3_cut_8 : decode cX3_cut 8 = .ok (.invokestatic 112, 3) := by decide +kernel
theorem dX3_cut_11 : decode cX3_cut 11 = .ok (.ifCond .ne 6, 3) := by decide +kernel
theorem dX3_cut_14 : decode cX3_cut 14 = .ok (.ldc 107, 2) := by decide +kernel
theorem dX3_cut_16 : decode cX3_cut 16 = .ok (.ireturn, 1) := by decide +kernel
theorem dX3_cut_17 : decode cX3_cut 17 = .ok (.aload_n 0, 1) := by decide +kernel
theorem dX3_cut_18 : decode cX3_cut 18 = .ok (.iload_n 2, 1) := by decide +kernel
theorem dX3_cut_19 : decode cX3_cut 19 = .ok (.invokevirtual 88, 3) := by decide +kernel
theorem dX3_cut_22 : decode cX3_cut 22 = .ok (.iconst (-1), 1) := by decide +kernel
theorem dX3_cut_23 : decode cX3_cut 23 = .ok (.if_icmp .ne 9, 3) := by decide +kernel
theorem dX3_cut_26 : decode cX3_cut 26 = .ok (.aload_n 0, 1) := by decide +kernel
theorem dX3_cut_27 : decode cX3_cut 27 = .ok (.iconst 1, 1) := by decide +kernel
theorem dX3_cut_28 : decode cX3_cut 28 = .ok (.invokevirtual 56, 3) := by decide +kernel
theorem dX3_cut_31 : decode cX3_cut 31 = .ok (.ireturn, 1) := by decide +kernel
theorem dX3_cut_32 : decode cX3_cut 32 = .ok (.iload 4, 2) := by decide +kernel
theorem dX3_cut_34 : decode cX3_cut 34 = .ok (.ifCond .ge 9, 3) := by decide +kernel
theorem dX3_cut_37 : decode cX3_cut 37 = .ok (.aload_n 0, 1) := by decide +kernel
theorem dX3_cut_38 : decode cX3_cut 38 = .ok (.iconst 4, 1) := by decide +kernel
theorem dX3_cut_39 : decode cX3_cut 39 = .ok (.invokevirtual 56, 3) := by decide +kernel
theorem dX3_cut_42 : decode cX3_cut 42 = .ok (.ireturn, 1) := by decide +kernel
theorem dX3_cut_43 : decode cX3_cut 43 = .ok (.iload_n 3, 1) := by decide +kernel
theorem dX3_cut_44 : decode cX3_cut 44 = .ok (.ifCond .lt 19, 3) := by decide +kernel
theorem dX3_cut_47 : decode cX3_cut 47 = .ok (.iload_n 3, 1) := by decide +kernel
theorem dX3_cut_48 : decode cX3_cut 48 = .ok (.i2l, 1) := by decide +kernel
theorem dX3_cut_49 : decode cX3_cut 49 = .ok (.iload 4, 2) := by decide +kernel
theorem dX3_cut_51 : decode cX3_cut 51 = .ok (.i2l, 1) := by decide +kernel
theorem dX3_cut_52 : decode cX3_cut 52 = .ok (.ladd, 1) := by decide +kernel
theorem dX3_cut_53 : decode cX3_cut 53 = .ok (.aload_n 0, 1) := by decide +kernel
theorem dX3_cut_54 : decode cX3_cut 54 = .ok (.iload_n 2, 1) := by decide +kernel
theorem dX3_cut_55 : decode cX3_cut 55 = .ok (.invokevirtual 91, 3) := by decide +kernel
theorem dX3_cut_58 : decode cX3_cut 58 = .ok (.i2l, 1) := by decide +kernel
theorem dX3_cut_59 : decode cX3_cut 59 = .ok (.lcmp, 1) := by decide +kernel
theorem dX3_cut_60 : decode cX3_cut 60 = .ok (.ifCond .le 9, 3) := by decide +kernel
theorem dX3_cut_63 : decode cX3_cut 63 = .ok (.aload_n 0, 1) := by decide +kernel
theorem dX3_cut_64 : decode cX3_cut 64 = .ok (.iconst 3, 1) := by decide +kernel
theorem dX3_cut_65 : decode cX3_cut 65 = .ok (.invokevirtual 56, 3) := by decide +kernel
theorem dX3_cut_68 : decode cX3_cut 68 = .ok (.ireturn, 1) := by decide +kernel
theorem dX3_cut_69 : decode cX3_cut 69 = .ok (.iload 4, 2) := by decide +kernel
theorem dX3_cut_71 : decode cX3_cut 71 = .ok (.ifCond .le 31, 3) := by decide +kernel
theorem dX3_cut_74 : decode cX3_cut 74 = .ok (.aload_n 0, 1) := by decide +kernel
theorem dX3_cut_75 : decode cX3_cut 75 = .ok (.iload_n 2, 1) := by decide +kernel
theorem dX3_cut_76 : decode cX3_cut 76 = .ok (.iload_n 3, 1) := by decide +kernel
theorem dX3_cut_77 : decode cX3_cut 77 = .ok (.invokevirtual 145, 3) := by decide +kernel
theorem dX3_cut_80 : decode cX3_cut 80 = .ok (.ifCond .ne 15, 3) := by decide +kernel
theorem dX3_cut_83 : decode cX3_cut 83 = .ok (.aload_n 0, 1) := by decide +kernel
theorem dX3_cut_84 : decode cX3_cut 84 = .ok (.iload_n 2, 1) := by decide +kernel
theorem dX3_cut_85 : decode cX3_cut 85 = .ok (.iload_n 3, 1) := by decide +kernel
theorem dX3_cut_86 : decode cX3_cut 86 = .ok (.iload 4, 2) := by decide +kernel
theorem dX3_cut_88 : decode cX3_cut 88 = .ok (.iadd, 1) := by decide +kernel
theorem dX3_cut_89 : decode cX3_cut 89 = .ok (.invokevirtual 145, 3) := by decide +kernel
theorem dX3_cut_92 : decode cX3_cut 92 = .ok (.ifCond .eq 10, 3) := by decide +kernel
theorem dX3_cut_95 : decode cX3_cut 95 = .ok (.aload_n 0, 1) := by decide +kernel
theorem dX3_cut_96 : decode cX3_cut 96 = .ok (.bipush 7, 2) := by decide +kernel
theorem dX3_cut_98 : decode cX3_cut 98 = .ok (.invokevirtual 56, 3) := by decide +kernel
theorem dX3_cut_101 : decode cX3_cut 101 = .ok (.ireturn, 1) := by decide +kernel
theorem dX3_cut_102 : decode cX3_cut 102 = .ok (.iconst 0, 1) := by decide +kernel
theorem dX3_cut_103 : decode cX3_cut 103 = .ok (.istore 5, 2) := by decide +kernel
theorem dX3_cut_105 : decode cX3_cut 105 = .ok (.iload 5, 2) := by decide +kernel
theorem dX3_cut_107 : decode cX3_cut 107 = .ok (.iload 4, 2) := by decide +kernel
theorem dX3_cut_109 : decode cX3_cut 109 = .ok (.if_icmp .ge 25, 3) := by decide +kernel
theorem dX3_cut_112 : decode cX3_cut 112 = .ok (.aload_n 0, 1) := by decide +kernel
theorem dX3_cut_113 : decode cX3_cut 113 = .ok (.getfield 38, 3) := by decide +kernel
theorem dX3_cut_116 : decode cX3_cut 116 = .ok (.iload 5, 2) := by decide +kernel
theorem dX3_cut_118 : decode cX3_cut 118 = .ok (.aload_n 0, 1) := by decide +kernel
theorem dX3_cut_119 : decode cX3_cut 119 = .ok (.iload_n 2, 1) := by decide +kernel
theorem dX3_cut_120 : decode cX3_cut 120 = .ok (.iload_n 3, 1) := by decide +kernel
theorem dX3_cut_121 : decode cX3_cut 121 = .ok (.iload 5, 2) := by decide +kernel
theorem dX3_cut_123 : decode cX3_cut 123 = .ok (.iadd, 1) := by decide +kernel
theorem dX3_cut_124 : decode cX3_cut 124 = .ok (.invokevirtual 94, 3) := by decide +kernel
theorem dX3_cut_127 : decode cX3_cut 127 = .ok (.iastore, 1) := by decide +kernel
theorem dX3_cut_128 : decode cX3_cut 128 = .ok (.iinc 5 1, 3) := by decide +kernel
theorem dX3_cut_131 : decode cX3_cut 131 = .ok (.goto (-26), 3) := by decide +kernel
theorem dX3_cut_134 : decode cX3_cut 134 = .ok (.aload_n 0, 1) := by decide +kernel
theorem dX3_cut_135 : decode cX3_cut 135 = .ok (.iload_n 1, 1) := by decide +kernel
theorem dX3_cut_136 : decode cX3_cut 136 = .ok (.aload_n 0, 1) := by decide +kernel
theorem dX3_cut_137 : decode cX3_cut 137 = .ok (.iload_n 2, 1) := by decide +kernel
theorem dX3_cut_138 : decode cX3_cut 138 = .ok (.invokevirtual 88, 3) := by decide +kernel
theorem dX3_cut_141 : decode cX3_cut 141 = .ok (.aload_n 0, 1) := by decide +kernel
theorem dX3_cut_142 : decode cX3_cut 142 = .ok (.getfield 38, 3) := by decide +kernel
theorem dX3_cut_145 : decode cX3_cut 145 = .ok (.iload 4, 2) := by decide +kernel
theorem dX3_cut_147 : decode cX3_cut 147 = .ok (.invokevirtual 115, 3) := by decide +kernel
theorem dX3_cut_150 : decode cX3_cut 150 = .ok (.ireturn, 1) := by decide +kernel
set_option maxRecDepth 20000 in
theorem ggX3_join_X3_isText : GoodIn wsX3_join wsX3_isText := goodIn_r _ [6, 7, 8, 5, 9] (by decide +kernel) (by decide +kernel)
set_option maxRecDepth 20000 in
theorem gX3_join_X3_isText : GoodIn wsX3_join (va_wsS RX3 112 yX3_isText wsX3_isText) := goodIn_app (goodIn_of _ (by decide +kernel)) ggX3_join_X3_isText
set_option maxRecDepth 20000 in
theorem ggX3_join_X3_sortOf : GoodIn wsX3_join wsX3_sortOf := goodIn_r _ [13, 14, 15, 45, 46, 47, 48, 49, 50, 51, 52, 53, 54, 55, 56, 57, 58, 59, 60, 61, 62] (by decide +kernel) (by decide +kernel)
set_option maxRecDepth 20000 in
theorem gX3_join_X3_sortOf : GoodIn wsX3_join (wsV RX3 88 RX3 yX3_sortOf wsX3_sortOf) := goodIn_app (goodIn_of _ (by decide +kernel)) ggX3_join_X3_sortOf
set_option maxRecDepth 20000 in
theorem ggX3_join_X3_no : GoodIn wsX3_join wsX3_no := goodIn_r _ [19, 20, 45, 46, 47, 48, 49, 50, 51, 52, 53, 54, 55, 56, 57, 58, 59, 60, 61, 62] (by decide +kernel) (by decide +kernel)
set_option maxRecDepth 20000 in
theorem gX3_join_X3_no : GoodIn wsX3_join (wsV RX3 56 RX3 yX3_no wsX3_no) := goodIn_app (goodIn_of _ (by decide +kernel)) ggX3_join_X3_no
set_option maxRecDepth 20000 in
theorem ggX3_join_X3_manyOf : GoodIn wsX3_join wsX3_manyOf := goodIn_r _ [24, 25, 14, 45, 46, 47, 48, 49, 50, 51, 52, 53, 54, 55, 56, 57, 58, 59, 60, 61, 62] (by decide +kernel) (by decide +kernel)
set_option maxRecDepth 20000 in
theorem gX3_join_X3_manyOf : GoodIn wsX3_join (wsV RX3 91 RX3 yX3_manyOf wsX3_manyOf) := goodIn_app (goodIn_of _ (by decide +kernel)) ggX3_join_X3_manyOf
set_option maxRecDepth 20000 in
theorem ggX3_join_X3_item : GoodIn wsX3_join wsX3_item := goodIn_r _ [29, 30, 14, 45, 46, 47, 48, 49, 50, 51, 52, 53, 54, 55, 56, 57, 58, 59, 60, 61, 62] (by decide +kernel) (by decide +kernel)
set_option maxRecDepth 20000 in
theorem gX3_join_X3_item : GoodIn wsX3_join (wsV RX3 94 RX3 yX3_item wsX3_item) := goodIn_app (goodIn_of _ (by decide +kernel)) ggX3_join_X3_item
set_option maxRecDepth 20000 in
theorem ggX3_join_X3_become : GoodIn wsX3_join wsX3_become := goodIn_r _ [34, 15, 25, 30, 14, 35, 36, 37, 5, 38, 39, 40, 41, 42, 43, 44, 20, 45, 46, 47, 48, 49, 50, 51, 52, 53, 54, 55, 56, 57, 58, 59, 60, 61, 62] (by decide +kernel) (by decide +kernel)
set_option maxRecDepth 20000 in
theorem gX3_join_X3_become : GoodIn wsX3_join (wsV RX3 115 RX3 yX3_become wsX3_become) := goodIn_app (goodIn_of _ (by decide +kernel)) ggX3_join_X3_become
theorem dX3_join_0 : decode cX3_join 0 = .ok (.iload_n 1, 1) := by decide +kernel
theorem dX3_join_1 : decode cX3_join 1 = .ok (.invokestatic 112, 3) := by decide +kernel
theorem dX3_join_4 : decode cX3_join 4 = .ok (.ifCond .eq 17, 3) := by decide +kernel
theorem dX3_join_7 : decode cX3_join 7 = .ok (.iload_n 2, 1) := by decide +kernel
theorem dX3_join_8 : decode cX3_join 8 = .ok (.invokestatic 112, 3) := by decide +kernel
theorem dX3_join_11 : decode cX3_join 11 = .ok (.ifCond .eq 10, 3) := by decide +kernel
theorem dX3_join_14 : decode cX3_join 14 = .ok (.iload_n 3, 1) := by decide +kernel
theorem dX3_join_15 : decode cX3_join 15 = .ok (.invokestatic 112, 3) := by decide +kernel
theorem dX3_join_18 : decode cX3_join 18 = .ok (.ifCond .ne 6, 3) := by decide +kernel
theorem dX3_join_21 : decode cX3_join 21 = .ok (.ldc 107, 2) := by decide +kernel
theorem dX3_join_23 : decode cX3_join 23 = .ok (.ireturn, 1) := by decide +kernel
theorem dX3_join_24 : decode cX3_join 24 = .ok (.aload_n 0, 1) := by decide +kernel
theorem dX3_join_25 : decode cX3_join 25 = .ok (.iload_n 2, 1) := by decide +kernel
theorem dX3_join_26 : decode cX3_join 26 = .ok (.invokevirtual 88, 3) := by decide +kernel
theorem dX3_join_29 : decode cX3_join 29 = .ok (.iconst (-1), 1) := by decide +kernel
theorem dX3_join_30 : decode cX3_join 30 = .ok (.if_icmp .eq 12, 3) := by decide +kernel
theorem dX3_join_33 : decode cX3_join 33 = .ok (.aload_n 0, 1) := by decide +kernel
theorem dX3_join_34 : decode cX3_join 34 = .ok (.iload_n 3, 1) := by decide +kernel
theorem dX3_join_35 : decode cX3_join 35 = .ok (.invokevirtual 88, 3) := by decide +kernel
theorem dX3_join_38 : decode cX3_join 38 = .ok (.iconst (-1), 1) := by decide +kernel
theorem dX3_join_39 : decode cX3_join 39 = .ok (.if_icmp .ne 9, 3) := by decide +kernel
theorem dX3_join_42 : decode cX3_join 42 = .ok (.aload_n 0, 1) := by decide +kernel
theorem dX3_join_43 : decode cX3_join 43 = .ok (.iconst 1, 1) := by decide +kernel
theorem dX3_join_44 : decode cX3_join 44 = .ok (.invokevirtual 56, 3) := by decide +kernel
theorem dX3_join_47 : decode cX3_join 47 = .ok (.ireturn, 1) := by decide +kernel
theorem dX3_join_48 : decode cX3_join 48 = .ok (.aload_n 0, 1) := by decide +kernel
theorem dX3_join_49 : decode cX3_join 49 = .ok (.iload_n 2, 1) := by decide +kernel
theorem dX3_join_50 : decode cX3_join 50 = .ok (.invokevirtual 88, 3) := by decide +kernel
theorem dX3_join_53 : decode cX3_join 53 = .ok (.aload_n 0, 1) := by decide +kernel
theorem dX3_join_54 : decode cX3_join 54 = .ok (.iload_n 3, 1) := by decide +kernel
theorem dX3_join_55 : decode cX3_join 55 = .ok (.invokevirtual 88, 3) := by decide +kernel
theorem dX3_join_58 : decode cX3_join 58 = .ok (.if_icmp .eq 9, 3) := by decide +kernel
theorem dX3_join_61 : decode cX3_join 61 = .ok (.aload_n 0, 1) := by decide +kernel
theorem dX3_join_62 : decode cX3_join 62 = .ok (.iconst 2, 1) := by decide +kernel
theorem dX3_join_63 : decode cX3_join 63 = .ok (.invokevirtual 56, 3) := by decide +kernel
theorem dX3_join_66 : decode cX3_join 66 = .ok (.ireturn, 1) := by decide +kernel
theorem dX3_join_67 : decode cX3_join 67 = .ok (.aload_n 0, 1) := by decide +kernel
theorem dX3_join_68 : decode cX3_join 68 = .ok (.iload_n 2, 1) := by decide +kernel
theorem dX3_join_69 : decode cX3_join 69 = .ok (.invokevirtual 91, 3) := by decide +kernel
theorem dX3_join_72 : decode cX3_join 72 = .ok (.istore 4, 2) := by decide +kernel
theorem dX3_join_74 : decode cX3_join 74 = .ok (.aload_n 0, 1) := by decide +kernel
theorem dX3_join_75 : decode cX3_join 75 = .ok (.iload_n 3, 1) := by decide +kernel
theorem dX3_join_76 : decode cX3_join 76 = .ok (.invokevirtual 91, 3) := by decide +kernel
theorem dX3_join_79 : decode cX3_join 79 = .ok (.istore 5, 2) := by decide +kernel
theorem dX3_join_81 : decode cX3_join 81 = .ok (.iload 4, 2) := by decide +kernel
theorem dX3_join_83 : decode cX3_join 83 = .ok (.iload 5, 2) := by decide +kernel
theorem dX3_join_85 : decode cX3_join 85 = .ok (.iadd, 1) := by decide +kernel
theorem dX3_join_86 : decode cX3_join 86 = .ok (.aload_n 0, 1) := by decide +kernel
theorem dX3_join_87 : decode cX3_join 87 = .ok (.iload_n 2, 1) := by decide +kernel
theorem dX3_join_88 : decode cX3_join 88 = .ok (.invokevirtual 88, 3) := by decide +kernel
theorem dX3_join_91 : decode cX3_join 91 = .ok (.iconst 2, 1) := by decide +kernel
theorem dX3_join_92 : decode cX3_join 92 = .ok (.if_icmp .ne 9, 3) := by decide +kernel
theorem dX3_join_95 : decode cX3_join 95 = .ok (.sipush 240, 3) := by decide +kernel
theorem dX3_join_98 : decode cX3_join 98 = .ok (.goto 5, 3) := by decide +kernel
theorem dX3_join_101 : decode cX3_join 101 = .ok (.bipush 60, 2) := by decide +kernel
theorem dX3_join_103 : decode cX3_join 103 = .ok (.if_icmp .le 10, 3) := by decide +kernel
theorem dX3_join_106 : decode cX3_join 106 = .ok (.aload_n 0, 1) := by decide +kernel
theorem dX3_join_107 : decode cX3_join 107 = .ok (.bipush 6, 2) := by decide +kernel
theorem dX3_join_109 : decode cX3_join 109 = .ok (.invokevirtual 56, 3) := by decide +kernel
theorem dX3_join_112 : decode cX3_join 112 = .ok (.ireturn, 1) := by decide +kernel
theorem dX3_join_113 : decode cX3_join 113 = .ok (.iconst 0, 1) := by decide +kernel
theorem dX3_join_114 : decode cX3_join 114 = .ok (.istore 6, 2) := by decide +kernel
theorem dX3_join_116 : decode cX3_join 116 = .ok (.iload 6, 2) := by decide +kernel
theorem dX3_join_118 : decode cX3_join 118 = .ok (.iload 4, 2) := by decide +kernel
theorem dX3_join_120 : decode cX3_join 120 = .ok (.iload 5, 2) := by decide +kernel
theorem dX3_join_122 : decode cX3_join 122 = .ok (.iadd, 1) := by decide +kernel
theorem dX3_join_123 : decode cX3_join 123 = .ok (.if_icmp .ge 43, 3) := by decide +kernel
theorem dX3_join_126 : decode cX3_join 126 = .ok (.aload_n 0, 1) := by decide +kernel
theorem dX3_join_127 : decode cX3_join 127 = .ok (.getfield 38, 3) := by decide +kernel
theorem dX3_join_130 : decode cX3_join 130 = .ok (.iload 6, 2) := by decide +kernel
theorem dX3_join_132 : decode cX3_join 132 = .ok (.iload 6, 2) := by decide +kernel
theorem dX3_join_134 : decode cX3_join 134 = .ok (.iload 4, 2) := by decide +kernel
theorem dX3_join_136 : decode cX3_join 136 = .ok (.if_icmp .ge 13, 3) := by decide +kernel
theorem dX3_join_139 : decode cX3_join 139 = .ok (.aload_n 0, 1) := by decide +kernel
theorem dX3_join_140 : decode cX3_join 140 = .ok (.iload_n 2, 1) := by decide +kernel
theorem dX3_join_141 : decode cX3_join 141 = .ok (.iload 6, 2) := by decide +kernel
theorem dX3_join_143 : decode cX3_join 143 = .ok (.invokevirtual 94, 3) := by decide +kernel
theorem dX3_join_146 : decode cX3_join 146 = .ok (.goto 13, 3) := by decide +kernel
theorem dX3_join_149 : decode cX3_join 149 = .ok (.aload_n 0, 1) := by decide +kernel
theorem dX3_join_150 : decode cX3_join 150 = .ok (.iload_n 3, 1) := by decide +kernel
theorem dX3_join_151 : decode cX3_join 151 = .ok (.iload 6, 2) := by decide +kernel
theorem dX3_join_153 : decode cX3_join 153 = .ok (.iload 4, 2) := by decide +kernel
theorem dX3_join_155 : decode cX3_join 155 = .ok (.isub, 1) := by decide +kernel
theorem dX3_join_156 : decode cX3_join 156 = .ok (.invokevirtual 94, 3) := by decide +kernel
theorem dX3_join_159 : decode cX3_join 159 = .ok (.iastore, 1) := by decide +kernel
theorem dX3_join_160 : decode cX3_join 160 = .ok (.iinc 6 1, 3) := by decide +kernel
theorem dX3_join_163 : decode cX3_join 163 = .ok (.goto (-47), 3) := by decide +kernel
theorem dX3_join_166 : decode cX3_join 166 = .ok (.aload_n 0, 1) := by decide +kernel
theorem dX3_join_167 : decode cX3_join 167 = .ok (.iload_n 1, 1) := by decide +kernel
theorem dX3_join_168 : decode cX3_join 168 = .ok (.aload_n 0, 1) := by decide +kernel
theorem dX3_join_169 : decode cX3_join 169 = .ok (.iload_n 2, 1) := by decide +kernel
theorem dX3_join_170 : decode cX3_join 170 = .ok (.invokevirtual 88, 3) := by decide +kernel
theorem dX3_join_173 : decode cX3_join 173 = .ok (.aload_n 0, 1) := by decide +kernel
theorem dX3_join_174 : decode cX3_join 174 = .ok (.getfield 38, 3) := by decide +kernel
theorem dX3_join_177 : decode cX3_join 177 = .ok (.iload 4, 2) := by decide +kernel
theorem dX3_join_179 : decode cX3_join 179 = .ok (.iload 5, 2) := by decide +kernel
theorem dX3_join_181 : decode cX3_join 181 = .ok (.iadd, 1) := by decide +kernel
theorem dX3_join_182 : decode cX3_join 182 = .ok (.invokevirtual 115, 3) := by decide +kernel
theorem dX3_join_185 : decode cX3_join 185 = .ok (.ireturn, 1) := by decide +kernel
set_option maxRecDepth 20000 in
theorem ggX3_back_X3_isText : GoodIn wsX3_back wsX3_isText := goodIn_r _ [6, 7, 8, 5, 9] (by decide +kernel) (by decide +kernel)
set_option maxRecDepth 20000 in
theorem gX3_back_X3_isText : GoodIn wsX3_back (va_wsS RX3 112 yX3_isText wsX3_isText) := goodIn_app (goodIn_of _ (by decide +kernel)) ggX3_back_X3_isText
set_option maxRecDepth 20000 in
theorem ggX3_back_X3_sortOf : GoodIn wsX3_back wsX3_sortOf := goodIn_r _ [13, 14, 15, 59, 60, 61, 62, 63, 64, 65, 66, 67, 68, 69, 70, 71, 72, 73, 74, 75, 76] (by decide +kernel) (by decide +kernel)
set_option maxRecDepth 20000 in
theorem gX3_back_X3_sortOf : GoodIn wsX3_back (wsV RX3 88 RX3 yX3_sortOf wsX3_sortOf) := goodIn_app (goodIn_of _ (by decide +kernel)) ggX3_back_X3_sortOf
set_option maxRecDepth 20000 in
theorem ggX3_back_X3_no : GoodIn wsX3_back wsX3_no := goodIn_r _ [19, 20, 59, 60, 61, 62, 63, 64, 65, 66, 67, 68, 69, 70, 71, 72, 73, 74, 75, 76] (by decide +kernel) (by decide +kernel)
set_option maxRecDepth 20000 in
theorem gX3_back_X3_no : GoodIn wsX3_back (wsV RX3 56 RX3 yX3_no wsX3_no) := goodIn_app (goodIn_of _ (by decide +kernel)) ggX3_back_X3_no
set_option maxRecDepth 20000 in
theorem ggX3_back_X3_manyOf : GoodIn wsX3_back wsX3_manyOf := goodIn_r _ [24, 25, 14, 59, 60, 61, 62, 63, 64, 65, 66, 67, 68, 69, 70, 71, 72, 73, 74, 75, 76] (by decide +kernel) (by decide +kernel)
set_option maxRecDepth 20000 in
theorem gX3_back_X3_manyOf : GoodIn wsX3_back (wsV RX3 91 RX3 yX3_manyOf wsX3_manyOf) := goodIn_app (goodIn_of _ (by decide +kernel)) ggX3_back_X3_manyOf
set_option maxRecDepth 20000 in
theorem ggX3_back_X3_item : GoodIn wsX3_back wsX3_item := goodIn_r _ [29, 30, 14, 59, 60, 61, 62, 63, 64, 65, 66, 67, 68, 69, 70, 71, 72, 73, 74, 75, 76] (by decide +kernel) (by decide +kernel)
set_option maxRecDepth 20000 in
theorem gX3_back_X3_item : GoodIn wsX3_back (wsV RX3 94 RX3 yX3_item wsX3_item) := goodIn_app (goodIn_of _ (by decide +kernel)) ggX3_back_X3_item
set_option maxRecDepth 20000 in
theorem ggX3_back_X3_parts : GoodIn wsX3_back wsX3_parts := goodIn_r _ [34, 10, 11, 12, 5, 13, 14, 15, 21, 22, 23, 24, 25, 26, 27, 28, 29, 30, 35, 36, 37, 38, 39, 7, 8, 9, 40, 41, 42, 43, 44, 59, 60, 61, 62, 63, 64, 65, 66, 67, 68, 69, 70, 71, 72, 73, 74, 75, 76] (by decide +kernel) (by decide +kernel)
set_option maxRecDepth 20000 in
theorem gX3_back_X3_parts : GoodIn wsX3_back (wsV RX3 145 RX3 yX3_parts wsX3_parts) := goodIn_app (goodIn_of _ (by decide +kernel)) ggX3_back_X3_parts
set_option maxRecDepth 20000 in
theorem ggX3_back_X3_become : GoodIn wsX3_back wsX3_become := goodIn_r _ [48, 15, 25, 30, 14, 49, 50, 51, 5, 52, 53, 54, 55, 56, 57, 58, 20, 59, 60, 61, 62, 63, 64, 65, 66, 67, 68, 69, 70, 71, 72, 73, 74, 75, 76] (by decide +kernel) (by decide +kernel)
set_option maxRecDepth 20000 in
theorem gX3_back_X3_become : GoodIn wsX3_back (wsV RX3 115 RX3 yX3_become wsX3_become) := goodIn_app (goodIn_of _ (by decide +kernel)) ggX3_back_X3_become
theorem dX3_back_0 : decode cX3_back 0 = .ok (.iload_n 1, 1) := by decide +kernel
theorem dX3_back_1 : decode cX3_back 1 = .ok (.invokestatic 112, 3) := by decide +kernel
theorem dX3_back_4 : decode cX3_back 4 = .ok (.ifCond .eq 10, 3) := by decide +kernel
theorem dX3_back_7 : decode cX3_back 7 = .ok (.iload_n 2, 1) := by decide +kernel
theorem dX3_back_8 : decode cX3_back 8 = .ok (.invokestatic 112, 3) := by decide +kernel
theorem dX3_back_11 : decode cX3_back 11 = .ok (.ifCond .ne 6, 3) := by decide +kernel
theorem dX3_back_14 : decode cX3_back 14 = .ok (.ldc 107, 2) := by decide +kernel
theorem dX3_back_16 : decode cX3_back 16 = .ok (.ireturn, 1) := by decide +kernel
theorem dX3_back_17 : decode cX3_back 17 = .ok (.aload_n 0, 1) := by decide +kernel
theorem dX3_back_18 : decode cX3_back 18 = .ok (.iload_n 2, 1) := by decide +kernel
theorem dX3_back_19 : decode cX3_back 19 = .ok (.invokevirtual 88, 3) := by decide +kernel
theorem dX3_back_22 : decode cX3_back 22 = .ok (.istore_n 3, 1) := by decide +kernel
theorem dX3_back_23 : decode cX3_back 23 = .ok (.iload_n 3, 1) := by decide +kernel
theorem dX3_back_24 : decode cX3_back 24 = .ok (.iconst (-1), 1) := by decide +kernel
theorem dX3_back_25 : decode cX3_back 25 = .ok (.if_icmp .ne 9, 3) := by decide +kernel
theorem dX3_back_28 : decode cX3_back 28 = .ok (.aload_n 0, 1) := by decide +kernel
theorem dX3_back_29 : decode cX3_back 29 = .ok (.iconst 1, 1) := by decide +kernel
theorem dX3_back_30 : decode cX3_back 30 = .ok (.invokevirtual 56, 3) := by decide +kernel
theorem dX3_back_33 : decode cX3_back 33 = .ok (.ireturn, 1) := by decide +kernel
theorem dX3_back_34 : decode cX3_back 34 = .ok (.aload_n 0, 1) := by decide +kernel
theorem dX3_back_35 : decode cX3_back 35 = .ok (.iload_n 2, 1) := by decide +kernel
theorem dX3_back_36 : decode cX3_back 36 = .ok (.invokevirtual 91, 3) := by decide +kernel
theorem dX3_back_39 : decode cX3_back 39 = .ok (.istore 4, 2) := by decide +kernel
theorem dX3_back_41 : decode cX3_back 41 = .ok (.iconst 0, 1) := by decide +kernel
theorem dX3_back_42 : decode cX3_back 42 = .ok (.istore 5, 2) := by decide +kernel
theorem dX3_back_44 : decode cX3_back 44 = .ok (.iload 5, 2) := by decide +kernel
theorem dX3_back_46 : decode cX3_back 46 = .ok (.iload 4, 2) := by decide +kernel
theorem dX3_back_48 : decode cX3_back 48 = .ok (.if_icmp .ge 28, 3) := by decide +kernel
theorem dX3_back_51 : decode cX3_back 51 = .ok (.aload_n 0, 1) := by decide +kernel
theorem dX3_back_52 : decode cX3_back 52 = .ok (.getfield 38, 3) := by decide +kernel
theorem dX3_back_55 : decode cX3_back 55 = .ok (.iload 5, 2) := by decide +kernel
theorem dX3_back_57 : decode cX3_back 57 = .ok (.aload_n 0, 1) := by decide +kernel
theorem dX3_back_58 : decode cX3_back 58 = .ok (.iload_n 2, 1) := by decide +kernel
theorem dX3_back_59 : decode cX3_back 59 = .ok (.iload 4, 2) := by decide +kernel
theorem dX3_back_61 : decode cX3_back 61 = .ok (.iconst 1, 1) := by decide +kernel
theorem dX3_back_62 : decode cX3_back 62 = .ok (.isub, 1) := by decide +kernel
theorem dX3_back_63 : decode cX3_back 63 = .ok (.iload 5, 2) := by decide +kernel
theorem dX3_back_65 : decode cX3_back 65 = .ok (.isub, 1) := by decide +kernel
theorem dX3_back_66 : decode cX3_back 66 = .ok (.invokevirtual 94, 3) := by decide +kernel
theorem dX3_back_69 : decode cX3_back 69 = .ok (.iastore, 1) := by decide +kernel
theorem dX3_back_70 : decode cX3_back 70 = .ok (.iinc 5 1, 3) := by decide +kernel
