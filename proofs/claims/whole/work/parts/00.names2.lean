set_option maxRecDepth 20000 in
theorem ggX2_cut_X2_isBeyond : GoodIn wsX2_cut wsX2_isBeyond := goodIn_r _ [17, 4, 93, 94] (by decide +kernel) (by decide +kernel)
set_option maxRecDepth 20000 in
theorem gX2_cut_X2_isBeyond : GoodIn wsX2_cut (va_wsS RX2 128 yX2_isBeyond wsX2_isBeyond) := goodIn_app (goodIn_of _ (by decide +kernel)) ggX2_cut_X2_isBeyond
set_option maxRecDepth 20000 in
theorem ggX2_cut_X2_partsPair : GoodIn wsX2_cut wsX2_partsPair := goodIn_r _ [20, 5, 4, 21, 22, 8, 23, 24, 25, 26, 27, 28, 29, 30, 31, 32, 93, 94] (by decide +kernel) (by decide +kernel)
set_option maxRecDepth 20000 in
theorem gX2_cut_X2_partsPair : GoodIn wsX2_cut (va_wsS RX2 132 yX2_partsPair wsX2_partsPair) := goodIn_app (goodIn_of _ (by decide +kernel)) ggX2_cut_X2_partsPair
set_option maxRecDepth 20000 in
theorem ggX2_cut_X0_empty : GoodIn wsX2_cut wsX0_empty := goodIn_r _ [37, 38, 95, 96] (by decide +kernel) (by decide +kernel)
set_option maxRecDepth 20000 in
theorem gX2_cut_X0_empty : GoodIn wsX2_cut (wsV RX2 68 RX0 yX0_empty wsX0_empty) := goodIn_app (goodIn_of _ (by decide +kernel)) ggX2_cut_X0_empty
set_option maxRecDepth 20000 in
theorem ggX2_cut_X0_add : GoodIn wsX2_cut wsX0_add := goodIn_r _ [42, 38, 43, 95, 96] (by decide +kernel) (by decide +kernel)
set_option maxRecDepth 20000 in
theorem gX2_cut_X0_add : GoodIn wsX2_cut (wsV RX2 65 RX0 yX0_add wsX0_add) := goodIn_app (goodIn_of _ (by decide +kernel)) ggX2_cut_X0_add
set_option maxRecDepth 20000 in
theorem ggX2_cut_X2_setText : GoodIn wsX2_cut wsX2_setText := goodIn_r _ [47, 2, 48, 49, 50, 51, 52, 53, 54, 55, 56, 57, 58, 59, 60, 61, 62, 63, 64, 65, 66, 67, 68, 69, 70, 71, 72, 73, 74, 75, 76, 77, 78, 79, 80, 81, 82, 83, 8, 84, 14, 85, 86, 87, 88, 89, 90, 91, 92, 93, 94, 95, 96] (by decide +kernel) (by decide +kernel)
set_option maxRecDepth 20000 in
theorem gX2_cut_X2_setText : GoodIn wsX2_cut (wsV RX2 85 RX2 yX2_setText wsX2_setText) := goodIn_app (goodIn_of _ (by decide +kernel)) ggX2_cut_X2_setText
theorem dX2_cut_0 : decode cX2_cut 0 = .ok (.iload_n 1, 1) := by decide +kernel
theorem dX2_cut_1 : decode cX2_cut 1 = .ok (.invokestatic 71, 3) := by decide +kernel
theorem dX2_cut_4 : decode cX2_cut 4 = .ok (.ifCond .ne 10, 3) := by decide +kernel
theorem dX2_cut_7 : decode cX2_cut 7 = .ok (.iload_n 2, 1) := by decide +kernel
theorem dX2_cut_8 : decode cX2_cut 8 = .ok (.invokestatic 71, 3) := by decide +kernel
theorem dX2_cut_11 : decode cX2_cut 11 = .ok (.ifCond .eq 6, 3) := by decide +kernel
theorem dX2_cut_14 : decode cX2_cut 14 = .ok (.ldc 47, 2) := by decide +kernel
theorem dX2_cut_16 : decode cX2_cut 16 = .ok (.ireturn, 1) := by decide +kernel
theorem dX2_cut_17 : decode cX2_cut 17 = .ok (.aload_n 0, 1) := by decide +kernel
theorem dX2_cut_18 : decode cX2_cut 18 = .ok (.getfield 11, 3) := by decide +kernel
theorem dX2_cut_21 : decode cX2_cut 21 = .ok (.iload_n 2, 1) := by decide +kernel
theorem dX2_cut_22 : decode cX2_cut 22 = .ok (.aaload, 1) := by decide +kernel
theorem dX2_cut_23 : decode cX2_cut 23 = .ok (.astore 5, 2) := by decide +kernel
theorem dX2_cut_25 : decode cX2_cut 25 = .ok (.aload 5, 2) := by decide +kernel
theorem dX2_cut_27 : decode cX2_cut 27 = .ok (.ifnonnull 9, 3) := by decide +kernel
theorem dX2_cut_30 : decode cX2_cut 30 = .ok (.aload_n 0, 1) := by decide +kernel
theorem dX2_cut_31 : decode cX2_cut 31 = .ok (.iconst 1, 1) := by decide +kernel
theorem dX2_cut_32 : decode cX2_cut 32 = .ok (.invokevirtual 55, 3) := by decide +kernel
theorem dX2_cut_35 : decode cX2_cut 35 = .ok (.ireturn, 1) := by decide +kernel
theorem dX2_cut_36 : decode cX2_cut 36 = .ok (.iload 4, 2) := by decide +kernel
theorem dX2_cut_38 : decode cX2_cut 38 = .ok (.ifCond .ge 9, 3) := by decide +kernel
theorem dX2_cut_41 : decode cX2_cut 41 = .ok (.aload_n 0, 1) := by decide +kernel
theorem dX2_cut_42 : decode cX2_cut 42 = .ok (.iconst 4, 1) := by decide +kernel
theorem dX2_cut_43 : decode cX2_cut 43 = .ok (.invokevirtual 55, 3) := by decide +kernel
theorem dX2_cut_46 : decode cX2_cut 46 = .ok (.ireturn, 1) := by decide +kernel
theorem dX2_cut_47 : decode cX2_cut 47 = .ok (.aload 5, 2) := by decide +kernel
theorem dX2_cut_49 : decode cX2_cut 49 = .ok (.iload_n 3, 1) := by decide +kernel
theorem dX2_cut_50 : decode cX2_cut 50 = .ok (.iload 4, 2) := by decide +kernel
theorem dX2_cut_52 : decode cX2_cut 52 = .ok (.invokestatic 128, 3) := by decide +kernel
theorem dX2_cut_55 : decode cX2_cut 55 = .ok (.ifCond .eq 9, 3) := by decide +kernel
theorem dX2_cut_58 : decode cX2_cut 58 = .ok (.aload_n 0, 1) := by decide +kernel
theorem dX2_cut_59 : decode cX2_cut 59 = .ok (.iconst 3, 1) := by decide +kernel
theorem dX2_cut_60 : decode cX2_cut 60 = .ok (.invokevirtual 55, 3) := by decide +kernel
theorem dX2_cut_63 : decode cX2_cut 63 = .ok (.ireturn, 1) := by decide +kernel
theorem dX2_cut_64 : decode cX2_cut 64 = .ok (.iload 4, 2) := by decide +kernel
theorem dX2_cut_66 : decode cX2_cut 66 = .ok (.ifCond .le 31, 3) := by decide +kernel
theorem dX2_cut_69 : decode cX2_cut 69 = .ok (.aload 5, 2) := by decide +kernel
theorem dX2_cut_71 : decode cX2_cut 71 = .ok (.iload_n 3, 1) := by decide +kernel
theorem dX2_cut_72 : decode cX2_cut 72 = .ok (.invokestatic 132, 3) := by decide +kernel
theorem dX2_cut_75 : decode cX2_cut 75 = .ok (.ifCond .ne 15, 3) := by decide +kernel
theorem dX2_cut_78 : decode cX2_cut 78 = .ok (.aload 5, 2) := by decide +kernel
theorem dX2_cut_80 : decode cX2_cut 80 = .ok (.iload_n 3, 1) := by decide +kernel
theorem dX2_cut_81 : decode cX2_cut 81 = .ok (.iload 4, 2) := by decide +kernel
theorem dX2_cut_83 : decode cX2_cut 83 = .ok (.iadd, 1) := by decide +kernel
theorem dX2_cut_84 : decode cX2_cut 84 = .ok (.invokestatic 132, 3) := by decide +kernel
theorem dX2_cut_87 : decode cX2_cut 87 = .ok (.ifCond .eq 10, 3) := by decide +kernel
theorem dX2_cut_90 : decode cX2_cut 90 = .ok (.aload_n 0, 1) := by decide +kernel
theorem dX2_cut_91 : decode cX2_cut 91 = .ok (.bipush 7, 2) := by decide +kernel
theorem dX2_cut_93 : decode cX2_cut 93 = .ok (.invokevirtual 55, 3) := by decide +kernel
theorem dX2_cut_96 : decode cX2_cut 96 = .ok (.ireturn, 1) := by decide +kernel
theorem dX2_cut_97 : decode cX2_cut 97 = .ok (.aload_n 0, 1) := by decide +kernel
theorem dX2_cut_98 : decode cX2_cut 98 = .ok (.getfield 31, 3) := by decide +kernel
theorem dX2_cut_101 : decode cX2_cut 101 = .ok (.invokevirtual 68, 3) := by decide +kernel
theorem dX2_cut_104 : decode cX2_cut 104 = .ok (.iload_n 3, 1) := by decide +kernel
theorem dX2_cut_105 : decode cX2_cut 105 = .ok (.istore 6, 2) := by decide +kernel
theorem dX2_cut_107 : decode cX2_cut 107 = .ok (.iload 6, 2) := by decide +kernel
theorem dX2_cut_109 : decode cX2_cut 109 = .ok (.iload_n 3, 1) := by decide +kernel
theorem dX2_cut_110 : decode cX2_cut 110 = .ok (.iload 4, 2) := by decide +kernel
theorem dX2_cut_112 : decode cX2_cut 112 = .ok (.iadd, 1) := by decide +kernel
theorem dX2_cut_113 : decode cX2_cut 113 = .ok (.if_icmp .ge 35, 3) := by decide +kernel
theorem dX2_cut_116 : decode cX2_cut 116 = .ok (.iload 6, 2) := by decide +kernel
theorem dX2_cut_118 : decode cX2_cut 118 = .ok (.aload 5, 2) := by decide +kernel
theorem dX2_cut_120 : decode cX2_cut 120 = .ok (.getfield 93, 3) := by decide +kernel
theorem dX2_cut_123 : decode cX2_cut 123 = .ok (.arraylength, 1) := by decide +kernel
theorem dX2_cut_124 : decode cX2_cut 124 = .ok (.if_icmp .ge 24, 3) := by decide +kernel
theorem dX2_cut_127 : decode cX2_cut 127 = .ok (.aload_n 0, 1) := by decide +kernel
theorem dX2_cut_128 : decode cX2_cut 128 = .ok (.getfield 31, 3) := by decide +kernel
theorem dX2_cut_131 : decode cX2_cut 131 = .ok (.aload 5, 2) := by decide +kernel
theorem dX2_cut_133 : decode cX2_cut 133 = .ok (.getfield 93, 3) := by decide +kernel
theorem dX2_cut_136 : decode cX2_cut 136 = .ok (.iload 6, 2) := by decide +kernel
theorem dX2_cut_138 : decode cX2_cut 138 = .ok (.iaload, 1) := by decide +kernel
theorem dX2_cut_139 : decode cX2_cut 139 = .ok (.invokevirtual 65, 3) := by decide +kernel
theorem dX2_cut_142 : decode cX2_cut 142 = .ok (.iinc 6 1, 3) := by decide +kernel
theorem dX2_cut_145 : decode cX2_cut 145 = .ok (.goto (-38), 3) := by decide +kernel
theorem dX2_cut_148 : decode cX2_cut 148 = .ok (.aload_n 0, 1) := by decide +kernel
theorem dX2_cut_149 : decode cX2_cut 149 = .ok (.iload_n 1, 1) := by decide +kernel
theorem dX2_cut_150 : decode cX2_cut 150 = .ok (.aload 5, 2) := by decide +kernel
theorem dX2_cut_152 : decode cX2_cut 152 = .ok (.getfield 94, 3) := by decide +kernel
theorem dX2_cut_155 : decode cX2_cut 155 = .ok (.aload_n 0, 1) := by decide +kernel
theorem dX2_cut_156 : decode cX2_cut 156 = .ok (.getfield 31, 3) := by decide +kernel
theorem dX2_cut_159 : decode cX2_cut 159 = .ok (.invokevirtual 85, 3) := by decide +kernel
theorem dX2_cut_162 : decode cX2_cut 162 = .ok (.ireturn, 1) := by decide +kernel
set_option maxRecDepth 20000 in
theorem ggX2_join_X2_isNoText : GoodIn wsX2_join wsX2_isNoText := goodIn_r _ [9] (by decide +kernel) (by decide +kernel)
set_option maxRecDepth 20000 in
theorem gX2_join_X2_isNoText : GoodIn wsX2_join (va_wsS RX2 71 yX2_isNoText wsX2_isNoText) := goodIn_app (goodIn_of _ (by decide +kernel)) ggX2_join_X2_isNoText
set_option maxRecDepth 20000 in
theorem ggX2_join_X2_refuse : GoodIn wsX2_join wsX2_refuse := goodIn_r _ [13, 14, 75, 76, 77, 78, 79, 80, 81, 82] (by decide +kernel) (by decide +kernel)
set_option maxRecDepth 20000 in
theorem gX2_join_X2_refuse : GoodIn wsX2_join (wsV RX2 55 RX2 yX2_refuse wsX2_refuse) := goodIn_app (goodIn_of _ (by decide +kernel)) ggX2_join_X2_refuse
set_option maxRecDepth 20000 in
theorem ggX2_join_X1_mostItems : GoodIn wsX2_join wsX1_mostItems := goodIn_r _ [19, 20, 83, 84] (by decide +kernel) (by decide +kernel)
set_option maxRecDepth 20000 in
theorem gX2_join_X1_mostItems : GoodIn wsX2_join (wsV RX2 136 RX1 yX1_mostItems wsX1_mostItems) := goodIn_app (goodIn_of _ (by decide +kernel)) ggX2_join_X1_mostItems
set_option maxRecDepth 20000 in
theorem ggX2_join_X0_empty : GoodIn wsX2_join wsX0_empty := goodIn_r _ [25, 26, 85, 86] (by decide +kernel) (by decide +kernel)
set_option maxRecDepth 20000 in
theorem gX2_join_X0_empty : GoodIn wsX2_join (wsV RX2 68 RX0 yX0_empty wsX0_empty) := goodIn_app (goodIn_of _ (by decide +kernel)) ggX2_join_X0_empty
set_option maxRecDepth 20000 in
theorem ggX2_join_X0_addAll : GoodIn wsX2_join wsX0_addAll := goodIn_r _ [30, 31, 32, 33, 24, 34, 26, 35, 85, 86] (by decide +kernel) (by decide +kernel)
set_option maxRecDepth 20000 in
theorem gX2_join_X0_addAll : GoodIn wsX2_join (wsV RX2 140 RX0 yX0_addAll wsX0_addAll) := goodIn_app (goodIn_of _ (by decide +kernel)) ggX2_join_X0_addAll
set_option maxRecDepth 20000 in
theorem ggX2_join_X2_setText : GoodIn wsX2_join wsX2_setText := goodIn_r _ [39, 2, 40, 41, 18, 42, 43, 44, 45, 46, 47, 48, 20, 49, 50, 51, 52, 53, 54, 55, 56, 57, 58, 59, 60, 61, 62, 63, 64, 65, 66, 67, 68, 69, 70, 71, 72, 73, 8, 74, 14, 75, 76, 77, 78, 79, 80, 81, 82, 83, 84, 85, 86] (by decide +kernel) (by decide +kernel)
set_option maxRecDepth 20000 in
theorem gX2_join_X2_setText : GoodIn wsX2_join (wsV RX2 85 RX2 yX2_setText wsX2_setText) := goodIn_app (goodIn_of _ (by decide +kernel)) ggX2_join_X2_setText
theorem dX2_join_0 : decode cX2_join 0 = .ok (.iload_n 1, 1) := by decide +kernel
theorem dX2_join_1 : decode cX2_join 1 = .ok (.invokestatic 71, 3) := by decide +kernel
theorem dX2_join_4 : decode cX2_join 4 = .ok (.ifCond .ne 17, 3) := by decide +kernel
theorem dX2_join_7 : decode cX2_join 7 = .ok (.iload_n 2, 1) := by decide +kernel
theorem dX2_join_8 : decode cX2_join 8 = .ok (.invokestatic 71, 3) := by decide +kernel
theorem dX2_join_11 : decode cX2_join 11 = .ok (.ifCond .ne 10, 3) := by decide +kernel
theorem dX2_join_14 : decode cX2_join 14 = .ok (.iload_n 3, 1) := by decide +kernel
theorem dX2_join_15 : decode cX2_join 15 = .ok (.invokestatic 71, 3) := by decide +kernel
theorem dX2_join_18 : decode cX2_join 18 = .ok (.ifCond .eq 6, 3) := by decide +kernel
theorem dX2_join_21 : decode cX2_join 21 = .ok (.ldc 47, 2) := by decide +kernel
theorem dX2_join_23 : decode cX2_join 23 = .ok (.ireturn, 1) := by decide +kernel
theorem dX2_join_24 : decode cX2_join 24 = .ok (.aload_n 0, 1) := by decide +kernel
theorem dX2_join_25 : decode cX2_join 25 = .ok (.getfield 11, 3) := by decide +kernel
theorem dX2_join_28 : decode cX2_join 28 = .ok (.iload_n 2, 1) := by decide +kernel
theorem dX2_join_29 : decode cX2_join 29 = .ok (.aaload, 1) := by decide +kernel
theorem dX2_join_30 : decode cX2_join 30 = .ok (.astore 4, 2) := by decide +kernel
theorem dX2_join_32 : decode cX2_join 32 = .ok (.aload_n 0, 1) := by decide +kernel
theorem dX2_join_33 : decode cX2_join 33 = .ok (.getfield 11, 3) := by decide +kernel
theorem dX2_join_36 : decode cX2_join 36 = .ok (.iload_n 3, 1) := by decide +kernel
theorem dX2_join_37 : decode cX2_join 37 = .ok (.aaload, 1) := by decide +kernel
theorem dX2_join_38 : decode cX2_join 38 = .ok (.astore 5, 2) := by decide +kernel
theorem dX2_join_40 : decode cX2_join 40 = .ok (.aload 4, 2) := by decide +kernel
theorem dX2_join_42 : decode cX2_join 42 = .ok (.ifnull 8, 3) := by decide +kernel
theorem dX2_join_45 : decode cX2_join 45 = .ok (.aload 5, 2) := by decide +kernel
theorem dX2_join_47 : decode cX2_join 47 = .ok (.ifnonnull 9, 3) := by decide +kernel
theorem dX2_join_50 : decode cX2_join 50 = .ok (.aload_n 0, 1) := by decide +kernel
theorem dX2_join_51 : decode cX2_join 51 = .ok (.iconst 1, 1) := by decide +kernel
theorem dX2_join_52 : decode cX2_join 52 = .ok (.invokevirtual 55, 3) := by decide +kernel
theorem dX2_join_55 : decode cX2_join 55 = .ok (.ireturn, 1) := by decide +kernel
theorem dX2_join_56 : decode cX2_join 56 = .ok (.aload 4, 2) := by decide +kernel
theorem dX2_join_58 : decode cX2_join 58 = .ok (.getfield 94, 3) := by decide +kernel
theorem dX2_join_61 : decode cX2_join 61 = .ok (.aload 5, 2) := by decide +kernel
theorem dX2_join_63 : decode cX2_join 63 = .ok (.getfield 94, 3) := by decide +kernel
theorem dX2_join_66 : decode cX2_join 66 = .ok (.if_icmp .eq 9, 3) := by decide +kernel
theorem dX2_join_69 : decode cX2_join 69 = .ok (.aload_n 0, 1) := by decide +kernel
theorem dX2_join_70 : decode cX2_join 70 = .ok (.iconst 2, 1) := by decide +kernel
theorem dX2_join_71 : decode cX2_join 71 = .ok (.invokevirtual 55, 3) := by decide +kernel
theorem dX2_join_74 : decode cX2_join 74 = .ok (.ireturn, 1) := by decide +kernel
theorem dX2_join_75 : decode cX2_join 75 = .ok (.aload 4, 2) := by decide +kernel
theorem dX2_join_77 : decode cX2_join 77 = .ok (.getfield 93, 3) := by decide +kernel
theorem dX2_join_80 : decode cX2_join 80 = .ok (.arraylength, 1) := by decide +kernel
theorem dX2_join_81 : decode cX2_join 81 = .ok (.aload 5, 2) := by decide +kernel
theorem dX2_join_83 : decode cX2_join 83 = .ok (.getfield 93, 3) := by decide +kernel
theorem dX2_join_86 : decode cX2_join 86 = .ok (.arraylength, 1) := by decide +kernel
theorem dX2_join_87 : decode cX2_join 87 = .ok (.iadd, 1) := by decide +kernel
theorem dX2_join_88 : decode cX2_join 88 = .ok (.aload 4, 2) := by decide +kernel
theorem dX2_join_90 : decode cX2_join 90 = .ok (.invokevirtual 136, 3) := by decide +kernel
theorem dX2_join_93 : decode cX2_join 93 = .ok (.if_icmp .le 10, 3) := by decide +kernel
theorem dX2_join_96 : decode cX2_join 96 = .ok (.aload_n 0, 1) := by decide +kernel
theorem dX2_join_97 : decode cX2_join 97 = .ok (.bipush 6, 2) := by decide +kernel
theorem dX2_join_99 : decode cX2_join 99 = .ok (.invokevirtual 55, 3) := by decide +kernel
theorem dX2_join_102 : decode cX2_join 102 = .ok (.ireturn, 1) := by decide +kernel
theorem dX2_join_103 : decode cX2_join 103 = .ok (.aload_n 0, 1) := by decide +kernel
theorem dX2_join_104 : decode cX2_join 104 = .ok (.getfield 31, 3) := by decide +kernel
theorem dX2_join_107 : decode cX2_join 107 = .ok (.invokevirtual 68, 3) := by decide +kernel
theorem dX2_join_110 : decode cX2_join 110 = .ok (.aload_n 0, 1) := by decide +kernel
theorem dX2_join_111 : decode cX2_join 111 = .ok (.getfield 31, 3) := by decide +kernel
theorem dX2_join_114 : decode cX2_join 114 = .ok (.aload 4, 2) := by decide +kernel
theorem dX2_join_116 : decode cX2_join 116 = .ok (.getfield 93, 3) := by decide +kernel
theorem dX2_join_119 : decode cX2_join 119 = .ok (.invokevirtual 140, 3) := by decide +kernel
theorem dX2_join_122 : decode cX2_join 122 = .ok (.aload_n 0, 1) := by decide +kernel
theorem dX2_join_123 : decode cX2_join 123 = .ok (.getfield 31, 3) := by decide +kernel
theorem dX2_join_126 : decode cX2_join 126 = .ok (.aload 5, 2) := by decide +kernel
theorem dX2_join_128 : decode cX2_join 128 = .ok (.getfield 93, 3) := by decide +kernel
theorem dX2_join_131 : decode cX2_join 131 = .ok (.invokevirtual 140, 3) := by decide +kernel
theorem dX2_join_134 : decode cX2_join 134 = .ok (.aload_n 0, 1) := by decide +kernel
theorem dX2_join_135 : decode cX2_join 135 = .ok (.iload_n 1, 1) := by decide +kernel
theorem dX2_join_136 : decode cX2_join 136 = .ok (.aload 4, 2) := by decide +kernel
theorem dX2_join_138 : decode cX2_join 138 = .ok (.getfield 94, 3) := by decide +kernel
theorem dX2_join_141 : decode cX2_join 141 = .ok (.aload_n 0, 1) := by decide +kernel
theorem dX2_join_142 : decode cX2_join 142 = .ok (.getfield 31, 3) := by decide +kernel
theorem dX2_join_145 : decode cX2_join 145 = .ok (.invokevirtual 85, 3) := by decide +kernel
theorem dX2_join_148 : decode cX2_join 148 = .ok (.ireturn, 1) := by decide +kernel
set_option maxRecDepth 20000 in
theorem ggX2_back_X2_isNoText : GoodIn wsX2_back wsX2_isNoText := goodIn_r _ [11] (by decide +kernel) (by decide +kernel)
set_option maxRecDepth 20000 in
theorem gX2_back_X2_isNoText : GoodIn wsX2_back (va_wsS RX2 71 yX2_isNoText wsX2_isNoText) := goodIn_app (goodIn_of _ (by decide +kernel)) ggX2_back_X2_isNoText
set_option maxRecDepth 20000 in
theorem ggX2_back_X2_refuse : GoodIn wsX2_back wsX2_refuse := goodIn_r _ [15, 16, 102, 103, 104, 105, 106, 107, 108, 109] (by decide +kernel) (by decide +kernel)
set_option maxRecDepth 20000 in
theorem gX2_back_X2_refuse : GoodIn wsX2_back (wsV RX2 55 RX2 yX2_refuse wsX2_refuse) := goodIn_app (goodIn_of _ (by decide +kernel)) ggX2_back_X2_refuse
set_option maxRecDepth 20000 in
theorem ggX2_back_X2_listPoints : GoodIn wsX2_back wsX2_listPoints := goodIn_r _ [19, 7, 20, 21, 22, 23, 24, 25, 26, 27, 28, 29, 30, 31, 10, 32, 33, 34, 35, 36, 37, 38, 39, 40, 41, 42, 43, 44, 45, 46, 47, 48, 49, 50, 51, 52, 53, 112, 113, 110, 111] (by decide +kernel) (by decide +kernel)
set_option maxRecDepth 20000 in
theorem gX2_back_X2_listPoints : GoodIn wsX2_back (va_wsS RX2 97 yX2_listPoints wsX2_listPoints) := goodIn_app (goodIn_of _ (by decide +kernel)) ggX2_back_X2_listPoints
set_option maxRecDepth 20000 in
theorem ggX2_back_X0_empty : GoodIn wsX2_back wsX0_empty := goodIn_r _ [25, 26, 110, 111] (by decide +kernel) (by decide +kernel)
set_option maxRecDepth 20000 in
theorem gX2_back_X0_empty : GoodIn wsX2_back (wsV RX2 68 RX0 yX0_empty wsX0_empty) := goodIn_app (goodIn_of _ (by decide +kernel)) ggX2_back_X0_empty
set_option maxRecDepth 20000 in
theorem ggX2_back_X0_addUnitsOf : GoodIn wsX2_back wsX0_addUnitsOf := goodIn_r _ [57, 58, 59, 60, 45, 46, 47, 24, 48, 26, 49, 110, 111] (by decide +kernel) (by decide +kernel)
set_option maxRecDepth 20000 in
theorem gX2_back_X0_addUnitsOf : GoodIn wsX2_back (wsV RX2 58 RX0 yX0_addUnitsOf wsX0_addUnitsOf) := goodIn_app (goodIn_of _ (by decide +kernel)) ggX2_back_X0_addUnitsOf
set_option maxRecDepth 20000 in
theorem ggX2_back_X0_add : GoodIn wsX2_back wsX0_add := goodIn_r _ [48, 26, 49, 110, 111] (by decide +kernel) (by decide +kernel)
set_option maxRecDepth 20000 in
theorem gX2_back_X0_add : GoodIn wsX2_back (wsV RX2 65 RX0 yX0_add wsX0_add) := goodIn_app (goodIn_of _ (by decide +kernel)) ggX2_back_X0_add
set_option maxRecDepth 20000 in
theorem ggX2_back_X2_setText : GoodIn wsX2_back wsX2_setText := goodIn_r _ [65, 2, 66, 67, 68, 5, 69, 70, 71, 72, 73, 74, 75, 76, 77, 78, 79, 80, 81, 82, 83, 84, 85, 86, 87, 88, 89, 90, 91, 92, 93, 94, 95, 96, 97, 98, 99, 100, 10, 101, 16, 102, 103, 104, 105, 106, 107, 108, 109, 112, 113, 110, 111] (by decide +kernel) (by decide +kernel)
set_option maxRecDepth 20000 in
theorem gX2_back_X2_setText : GoodIn wsX2_back (wsV RX2 85 RX2 yX2_setText wsX2_setText) := goodIn_app (goodIn_of _ (by decide +kernel)) ggX2_back_X2_setText
theorem dX2_back_0 : decode cX2_back 0 = .ok (.iload_n 1, 1) := by decide +kernel
theorem dX2_back_1 : decode cX2_back 1 = .ok (.invokestatic 71, 3) := by decide +kernel
theorem dX2_back_4 : decode cX2_back 4 = .ok (.ifCond .ne 10, 3) := by decide +kernel
theorem dX2_back_7 : decode cX2_back 7 = .ok (.iload_n 2, 1) := by decide +kernel
theorem dX2_back_8 : decode cX2_back 8 = .ok (.invokestatic 71, 3) := by decide +kernel
theorem dX2_back_11 : decode cX2_back 11 = .ok (.ifCond .eq 6, 3) := by decide +kernel
theorem dX2_back_14 : decode cX2_back 14 = .ok (.ldc 47, 2) := by decide +kernel
theorem dX2_back_16 : decode cX2_back 16 = .ok (.ireturn, 1) := by decide +kernel
theorem dX2_back_17 : decode cX2_back 17 = .ok (.aload_n 0, 1) := by decide +kernel
theorem dX2_back_18 : decode cX2_back 18 = .ok (.getfield 11, 3) := by decide +kernel
theorem dX2_back_21 : decode cX2_back 21 = .ok (.iload_n 2, 1) := by decide +kernel
theorem dX2_back_22 : decode cX2_back 22 = .ok (.aaload, 1) := by decide +kernel
theorem dX2_back_23 : decode cX2_back 23 = .ok (.astore_n 3, 1) := by decide +kernel
theorem dX2_back_24 : decode cX2_back 24 = .ok (.aload_n 3, 1) := by decide +kernel
theorem dX2_back_25 : decode cX2_back 25 = .ok (.ifnonnull 9, 3) := by decide +kernel
theorem dX2_back_28 : decode cX2_back 28 = .ok (.aload_n 0, 1) := by decide +kernel
theorem dX2_back_29 : decode cX2_back 29 = .ok (.iconst 1, 1) := by decide +kernel
theorem dX2_back_30 : decode cX2_back 30 = .ok (.invokevirtual 55, 3) := by decide +kernel
theorem dX2_back_33 : decode cX2_back 33 = .ok (.ireturn, 1) := by decide +kernel
theorem dX2_back_34 : decode cX2_back 34 = .ok (.aload_n 3, 1) := by decide +kernel
theorem dX2_back_35 : decode cX2_back 35 = .ok (.aload_n 0, 1) := by decide +kernel
theorem dX2_back_36 : decode cX2_back 36 = .ok (.getfield 31, 3) := by decide +kernel
theorem dX2_back_39 : decode cX2_back 39 = .ok (.invokestatic 97, 3) := by decide +kernel
theorem dX2_back_42 : decode cX2_back 42 = .ok (.aload_n 0, 1) := by decide +kernel
theorem dX2_back_43 : decode cX2_back 43 = .ok (.getfield 34, 3) := by decide +kernel
theorem dX2_back_46 : decode cX2_back 46 = .ok (.invokevirtual 68, 3) := by decide +kernel
theorem dX2_back_49 : decode cX2_back 49 = .ok (.aload_n 0, 1) := by decide +kernel
theorem dX2_back_50 : decode cX2_back 50 = .ok (.getfield 31, 3) := by decide +kernel
theorem dX2_back_53 : decode cX2_back 53 = .ok (.getfield 48, 3) := by decide +kernel
theorem dX2_back_56 : decode cX2_back 56 = .ok (.iconst 1, 1) := by decide +kernel
theorem dX2_back_57 : decode cX2_back 57 = .ok (.isub, 1) := by decide +kernel
theorem dX2_back_58 : decode cX2_back 58 = .ok (.istore 4, 2) := by decide +kernel
theorem dX2_back_60 : decode cX2_back 60 = .ok (.iload 4, 2) := by decide +kernel
theorem dX2_back_62 : decode cX2_back 62 = .ok (.ifCond .lt 66, 3) := by decide +kernel
theorem dX2_back_65 : decode cX2_back 65 = .ok (.iload 4, 2) := by decide +kernel
theorem dX2_back_67 : decode cX2_back 67 = .ok (.aload_n 0, 1) := by decide +kernel
theorem dX2_back_68 : decode cX2_back 68 = .ok (.getfield 31, 3) := by decide +kernel
theorem dX2_back_71 : decode cX2_back 71 = .ok (.getfield 74, 3) := by decide +kernel
theorem dX2_back_74 : decode cX2_back 74 = .ok (.arraylength, 1) := by decide +kernel
theorem dX2_back_75 : decode cX2_back 75 = .ok (.if_icmp .ge 53, 3) := by decide +kernel
theorem dX2_back_78 : decode cX2_back 78 = .ok (.aload_n 3, 1) := by decide +kernel
theorem dX2_back_79 : decode cX2_back 79 = .ok (.getfield 94, 3) := by decide +kernel
theorem dX2_back_82 : decode cX2_back 82 = .ok (.ifCond .ne 23, 3) := by decide +kernel
theorem dX2_back_85 : decode cX2_back 85 = .ok (.aload_n 0, 1) := by decide +kernel
theorem dX2_back_86 : decode cX2_back 86 = .ok (.getfield 34, 3) := by decide +kernel
theorem dX2_back_89 : decode cX2_back 89 = .ok (.aload_n 0, 1) := by decide +kernel
theorem dX2_back_90 : decode cX2_back 90 = .ok (.getfield 31, 3) := by decide +kernel
theorem dX2_back_93 : decode cX2_back 93 = .ok (.getfield 74, 3) := by decide +kernel
theorem dX2_back_96 : decode cX2_back 96 = .ok (.iload 4, 2) := by decide +kernel
theorem dX2_back_98 : decode cX2_back 98 = .ok (.iaload, 1) := by decide +kernel
theorem dX2_back_99 : decode cX2_back 99 = .ok (.invokevirtual 58, 3) := by decide +kernel
theorem dX2_back_102 : decode cX2_back 102 = .ok (.goto 20, 3) := by decide +kernel
theorem dX2_back_105 : decode cX2_back 105 = .ok (.aload_n 0, 1) := by decide +kernel
theorem dX2_back_106 : decode cX2_back 106 = .ok (.getfield 34, 3) := by decide +kernel
theorem dX2_back_109 : decode cX2_back 109 = .ok (.aload_n 0, 1) := by decide +kernel
theorem dX2_back_110 : decode cX2_back 110 = .ok (.getfield 31, 3) := by decide +kernel
theorem dX2_back_113 : decode cX2_back 113 = .ok (.getfield 74, 3) := by decide +kernel
theorem dX2_back_116 : decode cX2_back 116 = .ok (.iload 4, 2) := by decide +kernel
theorem dX2_back_118 : decode cX2_back 118 = .ok (.iaload, 1) := by decide +kernel
theorem dX2_back_119 : decode cX2_back 119 = .ok (.invokevirtual 65, 3) := by decide +kernel
theorem dX2_back_122 : decode cX2_back 122 = .ok (.iinc 4 (-1), 3) := by decide +kernel
theorem dX2_back_125 : decode cX2_back 125 = .ok (.goto (-65), 3) := by decide +kernel
theorem dX2_back_128 : decode cX2_back 128 = .ok (.aload_n 0, 1) := by decide +kernel
theorem dX2_back_129 : decode cX2_back 129 = .ok (.iload_n 1, 1) := by decide +kernel
theorem dX2_back_130 : decode cX2_back 130 = .ok (.aload_n 3, 1) := by decide +kernel
theorem dX2_back_131 : decode cX2_back 131 = .ok (.getfield 94, 3) := by decide +kernel
theorem dX2_back_134 : decode cX2_back 134 = .ok (.aload_n 0, 1) := by decide +kernel
theorem dX2_back_135 : decode cX2_back 135 = .ok (.getfield 34, 3) := by decide +kernel
theorem dX2_back_138 : decode cX2_back 138 = .ok (.invokevirtual 85, 3) := by decide +kernel
theorem dX2_back_141 : decode cX2_back 141 = .ok (.ireturn, 1) := by decide +kernel
set_option maxRecDepth 20000 in
theorem ggX2_copy_X2_isNoText : GoodIn wsX2_copy wsX2_isNoText := goodIn_r _ [12] (by decide +kernel) (by decide +kernel)
set_option maxRecDepth 20000 in
theorem gX2_copy_X2_isNoText : GoodIn wsX2_copy (va_wsS RX2 71 yX2_isNoText wsX2_isNoText) := goodIn_app (goodIn_of _ (by decide +kernel)) ggX2_copy_X2_isNoText
set_option maxRecDepth 20000 in
theorem ggX2_copy_X2_refuse : GoodIn wsX2_copy wsX2_refuse := goodIn_r _ [16, 17, 25, 26, 27, 28, 29, 30, 31, 32] (by decide +kernel) (by decide +kernel)
set_option maxRecDepth 20000 in
theorem gX2_copy_X2_refuse : GoodIn wsX2_copy (wsV RX2 55 RX2 yX2_refuse wsX2_refuse) := goodIn_app (goodIn_of _ (by decide +kernel)) ggX2_copy_X2_refuse
set_option maxRecDepth 20000 in
theorem ggX2_copy_X2_isBeyond : GoodIn wsX2_copy wsX2_isBeyond := goodIn_r _ [20, 4, 33, 34] (by decide +kernel) (by decide +kernel)
set_option maxRecDepth 20000 in
theorem gX2_copy_X2_isBeyond : GoodIn wsX2_copy (va_wsS RX2 128 yX2_isBeyond wsX2_isBeyond) := goodIn_app (goodIn_of _ (by decide +kernel)) ggX2_copy_X2_isBeyond
set_option maxRecDepth 20000 in
theorem ggX2_copy_X2_done : GoodIn wsX2_copy wsX2_done := goodIn_r _ [24, 17, 25, 26, 27, 28, 29, 30, 31, 32] (by decide +kernel) (by decide +kernel)
set_option maxRecDepth 20000 in
theorem gX2_copy_X2_done : GoodIn wsX2_copy (wsV RX2 61 RX2 yX2_done wsX2_done) := goodIn_app (goodIn_of _ (by decide +kernel)) ggX2_copy_X2_done
theorem dX2_copy_0 : decode cX2_copy 0 = .ok (.iload_n 1, 1) := by decide +kernel
theorem dX2_copy_1 : decode cX2_copy 1 = .ok (.invokestatic 71, 3) := by decide +kernel
theorem dX2_copy_4 : decode cX2_copy 4 = .ok (.ifCond .ne 10, 3) := by decide +kernel
theorem dX2_copy_7 : decode cX2_copy 7 = .ok (.iload_n 3, 1) := by decide +kernel
theorem dX2_copy_8 : decode cX2_copy 8 = .ok (.invokestatic 71, 3) := by decide +kernel
theorem dX2_copy_11 : decode cX2_copy 11 = .ok (.ifCond .eq 6, 3) := by decide +kernel
theorem dX2_copy_14 : decode cX2_copy 14 = .ok (.ldc 47, 2) := by decide +kernel
theorem dX2_copy_16 : decode cX2_copy 16 = .ok (.ireturn, 1) := by decide +kernel
theorem dX2_copy_17 : decode cX2_copy 17 = .ok (.aload_n 0, 1) := by decide +kernel
theorem dX2_copy_18 : decode cX2_copy 18 = .ok (.getfield 11, 3) := by decide +kernel
theorem dX2_copy_21 : decode cX2_copy 21 = .ok (.iload_n 1, 1) := by decide +kernel
theorem dX2_copy_22 : decode cX2_copy 22 = .ok (.aaload, 1) := by decide +kernel
theorem dX2_copy_23 : decode cX2_copy 23 = .ok (.astore 6, 2) := by decide +kernel
theorem dX2_copy_25 : decode cX2_copy 25 = .ok (.aload_n 0, 1) := by decide +kernel
theorem dX2_copy_26 : decode cX2_copy 26 = .ok (.getfield 11, 3) := by decide +kernel
theorem dX2_copy_29 : decode cX2_copy 29 = .ok (.iload_n 3, 1) := by decide +kernel
theorem dX2_copy_30 : decode cX2_copy 30 = .ok (.aaload, 1) := by decide +kernel
theorem dX2_copy_31 : decode cX2_copy 31 = .ok (.astore 7, 2) := by decide +kernel
theorem dX2_copy_33 : decode cX2_copy 33 = .ok (.aload 6, 2) := by decide +kernel
theorem dX2_copy_35 : decode cX2_copy 35 = .ok (.ifnull 8, 3) := by decide +kernel
theorem dX2_copy_38 : decode cX2_copy 38 = .ok (.aload 7, 2) := by decide +kernel
theorem dX2_copy_40 : decode cX2_copy 40 = .ok (.ifnonnull 9, 3) := by decide +kernel
theorem dX2_copy_43 : decode cX2_copy 43 = .ok (.aload_n 0, 1) := by decide +kernel
theorem dX2_copy_44 : decode cX2_copy 44 = .ok (.iconst 1, 1) := by decide +kernel
theorem dX2_copy_45 : decode cX2_copy 45 = .ok (.invokevirtual 55, 3) := by decide +kernel
theorem dX2_copy_48 : decode cX2_copy 48 = .ok (.ireturn, 1) := by decide +kernel
theorem dX2_copy_49 : decode cX2_copy 49 = .ok (.aload 6, 2) := by decide +kernel
theorem dX2_copy_51 : decode cX2_copy 51 = .ok (.getfield 94, 3) := by decide +kernel
theorem dX2_copy_54 : decode cX2_copy 54 = .ok (.iconst 1, 1) := by decide +kernel
theorem dX2_copy_55 : decode cX2_copy 55 = .ok (.if_icmp .eq 16, 3) := by decide +kernel
theorem dX2_copy_58 : decode cX2_copy 58 = .ok (.aload 6, 2) := by decide +kernel
theorem dX2_copy_60 : decode cX2_copy 60 = .ok (.getfield 94, 3) := by decide +kernel
theorem dX2_copy_63 : decode cX2_copy 63 = .ok (.aload 7, 2) := by decide +kernel
theorem dX2_copy_65 : decode cX2_copy 65 = .ok (.getfield 94, 3) := by decide +kernel
theorem dX2_copy_68 : decode cX2_copy 68 = .ok (.if_icmp .eq 9, 3) := by decide +kernel
theorem dX2_copy_71 : decode cX2_copy 71 = .ok (.aload_n 0, 1) := by decide +kernel
theorem dX2_copy_72 : decode cX2_copy 72 = .ok (.iconst 2, 1) := by decide +kernel
theorem dX2_copy_73 : decode cX2_copy 73 = .ok (.invokevirtual 55, 3) := by decide +kernel
theorem dX2_copy_76 : decode cX2_copy 76 = .ok (.ireturn, 1) := by decide +kernel
theorem dX2_copy_77 : decode cX2_copy 77 = .ok (.aload 6, 2) := by decide +kernel
theorem dX2_copy_79 : decode cX2_copy 79 = .ok (.iload_n 2, 1) := by decide +kernel
theorem dX2_copy_80 : decode cX2_copy 80 = .ok (.iload 5, 2) := by decide +kernel
theorem dX2_copy_82 : decode cX2_copy 82 = .ok (.invokestatic 128, 3) := by decide +kernel
theorem dX2_copy_85 : decode cX2_copy 85 = .ok (.ifCond .ne 15, 3) := by decide +kernel
theorem dX2_copy_88 : decode cX2_copy 88 = .ok (.aload 7, 2) := by decide +kernel
theorem dX2_copy_90 : decode cX2_copy 90 = .ok (.iload 4, 2) := by decide +kernel
theorem dX2_copy_92 : decode cX2_copy 92 = .ok (.iload 5, 2) := by decide +kernel
theorem dX2_copy_94 : decode cX2_copy 94 = .ok (.invokestatic 128, 3) := by decide +kernel
theorem dX2_copy_97 : decode cX2_copy 97 = .ok (.ifCond .eq 9, 3) := by decide +kernel
theorem dX2_copy_100 : decode cX2_copy 100 = .ok (.aload_n 0, 1) := by decide +kernel
theorem dX2_copy_101 : decode cX2_copy 101 = .ok (.iconst 3, 1) := by decide +kernel
theorem dX2_copy_102 : decode cX2_copy 102 = .ok (.invokevirtual 55, 3) := by decide +kernel
theorem dX2_copy_105 : decode cX2_copy 105 = .ok (.ireturn, 1) := by decide +kernel
theorem dX2_copy_106 : decode cX2_copy 106 = .ok (.aload 6, 2) := by decide +kernel
theorem dX2_copy_108 : decode cX2_copy 108 = .ok (.getfield 93, 3) := by decide +kernel
theorem dX2_copy_111 : decode cX2_copy 111 = .ok (.iload_n 2, 1) := by decide +kernel
theorem dX2_copy_112 : decode cX2_copy 112 = .ok (.aload 7, 2) := by decide +kernel
theorem dX2_copy_114 : decode cX2_copy 114 = .ok (.getfield 93, 3) := by decide +kernel
theorem dX2_copy_117 : decode cX2_copy 117 = .ok (.iload 4, 2) := by decide +kernel
theorem dX2_copy_119 : decode cX2_copy 119 = .ok (.iload 5, 2) := by decide +kernel
theorem dX2_copy_121 : decode cX2_copy 121 = .ok (.invokestatic 144, 3) := by decide +kernel
theorem dX2_copy_124 : decode cX2_copy 124 = .ok (.aload_n 0, 1) := by decide +kernel
theorem dX2_copy_125 : decode cX2_copy 125 = .ok (.iload 5, 2) := by decide +kernel
theorem dX2_copy_127 : decode cX2_copy 127 = .ok (.invokevirtual 61, 3) := by decide +kernel
theorem dX2_copy_130 : decode cX2_copy 130 = .ok (.ireturn, 1) := by decide +kernel
set_option maxRecDepth 20000 in
theorem ggX2_find_X2_isNoText : GoodIn wsX2_find wsX2_isNoText := goodIn_r _ [8] (by decide +kernel) (by decide +kernel)
set_option maxRecDepth 20000 in
theorem gX2_find_X2_isNoText : GoodIn wsX2_find (va_wsS RX2 71 yX2_isNoText wsX2_isNoText) := goodIn_app (goodIn_of _ (by decide +kernel)) ggX2_find_X2_isNoText
set_option maxRecDepth 20000 in
theorem ggX2_find_X2_refuse : GoodIn wsX2_find wsX2_refuse := goodIn_r _ [12, 13, 39, 40, 41, 42, 43, 44, 45, 46] (by decide +kernel) (by decide +kernel)
set_option maxRecDepth 20000 in
theorem gX2_find_X2_refuse : GoodIn wsX2_find (wsV RX2 55 RX2 yX2_refuse wsX2_refuse) := goodIn_app (goodIn_of _ (by decide +kernel)) ggX2_find_X2_refuse
set_option maxRecDepth 20000 in
theorem ggX2_find_X2_standsAt : GoodIn wsX2_find wsX2_standsAt := goodIn_r _ [16, 4, 17, 18, 7, 19, 20, 21, 22, 3, 23, 24, 25, 26, 27, 28, 29, 30, 31, 32, 33, 34, 47, 48] (by decide +kernel) (by decide +kernel)
set_option maxRecDepth 20000 in
theorem gX2_find_X2_standsAt : GoodIn wsX2_find (va_wsS RX2 150 yX2_standsAt wsX2_standsAt) := goodIn_app (goodIn_of _ (by decide +kernel)) ggX2_find_X2_standsAt
set_option maxRecDepth 20000 in
theorem ggX2_find_X2_done : GoodIn wsX2_find wsX2_done := goodIn_r _ [38, 13, 39, 40, 41, 42, 43, 44, 45, 46] (by decide +kernel) (by decide +kernel)
set_option maxRecDepth 20000 in
theorem gX2_find_X2_done : GoodIn wsX2_find (wsV RX2 61 RX2 yX2_done wsX2_done) := goodIn_app (goodIn_of _ (by decide +kernel)) ggX2_find_X2_done
theorem dX2_find_0 : decode cX2_find 0 = .ok (.iload_n 1, 1) := by decide +kernel
theorem dX2_find_1 : decode cX2_find 1 = .ok (.invokestatic 71, 3) := by decide +kernel
theorem dX2_find_4 : decode cX2_find 4 = .ok (.ifCond .ne 10, 3) := by decide +kernel
theorem dX2_find_7 : decode cX2_find 7 = .ok (.iload_n 2, 1) := by decide +kernel
theorem dX2_find_8 : decode cX2_find 8 = .ok (.invokestatic 71, 3) := by decide +kernel
theorem dX2_find_11 : decode cX2_find 11 = .ok (.ifCond .eq 6, 3) := by decide +kernel
theorem dX2_find_14 : decode cX2_find 14 = .ok (.ldc 47, 2) := by decide +kernel
theorem dX2_find_16 : decode cX2_find 16 = .ok (.ireturn, 1) := by decide +kernel
theorem dX2_find_17 : decode cX2_find 17 = .ok (.aload_n 0, 1) := by decide +kernel
theorem dX2_find_18 : decode cX2_find 18 = .ok (.getfield 11, 3) := by decide +kernel
theorem dX2_find_21 : decode cX2_find 21 = .ok (.iload_n 1, 1) := by decide +kernel
theorem dX2_find_22 : decode cX2_find 22 = .ok (.aaload, 1) := by decide +kernel
theorem dX2_find_23 : decode cX2_find 23 = .ok (.astore 4, 2) := by decide +kernel
theorem dX2_find_25 : decode cX2_find 25 = .ok (.aload_n 0, 1) := by decide +kernel
theorem dX2_find_26 : decode cX2_find 26 = .ok (.getfield 11, 3) := by decide +kernel
theorem dX2_find_29 : decode cX2_find 29 = .ok (.iload_n 2, 1) := by decide +kernel
theorem dX2_find_30 : decode cX2_find 30 = .ok (.aaload, 1) := by decide +kernel
theorem dX2_find_31 : decode cX2_find 31 = .ok (.astore 5, 2) := by decide +kernel
theorem dX2_find_33 : decode cX2_find 33 = .ok (.aload 4, 2) := by decide +kernel
theorem dX2_find_35 : decode cX2_find 35 = .ok (.ifnull 8, 3) := by decide +kernel
theorem dX2_find_38 : decode cX2_find 38 = .ok (.aload 5, 2) := by decide +kernel
theorem dX2_find_40 : decode cX2_find 40 = .ok (.ifnonnull 11, 3) := by decide +kernel
theorem dX2_find_43 : decode cX2_find 43 = .ok (.aload_n 0, 1) := by decide +kernel
theorem dX2_find_44 : decode cX2_find 44 = .ok (.iconst 1, 1) := by decide +kernel
theorem dX2_find_45 : decode cX2_find 45 = .ok (.invokevirtual 55, 3) := by decide +kernel
theorem dX2_find_48 : decode cX2_find 48 = .ok (.pop, 1) := by decide +kernel
theorem dX2_find_49 : decode cX2_find 49 = .ok (.iconst (-1), 1) := by decide +kernel
theorem dX2_find_50 : decode cX2_find 50 = .ok (.ireturn, 1) := by decide +kernel
theorem dX2_find_51 : decode cX2_find 51 = .ok (.aload 4, 2) := by decide +kernel
theorem dX2_find_53 : decode cX2_find 53 = .ok (.getfield 94, 3) := by decide +kernel
theorem dX2_find_56 : decode cX2_find 56 = .ok (.aload 5, 2) := by decide +kernel
theorem dX2_find_58 : decode cX2_find 58 = .ok (.getfield 94, 3) := by decide +kernel
theorem dX2_find_61 : decode cX2_find 61 = .ok (.if_icmp .eq 11, 3) := by decide +kernel
theorem dX2_find_64 : decode cX2_find 64 = .ok (.aload_n 0, 1) := by decide +kernel
theorem dX2_find_65 : decode cX2_find 65 = .ok (.iconst 2, 1) := by decide +kernel
theorem dX2_find_66 : decode cX2_find 66 = .ok (.invokevirtual 55, 3) := by decide +kernel
theorem dX2_find_69 : decode cX2_find 69 = .ok (.pop, 1) := by decide +kernel
theorem dX2_find_70 : decode cX2_find 70 = .ok (.iconst (-1), 1) := by decide +kernel
theorem dX2_find_71 : decode cX2_find 71 = .ok (.ireturn, 1) := by decide +kernel
theorem dX2_find_72 : decode cX2_find 72 = .ok (.aload 4, 2) := by decide +kernel
theorem dX2_find_74 : decode cX2_find 74 = .ok (.getfield 93, 3) := by decide +kernel
theorem dX2_find_77 : decode cX2_find 77 = .ok (.arraylength, 1) := by decide +kernel
theorem dX2_find_78 : decode cX2_find 78 = .ok (.aload 5, 2) := by decide +kernel
theorem dX2_find_80 : decode cX2_find 80 = .ok (.getfield 93, 3) := by decide +kernel
theorem dX2_find_83 : decode cX2_find 83 = .ok (.arraylength, 1) := by decide +kernel
theorem dX2_find_84 : decode cX2_find 84 = .ok (.isub, 1) := by decide +kernel
theorem dX2_find_85 : decode cX2_find 85 = .ok (.istore 6, 2) := by decide +kernel
theorem dX2_find_87 : decode cX2_find 87 = .ok (.iload_n 3, 1) := by decide +kernel
theorem dX2_find_88 : decode cX2_find 88 = .ok (.ifCond .ge 7, 3) := by decide +kernel
theorem dX2_find_91 : decode cX2_find 91 = .ok (.iconst 0, 1) := by decide +kernel
theorem dX2_find_92 : decode cX2_find 92 = .ok (.goto 4, 3) := by decide +kernel
theorem dX2_find_95 : decode cX2_find 95 = .ok (.iload_n 3, 1) := by decide +kernel
theorem dX2_find_96 : decode cX2_find 96 = .ok (.istore 7, 2) := by decide +kernel
theorem dX2_find_98 : decode cX2_find 98 = .ok (.iload 7, 2) := by decide +kernel
theorem dX2_find_100 : decode cX2_find 100 = .ok (.iload 6, 2) := by decide +kernel
theorem dX2_find_102 : decode cX2_find 102 = .ok (.if_icmp .gt 28, 3) := by decide +kernel
theorem dX2_find_105 : decode cX2_find 105 = .ok (.aload 4, 2) := by decide +kernel
theorem dX2_find_107 : decode cX2_find 107 = .ok (.aload 5, 2) := by decide +kernel
theorem dX2_find_109 : decode cX2_find 109 = .ok (.iload 7, 2) := by decide +kernel
theorem dX2_find_111 : decode cX2_find 111 = .ok (.invokestatic 150, 3) := by decide +kernel
theorem dX2_find_114 : decode cX2_find 114 = .ok (.ifCond .eq 10, 3) := by decide +kernel
theorem dX2_find_117 : decode cX2_find 117 = .ok (.aload_n 0, 1) := by decide +kernel
theorem dX2_find_118 : decode cX2_find 118 = .ok (.iload 7, 2) := by decide +kernel
theorem dX2_find_120 : decode cX2_find 120 = .ok (.invokevirtual 61, 3) := by decide +kernel
theorem dX2_find_123 : decode cX2_find 123 = .ok (.ireturn, 1) := by decide +kernel
theorem dX2_find_124 : decode cX2_find 124 = .ok (.iinc 7 1, 3) := by decide +kernel
theorem dX2_find_127 : decode cX2_find 127 = .ok (.goto (-29), 3) := by decide +kernel
theorem dX2_find_130 : decode cX2_find 130 = .ok (.aload_n 0, 1) := by decide +kernel
theorem dX2_find_131 : decode cX2_find 131 = .ok (.iconst (-1), 1) := by decide +kernel
theorem dX2_find_132 : decode cX2_find 132 = .ok (.invokevirtual 61, 3) := by decide +kernel
theorem dX2_find_135 : decode cX2_find 135 = .ok (.ireturn, 1) := by decide +kernel
set_option maxRecDepth 20000 in
theorem ggX2_compare_X2_isNoText : GoodIn wsX2_compare wsX2_isNoText := goodIn_r _ [9] (by decide +kernel) (by decide +kernel)
set_option maxRecDepth 20000 in
theorem gX2_compare_X2_isNoText : GoodIn wsX2_compare (va_wsS RX2 71 yX2_isNoText wsX2_isNoText) := goodIn_app (goodIn_of _ (by decide +kernel)) ggX2_compare_X2_isNoText
set_option maxRecDepth 20000 in
theorem ggX2_compare_X2_isNoWay : GoodIn wsX2_compare wsX2_isNoWay := goodIn_r _ [12] (by decide +kernel) (by decide +kernel)
set_option maxRecDepth 20000 in
theorem gX2_compare_X2_isNoWay : GoodIn wsX2_compare (va_wsS RX2 101 yX2_isNoWay wsX2_isNoWay) := goodIn_app (goodIn_of _ (by decide +kernel)) ggX2_compare_X2_isNoWay
set_option maxRecDepth 20000 in
theorem ggX2_compare_X2_refuse : GoodIn wsX2_compare wsX2_refuse := goodIn_r _ [16, 17, 78, 79, 80, 81, 82, 83, 84, 85] (by decide +kernel) (by decide +kernel)
set_option maxRecDepth 20000 in
theorem gX2_compare_X2_refuse : GoodIn wsX2_compare (wsV RX2 55 RX2 yX2_refuse wsX2_refuse) := goodIn_app (goodIn_of _ (by decide +kernel)) ggX2_compare_X2_refuse
set_option maxRecDepth 20000 in
theorem ggX2_compare_X2_listUnits : GoodIn wsX2_compare wsX2_listUnits := goodIn_r _ [20, 3, 21, 22, 23, 24, 25, 26, 27, 28, 29, 30, 31, 32, 33, 34, 35, 36, 37, 38, 39, 40, 41, 42, 43, 86, 87, 88, 89] (by decide +kernel) (by decide +kernel)
set_option maxRecDepth 20000 in
theorem gX2_compare_X2_listUnits : GoodIn wsX2_compare (va_wsS RX2 104 yX2_listUnits wsX2_listUnits) := goodIn_app (goodIn_of _ (by decide +kernel)) ggX2_compare_X2_listUnits
set_option maxRecDepth 20000 in
theorem ggX2_compare_X2_listPoints : GoodIn wsX2_compare wsX2_listPoints := goodIn_r _ [46, 3, 21, 22, 23, 24, 25, 26, 27, 47, 48, 49, 50, 51, 8, 52, 53, 54, 55, 56, 57, 58, 59, 60, 61, 62, 63, 64, 32, 33, 34, 35, 36, 28, 29, 30, 31, 86, 87, 88, 89] (by decide +kernel) (by decide +kernel)
set_option maxRecDepth 20000 in
theorem gX2_compare_X2_listPoints : GoodIn wsX2_compare (va_wsS RX2 97 yX2_listPoints wsX2_listPoints) := goodIn_app (goodIn_of _ (by decide +kernel)) ggX2_compare_X2_listPoints
set_option maxRecDepth 20000 in
theorem ggX2_compare_X2_order : GoodIn wsX2_compare wsX2_order := goodIn_r _ [67, 68, 69, 70, 71, 72, 73, 88, 89] (by decide +kernel) (by decide +kernel)
set_option maxRecDepth 20000 in
theorem gX2_compare_X2_order : GoodIn wsX2_compare (va_wsS RX2 154 yX2_order wsX2_order) := goodIn_app (goodIn_of _ (by decide +kernel)) ggX2_compare_X2_order
set_option maxRecDepth 20000 in
theorem ggX2_compare_X2_done : GoodIn wsX2_compare wsX2_done := goodIn_r _ [77, 17, 78, 79, 80, 81, 82, 83, 84, 85] (by decide +kernel) (by decide +kernel)
set_option maxRecDepth 20000 in
theorem gX2_compare_X2_done : GoodIn wsX2_compare (wsV RX2 61 RX2 yX2_done wsX2_done) := goodIn_app (goodIn_of _ (by decide +kernel)) ggX2_compare_X2_done
theorem dX2_compare_0 : decode cX2_compare 0 = .ok (.iload_n 1, 1) := by decide +kernel
theorem dX2_compare_1 : decode cX2_compare 1 = .ok (.invokestatic 71, 3) := by decide +kernel
theorem dX2_compare_4 : decode cX2_compare 4 = .ok (.ifCond .ne 17, 3) := by decide +kernel
theorem dX2_compare_7 : decode cX2_compare 7 = .ok (.iload_n 2, 1) := by decide +kernel
theorem dX2_compare_8 : decode cX2_compare 8 = .ok (.invokestatic 71, 3) := by decide +kernel
theorem dX2_compare_11 : decode cX2_compare 11 = .ok (.ifCond .ne 10, 3) := by decide +kernel
theorem dX2_compare_14 : decode cX2_compare 14 = .ok (.iload_n 3, 1) := by decide +kernel
theorem dX2_compare_15 : decode cX2_compare 15 = .ok (.invokestatic 101, 3) := by decide +kernel
theorem dX2_compare_18 : decode cX2_compare 18 = .ok (.ifCond .eq 6, 3) := by decide +kernel
theorem dX2_compare_21 : decode cX2_compare 21 = .ok (.ldc 47, 2) := by decide +kernel
theorem dX2_compare_23 : decode cX2_compare 23 = .ok (.ireturn, 1) := by decide +kernel
theorem dX2_compare_24 : decode cX2_compare 24 = .ok (.aload_n 0, 1) := by decide +kernel
theorem dX2_compare_25 : decode cX2_compare 25 = .ok (.getfield 11, 3) := by decide +kernel
theorem dX2_compare_28 : decode cX2_compare 28 = .ok (.iload_n 1, 1) := by decide +kernel
theorem dX2_compare_29 : decode cX2_compare 29 = .ok (.aaload, 1) := by decide +kernel
theorem dX2_compare_30 : decode cX2_compare 30 = .ok (.astore 4, 2) := by decide +kernel
theorem dX2_compare_32 : decode cX2_compare 32 = .ok (.aload_n 0, 1) := by decide +kernel
theorem dX2_compare_33 : decode cX2_compare 33 = .ok (.getfield 11, 3) := by decide +kernel
theorem dX2_compare_36 : decode cX2_compare 36 = .ok (.iload_n 2, 1) := by decide +kernel
theorem dX2_compare_37 : decode cX2_compare 37 = .ok (.aaload, 1) := by decide +kernel
theorem dX2_compare_38 : decode cX2_compare 38 = .ok (.astore 5, 2) := by decide +kernel
theorem dX2_compare_40 : decode cX2_compare 40 = .ok (.aload 4, 2) := by decide +kernel
theorem dX2_compare_42 : decode cX2_compare 42 = .ok (.ifnull 8, 3) := by decide +kernel
theorem dX2_compare_45 : decode cX2_compare 45 = .ok (.aload 5, 2) := by decide +kernel
theorem dX2_compare_47 : decode cX2_compare 47 = .ok (.ifnonnull 9, 3) := by decide +kernel
theorem dX2_compare_50 : decode cX2_compare 50 = .ok (.aload_n 0, 1) := by decide +kernel
theorem dX2_compare_51 : decode cX2_compare 51 = .ok (.iconst 1, 1) := by decide +kernel
theorem dX2_compare_52 : decode cX2_compare 52 = .ok (.invokevirtual 55, 3) := by decide +kernel
theorem dX2_compare_55 : decode cX2_compare 55 = .ok (.ireturn, 1) := by decide +kernel
theorem dX2_compare_56 : decode cX2_compare 56 = .ok (.aload 4, 2) := by decide +kernel
theorem dX2_compare_58 : decode cX2_compare 58 = .ok (.getfield 94, 3) := by decide +kernel
theorem dX2_compare_61 : decode cX2_compare 61 = .ok (.iconst 2, 1) := by decide +kernel
theorem dX2_compare_62 : decode cX2_compare 62 = .ok (.if_icmp .ne 7, 3) := by decide +kernel
theorem dX2_compare_65 : decode cX2_compare 65 = .ok (.iconst 1, 1) := by decide +kernel
theorem dX2_compare_66 : decode cX2_compare 66 = .ok (.goto 4, 3) := by decide +kernel
theorem dX2_compare_69 : decode cX2_compare 69 = .ok (.iconst 0, 1) := by decide +kernel
theorem dX2_compare_70 : decode cX2_compare 70 = .ok (.aload 5, 2) := by decide +kernel
theorem dX2_compare_72 : decode cX2_compare 72 = .ok (.getfield 94, 3) := by decide +kernel
theorem dX2_compare_75 : decode cX2_compare 75 = .ok (.iconst 2, 1) := by decide +kernel
theorem dX2_compare_76 : decode cX2_compare 76 = .ok (.if_icmp .ne 7, 3) := by decide +kernel
theorem dX2_compare_79 : decode cX2_compare 79 = .ok (.iconst 1, 1) := by decide +kernel
theorem dX2_compare_80 : decode cX2_compare 80 = .ok (.goto 4, 3) := by decide +kernel
theorem dX2_compare_83 : decode cX2_compare 83 = .ok (.iconst 0, 1) := by decide +kernel
theorem dX2_compare_84 : decode cX2_compare 84 = .ok (.if_icmp .eq 9, 3) := by decide +kernel
theorem dX2_compare_87 : decode cX2_compare 87 = .ok (.aload_n 0, 1) := by decide +kernel
theorem dX2_compare_88 : decode cX2_compare 88 = .ok (.iconst 2, 1) := by decide +kernel
theorem dX2_compare_89 : decode cX2_compare 89 = .ok (.invokevirtual 55, 3) := by decide +kernel
theorem dX2_compare_92 : decode cX2_compare 92 = .ok (.ireturn, 1) := by decide +kernel
theorem dX2_compare_93 : decode cX2_compare 93 = .ok (.iload_n 3, 1) := by decide +kernel
theorem dX2_compare_94 : decode cX2_compare 94 = .ok (.ifCond .ne 24, 3) := by decide +kernel
theorem dX2_compare_97 : decode cX2_compare 97 = .ok (.aload 4, 2) := by decide +kernel
theorem dX2_compare_99 : decode cX2_compare 99 = .ok (.aload_n 0, 1) := by decide +kernel
theorem dX2_compare_100 : decode cX2_compare 100 = .ok (.getfield 31, 3) := by decide +kernel
theorem dX2_compare_103 : decode cX2_compare 103 = .ok (.invokestatic 104, 3) := by decide +kernel
theorem dX2_compare_106 : decode cX2_compare 106 = .ok (.aload 5, 2) := by decide +kernel
theorem dX2_compare_108 : decode cX2_compare 108 = .ok (.aload_n 0, 1) := by decide +kernel
theorem dX2_compare_109 : decode cX2_compare 109 = .ok (.getfield 34, 3) := by decide +kernel
theorem dX2_compare_112 : decode cX2_compare 112 = .ok (.invokestatic 104, 3) := by decide +kernel
theorem dX2_compare_115 : decode cX2_compare 115 = .ok (.goto 21, 3) := by decide +kernel
theorem dX2_compare_118 : decode cX2_compare 118 = .ok (.aload 4, 2) := by decide +kernel
theorem dX2_compare_120 : decode cX2_compare 120 = .ok (.aload_n 0, 1) := by decide +kernel
theorem dX2_compare_121 : decode cX2_compare 121 = .ok (.getfield 31, 3) := by decide +kernel
theorem dX2_compare_124 : decode cX2_compare 124 = .ok (.invokestatic 97, 3) := by decide +kernel
theorem dX2_compare_127 : decode cX2_compare 127 = .ok (.aload 5, 2) := by decide +kernel
theorem dX2_compare_129 : decode cX2_compare 129 = .ok (.aload_n 0, 1) := by decide +kernel
theorem dX2_compare_130 : decode cX2_compare 130 = .ok (.getfield 34, 3) := by decide +kernel
theorem dX2_compare_133 : decode cX2_compare 133 = .ok (.invokestatic 97, 3) := by decide +kernel
theorem dX2_compare_136 : decode cX2_compare 136 = .ok (.aload_n 0, 1) := by decide +kernel
theorem dX2_compare_137 : decode cX2_compare 137 = .ok (.aload_n 0, 1) := by decide +kernel
theorem dX2_compare_138 : decode cX2_compare 138 = .ok (.getfield 31, 3) := by decide +kernel
theorem dX2_compare_141 : decode cX2_compare 141 = .ok (.aload_n 0, 1) := by decide +kernel
theorem dX2_compare_142 : decode cX2_compare 142 = .ok (.getfield 34, 3) := by decide +kernel
theorem dX2_compare_145 : decode cX2_compare 145 = .ok (.invokestatic 154, 3) := by decide +kernel
theorem dX2_compare_148 : decode cX2_compare 148 = .ok (.invokevirtual 61, 3) := by decide +kernel
theorem dX2_compare_151 : decode cX2_compare 151 = .ok (.ireturn, 1) := by decide +kernel
set_option maxRecDepth 20000 in
theorem ggX2_change_X2_isNoText : GoodIn wsX2_change wsX2_isNoText := goodIn_r _ [9] (by decide +kernel) (by decide +kernel)
set_option maxRecDepth 20000 in
theorem gX2_change_X2_isNoText : GoodIn wsX2_change (va_wsS RX2 71 yX2_isNoText wsX2_isNoText) := goodIn_app (goodIn_of _ (by decide +kernel)) ggX2_change_X2_isNoText
set_option maxRecDepth 20000 in
theorem ggX2_change_X2_isNoWay : GoodIn wsX2_change wsX2_isNoWay := goodIn_r _ [12] (by decide +kernel) (by decide +kernel)
set_option maxRecDepth 20000 in
theorem gX2_change_X2_isNoWay : GoodIn wsX2_change (va_wsS RX2 101 yX2_isNoWay wsX2_isNoWay) := goodIn_app (goodIn_of _ (by decide +kernel)) ggX2_change_X2_isNoWay
set_option maxRecDepth 20000 in
theorem ggX2_change_X2_refuse : GoodIn wsX2_change wsX2_refuse := goodIn_r _ [16, 17, 76, 77, 78, 79, 80, 81, 82, 83] (by decide +kernel) (by decide +kernel)
set_option maxRecDepth 20000 in
theorem gX2_change_X2_refuse : GoodIn wsX2_change (wsV RX2 55 RX2 yX2_refuse wsX2_refuse) := goodIn_app (goodIn_of _ (by decide +kernel)) ggX2_change_X2_refuse
set_option maxRecDepth 20000 in
theorem ggX2_change_X0_empty : GoodIn wsX2_change wsX0_empty := goodIn_r _ [22, 23, 86, 87] (by decide +kernel) (by decide +kernel)
set_option maxRecDepth 20000 in
theorem gX2_change_X0_empty : GoodIn wsX2_change (wsV RX2 68 RX0 yX0_empty wsX0_empty) := goodIn_app (goodIn_of _ (by decide +kernel)) ggX2_change_X0_empty
set_option maxRecDepth 20000 in
theorem ggX2_change_X2_greater : GoodIn wsX2_change wsX2_greater := goodIn_r _ [26] (by decide +kernel) (by decide +kernel)
set_option maxRecDepth 20000 in
theorem gX2_change_X2_greater : GoodIn wsX2_change (va_wsS RX2 158 yX2_greater wsX2_greater) := goodIn_app (goodIn_of _ (by decide +kernel)) ggX2_change_X2_greater
set_option maxRecDepth 20000 in
theorem ggX2_change_X2_lesser : GoodIn wsX2_change wsX2_lesser := goodIn_r _ [29] (by decide +kernel) (by decide +kernel)
set_option maxRecDepth 20000 in
theorem gX2_change_X2_lesser : GoodIn wsX2_change (va_wsS RX2 161 yX2_lesser wsX2_lesser) := goodIn_app (goodIn_of _ (by decide +kernel)) ggX2_change_X2_lesser
set_option maxRecDepth 20000 in
theorem ggX2_change_X0_add : GoodIn wsX2_change wsX0_add := goodIn_r _ [33, 23, 34, 86, 87] (by decide +kernel) (by decide +kernel)
set_option maxRecDepth 20000 in
theorem gX2_change_X0_add : GoodIn wsX2_change (wsV RX2 65 RX0 yX0_add wsX0_add) := goodIn_app (goodIn_of _ (by decide +kernel)) ggX2_change_X0_add
set_option maxRecDepth 20000 in
theorem ggX2_change_X2_setText : GoodIn wsX2_change wsX2_setText := goodIn_r _ [38, 2, 39, 40, 41, 42, 43, 44, 45, 46, 47, 48, 49, 50, 51, 52, 53, 54, 55, 56, 57, 58, 59, 60, 61, 62, 63, 64, 65, 66, 67, 68, 69, 70, 71, 72, 73, 74, 8, 75, 17, 76, 77, 78, 79, 80, 81, 82, 83, 84, 85, 86, 87] (by decide +kernel) (by decide +kernel)
set_option maxRecDepth 20000 in
theorem gX2_change_X2_setText : GoodIn wsX2_change (wsV RX2 85 RX2 yX2_setText wsX2_setText) := goodIn_app (goodIn_of _ (by decide +kernel)) ggX2_change_X2_setText
theorem dX2_change_0 : decode cX2_change 0 = .ok (.iload_n 1, 1) := by decide +kernel
theorem dX2_change_1 : decode cX2_change 1 = .ok (.invokestatic 71, 3) := by decide +kernel
theorem dX2_change_4 : decode cX2_change 4 = .ok (.ifCond .ne 17, 3) := by decide +kernel
theorem dX2_change_7 : decode cX2_change 7 = .ok (.iload_n 2, 1) := by decide +kernel
theorem dX2_change_8 : decode cX2_change 8 = .ok (.invokestatic 71, 3) := by decide +kernel
theorem dX2_change_11 : decode cX2_change 11 = .ok (.ifCond .ne 10, 3) := by decide +kernel
theorem dX2_change_14 : decode cX2_change 14 = .ok (.iload_n 3, 1) := by decide +kernel
theorem dX2_change_15 : decode cX2_change 15 = .ok (.invokestatic 101, 3) := by decide +kernel
theorem dX2_change_18 : decode cX2_change 18 = .ok (.ifCond .eq 6, 3) := by decide +kernel
theorem dX2_change_21 : decode cX2_change 21 = .ok (.ldc 47, 2) := by decide +kernel
theorem dX2_change_23 : decode cX2_change 23 = .ok (.ireturn, 1) := by decide +kernel
theorem dX2_change_24 : decode cX2_change 24 = .ok (.aload_n 0, 1) := by decide +kernel
theorem dX2_change_25 : decode cX2_change 25 = .ok (.getfield 11, 3) := by decide +kernel
theorem dX2_change_28 : decode cX2_change 28 = .ok (.iload_n 2, 1) := by decide +kernel
theorem dX2_change_29 : decode cX2_change 29 = .ok (.aaload, 1) := by decide +kernel
theorem dX2_change_30 : decode cX2_change 30 = .ok (.astore 4, 2) := by decide +kernel
theorem dX2_change_32 : decode cX2_change 32 = .ok (.aload 4, 2) := by decide +kernel
theorem dX2_change_34 : decode cX2_change 34 = .ok (.ifnonnull 9, 3) := by decide +kernel
theorem dX2_change_37 : decode cX2_change 37 = .ok (.aload_n 0, 1) := by decide +kernel
theorem dX2_change_38 : decode cX2_change 38 = .ok (.iconst 1, 1) := by decide +kernel
theorem dX2_change_39 : decode cX2_change 39 = .ok (.invokevirtual 55, 3) := by decide +kernel
theorem dX2_change_42 : decode cX2_change 42 = .ok (.ireturn, 1) := by decide +kernel
theorem dX2_change_43 : decode cX2_change 43 = .ok (.aload 4, 2) := by decide +kernel
theorem dX2_change_45 : decode cX2_change 45 = .ok (.getfield 94, 3) := by decide +kernel
theorem dX2_change_48 : decode cX2_change 48 = .ok (.iconst 2, 1) := by decide +kernel
theorem dX2_change_49 : decode cX2_change 49 = .ok (.if_icmp .ne 9, 3) := by decide +kernel
theorem dX2_change_52 : decode cX2_change 52 = .ok (.aload_n 0, 1) := by decide +kernel
theorem dX2_change_53 : decode cX2_change 53 = .ok (.iconst 2, 1) := by decide +kernel
theorem dX2_change_54 : decode cX2_change 54 = .ok (.invokevirtual 55, 3) := by decide +kernel
theorem dX2_change_57 : decode cX2_change 57 = .ok (.ireturn, 1) := by decide +kernel
theorem dX2_change_58 : decode cX2_change 58 = .ok (.aload_n 0, 1) := by decide +kernel
theorem dX2_change_59 : decode cX2_change 59 = .ok (.getfield 31, 3) := by decide +kernel
theorem dX2_change_62 : decode cX2_change 62 = .ok (.invokevirtual 68, 3) := by decide +kernel
theorem dX2_change_65 : decode cX2_change 65 = .ok (.iconst 0, 1) := by decide +kernel
theorem dX2_change_66 : decode cX2_change 66 = .ok (.istore 5, 2) := by decide +kernel
theorem dX2_change_68 : decode cX2_change 68 = .ok (.iload 5, 2) := by decide +kernel
theorem dX2_change_70 : decode cX2_change 70 = .ok (.aload 4, 2) := by decide +kernel
theorem dX2_change_72 : decode cX2_change 72 = .ok (.getfield 93, 3) := by decide +kernel
theorem dX2_change_75 : decode cX2_change 75 = .ok (.arraylength, 1) := by decide +kernel
theorem dX2_change_76 : decode cX2_change 76 = .ok (.if_icmp .ge 45, 3) := by decide +kernel
theorem dX2_change_79 : decode cX2_change 79 = .ok (.aload_n 0, 1) := by decide +kernel
theorem dX2_change_80 : decode cX2_change 80 = .ok (.getfield 31, 3) := by decide +kernel
theorem dX2_change_83 : decode cX2_change 83 = .ok (.iload_n 3, 1) := by decide +kernel
theorem dX2_change_84 : decode cX2_change 84 = .ok (.ifCond .ne 17, 3) := by decide +kernel
theorem dX2_change_87 : decode cX2_change 87 = .ok (.aload 4, 2) := by decide +kernel
theorem dX2_change_89 : decode cX2_change 89 = .ok (.getfield 93, 3) := by decide +kernel
theorem dX2_change_92 : decode cX2_change 92 = .ok (.iload 5, 2) := by decide +kernel
theorem dX2_change_94 : decode cX2_change 94 = .ok (.iaload, 1) := by decide +kernel
theorem dX2_change_95 : decode cX2_change 95 = .ok (.invokestatic 158, 3) := by decide +kernel
theorem dX2_change_98 : decode cX2_change 98 = .ok (.goto 14, 3) := by decide +kernel
theorem dX2_change_101 : decode cX2_change 101 = .ok (.aload 4, 2) := by decide +kernel
theorem dX2_change_103 : decode cX2_change 103 = .ok (.getfield 93, 3) := by decide +kernel
theorem dX2_change_106 : decode cX2_change 106 = .ok (.iload 5, 2) := by decide +kernel
theorem dX2_change_108 : decode cX2_change 108 = .ok (.iaload, 1) := by decide +kernel
theorem dX2_change_109 : decode cX2_change 109 = .ok (.invokestatic 161, 3) := by decide +kernel
theorem dX2_change_112 : decode cX2_change 112 = .ok (.invokevirtual 65, 3) := by decide +kernel
theorem dX2_change_115 : decode cX2_change 115 = .ok (.iinc 5 1, 3) := by decide +kernel
theorem dX2_change_118 : decode cX2_change 118 = .ok (.goto (-50), 3) := by decide +kernel
theorem dX2_change_121 : decode cX2_change 121 = .ok (.aload_n 0, 1) := by decide +kernel
theorem dX2_change_122 : decode cX2_change 122 = .ok (.iload_n 1, 1) := by decide +kernel
theorem dX2_change_123 : decode cX2_change 123 = .ok (.aload 4, 2) := by decide +kernel
theorem dX2_change_125 : decode cX2_change 125 = .ok (.getfield 94, 3) := by decide +kernel
theorem dX2_change_128 : decode cX2_change 128 = .ok (.aload_n 0, 1) := by decide +kernel
theorem dX2_change_129 : decode cX2_change 129 = .ok (.getfield 31, 3) := by decide +kernel
theorem dX2_change_132 : decode cX2_change 132 = .ok (.invokevirtual 85, 3) := by decide +kernel
theorem dX2_change_135 : decode cX2_change 135 = .ok (.ireturn, 1) := by decide +kernel
set_option maxRecDepth 20000 in
theorem ggX2_keep_X2_isNoText : GoodIn wsX2_keep wsX2_isNoText := goodIn_r _ [9] (by decide +kernel) (by decide +kernel)
set_option maxRecDepth 20000 in
theorem gX2_keep_X2_isNoText : GoodIn wsX2_keep (va_wsS RX2 71 yX2_isNoText wsX2_isNoText) := goodIn_app (goodIn_of _ (by decide +kernel)) ggX2_keep_X2_isNoText
set_option maxRecDepth 20000 in
theorem ggX2_keep_X2_refuse : GoodIn wsX2_keep wsX2_refuse := goodIn_r _ [13, 14, 27, 28, 29, 30, 31, 32, 33, 34] (by decide +kernel) (by decide +kernel)
set_option maxRecDepth 20000 in
theorem gX2_keep_X2_refuse : GoodIn wsX2_keep (wsV RX2 55 RX2 yX2_refuse wsX2_refuse) := goodIn_app (goodIn_of _ (by decide +kernel)) ggX2_keep_X2_refuse
set_option maxRecDepth 20000 in
theorem ggX2_keep_X2_keptLike : GoodIn wsX2_keep wsX2_keptLike := goodIn_r _ [18, 5, 4, 19, 20, 8, 21, 22, 27, 28, 29, 30, 31, 32, 33, 34, 35, 36] (by decide +kernel) (by decide +kernel)
set_option maxRecDepth 20000 in
theorem gX2_keep_X2_keptLike : GoodIn wsX2_keep (wsV RX2 164 RX2 yX2_keptLike wsX2_keptLike) := goodIn_app (goodIn_of _ (by decide +kernel)) ggX2_keep_X2_keptLike
set_option maxRecDepth 20000 in
theorem ggX2_keep_X2_done : GoodIn wsX2_keep wsX2_done := goodIn_r _ [26, 14, 27, 28, 29, 30, 31, 32, 33, 34] (by decide +kernel) (by decide +kernel)
set_option maxRecDepth 20000 in
theorem gX2_keep_X2_done : GoodIn wsX2_keep (wsV RX2 61 RX2 yX2_done wsX2_done) := goodIn_app (goodIn_of _ (by decide +kernel)) ggX2_keep_X2_done
theorem dX2_keep_0 : decode cX2_keep 0 = .ok (.iload_n 1, 1) := by decide +kernel
theorem dX2_keep_1 : decode cX2_keep 1 = .ok (.invokestatic 71, 3) := by decide +kernel
theorem dX2_keep_4 : decode cX2_keep 4 = .ok (.ifCond .eq 6, 3) := by decide +kernel
theorem dX2_keep_7 : decode cX2_keep 7 = .ok (.ldc 47, 2) := by decide +kernel
theorem dX2_keep_9 : decode cX2_keep 9 = .ok (.ireturn, 1) := by decide +kernel
theorem dX2_keep_10 : decode cX2_keep 10 = .ok (.aload_n 0, 1) := by decide +kernel
theorem dX2_keep_11 : decode cX2_keep 11 = .ok (.getfield 11, 3) := by decide +kernel
theorem dX2_keep_14 : decode cX2_keep 14 = .ok (.iload_n 1, 1) := by decide +kernel
theorem dX2_keep_15 : decode cX2_keep 15 = .ok (.aaload, 1) := by decide +kernel
theorem dX2_keep_16 : decode cX2_keep 16 = .ok (.astore_n 2, 1) := by decide +kernel
theorem dX2_keep_17 : decode cX2_keep 17 = .ok (.aload_n 2, 1) := by decide +kernel
theorem dX2_keep_18 : decode cX2_keep 18 = .ok (.ifnonnull 9, 3) := by decide +kernel
theorem dX2_keep_21 : decode cX2_keep 21 = .ok (.aload_n 0, 1) := by decide +kernel
theorem dX2_keep_22 : decode cX2_keep 22 = .ok (.iconst 1, 1) := by decide +kernel
theorem dX2_keep_23 : decode cX2_keep 23 = .ok (.invokevirtual 55, 3) := by decide +kernel
theorem dX2_keep_26 : decode cX2_keep 26 = .ok (.ireturn, 1) := by decide +kernel
theorem dX2_keep_27 : decode cX2_keep 27 = .ok (.aload_n 2, 1) := by decide +kernel
theorem dX2_keep_28 : decode cX2_keep 28 = .ok (.getfield 94, 3) := by decide +kernel
theorem dX2_keep_31 : decode cX2_keep 31 = .ok (.ifCond .eq 9, 3) := by decide +kernel
theorem dX2_keep_34 : decode cX2_keep 34 = .ok (.aload_n 0, 1) := by decide +kernel
theorem dX2_keep_35 : decode cX2_keep 35 = .ok (.iconst 2, 1) := by decide +kernel
theorem dX2_keep_36 : decode cX2_keep 36 = .ok (.invokevirtual 55, 3) := by decide +kernel
theorem dX2_keep_39 : decode cX2_keep 39 = .ok (.ireturn, 1) := by decide +kernel
theorem dX2_keep_40 : decode cX2_keep 40 = .ok (.aload_n 0, 1) := by decide +kernel
theorem dX2_keep_41 : decode cX2_keep 41 = .ok (.aload_n 2, 1) := by decide +kernel
theorem dX2_keep_42 : decode cX2_keep 42 = .ok (.invokevirtual 164, 3) := by decide +kernel
theorem dX2_keep_45 : decode cX2_keep 45 = .ok (.istore_n 3, 1) := by decide +kernel
theorem dX2_keep_46 : decode cX2_keep 46 = .ok (.iload_n 3, 1) := by decide +kernel
theorem dX2_keep_47 : decode cX2_keep 47 = .ok (.ifCond .lt 30, 3) := by decide +kernel
theorem dX2_keep_50 : decode cX2_keep 50 = .ok (.iload_n 3, 1) := by decide +kernel
theorem dX2_keep_51 : decode cX2_keep 51 = .ok (.aload_n 0, 1) := by decide +kernel
theorem dX2_keep_52 : decode cX2_keep 52 = .ok (.getfield 15, 3) := by decide +kernel
theorem dX2_keep_55 : decode cX2_keep 55 = .ok (.arraylength, 1) := by decide +kernel
theorem dX2_keep_56 : decode cX2_keep 56 = .ok (.if_icmp .ge 21, 3) := by decide +kernel
theorem dX2_keep_59 : decode cX2_keep 59 = .ok (.aload_n 0, 1) := by decide +kernel
theorem dX2_keep_60 : decode cX2_keep 60 = .ok (.getfield 11, 3) := by decide +kernel
theorem dX2_keep_63 : decode cX2_keep 63 = .ok (.iload_n 1, 1) := by decide +kernel
theorem dX2_keep_64 : decode cX2_keep 64 = .ok (.aload_n 0, 1) := by decide +kernel
theorem dX2_keep_65 : decode cX2_keep 65 = .ok (.getfield 15, 3) := by decide +kernel
theorem dX2_keep_68 : decode cX2_keep 68 = .ok (.iload_n 3, 1) := by decide +kernel
theorem dX2_keep_69 : decode cX2_keep 69 = .ok (.aaload, 1) := by decide +kernel
theorem dX2_keep_70 : decode cX2_keep 70 = .ok (.aastore, 1) := by decide +kernel
theorem dX2_keep_71 : decode cX2_keep 71 = .ok (.aload_n 0, 1) := by decide +kernel
theorem dX2_keep_72 : decode cX2_keep 72 = .ok (.iload_n 3, 1) := by decide +kernel
theorem dX2_keep_73 : decode cX2_keep 73 = .ok (.invokevirtual 61, 3) := by decide +kernel
theorem dX2_keep_76 : decode cX2_keep 76 = .ok (.ireturn, 1) := by decide +kernel
theorem dX2_keep_77 : decode cX2_keep 77 = .ok (.aload_n 0, 1) := by decide +kernel
theorem dX2_keep_78 : decode cX2_keep 78 = .ok (.getfield 18, 3) := by decide +kernel
theorem dX2_keep_81 : decode cX2_keep 81 = .ok (.ifCond .lt 15, 3) := by decide +kernel
theorem dX2_keep_84 : decode cX2_keep 84 = .ok (.aload_n 0, 1) := by decide +kernel
theorem dX2_keep_85 : decode cX2_keep 85 = .ok (.getfield 18, 3) := by decide +kernel
theorem dX2_keep_88 : decode cX2_keep 88 = .ok (.aload_n 0, 1) := by decide +kernel
theorem dX2_keep_89 : decode cX2_keep 89 = .ok (.getfield 15, 3) := by decide +kernel
theorem dX2_keep_92 : decode cX2_keep 92 = .ok (.arraylength, 1) := by decide +kernel
theorem dX2_keep_93 : decode cX2_keep 93 = .ok (.if_icmp .lt 10, 3) := by decide +kernel
theorem dX2_keep_96 : decode cX2_keep 96 = .ok (.aload_n 0, 1) := by decide +kernel
theorem dX2_keep_97 : decode cX2_keep 97 = .ok (.bipush 6, 2) := by decide +kernel
theorem dX2_keep_99 : decode cX2_keep 99 = .ok (.invokevirtual 55, 3) := by decide +kernel
theorem dX2_keep_102 : decode cX2_keep 102 = .ok (.ireturn, 1) := by decide +kernel
theorem dX2_keep_103 : decode cX2_keep 103 = .ok (.aload_n 0, 1) := by decide +kernel
theorem dX2_keep_104 : decode cX2_keep 104 = .ok (.getfield 15, 3) := by decide +kernel
theorem dX2_keep_107 : decode cX2_keep 107 = .ok (.aload_n 0, 1) := by decide +kernel
theorem dX2_keep_108 : decode cX2_keep 108 = .ok (.getfield 18, 3) := by decide +kernel
theorem dX2_keep_111 : decode cX2_keep 111 = .ok (.aload_n 2, 1) := by decide +kernel
theorem dX2_keep_112 : decode cX2_keep 112 = .ok (.aastore, 1) := by decide +kernel
theorem dX2_keep_113 : decode cX2_keep 113 = .ok (.aload_n 0, 1) := by decide +kernel
theorem dX2_keep_114 : decode cX2_keep 114 = .ok (.dup, 1) := by decide +kernel
theorem dX2_keep_115 : decode cX2_keep 115 = .ok (.getfield 18, 3) := by decide +kernel
theorem dX2_keep_118 : decode cX2_keep 118 = .ok (.iconst 1, 1) := by decide +kernel
theorem dX2_keep_119 : decode cX2_keep 119 = .ok (.iadd, 1) := by decide +kernel
theorem dX2_keep_120 : decode cX2_keep 120 = .ok (.putfield 18, 3) := by decide +kernel
theorem dX2_keep_123 : decode cX2_keep 123 = .ok (.aload_n 0, 1) := by decide +kernel
theorem dX2_keep_124 : decode cX2_keep 124 = .ok (.aload_n 0, 1) := by decide +kernel
theorem dX2_keep_125 : decode cX2_keep 125 = .ok (.getfield 18, 3) := by decide +kernel
theorem dX2_keep_128 : decode cX2_keep 128 = .ok (.iconst 1, 1) := by decide +kernel
theorem dX2_keep_129 : decode cX2_keep 129 = .ok (.isub, 1) := by decide +kernel
theorem dX2_keep_130 : decode cX2_keep 130 = .ok (.invokevirtual 61, 3) := by decide +kernel
theorem dX2_keep_133 : decode cX2_keep 133 = .ok (.ireturn, 1) := by decide +kernel
theorem dX2_kept_0 : decode cX2_kept 0 = .ok (.aload_n 0, 1) := by decide +kernel
theorem dX2_kept_1 : decode cX2_kept 1 = .ok (.getfield 18, 3) := by decide +kernel
theorem dX2_kept_4 : decode cX2_kept 4 = .ok (.ireturn, 1) := by decide +kernel
set_option maxRecDepth 20000 in
theorem ggX2_same_X2_isNoText : GoodIn wsX2_same wsX2_isNoText := goodIn_r _ [6] (by decide +kernel) (by decide +kernel)
set_option maxRecDepth 20000 in
theorem gX2_same_X2_isNoText : GoodIn wsX2_same (va_wsS RX2 71 yX2_isNoText wsX2_isNoText) := goodIn_app (goodIn_of _ (by decide +kernel)) ggX2_same_X2_isNoText
theorem dX2_same_0 : decode cX2_same 0 = .ok (.iload_n 1, 1) := by decide +kernel
theorem dX2_same_1 : decode cX2_same 1 = .ok (.invokestatic 71, 3) := by decide +kernel
theorem dX2_same_4 : decode cX2_same 4 = .ok (.ifCond .ne 10, 3) := by decide +kernel
theorem dX2_same_7 : decode cX2_same 7 = .ok (.iload_n 2, 1) := by decide +kernel
theorem dX2_same_8 : decode cX2_same 8 = .ok (.invokestatic 71, 3) := by decide +kernel
theorem dX2_same_11 : decode cX2_same 11 = .ok (.ifCond .eq 6, 3) := by decide +kernel
theorem dX2_same_14 : decode cX2_same 14 = .ok (.ldc 47, 2) := by decide +kernel
theorem dX2_same_16 : decode cX2_same 16 = .ok (.ireturn, 1) := by decide +kernel
theorem dX2_same_17 : decode cX2_same 17 = .ok (.aload_n 0, 1) := by decide +kernel
theorem dX2_same_18 : decode cX2_same 18 = .ok (.getfield 11, 3) := by decide +kernel
theorem dX2_same_21 : decode cX2_same 21 = .ok (.iload_n 1, 1) := by decide +kernel
theorem dX2_same_22 : decode cX2_same 22 = .ok (.aaload, 1) := by decide +kernel
theorem dX2_same_23 : decode cX2_same 23 = .ok (.aload_n 0, 1) := by decide +kernel
theorem dX2_same_24 : decode cX2_same 24 = .ok (.getfield 11, 3) := by decide +kernel
theorem dX2_same_27 : decode cX2_same 27 = .ok (.iload_n 2, 1) := by decide +kernel
theorem dX2_same_28 : decode cX2_same 28 = .ok (.aaload, 1) := by decide +kernel
theorem dX2_same_29 : decode cX2_same 29 = .ok (.if_acmp .ne 7, 3) := by decide +kernel
theorem dX2_same_32 : decode cX2_same 32 = .ok (.iconst 1, 1) := by decide +kernel
theorem dX2_same_33 : decode cX2_same 33 = .ok (.goto 4, 3) := by decide +kernel
theorem dX2_same_36 : decode cX2_same 36 = .ok (.iconst 0, 1) := by decide +kernel
theorem dX2_same_37 : decode cX2_same 37 = .ok (.ireturn, 1) := by decide +kernel
set_option maxRecDepth 20000 in
theorem ggX2_kind_X2_isNoPoint : GoodIn wsX2_kind wsX2_isNoPoint := goodIn_r _ [6, 7] (by decide +kernel) (by decide +kernel)
set_option maxRecDepth 20000 in
theorem gX2_kind_X2_isNoPoint : GoodIn wsX2_kind (va_wsS RX2 43 yX2_isNoPoint wsX2_isNoPoint) := goodIn_app (goodIn_of _ (by decide +kernel)) ggX2_kind_X2_isNoPoint
set_option maxRecDepth 20000 in
theorem ggX2_kind_X2_isHigh : GoodIn wsX2_kind wsX2_isHigh := goodIn_r _ [10, 11, 12] (by decide +kernel) (by decide +kernel)
set_option maxRecDepth 20000 in
theorem gX2_kind_X2_isHigh : GoodIn wsX2_kind (va_wsS RX2 167 yX2_isHigh wsX2_isHigh) := goodIn_app (goodIn_of _ (by decide +kernel)) ggX2_kind_X2_isHigh
set_option maxRecDepth 20000 in
theorem ggX2_kind_X2_isLow : GoodIn wsX2_kind wsX2_isLow := goodIn_r _ [15, 12, 16] (by decide +kernel) (by decide +kernel)
set_option maxRecDepth 20000 in
theorem gX2_kind_X2_isLow : GoodIn wsX2_kind (va_wsS RX2 170 yX2_isLow wsX2_isLow) := goodIn_app (goodIn_of _ (by decide +kernel)) ggX2_kind_X2_isLow
set_option maxRecDepth 20000 in
theorem ggX2_kind_X2_greater : GoodIn wsX2_kind wsX2_greater := goodIn_r _ [19] (by decide +kernel) (by decide +kernel)
set_option maxRecDepth 20000 in
theorem gX2_kind_X2_greater : GoodIn wsX2_kind (va_wsS RX2 158 yX2_greater wsX2_greater) := goodIn_app (goodIn_of _ (by decide +kernel)) ggX2_kind_X2_greater
set_option maxRecDepth 20000 in
theorem ggX2_kind_X2_lesser : GoodIn wsX2_kind wsX2_lesser := goodIn_r _ [22] (by decide +kernel) (by decide +kernel)
set_option maxRecDepth 20000 in
theorem gX2_kind_X2_lesser : GoodIn wsX2_kind (va_wsS RX2 161 yX2_lesser wsX2_lesser) := goodIn_app (goodIn_of _ (by decide +kernel)) ggX2_kind_X2_lesser
theorem dX2_kind_0 : decode cX2_kind 0 = .ok (.iload_n 1, 1) := by decide +kernel
theorem dX2_kind_1 : decode cX2_kind 1 = .ok (.invokestatic 43, 3) := by decide +kernel
theorem dX2_kind_4 : decode cX2_kind 4 = .ok (.ifCond .eq 6, 3) := by decide +kernel
theorem dX2_kind_7 : decode cX2_kind 7 = .ok (.ldc 47, 2) := by decide +kernel
theorem dX2_kind_9 : decode cX2_kind 9 = .ok (.ireturn, 1) := by decide +kernel
theorem dX2_kind_10 : decode cX2_kind 10 = .ok (.iload_n 1, 1) := by decide +kernel
theorem dX2_kind_11 : decode cX2_kind 11 = .ok (.invokestatic 167, 3) := by decide +kernel
theorem dX2_kind_14 : decode cX2_kind 14 = .ok (.ifCond .eq 5, 3) := by decide +kernel
theorem dX2_kind_17 : decode cX2_kind 17 = .ok (.iconst 0, 1) := by decide +kernel
theorem dX2_kind_18 : decode cX2_kind 18 = .ok (.ireturn, 1) := by decide +kernel
theorem dX2_kind_19 : decode cX2_kind 19 = .ok (.iload_n 1, 1) := by decide +kernel
theorem dX2_kind_20 : decode cX2_kind 20 = .ok (.invokestatic 170, 3) := by decide +kernel
theorem dX2_kind_23 : decode cX2_kind 23 = .ok (.ifCond .eq 5, 3) := by decide +kernel
theorem dX2_kind_26 : decode cX2_kind 26 = .ok (.iconst 1, 1) := by decide +kernel
theorem dX2_kind_27 : decode cX2_kind 27 = .ok (.ireturn, 1) := by decide +kernel
theorem dX2_kind_28 : decode cX2_kind 28 = .ok (.iload_n 1, 1) := by decide +kernel
theorem dX2_kind_29 : decode cX2_kind 29 = .ok (.bipush 48, 2) := by decide +kernel
theorem dX2_kind_31 : decode cX2_kind 31 = .ok (.if_icmp .lt 11, 3) := by decide +kernel
theorem dX2_kind_34 : decode cX2_kind 34 = .ok (.iload_n 1, 1) := by decide +kernel
theorem dX2_kind_35 : decode cX2_kind 35 = .ok (.bipush 57, 2) := by decide +kernel
theorem dX2_kind_37 : decode cX2_kind 37 = .ok (.if_icmp .gt 5, 3) := by decide +kernel
theorem dX2_kind_40 : decode cX2_kind 40 = .ok (.iconst 2, 1) := by decide +kernel
theorem dX2_kind_41 : decode cX2_kind 41 = .ok (.ireturn, 1) := by decide +kernel
theorem dX2_kind_42 : decode cX2_kind 42 = .ok (.iload_n 1, 1) := by decide +kernel
theorem dX2_kind_43 : decode cX2_kind 43 = .ok (.invokestatic 158, 3) := by decide +kernel
theorem dX2_kind_46 : decode cX2_kind 46 = .ok (.iload_n 1, 1) := by decide +kernel
theorem dX2_kind_47 : decode cX2_kind 47 = .ok (.if_icmp .ne 11, 3) := by decide +kernel
theorem dX2_kind_50 : decode cX2_kind 50 = .ok (.iload_n 1, 1) := by decide +kernel
theorem dX2_kind_51 : decode cX2_kind 51 = .ok (.invokestatic 161, 3) := by decide +kernel
theorem dX2_kind_54 : decode cX2_kind 54 = .ok (.iload_n 1, 1) := by decide +kernel
theorem dX2_kind_55 : decode cX2_kind 55 = .ok (.if_icmp .eq 5, 3) := by decide +kernel
theorem dX2_kind_58 : decode cX2_kind 58 = .ok (.iconst 3, 1) := by decide +kernel
theorem dX2_kind_59 : decode cX2_kind 59 = .ok (.ireturn, 1) := by decide +kernel
theorem dX2_kind_60 : decode cX2_kind 60 = .ok (.iload_n 1, 1) := by decide +kernel
theorem dX2_kind_61 : decode cX2_kind 61 = .ok (.bipush 9, 2) := by decide +kernel
theorem dX2_kind_63 : decode cX2_kind 63 = .ok (.if_icmp .lt 9, 3) := by decide +kernel
theorem dX2_kind_66 : decode cX2_kind 66 = .ok (.iload_n 1, 1) := by decide +kernel
theorem dX2_kind_67 : decode cX2_kind 67 = .ok (.bipush 13, 2) := by decide +kernel
theorem dX2_kind_69 : decode cX2_kind 69 = .ok (.if_icmp .le 16, 3) := by decide +kernel
theorem dX2_kind_72 : decode cX2_kind 72 = .ok (.iload_n 1, 1) := by decide +kernel
theorem dX2_kind_73 : decode cX2_kind 73 = .ok (.bipush 32, 2) := by decide +kernel
theorem dX2_kind_75 : decode cX2_kind 75 = .ok (.if_icmp .eq 10, 3) := by decide +kernel
theorem dX2_kind_78 : decode cX2_kind 78 = .ok (.iload_n 1, 1) := by decide +kernel
theorem dX2_kind_79 : decode cX2_kind 79 = .ok (.sipush 160, 3) := by decide +kernel
theorem dX2_kind_82 : decode cX2_kind 82 = .ok (.if_icmp .ne 5, 3) := by decide +kernel
theorem dX2_kind_85 : decode cX2_kind 85 = .ok (.iconst 4, 1) := by decide +kernel
theorem dX2_kind_86 : decode cX2_kind 86 = .ok (.ireturn, 1) := by decide +kernel
theorem dX2_kind_87 : decode cX2_kind 87 = .ok (.iload_n 1, 1) := by decide +kernel
theorem dX2_kind_88 : decode cX2_kind 88 = .ok (.ldc 173, 2) := by decide +kernel
theorem dX2_kind_90 : decode cX2_kind 90 = .ok (.if_icmp .lt 7, 3) := by decide +kernel
theorem dX2_kind_93 : decode cX2_kind 93 = .ok (.iconst 5, 1) := by decide +kernel
theorem dX2_kind_94 : decode cX2_kind 94 = .ok (.goto 5, 3) := by decide +kernel
theorem dX2_kind_97 : decode cX2_kind 97 = .ok (.bipush 6, 2) := by decide +kernel
theorem dX2_kind_99 : decode cX2_kind 99 = .ok (.ireturn, 1) := by decide +kernel
theorem dX2_done_0 : decode cX2_done 0 = .ok (.aload_n 0, 1) := by decide +kernel
theorem dX2_done_1 : decode cX2_done 1 = .ok (.iconst 0, 1) := by decide +kernel
theorem dX2_done_2 : decode cX2_done 2 = .ok (.putfield 37, 3) := by decide +kernel
theorem dX2_done_5 : decode cX2_done 5 = .ok (.iload_n 1, 1) := by decide +kernel
theorem dX2_done_6 : decode cX2_done 6 = .ok (.ireturn, 1) := by decide +kernel
theorem dX2_refuse_0 : decode cX2_refuse 0 = .ok (.aload_n 0, 1) := by decide +kernel
theorem dX2_refuse_1 : decode cX2_refuse 1 = .ok (.iload_n 1, 1) := by decide +kernel
theorem dX2_refuse_2 : decode cX2_refuse 2 = .ok (.putfield 37, 3) := by decide +kernel
theorem dX2_refuse_5 : decode cX2_refuse 5 = .ok (.iconst 0, 1) := by decide +kernel
theorem dX2_refuse_6 : decode cX2_refuse 6 = .ok (.ireturn, 1) := by decide +kernel
set_option maxRecDepth 20000 in
theorem ggX2_refuseAt_X2_refuse : GoodIn wsX2_refuseAt wsX2_refuse := goodIn_r _ [6, 7, 8, 9, 10, 11, 12, 13, 14, 15] (by decide +kernel) (by decide +kernel)
set_option maxRecDepth 20000 in
theorem gX2_refuseAt_X2_refuse : GoodIn wsX2_refuseAt (wsV RX2 55 RX2 yX2_refuse wsX2_refuse) := goodIn_app (goodIn_of _ (by decide +kernel)) ggX2_refuseAt_X2_refuse
theorem dX2_refuseAt_0 : decode cX2_refuseAt 0 = .ok (.aload_n 0, 1) := by decide +kernel
theorem dX2_refuseAt_1 : decode cX2_refuseAt 1 = .ok (.iload_n 1, 1) := by decide +kernel
theorem dX2_refuseAt_2 : decode cX2_refuseAt 2 = .ok (.putfield 40, 3) := by decide +kernel
theorem dX2_refuseAt_5 : decode cX2_refuseAt 5 = .ok (.aload_n 0, 1) := by decide +kernel
theorem dX2_refuseAt_6 : decode cX2_refuseAt 6 = .ok (.iconst 5, 1) := by decide +kernel
theorem dX2_refuseAt_7 : decode cX2_refuseAt 7 = .ok (.invokevirtual 55, 3) := by decide +kernel
theorem dX2_refuseAt_10 : decode cX2_refuseAt 10 = .ok (.ireturn, 1) := by decide +kernel
set_option maxRecDepth 20000 in
theorem ggX2_setText_X1_init : GoodIn wsX2_setText wsX1_init := goodIn_r _ [8, 9, 10, 11, 12, 13, 14, 15, 16, 17, 18, 19, 20, 21, 22, 23, 24, 25, 26, 27, 28, 29, 30, 31, 32, 33, 34, 49, 50, 51, 52] (by decide +kernel) (by decide +kernel)
set_option maxRecDepth 20000 in
theorem gX2_setText_X1_init : GoodIn wsX2_setText (wsX1_init) := ggX2_setText_X1_init
set_option maxRecDepth 20000 in
theorem ggX2_setText_X2_done : GoodIn wsX2_setText wsX2_done := goodIn_r _ [39, 40, 41, 42, 43, 44, 45, 46, 47, 48] (by decide +kernel) (by decide +kernel)
set_option maxRecDepth 20000 in
theorem gX2_setText_X2_done : GoodIn wsX2_setText (wsV RX2 61 RX2 yX2_done wsX2_done) := goodIn_app (goodIn_of _ (by decide +kernel)) ggX2_setText_X2_done
theorem dX2_setText_0 : decode cX2_setText 0 = .ok (.aload_n 0, 1) := by decide +kernel
theorem dX2_setText_1 : decode cX2_setText 1 = .ok (.getfield 11, 3) := by decide +kernel
theorem dX2_setText_4 : decode cX2_setText 4 = .ok (.iload_n 1, 1) := by decide +kernel
theorem dX2_setText_5 : decode cX2_setText 5 = .ok (.new 9, 3) := by decide +kernel
theorem dX2_setText_8 : decode cX2_setText 8 = .ok (.dup, 1) := by decide +kernel
theorem dX2_setText_9 : decode cX2_setText 9 = .ok (.iload_n 2, 1) := by decide +kernel
theorem dX2_setText_10 : decode cX2_setText 10 = .ok (.aload_n 3, 1) := by decide +kernel
theorem dX2_setText_11 : decode cX2_setText 11 = .ok (.invokespecial 174, 3) := by decide +kernel
theorem dX2_setText_14 : decode cX2_setText 14 = .ok (.aastore, 1) := by decide +kernel
theorem dX2_setText_15 : decode cX2_setText 15 = .ok (.aload_n 0, 1) := by decide +kernel
theorem dX2_setText_16 : decode cX2_setText 16 = .ok (.aload_n 3, 1) := by decide +kernel
theorem dX2_setText_17 : decode cX2_setText 17 = .ok (.getfield 48, 3) := by decide +kernel
theorem dX2_setText_20 : decode cX2_setText 20 = .ok (.invokevirtual 61, 3) := by decide +kernel
theorem dX2_setText_23 : decode cX2_setText 23 = .ok (.ireturn, 1) := by decide +kernel
set_option maxRecDepth 20000 in
theorem ggX2_keptLike_X2_hasSameItems : GoodIn wsX2_keptLike wsX2_hasSameItems := goodIn_r _ [6, 7, 16, 17] (by decide +kernel) (by decide +kernel)
set_option maxRecDepth 20000 in
theorem gX2_keptLike_X2_hasSameItems : GoodIn wsX2_keptLike (va_wsS RX2 177 yX2_hasSameItems wsX2_hasSameItems) := goodIn_app (goodIn_of _ (by decide +kernel)) ggX2_keptLike_X2_hasSameItems
theorem dX2_keptLike_0 : decode cX2_keptLike 0 = .ok (.iconst 0, 1) := by decide +kernel
theorem dX2_keptLike_1 : decode cX2_keptLike 1 = .ok (.istore_n 2, 1) := by decide +kernel
theorem dX2_keptLike_2 : decode cX2_keptLike 2 = .ok (.iload_n 2, 1) := by decide +kernel
theorem dX2_keptLike_3 : decode cX2_keptLike 3 = .ok (.aload_n 0, 1) := by decide +kernel
theorem dX2_keptLike_4 : decode cX2_keptLike 4 = .ok (.getfield 18, 3) := by decide +kernel
theorem dX2_keptLike_7 : decode cX2_keptLike 7 = .ok (.if_icmp .ge 33, 3) := by decide +kernel
theorem dX2_keptLike_10 : decode cX2_keptLike 10 = .ok (.iload_n 2, 1) := by decide +kernel
theorem dX2_keptLike_11 : decode cX2_keptLike 11 = .ok (.aload_n 0, 1) := by decide +kernel
theorem dX2_keptLike_12 : decode cX2_keptLike 12 = .ok (.getfield 15, 3) := by decide +kernel
theorem dX2_keptLike_15 : decode cX2_keptLike 15 = .ok (.arraylength, 1) := by decide +kernel
theorem dX2_keptLike_16 : decode cX2_keptLike 16 = .ok (.if_icmp .ge 24, 3) := by decide +kernel
theorem dX2_keptLike_19 : decode cX2_keptLike 19 = .ok (.aload_n 0, 1) := by decide +kernel
theorem dX2_keptLike_20 : decode cX2_keptLike 20 = .ok (.getfield 15, 3) := by decide +kernel
theorem dX2_keptLike_23 : decode cX2_keptLike 23 = .ok (.iload_n 2, 1) := by decide +kernel
theorem dX2_keptLike_24 : decode cX2_keptLike 24 = .ok (.aaload, 1) := by decide +kernel
theorem dX2_keptLike_25 : decode cX2_keptLike 25 = .ok (.aload_n 1, 1) := by decide +kernel
theorem dX2_keptLike_26 : decode cX2_keptLike 26 = .ok (.invokestatic 177, 3) := by decide +kernel
theorem dX2_keptLike_29 : decode cX2_keptLike 29 = .ok (.ifCond .eq 5, 3) := by decide +kernel
theorem dX2_keptLike_32 : decode cX2_keptLike 32 = .ok (.iload_n 2, 1) := by decide +kernel
theorem dX2_keptLike_33 : decode cX2_keptLike 33 = .ok (.ireturn, 1) := by decide +kernel
theorem dX2_keptLike_34 : decode cX2_keptLike 34 = .ok (.iinc 2 1, 3) := by decide +kernel
theorem dX2_keptLike_37 : decode cX2_keptLike 37 = .ok (.goto (-35), 3) := by decide +kernel
theorem dX2_keptLike_40 : decode cX2_keptLike 40 = .ok (.iconst (-1), 1) := by decide +kernel
theorem dX2_keptLike_41 : decode cX2_keptLike 41 = .ok (.ireturn, 1) := by decide +kernel
theorem dX2_isNoText_0 : decode cX2_isNoText 0 = .ok (.iload_n 0, 1) := by decide +kernel
theorem dX2_isNoText_1 : decode cX2_isNoText 1 = .ok (.ifCond .lt 9, 3) := by decide +kernel
theorem dX2_isNoText_4 : decode cX2_isNoText 4 = .ok (.iload_n 0, 1) := by decide +kernel
theorem dX2_isNoText_5 : decode cX2_isNoText 5 = .ok (.bipush 10, 2) := by decide +kernel
theorem dX2_isNoText_7 : decode cX2_isNoText 7 = .ok (.if_icmp .lt 7, 3) := by decide +kernel
theorem dX2_isNoText_10 : decode cX2_isNoText 10 = .ok (.iconst 1, 1) := by decide +kernel
theorem dX2_isNoText_11 : decode cX2_isNoText 11 = .ok (.goto 4, 3) := by decide +kernel
theorem dX2_isNoText_14 : decode cX2_isNoText 14 = .ok (.iconst 0, 1) := by decide +kernel
theorem dX2_isNoText_15 : decode cX2_isNoText 15 = .ok (.ireturn, 1) := by decide +kernel
theorem dX2_isNoPoint_0 : decode cX2_isNoPoint 0 = .ok (.iload_n 0, 1) := by decide +kernel
theorem dX2_isNoPoint_1 : decode cX2_isNoPoint 1 = .ok (.ifCond .lt 9, 3) := by decide +kernel
theorem dX2_isNoPoint_4 : decode cX2_isNoPoint 4 = .ok (.iload_n 0, 1) := by decide +kernel
theorem dX2_isNoPoint_5 : decode cX2_isNoPoint 5 = .ok (.ldc 181, 2) := by decide +kernel
theorem dX2_isNoPoint_7 : decode cX2_isNoPoint 7 = .ok (.if_icmp .le 7, 3) := by decide +kernel
theorem dX2_isNoPoint_10 : decode cX2_isNoPoint 10 = .ok (.iconst 1, 1) := by decide +kernel
theorem dX2_isNoPoint_11 : decode cX2_isNoPoint 11 = .ok (.goto 4, 3) := by decide +kernel
theorem dX2_isNoPoint_14 : decode cX2_isNoPoint 14 = .ok (.iconst 0, 1) := by decide +kernel
theorem dX2_isNoPoint_15 : decode cX2_isNoPoint 15 = .ok (.ireturn, 1) := by decide +kernel
theorem dX2_isNoForm_0 : decode cX2_isNoForm 0 = .ok (.iload_n 0, 1) := by decide +kernel
theorem dX2_isNoForm_1 : decode cX2_isNoForm 1 = .ok (.ifCond .lt 8, 3) := by decide +kernel
theorem dX2_isNoForm_4 : decode cX2_isNoForm 4 = .ok (.iload_n 0, 1) := by decide +kernel
theorem dX2_isNoForm_5 : decode cX2_isNoForm 5 = .ok (.iconst 3, 1) := by decide +kernel
theorem dX2_isNoForm_6 : decode cX2_isNoForm 6 = .ok (.if_icmp .le 7, 3) := by decide +kernel
theorem dX2_isNoForm_9 : decode cX2_isNoForm 9 = .ok (.iconst 1, 1) := by decide +kernel
theorem dX2_isNoForm_10 : decode cX2_isNoForm 10 = .ok (.goto 4, 3) := by decide +kernel
theorem dX2_isNoForm_13 : decode cX2_isNoForm 13 = .ok (.iconst 0, 1) := by decide +kernel
theorem dX2_isNoForm_14 : decode cX2_isNoForm 14 = .ok (.ireturn, 1) := by decide +kernel
theorem dX2_isNoWay_0 : decode cX2_isNoWay 0 = .ok (.iload_n 0, 1) := by decide +kernel
theorem dX2_isNoWay_1 : decode cX2_isNoWay 1 = .ok (.ifCond .eq 12, 3) := by decide +kernel
theorem dX2_isNoWay_4 : decode cX2_isNoWay 4 = .ok (.iload_n 0, 1) := by decide +kernel
theorem dX2_isNoWay_5 : decode cX2_isNoWay 5 = .ok (.iconst 1, 1) := by decide +kernel
theorem dX2_isNoWay_6 : decode cX2_isNoWay 6 = .ok (.if_icmp .eq 7, 3) := by decide +kernel
theorem dX2_isNoWay_9 : decode cX2_isNoWay 9 = .ok (.iconst 1, 1) := by decide +kernel
theorem dX2_isNoWay_10 : decode cX2_isNoWay 10 = .ok (.goto 4, 3) := by decide +kernel
theorem dX2_isNoWay_13 : decode cX2_isNoWay 13 = .ok (.iconst 0, 1) := by decide +kernel
theorem dX2_isNoWay_14 : decode cX2_isNoWay 14 = .ok (.ireturn, 1) := by decide +kernel
theorem dX2_isHigh_0 : decode cX2_isHigh 0 = .ok (.iload_n 0, 1) := by decide +kernel
theorem dX2_isHigh_1 : decode cX2_isHigh 1 = .ok (.ldc 182, 2) := by decide +kernel
theorem dX2_isHigh_3 : decode cX2_isHigh 3 = .ok (.if_icmp .lt 13, 3) := by decide +kernel
theorem dX2_isHigh_6 : decode cX2_isHigh 6 = .ok (.iload_n 0, 1) := by decide +kernel
theorem dX2_isHigh_7 : decode cX2_isHigh 7 = .ok (.ldc 183, 2) := by decide +kernel
theorem dX2_isHigh_9 : decode cX2_isHigh 9 = .ok (.if_icmp .ge 7, 3) := by decide +kernel
theorem dX2_isHigh_12 : decode cX2_isHigh 12 = .ok (.iconst 1, 1) := by decide +kernel
theorem dX2_isHigh_13 : decode cX2_isHigh 13 = .ok (.goto 4, 3) := by decide +kernel
theorem dX2_isHigh_16 : decode cX2_isHigh 16 = .ok (.iconst 0, 1) := by decide +kernel
theorem dX2_isHigh_17 : decode cX2_isHigh 17 = .ok (.ireturn, 1) := by decide +kernel
theorem dX2_isLow_0 : decode cX2_isLow 0 = .ok (.iload_n 0, 1) := by decide +kernel
theorem dX2_isLow_1 : decode cX2_isLow 1 = .ok (.ldc 183, 2) := by decide +kernel
theorem dX2_isLow_3 : decode cX2_isLow 3 = .ok (.if_icmp .lt 13, 3) := by decide +kernel
theorem dX2_isLow_6 : decode cX2_isLow 6 = .ok (.iload_n 0, 1) := by decide +kernel
theorem dX2_isLow_7 : decode cX2_isLow 7 = .ok (.ldc 184, 2) := by decide +kernel
theorem dX2_isLow_9 : decode cX2_isLow 9 = .ok (.if_icmp .gt 7, 3) := by decide +kernel
theorem dX2_isLow_12 : decode cX2_isLow 12 = .ok (.iconst 1, 1) := by decide +kernel
theorem dX2_isLow_13 : decode cX2_isLow 13 = .ok (.goto 4, 3) := by decide +kernel
theorem dX2_isLow_16 : decode cX2_isLow 16 = .ok (.iconst 0, 1) := by decide +kernel
theorem dX2_isLow_17 : decode cX2_isLow 17 = .ok (.ireturn, 1) := by decide +kernel
theorem dX2_unitCount_0 : decode cX2_unitCount 0 = .ok (.iload_n 0, 1) := by decide +kernel
theorem dX2_unitCount_1 : decode cX2_unitCount 1 = .ok (.ldc 173, 2) := by decide +kernel
theorem dX2_unitCount_3 : decode cX2_unitCount 3 = .ok (.if_icmp .ge 7, 3) := by decide +kernel
theorem dX2_unitCount_6 : decode cX2_unitCount 6 = .ok (.iconst 1, 1) := by decide +kernel
theorem dX2_unitCount_7 : decode cX2_unitCount 7 = .ok (.goto 4, 3) := by decide +kernel
theorem dX2_unitCount_10 : decode cX2_unitCount 10 = .ok (.iconst 2, 1) := by decide +kernel
theorem dX2_unitCount_11 : decode cX2_unitCount 11 = .ok (.ireturn, 1) := by decide +kernel
theorem dX2_maskOf_0 : decode cX2_maskOf 0 = .ok (.iload_n 0, 1) := by decide +kernel
theorem dX2_maskOf_1 : decode cX2_maskOf 1 = .ok (.iconst 2, 1) := by decide +kernel
theorem dX2_maskOf_2 : decode cX2_maskOf 2 = .ok (.if_icmp .ne 9, 3) := by decide +kernel
theorem dX2_maskOf_5 : decode cX2_maskOf 5 = .ok (.sipush 255, 3) := by decide +kernel
theorem dX2_maskOf_8 : decode cX2_maskOf 8 = .ok (.goto 5, 3) := by decide +kernel
theorem dX2_maskOf_11 : decode cX2_maskOf 11 = .ok (.ldc 64, 2) := by decide +kernel
theorem dX2_maskOf_13 : decode cX2_maskOf 13 = .ok (.ireturn, 1) := by decide +kernel
theorem dX2_sortOf_0 : decode cX2_sortOf 0 = .ok (.aload_n 0, 1) := by decide +kernel
theorem dX2_sortOf_1 : decode cX2_sortOf 1 = .ok (.ifnonnull 7, 3) := by decide +kernel
theorem dX2_sortOf_4 : decode cX2_sortOf 4 = .ok (.iconst (-1), 1) := by decide +kernel
theorem dX2_sortOf_5 : decode cX2_sortOf 5 = .ok (.goto 7, 3) := by decide +kernel
theorem dX2_sortOf_8 : decode cX2_sortOf 8 = .ok (.aload_n 0, 1) := by decide +kernel
theorem dX2_sortOf_9 : decode cX2_sortOf 9 = .ok (.getfield 94, 3) := by decide +kernel
theorem dX2_sortOf_12 : decode cX2_sortOf 12 = .ok (.ireturn, 1) := by decide +kernel
