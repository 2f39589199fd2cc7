theorem dX3_back_73 : decode cX3_back 73 = .ok (.goto (-29), 3) := by decide +kernel
theorem dX3_back_76 : decode cX3_back 76 = .ok (.iconst 0, 1) := by decide +kernel
theorem dX3_back_77 : decode cX3_back 77 = .ok (.istore 5, 2) := by decide +kernel
theorem dX3_back_79 : decode cX3_back 79 = .ok (.iload 5, 2) := by decide +kernel
theorem dX3_back_81 : decode cX3_back 81 = .ok (.iconst 1, 1) := by decide +kernel
theorem dX3_back_82 : decode cX3_back 82 = .ok (.iadd, 1) := by decide +kernel
theorem dX3_back_83 : decode cX3_back 83 = .ok (.iload 4, 2) := by decide +kernel
theorem dX3_back_85 : decode cX3_back 85 = .ok (.if_icmp .ge 62, 3) := by decide +kernel
theorem dX3_back_88 : decode cX3_back 88 = .ok (.iload 4, 2) := by decide +kernel
theorem dX3_back_90 : decode cX3_back 90 = .ok (.iconst 2, 1) := by decide +kernel
theorem dX3_back_91 : decode cX3_back 91 = .ok (.isub, 1) := by decide +kernel
theorem dX3_back_92 : decode cX3_back 92 = .ok (.iload 5, 2) := by decide +kernel
theorem dX3_back_94 : decode cX3_back 94 = .ok (.isub, 1) := by decide +kernel
theorem dX3_back_95 : decode cX3_back 95 = .ok (.istore 6, 2) := by decide +kernel
theorem dX3_back_97 : decode cX3_back 97 = .ok (.aload_n 0, 1) := by decide +kernel
theorem dX3_back_98 : decode cX3_back 98 = .ok (.iload_n 2, 1) := by decide +kernel
theorem dX3_back_99 : decode cX3_back 99 = .ok (.iload 6, 2) := by decide +kernel
theorem dX3_back_101 : decode cX3_back 101 = .ok (.iconst 1, 1) := by decide +kernel
theorem dX3_back_102 : decode cX3_back 102 = .ok (.iadd, 1) := by decide +kernel
theorem dX3_back_103 : decode cX3_back 103 = .ok (.invokevirtual 145, 3) := by decide +kernel
theorem dX3_back_106 : decode cX3_back 106 = .ok (.ifCond .eq 35, 3) := by decide +kernel
theorem dX3_back_109 : decode cX3_back 109 = .ok (.aload_n 0, 1) := by decide +kernel
theorem dX3_back_110 : decode cX3_back 110 = .ok (.getfield 38, 3) := by decide +kernel
theorem dX3_back_113 : decode cX3_back 113 = .ok (.iload 5, 2) := by decide +kernel
theorem dX3_back_115 : decode cX3_back 115 = .ok (.aload_n 0, 1) := by decide +kernel
theorem dX3_back_116 : decode cX3_back 116 = .ok (.iload_n 2, 1) := by decide +kernel
theorem dX3_back_117 : decode cX3_back 117 = .ok (.iload 6, 2) := by decide +kernel
theorem dX3_back_119 : decode cX3_back 119 = .ok (.invokevirtual 94, 3) := by decide +kernel
theorem dX3_back_122 : decode cX3_back 122 = .ok (.iastore, 1) := by decide +kernel
theorem dX3_back_123 : decode cX3_back 123 = .ok (.aload_n 0, 1) := by decide +kernel
theorem dX3_back_124 : decode cX3_back 124 = .ok (.getfield 38, 3) := by decide +kernel
theorem dX3_back_127 : decode cX3_back 127 = .ok (.iload 5, 2) := by decide +kernel
theorem dX3_back_129 : decode cX3_back 129 = .ok (.iconst 1, 1) := by decide +kernel
theorem dX3_back_130 : decode cX3_back 130 = .ok (.iadd, 1) := by decide +kernel
theorem dX3_back_131 : decode cX3_back 131 = .ok (.aload_n 0, 1) := by decide +kernel
theorem dX3_back_132 : decode cX3_back 132 = .ok (.iload_n 2, 1) := by decide +kernel
theorem dX3_back_133 : decode cX3_back 133 = .ok (.iload 6, 2) := by decide +kernel
theorem dX3_back_135 : decode cX3_back 135 = .ok (.iconst 1, 1) := by decide +kernel
theorem dX3_back_136 : decode cX3_back 136 = .ok (.iadd, 1) := by decide +kernel
theorem dX3_back_137 : decode cX3_back 137 = .ok (.invokevirtual 94, 3) := by decide +kernel
theorem dX3_back_140 : decode cX3_back 140 = .ok (.iastore, 1) := by decide +kernel
theorem dX3_back_141 : decode cX3_back 141 = .ok (.iinc 5 1, 3) := by decide +kernel
theorem dX3_back_144 : decode cX3_back 144 = .ok (.goto (-65), 3) := by decide +kernel
theorem dX3_back_147 : decode cX3_back 147 = .ok (.aload_n 0, 1) := by decide +kernel
theorem dX3_back_148 : decode cX3_back 148 = .ok (.iload_n 1, 1) := by decide +kernel
theorem dX3_back_149 : decode cX3_back 149 = .ok (.iload_n 3, 1) := by decide +kernel
theorem dX3_back_150 : decode cX3_back 150 = .ok (.aload_n 0, 1) := by decide +kernel
theorem dX3_back_151 : decode cX3_back 151 = .ok (.getfield 38, 3) := by decide +kernel
theorem dX3_back_154 : decode cX3_back 154 = .ok (.iload 4, 2) := by decide +kernel
theorem dX3_back_156 : decode cX3_back 156 = .ok (.invokevirtual 115, 3) := by decide +kernel
theorem dX3_back_159 : decode cX3_back 159 = .ok (.ireturn, 1) := by decide +kernel
set_option maxRecDepth 20000 in
theorem ggX3_copy_X3_isText : GoodIn wsX3_copy wsX3_isText := goodIn_r _ [8, 9, 10, 7, 11] (by decide +kernel) (by decide +kernel)
set_option maxRecDepth 20000 in
theorem gX3_copy_X3_isText : GoodIn wsX3_copy (va_wsS RX3 112 yX3_isText wsX3_isText) := goodIn_app (goodIn_of _ (by decide +kernel)) ggX3_copy_X3_isText
set_option maxRecDepth 20000 in
theorem ggX3_copy_X3_sortOf : GoodIn wsX3_copy wsX3_sortOf := goodIn_r _ [15, 4, 16, 35, 36, 37, 38, 39, 40, 41, 42, 43, 44, 45, 46, 47, 48, 49, 50, 51, 52] (by decide +kernel) (by decide +kernel)
set_option maxRecDepth 20000 in
theorem gX3_copy_X3_sortOf : GoodIn wsX3_copy (wsV RX3 88 RX3 yX3_sortOf wsX3_sortOf) := goodIn_app (goodIn_of _ (by decide +kernel)) ggX3_copy_X3_sortOf
set_option maxRecDepth 20000 in
theorem ggX3_copy_X3_no : GoodIn wsX3_copy wsX3_no := goodIn_r _ [20, 21, 35, 36, 37, 38, 39, 40, 41, 42, 43, 44, 45, 46, 47, 48, 49, 50, 51, 52] (by decide +kernel) (by decide +kernel)
set_option maxRecDepth 20000 in
theorem gX3_copy_X3_no : GoodIn wsX3_copy (wsV RX3 56 RX3 yX3_no wsX3_no) := goodIn_app (goodIn_of _ (by decide +kernel)) ggX3_copy_X3_no
set_option maxRecDepth 20000 in
theorem ggX3_copy_X3_manyOf : GoodIn wsX3_copy wsX3_manyOf := goodIn_r _ [25, 26, 4, 35, 36, 37, 38, 39, 40, 41, 42, 43, 44, 45, 46, 47, 48, 49, 50, 51, 52] (by decide +kernel) (by decide +kernel)
set_option maxRecDepth 20000 in
theorem gX3_copy_X3_manyOf : GoodIn wsX3_copy (wsV RX3 91 RX3 yX3_manyOf wsX3_manyOf) := goodIn_app (goodIn_of _ (by decide +kernel)) ggX3_copy_X3_manyOf
set_option maxRecDepth 20000 in
theorem ggX3_copy_X3_item : GoodIn wsX3_copy wsX3_item := goodIn_r _ [30, 3, 4, 35, 36, 37, 38, 39, 40, 41, 42, 43, 44, 45, 46, 47, 48, 49, 50, 51, 52] (by decide +kernel) (by decide +kernel)
set_option maxRecDepth 20000 in
theorem gX3_copy_X3_item : GoodIn wsX3_copy (wsV RX3 94 RX3 yX3_item wsX3_item) := goodIn_app (goodIn_of _ (by decide +kernel)) ggX3_copy_X3_item
set_option maxRecDepth 20000 in
theorem ggX3_copy_X3_yes : GoodIn wsX3_copy wsX3_yes := goodIn_r _ [34, 21, 35, 36, 37, 38, 39, 40, 41, 42, 43, 44, 45, 46, 47, 48, 49, 50, 51, 52] (by decide +kernel) (by decide +kernel)
set_option maxRecDepth 20000 in
theorem gX3_copy_X3_yes : GoodIn wsX3_copy (wsV RX3 67 RX3 yX3_yes wsX3_yes) := goodIn_app (goodIn_of _ (by decide +kernel)) ggX3_copy_X3_yes
theorem dX3_copy_0 : decode cX3_copy 0 = .ok (.iload_n 1, 1) := by decide +kernel
theorem dX3_copy_1 : decode cX3_copy 1 = .ok (.invokestatic 112, 3) := by decide +kernel
theorem dX3_copy_4 : decode cX3_copy 4 = .ok (.ifCond .eq 10, 3) := by decide +kernel
theorem dX3_copy_7 : decode cX3_copy 7 = .ok (.iload_n 3, 1) := by decide +kernel
theorem dX3_copy_8 : decode cX3_copy 8 = .ok (.invokestatic 112, 3) := by decide +kernel
theorem dX3_copy_11 : decode cX3_copy 11 = .ok (.ifCond .ne 6, 3) := by decide +kernel
theorem dX3_copy_14 : decode cX3_copy 14 = .ok (.ldc 107, 2) := by decide +kernel
theorem dX3_copy_16 : decode cX3_copy 16 = .ok (.ireturn, 1) := by decide +kernel
theorem dX3_copy_17 : decode cX3_copy 17 = .ok (.aload_n 0, 1) := by decide +kernel
theorem dX3_copy_18 : decode cX3_copy 18 = .ok (.iload_n 1, 1) := by decide +kernel
theorem dX3_copy_19 : decode cX3_copy 19 = .ok (.invokevirtual 88, 3) := by decide +kernel
theorem dX3_copy_22 : decode cX3_copy 22 = .ok (.iconst (-1), 1) := by decide +kernel
theorem dX3_copy_23 : decode cX3_copy 23 = .ok (.if_icmp .eq 12, 3) := by decide +kernel
theorem dX3_copy_26 : decode cX3_copy 26 = .ok (.aload_n 0, 1) := by decide +kernel
theorem dX3_copy_27 : decode cX3_copy 27 = .ok (.iload_n 3, 1) := by decide +kernel
theorem dX3_copy_28 : decode cX3_copy 28 = .ok (.invokevirtual 88, 3) := by decide +kernel
theorem dX3_copy_31 : decode cX3_copy 31 = .ok (.iconst (-1), 1) := by decide +kernel
theorem dX3_copy_32 : decode cX3_copy 32 = .ok (.if_icmp .ne 9, 3) := by decide +kernel
theorem dX3_copy_35 : decode cX3_copy 35 = .ok (.aload_n 0, 1) := by decide +kernel
theorem dX3_copy_36 : decode cX3_copy 36 = .ok (.iconst 1, 1) := by decide +kernel
theorem dX3_copy_37 : decode cX3_copy 37 = .ok (.invokevirtual 56, 3) := by decide +kernel
theorem dX3_copy_40 : decode cX3_copy 40 = .ok (.ireturn, 1) := by decide +kernel
theorem dX3_copy_41 : decode cX3_copy 41 = .ok (.aload_n 0, 1) := by decide +kernel
theorem dX3_copy_42 : decode cX3_copy 42 = .ok (.iload_n 1, 1) := by decide +kernel
theorem dX3_copy_43 : decode cX3_copy 43 = .ok (.invokevirtual 88, 3) := by decide +kernel
theorem dX3_copy_46 : decode cX3_copy 46 = .ok (.iconst 1, 1) := by decide +kernel
theorem dX3_copy_47 : decode cX3_copy 47 = .ok (.if_icmp .eq 16, 3) := by decide +kernel
theorem dX3_copy_50 : decode cX3_copy 50 = .ok (.aload_n 0, 1) := by decide +kernel
theorem dX3_copy_51 : decode cX3_copy 51 = .ok (.iload_n 1, 1) := by decide +kernel
theorem dX3_copy_52 : decode cX3_copy 52 = .ok (.invokevirtual 88, 3) := by decide +kernel
theorem dX3_copy_55 : decode cX3_copy 55 = .ok (.aload_n 0, 1) := by decide +kernel
theorem dX3_copy_56 : decode cX3_copy 56 = .ok (.iload_n 3, 1) := by decide +kernel
theorem dX3_copy_57 : decode cX3_copy 57 = .ok (.invokevirtual 88, 3) := by decide +kernel
theorem dX3_copy_60 : decode cX3_copy 60 = .ok (.if_icmp .eq 9, 3) := by decide +kernel
theorem dX3_copy_63 : decode cX3_copy 63 = .ok (.aload_n 0, 1) := by decide +kernel
theorem dX3_copy_64 : decode cX3_copy 64 = .ok (.iconst 2, 1) := by decide +kernel
theorem dX3_copy_65 : decode cX3_copy 65 = .ok (.invokevirtual 56, 3) := by decide +kernel
theorem dX3_copy_68 : decode cX3_copy 68 = .ok (.ireturn, 1) := by decide +kernel
theorem dX3_copy_69 : decode cX3_copy 69 = .ok (.iload_n 2, 1) := by decide +kernel
theorem dX3_copy_70 : decode cX3_copy 70 = .ok (.ifCond .lt 46, 3) := by decide +kernel
theorem dX3_copy_73 : decode cX3_copy 73 = .ok (.iload 4, 2) := by decide +kernel
theorem dX3_copy_75 : decode cX3_copy 75 = .ok (.ifCond .lt 41, 3) := by decide +kernel
theorem dX3_copy_78 : decode cX3_copy 78 = .ok (.iload 5, 2) := by decide +kernel
theorem dX3_copy_80 : decode cX3_copy 80 = .ok (.ifCond .lt 36, 3) := by decide +kernel
theorem dX3_copy_83 : decode cX3_copy 83 = .ok (.iload_n 2, 1) := by decide +kernel
theorem dX3_copy_84 : decode cX3_copy 84 = .ok (.i2l, 1) := by decide +kernel
theorem dX3_copy_85 : decode cX3_copy 85 = .ok (.iload 5, 2) := by decide +kernel
theorem dX3_copy_87 : decode cX3_copy 87 = .ok (.i2l, 1) := by decide +kernel
theorem dX3_copy_88 : decode cX3_copy 88 = .ok (.ladd, 1) := by decide +kernel
theorem dX3_copy_89 : decode cX3_copy 89 = .ok (.aload_n 0, 1) := by decide +kernel
theorem dX3_copy_90 : decode cX3_copy 90 = .ok (.iload_n 1, 1) := by decide +kernel
theorem dX3_copy_91 : decode cX3_copy 91 = .ok (.invokevirtual 91, 3) := by decide +kernel
theorem dX3_copy_94 : decode cX3_copy 94 = .ok (.i2l, 1) := by decide +kernel
theorem dX3_copy_95 : decode cX3_copy 95 = .ok (.lcmp, 1) := by decide +kernel
theorem dX3_copy_96 : decode cX3_copy 96 = .ok (.ifCond .gt 20, 3) := by decide +kernel
theorem dX3_copy_99 : decode cX3_copy 99 = .ok (.iload 4, 2) := by decide +kernel
theorem dX3_copy_101 : decode cX3_copy 101 = .ok (.i2l, 1) := by decide +kernel
theorem dX3_copy_102 : decode cX3_copy 102 = .ok (.iload 5, 2) := by decide +kernel
theorem dX3_copy_104 : decode cX3_copy 104 = .ok (.i2l, 1) := by decide +kernel
theorem dX3_copy_105 : decode cX3_copy 105 = .ok (.ladd, 1) := by decide +kernel
theorem dX3_copy_106 : decode cX3_copy 106 = .ok (.aload_n 0, 1) := by decide +kernel
theorem dX3_copy_107 : decode cX3_copy 107 = .ok (.iload_n 3, 1) := by decide +kernel
theorem dX3_copy_108 : decode cX3_copy 108 = .ok (.invokevirtual 91, 3) := by decide +kernel
theorem dX3_copy_111 : decode cX3_copy 111 = .ok (.i2l, 1) := by decide +kernel
theorem dX3_copy_112 : decode cX3_copy 112 = .ok (.lcmp, 1) := by decide +kernel
theorem dX3_copy_113 : decode cX3_copy 113 = .ok (.ifCond .le 9, 3) := by decide +kernel
theorem dX3_copy_116 : decode cX3_copy 116 = .ok (.aload_n 0, 1) := by decide +kernel
theorem dX3_copy_117 : decode cX3_copy 117 = .ok (.iconst 3, 1) := by decide +kernel
theorem dX3_copy_118 : decode cX3_copy 118 = .ok (.invokevirtual 56, 3) := by decide +kernel
theorem dX3_copy_121 : decode cX3_copy 121 = .ok (.ireturn, 1) := by decide +kernel
theorem dX3_copy_122 : decode cX3_copy 122 = .ok (.iconst 0, 1) := by decide +kernel
theorem dX3_copy_123 : decode cX3_copy 123 = .ok (.istore 6, 2) := by decide +kernel
theorem dX3_copy_125 : decode cX3_copy 125 = .ok (.iload 6, 2) := by decide +kernel
theorem dX3_copy_127 : decode cX3_copy 127 = .ok (.iload 5, 2) := by decide +kernel
theorem dX3_copy_129 : decode cX3_copy 129 = .ok (.if_icmp .ge 25, 3) := by decide +kernel
theorem dX3_copy_132 : decode cX3_copy 132 = .ok (.aload_n 0, 1) := by decide +kernel
theorem dX3_copy_133 : decode cX3_copy 133 = .ok (.getfield 38, 3) := by decide +kernel
theorem dX3_copy_136 : decode cX3_copy 136 = .ok (.iload 6, 2) := by decide +kernel
theorem dX3_copy_138 : decode cX3_copy 138 = .ok (.aload_n 0, 1) := by decide +kernel
theorem dX3_copy_139 : decode cX3_copy 139 = .ok (.iload_n 1, 1) := by decide +kernel
theorem dX3_copy_140 : decode cX3_copy 140 = .ok (.iload_n 2, 1) := by decide +kernel
theorem dX3_copy_141 : decode cX3_copy 141 = .ok (.iload 6, 2) := by decide +kernel
theorem dX3_copy_143 : decode cX3_copy 143 = .ok (.iadd, 1) := by decide +kernel
theorem dX3_copy_144 : decode cX3_copy 144 = .ok (.invokevirtual 94, 3) := by decide +kernel
theorem dX3_copy_147 : decode cX3_copy 147 = .ok (.iastore, 1) := by decide +kernel
theorem dX3_copy_148 : decode cX3_copy 148 = .ok (.iinc 6 1, 3) := by decide +kernel
theorem dX3_copy_151 : decode cX3_copy 151 = .ok (.goto (-26), 3) := by decide +kernel
theorem dX3_copy_154 : decode cX3_copy 154 = .ok (.iconst 0, 1) := by decide +kernel
theorem dX3_copy_155 : decode cX3_copy 155 = .ok (.istore 6, 2) := by decide +kernel
theorem dX3_copy_157 : decode cX3_copy 157 = .ok (.iload 6, 2) := by decide +kernel
theorem dX3_copy_159 : decode cX3_copy 159 = .ok (.iload 5, 2) := by decide +kernel
theorem dX3_copy_161 : decode cX3_copy 161 = .ok (.if_icmp .ge 37, 3) := by decide +kernel
theorem dX3_copy_164 : decode cX3_copy 164 = .ok (.aload_n 0, 1) := by decide +kernel
theorem dX3_copy_165 : decode cX3_copy 165 = .ok (.getfield 22, 3) := by decide +kernel
theorem dX3_copy_168 : decode cX3_copy 168 = .ok (.sipush 240, 3) := by decide +kernel
theorem dX3_copy_171 : decode cX3_copy 171 = .ok (.aload_n 0, 1) := by decide +kernel
theorem dX3_copy_172 : decode cX3_copy 172 = .ok (.getfield 7, 3) := by decide +kernel
theorem dX3_copy_175 : decode cX3_copy 175 = .ok (.iload_n 3, 1) := by decide +kernel
theorem dX3_copy_176 : decode cX3_copy 176 = .ok (.iaload, 1) := by decide +kernel
theorem dX3_copy_177 : decode cX3_copy 177 = .ok (.imul, 1) := by decide +kernel
theorem dX3_copy_178 : decode cX3_copy 178 = .ok (.iload 4, 2) := by decide +kernel
theorem dX3_copy_180 : decode cX3_copy 180 = .ok (.iadd, 1) := by decide +kernel
theorem dX3_copy_181 : decode cX3_copy 181 = .ok (.iload 6, 2) := by decide +kernel
theorem dX3_copy_183 : decode cX3_copy 183 = .ok (.iadd, 1) := by decide +kernel
theorem dX3_copy_184 : decode cX3_copy 184 = .ok (.aload_n 0, 1) := by decide +kernel
theorem dX3_copy_185 : decode cX3_copy 185 = .ok (.getfield 38, 3) := by decide +kernel
theorem dX3_copy_188 : decode cX3_copy 188 = .ok (.iload 6, 2) := by decide +kernel
theorem dX3_copy_190 : decode cX3_copy 190 = .ok (.iaload, 1) := by decide +kernel
theorem dX3_copy_191 : decode cX3_copy 191 = .ok (.iastore, 1) := by decide +kernel
theorem dX3_copy_192 : decode cX3_copy 192 = .ok (.iinc 6 1, 3) := by decide +kernel
theorem dX3_copy_195 : decode cX3_copy 195 = .ok (.goto (-38), 3) := by decide +kernel
theorem dX3_copy_198 : decode cX3_copy 198 = .ok (.aload_n 0, 1) := by decide +kernel
theorem dX3_copy_199 : decode cX3_copy 199 = .ok (.iload 5, 2) := by decide +kernel
theorem dX3_copy_201 : decode cX3_copy 201 = .ok (.invokevirtual 67, 3) := by decide +kernel
theorem dX3_copy_204 : decode cX3_copy 204 = .ok (.ireturn, 1) := by decide +kernel
set_option maxRecDepth 20000 in
theorem ggX3_find_X3_isText : GoodIn wsX3_find wsX3_isText := goodIn_r _ [6, 7, 8, 5, 9] (by decide +kernel) (by decide +kernel)
set_option maxRecDepth 20000 in
theorem gX3_find_X3_isText : GoodIn wsX3_find (va_wsS RX3 112 yX3_isText wsX3_isText) := goodIn_app (goodIn_of _ (by decide +kernel)) ggX3_find_X3_isText
set_option maxRecDepth 20000 in
theorem ggX3_find_X3_sortOf : GoodIn wsX3_find wsX3_sortOf := goodIn_r _ [13, 14, 15, 40, 41, 42, 43, 44, 45, 46, 47, 48, 49, 50, 51, 52, 53, 54, 55, 56, 57] (by decide +kernel) (by decide +kernel)
set_option maxRecDepth 20000 in
theorem gX3_find_X3_sortOf : GoodIn wsX3_find (wsV RX3 88 RX3 yX3_sortOf wsX3_sortOf) := goodIn_app (goodIn_of _ (by decide +kernel)) ggX3_find_X3_sortOf
set_option maxRecDepth 20000 in
theorem ggX3_find_X3_manyOf : GoodIn wsX3_find wsX3_manyOf := goodIn_r _ [19, 20, 14, 40, 41, 42, 43, 44, 45, 46, 47, 48, 49, 50, 51, 52, 53, 54, 55, 56, 57] (by decide +kernel) (by decide +kernel)
set_option maxRecDepth 20000 in
theorem gX3_find_X3_manyOf : GoodIn wsX3_find (wsV RX3 91 RX3 yX3_manyOf wsX3_manyOf) := goodIn_app (goodIn_of _ (by decide +kernel)) ggX3_find_X3_manyOf
set_option maxRecDepth 20000 in
theorem ggX3_find_X3_parts : GoodIn wsX3_find wsX3_parts := goodIn_r _ [24, 10, 11, 12, 5, 13, 14, 15, 16, 17, 18, 19, 20, 25, 26, 27, 28, 29, 30, 31, 32, 33, 34, 7, 8, 9, 35, 36, 37, 38, 39, 40, 41, 42, 43, 44, 45, 46, 47, 48, 49, 50, 51, 52, 53, 54, 55, 56, 57] (by decide +kernel) (by decide +kernel)
set_option maxRecDepth 20000 in
theorem gX3_find_X3_parts : GoodIn wsX3_find (wsV RX3 145 RX3 yX3_parts wsX3_parts) := goodIn_app (goodIn_of _ (by decide +kernel)) ggX3_find_X3_parts
set_option maxRecDepth 20000 in
theorem ggX3_find_X3_item : GoodIn wsX3_find wsX3_item := goodIn_r _ [28, 29, 14, 40, 41, 42, 43, 44, 45, 46, 47, 48, 49, 50, 51, 52, 53, 54, 55, 56, 57] (by decide +kernel) (by decide +kernel)
set_option maxRecDepth 20000 in
theorem gX3_find_X3_item : GoodIn wsX3_find (wsV RX3 94 RX3 yX3_item wsX3_item) := goodIn_app (goodIn_of _ (by decide +kernel)) ggX3_find_X3_item
theorem dX3_find_0 : decode cX3_find 0 = .ok (.iload_n 1, 1) := by decide +kernel
theorem dX3_find_1 : decode cX3_find 1 = .ok (.invokestatic 112, 3) := by decide +kernel
theorem dX3_find_4 : decode cX3_find 4 = .ok (.ifCond .eq 10, 3) := by decide +kernel
theorem dX3_find_7 : decode cX3_find 7 = .ok (.iload_n 2, 1) := by decide +kernel
theorem dX3_find_8 : decode cX3_find 8 = .ok (.invokestatic 112, 3) := by decide +kernel
theorem dX3_find_11 : decode cX3_find 11 = .ok (.ifCond .ne 6, 3) := by decide +kernel
theorem dX3_find_14 : decode cX3_find 14 = .ok (.ldc 107, 2) := by decide +kernel
theorem dX3_find_16 : decode cX3_find 16 = .ok (.ireturn, 1) := by decide +kernel
theorem dX3_find_17 : decode cX3_find 17 = .ok (.aload_n 0, 1) := by decide +kernel
theorem dX3_find_18 : decode cX3_find 18 = .ok (.iload_n 1, 1) := by decide +kernel
theorem dX3_find_19 : decode cX3_find 19 = .ok (.invokevirtual 88, 3) := by decide +kernel
theorem dX3_find_22 : decode cX3_find 22 = .ok (.iconst (-1), 1) := by decide +kernel
theorem dX3_find_23 : decode cX3_find 23 = .ok (.if_icmp .eq 12, 3) := by decide +kernel
theorem dX3_find_26 : decode cX3_find 26 = .ok (.aload_n 0, 1) := by decide +kernel
theorem dX3_find_27 : decode cX3_find 27 = .ok (.iload_n 2, 1) := by decide +kernel
theorem dX3_find_28 : decode cX3_find 28 = .ok (.invokevirtual 88, 3) := by decide +kernel
theorem dX3_find_31 : decode cX3_find 31 = .ok (.iconst (-1), 1) := by decide +kernel
theorem dX3_find_32 : decode cX3_find 32 = .ok (.if_icmp .ne 7, 3) := by decide +kernel
theorem dX3_find_35 : decode cX3_find 35 = .ok (.iconst 1, 1) := by decide +kernel
theorem dX3_find_36 : decode cX3_find 36 = .ok (.goto 21, 3) := by decide +kernel
theorem dX3_find_39 : decode cX3_find 39 = .ok (.aload_n 0, 1) := by decide +kernel
theorem dX3_find_40 : decode cX3_find 40 = .ok (.iload_n 1, 1) := by decide +kernel
theorem dX3_find_41 : decode cX3_find 41 = .ok (.invokevirtual 88, 3) := by decide +kernel
theorem dX3_find_44 : decode cX3_find 44 = .ok (.aload_n 0, 1) := by decide +kernel
theorem dX3_find_45 : decode cX3_find 45 = .ok (.iload_n 2, 1) := by decide +kernel
theorem dX3_find_46 : decode cX3_find 46 = .ok (.invokevirtual 88, 3) := by decide +kernel
theorem dX3_find_49 : decode cX3_find 49 = .ok (.if_icmp .eq 7, 3) := by decide +kernel
theorem dX3_find_52 : decode cX3_find 52 = .ok (.iconst 2, 1) := by decide +kernel
theorem dX3_find_53 : decode cX3_find 53 = .ok (.goto 4, 3) := by decide +kernel
theorem dX3_find_56 : decode cX3_find 56 = .ok (.iconst 0, 1) := by decide +kernel
theorem dX3_find_57 : decode cX3_find 57 = .ok (.istore 4, 2) := by decide +kernel
theorem dX3_find_59 : decode cX3_find 59 = .ok (.aload_n 0, 1) := by decide +kernel
theorem dX3_find_60 : decode cX3_find 60 = .ok (.iload 4, 2) := by decide +kernel
theorem dX3_find_62 : decode cX3_find 62 = .ok (.putfield 53, 3) := by decide +kernel
theorem dX3_find_65 : decode cX3_find 65 = .ok (.iload 4, 2) := by decide +kernel
theorem dX3_find_67 : decode cX3_find 67 = .ok (.ifCond .eq 5, 3) := by decide +kernel
theorem dX3_find_70 : decode cX3_find 70 = .ok (.iconst (-1), 1) := by decide +kernel
theorem dX3_find_71 : decode cX3_find 71 = .ok (.ireturn, 1) := by decide +kernel
theorem dX3_find_72 : decode cX3_find 72 = .ok (.aload_n 0, 1) := by decide +kernel
theorem dX3_find_73 : decode cX3_find 73 = .ok (.iload_n 2, 1) := by decide +kernel
theorem dX3_find_74 : decode cX3_find 74 = .ok (.invokevirtual 91, 3) := by decide +kernel
theorem dX3_find_77 : decode cX3_find 77 = .ok (.istore 5, 2) := by decide +kernel
theorem dX3_find_79 : decode cX3_find 79 = .ok (.iload_n 3, 1) := by decide +kernel
theorem dX3_find_80 : decode cX3_find 80 = .ok (.ifCond .ge 7, 3) := by decide +kernel
theorem dX3_find_83 : decode cX3_find 83 = .ok (.iconst 0, 1) := by decide +kernel
theorem dX3_find_84 : decode cX3_find 84 = .ok (.goto 4, 3) := by decide +kernel
theorem dX3_find_87 : decode cX3_find 87 = .ok (.iload_n 3, 1) := by decide +kernel
theorem dX3_find_88 : decode cX3_find 88 = .ok (.istore 6, 2) := by decide +kernel
theorem dX3_find_90 : decode cX3_find 90 = .ok (.iload 6, 2) := by decide +kernel
theorem dX3_find_92 : decode cX3_find 92 = .ok (.aload_n 0, 1) := by decide +kernel
theorem dX3_find_93 : decode cX3_find 93 = .ok (.iload_n 1, 1) := by decide +kernel
theorem dX3_find_94 : decode cX3_find 94 = .ok (.invokevirtual 91, 3) := by decide +kernel
theorem dX3_find_97 : decode cX3_find 97 = .ok (.iload 5, 2) := by decide +kernel
theorem dX3_find_99 : decode cX3_find 99 = .ok (.isub, 1) := by decide +kernel
theorem dX3_find_100 : decode cX3_find 100 = .ok (.if_icmp .gt 95, 3) := by decide +kernel
theorem dX3_find_103 : decode cX3_find 103 = .ok (.aload_n 0, 1) := by decide +kernel
theorem dX3_find_104 : decode cX3_find 104 = .ok (.iload_n 1, 1) := by decide +kernel
theorem dX3_find_105 : decode cX3_find 105 = .ok (.iload 6, 2) := by decide +kernel
theorem dX3_find_107 : decode cX3_find 107 = .ok (.invokevirtual 145, 3) := by decide +kernel
theorem dX3_find_110 : decode cX3_find 110 = .ok (.ifCond .ne 20, 3) := by decide +kernel
theorem dX3_find_113 : decode cX3_find 113 = .ok (.aload_n 0, 1) := by decide +kernel
theorem dX3_find_114 : decode cX3_find 114 = .ok (.iload_n 1, 1) := by decide +kernel
theorem dX3_find_115 : decode cX3_find 115 = .ok (.iload 6, 2) := by decide +kernel
theorem dX3_find_117 : decode cX3_find 117 = .ok (.iload 5, 2) := by decide +kernel
theorem dX3_find_119 : decode cX3_find 119 = .ok (.iadd, 1) := by decide +kernel
theorem dX3_find_120 : decode cX3_find 120 = .ok (.invokevirtual 145, 3) := by decide +kernel
theorem dX3_find_123 : decode cX3_find 123 = .ok (.ifCond .ne 7, 3) := by decide +kernel
theorem dX3_find_126 : decode cX3_find 126 = .ok (.iconst 1, 1) := by decide +kernel
theorem dX3_find_127 : decode cX3_find 127 = .ok (.goto 4, 3) := by decide +kernel
theorem dX3_find_130 : decode cX3_find 130 = .ok (.iconst 0, 1) := by decide +kernel
theorem dX3_find_131 : decode cX3_find 131 = .ok (.istore 7, 2) := by decide +kernel
theorem dX3_find_133 : decode cX3_find 133 = .ok (.iconst 0, 1) := by decide +kernel
theorem dX3_find_134 : decode cX3_find 134 = .ok (.istore 8, 2) := by decide +kernel
theorem dX3_find_136 : decode cX3_find 136 = .ok (.iload 8, 2) := by decide +kernel
theorem dX3_find_138 : decode cX3_find 138 = .ok (.iload 5, 2) := by decide +kernel
theorem dX3_find_140 : decode cX3_find 140 = .ok (.if_icmp .ge 41, 3) := by decide +kernel
theorem dX3_find_143 : decode cX3_find 143 = .ok (.iload 7, 2) := by decide +kernel
theorem dX3_find_145 : decode cX3_find 145 = .ok (.ifCond .eq 36, 3) := by decide +kernel
theorem dX3_find_148 : decode cX3_find 148 = .ok (.aload_n 0, 1) := by decide +kernel
theorem dX3_find_149 : decode cX3_find 149 = .ok (.iload_n 1, 1) := by decide +kernel
theorem dX3_find_150 : decode cX3_find 150 = .ok (.iload 6, 2) := by decide +kernel
theorem dX3_find_152 : decode cX3_find 152 = .ok (.iload 8, 2) := by decide +kernel
theorem dX3_find_154 : decode cX3_find 154 = .ok (.iadd, 1) := by decide +kernel
theorem dX3_find_155 : decode cX3_find 155 = .ok (.invokevirtual 94, 3) := by decide +kernel
theorem dX3_find_158 : decode cX3_find 158 = .ok (.aload_n 0, 1) := by decide +kernel
theorem dX3_find_159 : decode cX3_find 159 = .ok (.iload_n 2, 1) := by decide +kernel
theorem dX3_find_160 : decode cX3_find 160 = .ok (.iload 8, 2) := by decide +kernel
theorem dX3_find_162 : decode cX3_find 162 = .ok (.invokevirtual 94, 3) := by decide +kernel
theorem dX3_find_165 : decode cX3_find 165 = .ok (.if_icmp .ne 7, 3) := by decide +kernel
theorem dX3_find_168 : decode cX3_find 168 = .ok (.iconst 1, 1) := by decide +kernel
theorem dX3_find_169 : decode cX3_find 169 = .ok (.goto 4, 3) := by decide +kernel
theorem dX3_find_172 : decode cX3_find 172 = .ok (.iconst 0, 1) := by decide +kernel
theorem dX3_find_173 : decode cX3_find 173 = .ok (.istore 7, 2) := by decide +kernel
theorem dX3_find_175 : decode cX3_find 175 = .ok (.iinc 8 1, 3) := by decide +kernel
theorem dX3_find_178 : decode cX3_find 178 = .ok (.goto (-42), 3) := by decide +kernel
theorem dX3_find_181 : decode cX3_find 181 = .ok (.iload 7, 2) := by decide +kernel
theorem dX3_find_183 : decode cX3_find 183 = .ok (.ifCond .eq 6, 3) := by decide +kernel
theorem dX3_find_186 : decode cX3_find 186 = .ok (.iload 6, 2) := by decide +kernel
theorem dX3_find_188 : decode cX3_find 188 = .ok (.ireturn, 1) := by decide +kernel
theorem dX3_find_189 : decode cX3_find 189 = .ok (.iinc 6 1, 3) := by decide +kernel
theorem dX3_find_192 : decode cX3_find 192 = .ok (.goto (-102), 3) := by decide +kernel
theorem dX3_find_195 : decode cX3_find 195 = .ok (.iconst (-1), 1) := by decide +kernel
theorem dX3_find_196 : decode cX3_find 196 = .ok (.ireturn, 1) := by decide +kernel
theorem dX3_against_0 : decode cX3_against 0 = .ok (.iconst 0, 1) := by decide +kernel
theorem dX3_against_1 : decode cX3_against 1 = .ok (.istore_n 3, 1) := by decide +kernel
theorem dX3_against_2 : decode cX3_against 2 = .ok (.iload_n 3, 1) := by decide +kernel
theorem dX3_against_3 : decode cX3_against 3 = .ok (.iload_n 2, 1) := by decide +kernel
theorem dX3_against_4 : decode cX3_against 4 = .ok (.if_icmp .ge 47, 3) := by decide +kernel
theorem dX3_against_7 : decode cX3_against 7 = .ok (.iload_n 3, 1) := by decide +kernel
theorem dX3_against_8 : decode cX3_against 8 = .ok (.aload_n 0, 1) := by decide +kernel
theorem dX3_against_9 : decode cX3_against 9 = .ok (.getfield 149, 3) := by decide +kernel
theorem dX3_against_12 : decode cX3_against 12 = .ok (.if_icmp .ge 39, 3) := by decide +kernel
theorem dX3_against_15 : decode cX3_against 15 = .ok (.aload_n 1, 1) := by decide +kernel
theorem dX3_against_16 : decode cX3_against 16 = .ok (.iload_n 3, 1) := by decide +kernel
theorem dX3_against_17 : decode cX3_against 17 = .ok (.iaload, 1) := by decide +kernel
theorem dX3_against_18 : decode cX3_against 18 = .ok (.aload_n 0, 1) := by decide +kernel
theorem dX3_against_19 : decode cX3_against 19 = .ok (.getfield 38, 3) := by decide +kernel
theorem dX3_against_22 : decode cX3_against 22 = .ok (.iload_n 3, 1) := by decide +kernel
theorem dX3_against_23 : decode cX3_against 23 = .ok (.iaload, 1) := by decide +kernel
theorem dX3_against_24 : decode cX3_against 24 = .ok (.if_icmp .eq 21, 3) := by decide +kernel
theorem dX3_against_27 : decode cX3_against 27 = .ok (.aload_n 1, 1) := by decide +kernel
theorem dX3_against_28 : decode cX3_against 28 = .ok (.iload_n 3, 1) := by decide +kernel
theorem dX3_against_29 : decode cX3_against 29 = .ok (.iaload, 1) := by decide +kernel
theorem dX3_against_30 : decode cX3_against 30 = .ok (.aload_n 0, 1) := by decide +kernel
theorem dX3_against_31 : decode cX3_against 31 = .ok (.getfield 38, 3) := by decide +kernel
theorem dX3_against_34 : decode cX3_against 34 = .ok (.iload_n 3, 1) := by decide +kernel
theorem dX3_against_35 : decode cX3_against 35 = .ok (.iaload, 1) := by decide +kernel
theorem dX3_against_36 : decode cX3_against 36 = .ok (.if_icmp .ge 7, 3) := by decide +kernel
theorem dX3_against_39 : decode cX3_against 39 = .ok (.iconst (-1), 1) := by decide +kernel
theorem dX3_against_40 : decode cX3_against 40 = .ok (.goto 4, 3) := by decide +kernel
theorem dX3_against_43 : decode cX3_against 43 = .ok (.iconst 1, 1) := by decide +kernel
theorem dX3_against_44 : decode cX3_against 44 = .ok (.ireturn, 1) := by decide +kernel
theorem dX3_against_45 : decode cX3_against 45 = .ok (.iinc 3 1, 3) := by decide +kernel
theorem dX3_against_48 : decode cX3_against 48 = .ok (.goto (-46), 3) := by decide +kernel
theorem dX3_against_51 : decode cX3_against 51 = .ok (.iload_n 2, 1) := by decide +kernel
theorem dX3_against_52 : decode cX3_against 52 = .ok (.aload_n 0, 1) := by decide +kernel
theorem dX3_against_53 : decode cX3_against 53 = .ok (.getfield 149, 3) := by decide +kernel
theorem dX3_against_56 : decode cX3_against 56 = .ok (.if_icmp .ge 7, 3) := by decide +kernel
theorem dX3_against_59 : decode cX3_against 59 = .ok (.iconst (-1), 1) := by decide +kernel
theorem dX3_against_60 : decode cX3_against 60 = .ok (.goto 16, 3) := by decide +kernel
theorem dX3_against_63 : decode cX3_against 63 = .ok (.iload_n 2, 1) := by decide +kernel
theorem dX3_against_64 : decode cX3_against 64 = .ok (.aload_n 0, 1) := by decide +kernel
theorem dX3_against_65 : decode cX3_against 65 = .ok (.getfield 149, 3) := by decide +kernel
theorem dX3_against_68 : decode cX3_against 68 = .ok (.if_icmp .le 7, 3) := by decide +kernel
theorem dX3_against_71 : decode cX3_against 71 = .ok (.iconst 1, 1) := by decide +kernel
theorem dX3_against_72 : decode cX3_against 72 = .ok (.goto 4, 3) := by decide +kernel
theorem dX3_against_75 : decode cX3_against 75 = .ok (.iconst 0, 1) := by decide +kernel
theorem dX3_against_76 : decode cX3_against 76 = .ok (.ireturn, 1) := by decide +kernel
set_option maxRecDepth 20000 in
theorem ggX3_compare_X3_isText : GoodIn wsX3_compare wsX3_isText := goodIn_r _ [11, 12, 13, 10, 14] (by decide +kernel) (by decide +kernel)
set_option maxRecDepth 20000 in
theorem gX3_compare_X3_isText : GoodIn wsX3_compare (va_wsS RX3 112 yX3_isText wsX3_isText) := goodIn_app (goodIn_of _ (by decide +kernel)) ggX3_compare_X3_isText
set_option maxRecDepth 20000 in
theorem ggX3_compare_X3_within : GoodIn wsX3_compare wsX3_within := goodIn_r _ [14] (by decide +kernel) (by decide +kernel)
set_option maxRecDepth 20000 in
theorem gX3_compare_X3_within : GoodIn wsX3_compare (va_wsS RX3 44 yX3_within wsX3_within) := goodIn_app (goodIn_of _ (by decide +kernel)) ggX3_compare_X3_within
set_option maxRecDepth 20000 in
theorem ggX3_compare_X3_sortOf : GoodIn wsX3_compare wsX3_sortOf := goodIn_r _ [18, 19, 20, 71, 72, 73, 74, 75, 76, 77, 78, 79, 80, 81, 82, 83, 84, 85, 86, 87, 88] (by decide +kernel) (by decide +kernel)
set_option maxRecDepth 20000 in
theorem gX3_compare_X3_sortOf : GoodIn wsX3_compare (wsV RX3 88 RX3 yX3_sortOf wsX3_sortOf) := goodIn_app (goodIn_of _ (by decide +kernel)) ggX3_compare_X3_sortOf
set_option maxRecDepth 20000 in
theorem ggX3_compare_X3_no : GoodIn wsX3_compare wsX3_no := goodIn_r _ [24, 25, 71, 72, 73, 74, 75, 76, 77, 78, 79, 80, 81, 82, 83, 84, 85, 86, 87, 88] (by decide +kernel) (by decide +kernel)
set_option maxRecDepth 20000 in
theorem gX3_compare_X3_no : GoodIn wsX3_compare (wsV RX3 56 RX3 yX3_no wsX3_no) := goodIn_app (goodIn_of _ (by decide +kernel)) ggX3_compare_X3_no
set_option maxRecDepth 20000 in
theorem ggX3_compare_X3_manyOf : GoodIn wsX3_compare wsX3_manyOf := goodIn_r _ [29, 30, 19, 71, 72, 73, 74, 75, 76, 77, 78, 79, 80, 81, 82, 83, 84, 85, 86, 87, 88] (by decide +kernel) (by decide +kernel)
set_option maxRecDepth 20000 in
theorem gX3_compare_X3_manyOf : GoodIn wsX3_compare (wsV RX3 91 RX3 yX3_manyOf wsX3_manyOf) := goodIn_app (goodIn_of _ (by decide +kernel)) ggX3_compare_X3_manyOf
set_option maxRecDepth 20000 in
theorem ggX3_compare_X3_item : GoodIn wsX3_compare wsX3_item := goodIn_r _ [34, 35, 19, 71, 72, 73, 74, 75, 76, 77, 78, 79, 80, 81, 82, 83, 84, 85, 86, 87, 88] (by decide +kernel) (by decide +kernel)
set_option maxRecDepth 20000 in
theorem gX3_compare_X3_item : GoodIn wsX3_compare (wsV RX3 94 RX3 yX3_item wsX3_item) := goodIn_app (goodIn_of _ (by decide +kernel)) ggX3_compare_X3_item
set_option maxRecDepth 20000 in
theorem ggX3_compare_X3_against : GoodIn wsX3_compare wsX3_against := goodIn_r _ [39, 2, 3, 71, 72, 73, 74, 75, 76, 77, 78, 79, 80, 81, 82, 83, 84, 85, 86, 87, 88] (by decide +kernel) (by decide +kernel)
set_option maxRecDepth 20000 in
theorem gX3_compare_X3_against : GoodIn wsX3_compare (wsV RX3 152 RX3 yX3_against wsX3_against) := goodIn_app (goodIn_of _ (by decide +kernel)) ggX3_compare_X3_against
set_option maxRecDepth 20000 in
theorem ggX3_compare_X3_yes : GoodIn wsX3_compare wsX3_yes := goodIn_r _ [43, 25, 71, 72, 73, 74, 75, 76, 77, 78, 79, 80, 81, 82, 83, 84, 85, 86, 87, 88] (by decide +kernel) (by decide +kernel)
set_option maxRecDepth 20000 in
theorem gX3_compare_X3_yes : GoodIn wsX3_compare (wsV RX3 67 RX3 yX3_yes wsX3_yes) := goodIn_app (goodIn_of _ (by decide +kernel)) ggX3_compare_X3_yes
set_option maxRecDepth 20000 in
theorem ggX3_compare_X3_take : GoodIn wsX3_compare wsX3_take := goodIn_r _ [47, 4, 5, 6, 7, 15, 16, 17, 10, 18, 19, 20, 26, 27, 28, 29, 30, 31, 32, 33, 34, 35, 48, 49, 50, 51, 52, 53, 54, 55, 56, 57, 58, 12, 13, 14, 59, 60, 61, 62, 63, 64, 65, 66, 67, 68, 69, 70, 71, 72, 73, 74, 75, 76, 77, 78, 79, 80, 81, 82, 83, 84, 85, 86, 87, 88] (by decide +kernel) (by decide +kernel)
set_option maxRecDepth 20000 in
theorem gX3_compare_X3_take : GoodIn wsX3_compare (wsV RX3 122 RX3 yX3_take wsX3_take) := goodIn_app (goodIn_of _ (by decide +kernel)) ggX3_compare_X3_take
theorem dX3_compare_0 : decode cX3_compare 0 = .ok (.iload_n 1, 1) := by decide +kernel
theorem dX3_compare_1 : decode cX3_compare 1 = .ok (.invokestatic 112, 3) := by decide +kernel
theorem dX3_compare_4 : decode cX3_compare 4 = .ok (.ifCond .eq 19, 3) := by decide +kernel
theorem dX3_compare_7 : decode cX3_compare 7 = .ok (.iload_n 2, 1) := by decide +kernel
theorem dX3_compare_8 : decode cX3_compare 8 = .ok (.invokestatic 112, 3) := by decide +kernel
theorem dX3_compare_11 : decode cX3_compare 11 = .ok (.ifCond .eq 12, 3) := by decide +kernel
theorem dX3_compare_14 : decode cX3_compare 14 = .ok (.iload_n 3, 1) := by decide +kernel
theorem dX3_compare_15 : decode cX3_compare 15 = .ok (.iconst 0, 1) := by decide +kernel
theorem dX3_compare_16 : decode cX3_compare 16 = .ok (.iconst 1, 1) := by decide +kernel
theorem dX3_compare_17 : decode cX3_compare 17 = .ok (.invokestatic 44, 3) := by decide +kernel
theorem dX3_compare_20 : decode cX3_compare 20 = .ok (.ifCond .ne 6, 3) := by decide +kernel
theorem dX3_compare_23 : decode cX3_compare 23 = .ok (.ldc 107, 2) := by decide +kernel
theorem dX3_compare_25 : decode cX3_compare 25 = .ok (.ireturn, 1) := by decide +kernel
theorem dX3_compare_26 : decode cX3_compare 26 = .ok (.aload_n 0, 1) := by decide +kernel
theorem dX3_compare_27 : decode cX3_compare 27 = .ok (.iload_n 1, 1) := by decide +kernel
theorem dX3_compare_28 : decode cX3_compare 28 = .ok (.invokevirtual 88, 3) := by decide +kernel
theorem dX3_compare_31 : decode cX3_compare 31 = .ok (.iconst (-1), 1) := by decide +kernel
theorem dX3_compare_32 : decode cX3_compare 32 = .ok (.if_icmp .eq 12, 3) := by decide +kernel
theorem dX3_compare_35 : decode cX3_compare 35 = .ok (.aload_n 0, 1) := by decide +kernel
theorem dX3_compare_36 : decode cX3_compare 36 = .ok (.iload_n 2, 1) := by decide +kernel
theorem dX3_compare_37 : decode cX3_compare 37 = .ok (.invokevirtual 88, 3) := by decide +kernel
theorem dX3_compare_40 : decode cX3_compare 40 = .ok (.iconst (-1), 1) := by decide +kernel
theorem dX3_compare_41 : decode cX3_compare 41 = .ok (.if_icmp .ne 9, 3) := by decide +kernel
theorem dX3_compare_44 : decode cX3_compare 44 = .ok (.aload_n 0, 1) := by decide +kernel
theorem dX3_compare_45 : decode cX3_compare 45 = .ok (.iconst 1, 1) := by decide +kernel
theorem dX3_compare_46 : decode cX3_compare 46 = .ok (.invokevirtual 56, 3) := by decide +kernel
theorem dX3_compare_49 : decode cX3_compare 49 = .ok (.ireturn, 1) := by decide +kernel
theorem dX3_compare_50 : decode cX3_compare 50 = .ok (.aload_n 0, 1) := by decide +kernel
theorem dX3_compare_51 : decode cX3_compare 51 = .ok (.iload_n 1, 1) := by decide +kernel
theorem dX3_compare_52 : decode cX3_compare 52 = .ok (.invokevirtual 88, 3) := by decide +kernel
theorem dX3_compare_55 : decode cX3_compare 55 = .ok (.iconst 2, 1) := by decide +kernel
theorem dX3_compare_56 : decode cX3_compare 56 = .ok (.if_icmp .ne 7, 3) := by decide +kernel
theorem dX3_compare_59 : decode cX3_compare 59 = .ok (.iconst 1, 1) := by decide +kernel
theorem dX3_compare_60 : decode cX3_compare 60 = .ok (.goto 4, 3) := by decide +kernel
theorem dX3_compare_63 : decode cX3_compare 63 = .ok (.iconst 0, 1) := by decide +kernel
theorem dX3_compare_64 : decode cX3_compare 64 = .ok (.aload_n 0, 1) := by decide +kernel
theorem dX3_compare_65 : decode cX3_compare 65 = .ok (.iload_n 2, 1) := by decide +kernel
theorem dX3_compare_66 : decode cX3_compare 66 = .ok (.invokevirtual 88, 3) := by decide +kernel
theorem dX3_compare_69 : decode cX3_compare 69 = .ok (.iconst 2, 1) := by decide +kernel
theorem dX3_compare_70 : decode cX3_compare 70 = .ok (.if_icmp .ne 7, 3) := by decide +kernel
theorem dX3_compare_73 : decode cX3_compare 73 = .ok (.iconst 1, 1) := by decide +kernel
theorem dX3_compare_74 : decode cX3_compare 74 = .ok (.goto 4, 3) := by decide +kernel
theorem dX3_compare_77 : decode cX3_compare 77 = .ok (.iconst 0, 1) := by decide +kernel
theorem dX3_compare_78 : decode cX3_compare 78 = .ok (.if_icmp .eq 9, 3) := by decide +kernel
theorem dX3_compare_81 : decode cX3_compare 81 = .ok (.aload_n 0, 1) := by decide +kernel
theorem dX3_compare_82 : decode cX3_compare 82 = .ok (.iconst 2, 1) := by decide +kernel
theorem dX3_compare_83 : decode cX3_compare 83 = .ok (.invokevirtual 56, 3) := by decide +kernel
theorem dX3_compare_86 : decode cX3_compare 86 = .ok (.ireturn, 1) := by decide +kernel
theorem dX3_compare_87 : decode cX3_compare 87 = .ok (.aload_n 0, 1) := by decide +kernel
theorem dX3_compare_88 : decode cX3_compare 88 = .ok (.iload_n 1, 1) := by decide +kernel
theorem dX3_compare_89 : decode cX3_compare 89 = .ok (.invokevirtual 88, 3) := by decide +kernel
theorem dX3_compare_92 : decode cX3_compare 92 = .ok (.iconst 2, 1) := by decide +kernel
theorem dX3_compare_93 : decode cX3_compare 93 = .ok (.if_icmp .ne 102, 3) := by decide +kernel
theorem dX3_compare_96 : decode cX3_compare 96 = .ok (.aload_n 0, 1) := by decide +kernel
theorem dX3_compare_97 : decode cX3_compare 97 = .ok (.aload_n 0, 1) := by decide +kernel
theorem dX3_compare_98 : decode cX3_compare 98 = .ok (.iload_n 2, 1) := by decide +kernel
theorem dX3_compare_99 : decode cX3_compare 99 = .ok (.invokevirtual 91, 3) := by decide +kernel
theorem dX3_compare_102 : decode cX3_compare 102 = .ok (.putfield 149, 3) := by decide +kernel
theorem dX3_compare_105 : decode cX3_compare 105 = .ok (.iconst 0, 1) := by decide +kernel
theorem dX3_compare_106 : decode cX3_compare 106 = .ok (.istore 4, 2) := by decide +kernel
theorem dX3_compare_108 : decode cX3_compare 108 = .ok (.iload 4, 2) := by decide +kernel
theorem dX3_compare_110 : decode cX3_compare 110 = .ok (.aload_n 0, 1) := by decide +kernel
theorem dX3_compare_111 : decode cX3_compare 111 = .ok (.getfield 149, 3) := by decide +kernel
theorem dX3_compare_114 : decode cX3_compare 114 = .ok (.if_icmp .ge 23, 3) := by decide +kernel
theorem dX3_compare_117 : decode cX3_compare 117 = .ok (.aload_n 0, 1) := by decide +kernel
theorem dX3_compare_118 : decode cX3_compare 118 = .ok (.getfield 38, 3) := by decide +kernel
theorem dX3_compare_121 : decode cX3_compare 121 = .ok (.iload 4, 2) := by decide +kernel
theorem dX3_compare_123 : decode cX3_compare 123 = .ok (.aload_n 0, 1) := by decide +kernel
theorem dX3_compare_124 : decode cX3_compare 124 = .ok (.iload_n 2, 1) := by decide +kernel
theorem dX3_compare_125 : decode cX3_compare 125 = .ok (.iload 4, 2) := by decide +kernel
theorem dX3_compare_127 : decode cX3_compare 127 = .ok (.invokevirtual 94, 3) := by decide +kernel
theorem dX3_compare_130 : decode cX3_compare 130 = .ok (.iastore, 1) := by decide +kernel
theorem dX3_compare_131 : decode cX3_compare 131 = .ok (.iinc 4 1, 3) := by decide +kernel
theorem dX3_compare_134 : decode cX3_compare 134 = .ok (.goto (-26), 3) := by decide +kernel
theorem dX3_compare_137 : decode cX3_compare 137 = .ok (.aload_n 0, 1) := by decide +kernel
theorem dX3_compare_138 : decode cX3_compare 138 = .ok (.aload_n 0, 1) := by decide +kernel
theorem dX3_compare_139 : decode cX3_compare 139 = .ok (.iload_n 1, 1) := by decide +kernel
theorem dX3_compare_140 : decode cX3_compare 140 = .ok (.invokevirtual 91, 3) := by decide +kernel
theorem dX3_compare_143 : decode cX3_compare 143 = .ok (.putfield 71, 3) := by decide +kernel
theorem dX3_compare_146 : decode cX3_compare 146 = .ok (.iconst 0, 1) := by decide +kernel
theorem dX3_compare_147 : decode cX3_compare 147 = .ok (.istore 4, 2) := by decide +kernel
theorem dX3_compare_149 : decode cX3_compare 149 = .ok (.iload 4, 2) := by decide +kernel
theorem dX3_compare_151 : decode cX3_compare 151 = .ok (.aload_n 0, 1) := by decide +kernel
theorem dX3_compare_152 : decode cX3_compare 152 = .ok (.getfield 71, 3) := by decide +kernel
theorem dX3_compare_155 : decode cX3_compare 155 = .ok (.if_icmp .ge 23, 3) := by decide +kernel
theorem dX3_compare_158 : decode cX3_compare 158 = .ok (.aload_n 0, 1) := by decide +kernel
theorem dX3_compare_159 : decode cX3_compare 159 = .ok (.getfield 35, 3) := by decide +kernel
theorem dX3_compare_162 : decode cX3_compare 162 = .ok (.iload 4, 2) := by decide +kernel
theorem dX3_compare_164 : decode cX3_compare 164 = .ok (.aload_n 0, 1) := by decide +kernel
theorem dX3_compare_165 : decode cX3_compare 165 = .ok (.iload_n 1, 1) := by decide +kernel
theorem dX3_compare_166 : decode cX3_compare 166 = .ok (.iload 4, 2) := by decide +kernel
theorem dX3_compare_168 : decode cX3_compare 168 = .ok (.invokevirtual 94, 3) := by decide +kernel
theorem dX3_compare_171 : decode cX3_compare 171 = .ok (.iastore, 1) := by decide +kernel
theorem dX3_compare_172 : decode cX3_compare 172 = .ok (.iinc 4 1, 3) := by decide +kernel
theorem dX3_compare_175 : decode cX3_compare 175 = .ok (.goto (-26), 3) := by decide +kernel
theorem dX3_compare_178 : decode cX3_compare 178 = .ok (.aload_n 0, 1) := by decide +kernel
theorem dX3_compare_179 : decode cX3_compare 179 = .ok (.aload_n 0, 1) := by decide +kernel
theorem dX3_compare_180 : decode cX3_compare 180 = .ok (.aload_n 0, 1) := by decide +kernel
theorem dX3_compare_181 : decode cX3_compare 181 = .ok (.getfield 35, 3) := by decide +kernel
theorem dX3_compare_184 : decode cX3_compare 184 = .ok (.aload_n 0, 1) := by decide +kernel
theorem dX3_compare_185 : decode cX3_compare 185 = .ok (.getfield 71, 3) := by decide +kernel
theorem dX3_compare_188 : decode cX3_compare 188 = .ok (.invokevirtual 152, 3) := by decide +kernel
theorem dX3_compare_191 : decode cX3_compare 191 = .ok (.invokevirtual 67, 3) := by decide +kernel
theorem dX3_compare_194 : decode cX3_compare 194 = .ok (.ireturn, 1) := by decide +kernel
theorem dX3_compare_195 : decode cX3_compare 195 = .ok (.aload_n 0, 1) := by decide +kernel
theorem dX3_compare_196 : decode cX3_compare 196 = .ok (.iload_n 2, 1) := by decide +kernel
theorem dX3_compare_197 : decode cX3_compare 197 = .ok (.invokevirtual 122, 3) := by decide +kernel
theorem dX3_compare_200 : decode cX3_compare 200 = .ok (.aload_n 0, 1) := by decide +kernel
theorem dX3_compare_201 : decode cX3_compare 201 = .ok (.iload_n 3, 1) := by decide +kernel
theorem dX3_compare_202 : decode cX3_compare 202 = .ok (.ifCond .ne 10, 3) := by decide +kernel
theorem dX3_compare_205 : decode cX3_compare 205 = .ok (.aload_n 0, 1) := by decide +kernel
theorem dX3_compare_206 : decode cX3_compare 206 = .ok (.getfield 71, 3) := by decide +kernel
theorem dX3_compare_209 : decode cX3_compare 209 = .ok (.goto 7, 3) := by decide +kernel
theorem dX3_compare_212 : decode cX3_compare 212 = .ok (.aload_n 0, 1) := by decide +kernel
theorem dX3_compare_213 : decode cX3_compare 213 = .ok (.getfield 74, 3) := by decide +kernel
theorem dX3_compare_216 : decode cX3_compare 216 = .ok (.putfield 149, 3) := by decide +kernel
theorem dX3_compare_219 : decode cX3_compare 219 = .ok (.iconst 0, 1) := by decide +kernel
theorem dX3_compare_220 : decode cX3_compare 220 = .ok (.istore 4, 2) := by decide +kernel
theorem dX3_compare_222 : decode cX3_compare 222 = .ok (.iload 4, 2) := by decide +kernel
theorem dX3_compare_224 : decode cX3_compare 224 = .ok (.aload_n 0, 1) := by decide +kernel
theorem dX3_compare_225 : decode cX3_compare 225 = .ok (.getfield 149, 3) := by decide +kernel
theorem dX3_compare_228 : decode cX3_compare 228 = .ok (.if_icmp .ge 37, 3) := by decide +kernel
theorem dX3_compare_231 : decode cX3_compare 231 = .ok (.aload_n 0, 1) := by decide +kernel
theorem dX3_compare_232 : decode cX3_compare 232 = .ok (.getfield 38, 3) := by decide +kernel
theorem dX3_compare_235 : decode cX3_compare 235 = .ok (.iload 4, 2) := by decide +kernel
theorem dX3_compare_237 : decode cX3_compare 237 = .ok (.iload_n 3, 1) := by decide +kernel
theorem dX3_compare_238 : decode cX3_compare 238 = .ok (.ifCond .ne 13, 3) := by decide +kernel
theorem dX3_compare_241 : decode cX3_compare 241 = .ok (.aload_n 0, 1) := by decide +kernel
theorem dX3_compare_242 : decode cX3_compare 242 = .ok (.getfield 35, 3) := by decide +kernel
theorem dX3_compare_245 : decode cX3_compare 245 = .ok (.iload 4, 2) := by decide +kernel
theorem dX3_compare_247 : decode cX3_compare 247 = .ok (.iaload, 1) := by decide +kernel
theorem dX3_compare_248 : decode cX3_compare 248 = .ok (.goto 10, 3) := by decide +kernel
theorem dX3_compare_251 : decode cX3_compare 251 = .ok (.aload_n 0, 1) := by decide +kernel
theorem dX3_compare_252 : decode cX3_compare 252 = .ok (.getfield 32, 3) := by decide +kernel
theorem dX3_compare_255 : decode cX3_compare 255 = .ok (.iload 4, 2) := by decide +kernel
theorem dX3_compare_257 : decode cX3_compare 257 = .ok (.iaload, 1) := by decide +kernel
theorem dX3_compare_258 : decode cX3_compare 258 = .ok (.iastore, 1) := by decide +kernel
theorem dX3_compare_259 : decode cX3_compare 259 = .ok (.iinc 4 1, 3) := by decide +kernel
theorem dX3_compare_262 : decode cX3_compare 262 = .ok (.goto (-40), 3) := by decide +kernel
theorem dX3_compare_265 : decode cX3_compare 265 = .ok (.aload_n 0, 1) := by decide +kernel
theorem dX3_compare_266 : decode cX3_compare 266 = .ok (.iload_n 1, 1) := by decide +kernel
theorem dX3_compare_267 : decode cX3_compare 267 = .ok (.invokevirtual 122, 3) := by decide +kernel
theorem dX3_compare_270 : decode cX3_compare 270 = .ok (.aload_n 0, 1) := by decide +kernel
theorem dX3_compare_271 : decode cX3_compare 271 = .ok (.iload_n 3, 1) := by decide +kernel
theorem dX3_compare_272 : decode cX3_compare 272 = .ok (.ifCond .ne 18, 3) := by decide +kernel
theorem dX3_compare_275 : decode cX3_compare 275 = .ok (.aload_n 0, 1) := by decide +kernel
theorem dX3_compare_276 : decode cX3_compare 276 = .ok (.aload_n 0, 1) := by decide +kernel
theorem dX3_compare_277 : decode cX3_compare 277 = .ok (.getfield 35, 3) := by decide +kernel
theorem dX3_compare_280 : decode cX3_compare 280 = .ok (.aload_n 0, 1) := by decide +kernel
theorem dX3_compare_281 : decode cX3_compare 281 = .ok (.getfield 71, 3) := by decide +kernel
theorem dX3_compare_284 : decode cX3_compare 284 = .ok (.invokevirtual 152, 3) := by decide +kernel
theorem dX3_compare_287 : decode cX3_compare 287 = .ok (.goto 15, 3) := by decide +kernel
theorem dX3_compare_290 : decode cX3_compare 290 = .ok (.aload_n 0, 1) := by decide +kernel
theorem dX3_compare_291 : decode cX3_compare 291 = .ok (.aload_n 0, 1) := by decide +kernel
theorem dX3_compare_292 : decode cX3_compare 292 = .ok (.getfield 32, 3) := by decide +kernel
theorem dX3_compare_295 : decode cX3_compare 295 = .ok (.aload_n 0, 1) := by decide +kernel
theorem dX3_compare_296 : decode cX3_compare 296 = .ok (.getfield 74, 3) := by decide +kernel
theorem dX3_compare_299 : decode cX3_compare 299 = .ok (.invokevirtual 152, 3) := by decide +kernel
theorem dX3_compare_302 : decode cX3_compare 302 = .ok (.invokevirtual 67, 3) := by decide +kernel
theorem dX3_compare_305 : decode cX3_compare 305 = .ok (.ireturn, 1) := by decide +kernel
set_option maxRecDepth 20000 in
theorem ggX3_inCase_X3_within : GoodIn wsX3_inCase wsX3_within := goodIn_r _ [4] (by decide +kernel) (by decide +kernel)
set_option maxRecDepth 20000 in
theorem gX3_inCase_X3_within : GoodIn wsX3_inCase (va_wsS RX3 44 yX3_within wsX3_within) := goodIn_app (goodIn_of _ (by decide +kernel)) ggX3_inCase_X3_within
theorem dX3_inCase_0 : decode cX3_inCase 0 = .ok (.iload_n 1, 1) := by decide +kernel
theorem dX3_inCase_1 : decode cX3_inCase 1 = .ok (.ifCond .ne 56, 3) := by decide +kernel
theorem dX3_inCase_4 : decode cX3_inCase 4 = .ok (.iload_n 0, 1) := by decide +kernel
theorem dX3_inCase_5 : decode cX3_inCase 5 = .ok (.bipush 97, 2) := by decide +kernel
theorem dX3_inCase_7 : decode cX3_inCase 7 = .ok (.bipush 122, 2) := by decide +kernel
theorem dX3_inCase_9 : decode cX3_inCase 9 = .ok (.invokestatic 44, 3) := by decide +kernel
theorem dX3_inCase_12 : decode cX3_inCase 12 = .ok (.ifCond .ne 23, 3) := by decide +kernel
theorem dX3_inCase_15 : decode cX3_inCase 15 = .ok (.iload_n 0, 1) := by decide +kernel
theorem dX3_inCase_16 : decode cX3_inCase 16 = .ok (.sipush 224, 3) := by decide +kernel
theorem dX3_inCase_19 : decode cX3_inCase 19 = .ok (.sipush 254, 3) := by decide +kernel
theorem dX3_inCase_22 : decode cX3_inCase 22 = .ok (.invokestatic 44, 3) := by decide +kernel
theorem dX3_inCase_25 : decode cX3_inCase 25 = .ok (.ifCond .eq 17, 3) := by decide +kernel
theorem dX3_inCase_28 : decode cX3_inCase 28 = .ok (.iload_n 0, 1) := by decide +kernel
theorem dX3_inCase_29 : decode cX3_inCase 29 = .ok (.sipush 247, 3) := by decide +kernel
theorem dX3_inCase_32 : decode cX3_inCase 32 = .ok (.if_icmp .eq 10, 3) := by decide +kernel
theorem dX3_inCase_35 : decode cX3_inCase 35 = .ok (.iload_n 0, 1) := by decide +kernel
theorem dX3_inCase_36 : decode cX3_inCase 36 = .ok (.bipush 32, 2) := by decide +kernel
theorem dX3_inCase_38 : decode cX3_inCase 38 = .ok (.isub, 1) := by decide +kernel
theorem dX3_inCase_39 : decode cX3_inCase 39 = .ok (.goto 17, 3) := by decide +kernel
theorem dX3_inCase_42 : decode cX3_inCase 42 = .ok (.iload_n 0, 1) := by decide +kernel
theorem dX3_inCase_43 : decode cX3_inCase 43 = .ok (.sipush 255, 3) := by decide +kernel
theorem dX3_inCase_46 : decode cX3_inCase 46 = .ok (.if_icmp .ne 9, 3) := by decide +kernel
theorem dX3_inCase_49 : decode cX3_inCase 49 = .ok (.sipush 376, 3) := by decide +kernel
theorem dX3_inCase_52 : decode cX3_inCase 52 = .ok (.goto 4, 3) := by decide +kernel
theorem dX3_inCase_55 : decode cX3_inCase 55 = .ok (.iload_n 0, 1) := by decide +kernel
theorem dX3_inCase_56 : decode cX3_inCase 56 = .ok (.ireturn, 1) := by decide +kernel
theorem dX3_inCase_57 : decode cX3_inCase 57 = .ok (.iload_n 0, 1) := by decide +kernel
theorem dX3_inCase_58 : decode cX3_inCase 58 = .ok (.bipush 65, 2) := by decide +kernel
theorem dX3_inCase_60 : decode cX3_inCase 60 = .ok (.bipush 90, 2) := by decide +kernel
theorem dX3_inCase_62 : decode cX3_inCase 62 = .ok (.invokestatic 44, 3) := by decide +kernel
theorem dX3_inCase_65 : decode cX3_inCase 65 = .ok (.ifCond .ne 23, 3) := by decide +kernel
theorem dX3_inCase_68 : decode cX3_inCase 68 = .ok (.iload_n 0, 1) := by decide +kernel
theorem dX3_inCase_69 : decode cX3_inCase 69 = .ok (.sipush 192, 3) := by decide +kernel
theorem dX3_inCase_72 : decode cX3_inCase 72 = .ok (.sipush 222, 3) := by decide +kernel
theorem dX3_inCase_75 : decode cX3_inCase 75 = .ok (.invokestatic 44, 3) := by decide +kernel
theorem dX3_inCase_78 : decode cX3_inCase 78 = .ok (.ifCond .eq 17, 3) := by decide +kernel
theorem dX3_inCase_81 : decode cX3_inCase 81 = .ok (.iload_n 0, 1) := by decide +kernel
theorem dX3_inCase_82 : decode cX3_inCase 82 = .ok (.sipush 215, 3) := by decide +kernel
theorem dX3_inCase_85 : decode cX3_inCase 85 = .ok (.if_icmp .eq 10, 3) := by decide +kernel
theorem dX3_inCase_88 : decode cX3_inCase 88 = .ok (.iload_n 0, 1) := by decide +kernel
theorem dX3_inCase_89 : decode cX3_inCase 89 = .ok (.bipush 32, 2) := by decide +kernel
theorem dX3_inCase_91 : decode cX3_inCase 91 = .ok (.iadd, 1) := by decide +kernel
theorem dX3_inCase_92 : decode cX3_inCase 92 = .ok (.goto 17, 3) := by decide +kernel
theorem dX3_inCase_95 : decode cX3_inCase 95 = .ok (.iload_n 0, 1) := by decide +kernel
theorem dX3_inCase_96 : decode cX3_inCase 96 = .ok (.sipush 376, 3) := by decide +kernel
theorem dX3_inCase_99 : decode cX3_inCase 99 = .ok (.if_icmp .ne 9, 3) := by decide +kernel
theorem dX3_inCase_102 : decode cX3_inCase 102 = .ok (.sipush 255, 3) := by decide +kernel
theorem dX3_inCase_105 : decode cX3_inCase 105 = .ok (.goto 4, 3) := by decide +kernel
theorem dX3_inCase_108 : decode cX3_inCase 108 = .ok (.iload_n 0, 1) := by decide +kernel
theorem dX3_inCase_109 : decode cX3_inCase 109 = .ok (.ireturn, 1) := by decide +kernel
set_option maxRecDepth 20000 in
theorem ggX3_change_X3_isText : GoodIn wsX3_change wsX3_isText := goodIn_r _ [6, 7, 8, 5, 9] (by decide +kernel) (by decide +kernel)
set_option maxRecDepth 20000 in
theorem gX3_change_X3_isText : GoodIn wsX3_change (va_wsS RX3 112 yX3_isText wsX3_isText) := goodIn_app (goodIn_of _ (by decide +kernel)) ggX3_change_X3_isText
set_option maxRecDepth 20000 in
theorem ggX3_change_X3_within : GoodIn wsX3_change wsX3_within := goodIn_r _ [9] (by decide +kernel) (by decide +kernel)
set_option maxRecDepth 20000 in
theorem gX3_change_X3_within : GoodIn wsX3_change (va_wsS RX3 44 yX3_within wsX3_within) := goodIn_app (goodIn_of _ (by decide +kernel)) ggX3_change_X3_within
set_option maxRecDepth 20000 in
theorem ggX3_change_X3_wantsPoints : GoodIn wsX3_change wsX3_wantsPoints := goodIn_r _ [13, 14, 15, 16, 5, 17, 18, 19, 52, 53, 54, 55, 56, 57, 58, 59, 60, 61, 62, 63, 64, 65, 66, 67, 68, 69] (by decide +kernel) (by decide +kernel)
set_option maxRecDepth 20000 in
theorem gX3_change_X3_wantsPoints : GoodIn wsX3_change (wsV RX3 119 RX3 yX3_wantsPoints wsX3_wantsPoints) := goodIn_app (goodIn_of _ (by decide +kernel)) ggX3_change_X3_wantsPoints
set_option maxRecDepth 20000 in
theorem ggX3_change_X3_no : GoodIn wsX3_change wsX3_no := goodIn_r _ [23, 24, 52, 53, 54, 55, 56, 57, 58, 59, 60, 61, 62, 63, 64, 65, 66, 67, 68, 69] (by decide +kernel) (by decide +kernel)
set_option maxRecDepth 20000 in
theorem gX3_change_X3_no : GoodIn wsX3_change (wsV RX3 56 RX3 yX3_no wsX3_no) := goodIn_app (goodIn_of _ (by decide +kernel)) ggX3_change_X3_no
set_option maxRecDepth 20000 in
theorem ggX3_change_X3_manyOf : GoodIn wsX3_change wsX3_manyOf := goodIn_r _ [28, 29, 18, 52, 53, 54, 55, 56, 57, 58, 59, 60, 61, 62, 63, 64, 65, 66, 67, 68, 69] (by decide +kernel) (by decide +kernel)
set_option maxRecDepth 20000 in
theorem gX3_change_X3_manyOf : GoodIn wsX3_change (wsV RX3 91 RX3 yX3_manyOf wsX3_manyOf) := goodIn_app (goodIn_of _ (by decide +kernel)) ggX3_change_X3_manyOf
set_option maxRecDepth 20000 in
theorem ggX3_change_X3_item : GoodIn wsX3_change wsX3_item := goodIn_r _ [33, 34, 18, 52, 53, 54, 55, 56, 57, 58, 59, 60, 61, 62, 63, 64, 65, 66, 67, 68, 69] (by decide +kernel) (by decide +kernel)
set_option maxRecDepth 20000 in
theorem gX3_change_X3_item : GoodIn wsX3_change (wsV RX3 94 RX3 yX3_item wsX3_item) := goodIn_app (goodIn_of _ (by decide +kernel)) ggX3_change_X3_item
set_option maxRecDepth 20000 in
theorem ggX3_change_X3_inCase : GoodIn wsX3_change wsX3_inCase := goodIn_r _ [37, 7, 8, 5, 9] (by decide +kernel) (by decide +kernel)
set_option maxRecDepth 20000 in
theorem gX3_change_X3_inCase : GoodIn wsX3_change (va_wsS RX3 156 yX3_inCase wsX3_inCase) := goodIn_app (goodIn_of _ (by decide +kernel)) ggX3_change_X3_inCase
set_option maxRecDepth 20000 in
theorem ggX3_change_X3_sortOf : GoodIn wsX3_change wsX3_sortOf := goodIn_r _ [17, 18, 19, 52, 53, 54, 55, 56, 57, 58, 59, 60, 61, 62, 63, 64, 65, 66, 67, 68, 69] (by decide +kernel) (by decide +kernel)
set_option maxRecDepth 20000 in
theorem gX3_change_X3_sortOf : GoodIn wsX3_change (wsV RX3 88 RX3 yX3_sortOf wsX3_sortOf) := goodIn_app (goodIn_of _ (by decide +kernel)) ggX3_change_X3_sortOf
set_option maxRecDepth 20000 in
theorem ggX3_change_X3_become : GoodIn wsX3_change wsX3_become := goodIn_r _ [41, 19, 29, 34, 18, 42, 43, 44, 5, 45, 46, 47, 48, 49, 50, 51, 24, 52, 53, 54, 55, 56, 57, 58, 59, 60, 61, 62, 63, 64, 65, 66, 67, 68, 69] (by decide +kernel) (by decide +kernel)
set_option maxRecDepth 20000 in
theorem gX3_change_X3_become : GoodIn wsX3_change (wsV RX3 115 RX3 yX3_become wsX3_become) := goodIn_app (goodIn_of _ (by decide +kernel)) ggX3_change_X3_become
theorem dX3_change_0 : decode cX3_change 0 = .ok (.iload_n 1, 1) := by decide +kernel
theorem dX3_change_1 : decode cX3_change 1 = .ok (.invokestatic 112, 3) := by decide +kernel
theorem dX3_change_4 : decode cX3_change 4 = .ok (.ifCond .eq 19, 3) := by decide +kernel
theorem dX3_change_7 : decode cX3_change 7 = .ok (.iload_n 2, 1) := by decide +kernel
theorem dX3_change_8 : decode cX3_change 8 = .ok (.invokestatic 112, 3) := by decide +kernel
theorem dX3_change_11 : decode cX3_change 11 = .ok (.ifCond .eq 12, 3) := by decide +kernel
theorem dX3_change_14 : decode cX3_change 14 = .ok (.iload_n 3, 1) := by decide +kernel
theorem dX3_change_15 : decode cX3_change 15 = .ok (.iconst 0, 1) := by decide +kernel
theorem dX3_change_16 : decode cX3_change 16 = .ok (.iconst 1, 1) := by decide +kernel
theorem dX3_change_17 : decode cX3_change 17 = .ok (.invokestatic 44, 3) := by decide +kernel
theorem dX3_change_20 : decode cX3_change 20 = .ok (.ifCond .ne 6, 3) := by decide +kernel
theorem dX3_change_23 : decode cX3_change 23 = .ok (.ldc 107, 2) := by decide +kernel
theorem dX3_change_25 : decode cX3_change 25 = .ok (.ireturn, 1) := by decide +kernel
theorem dX3_change_26 : decode cX3_change 26 = .ok (.aload_n 0, 1) := by decide +kernel
theorem dX3_change_27 : decode cX3_change 27 = .ok (.iload_n 2, 1) := by decide +kernel
theorem dX3_change_28 : decode cX3_change 28 = .ok (.invokevirtual 119, 3) := by decide +kernel
theorem dX3_change_31 : decode cX3_change 31 = .ok (.istore 4, 2) := by decide +kernel
theorem dX3_change_33 : decode cX3_change 33 = .ok (.iload 4, 2) := by decide +kernel
theorem dX3_change_35 : decode cX3_change 35 = .ok (.ifCond .eq 10, 3) := by decide +kernel
theorem dX3_change_38 : decode cX3_change 38 = .ok (.aload_n 0, 1) := by decide +kernel
theorem dX3_change_39 : decode cX3_change 39 = .ok (.iload 4, 2) := by decide +kernel
theorem dX3_change_41 : decode cX3_change 41 = .ok (.invokevirtual 56, 3) := by decide +kernel
theorem dX3_change_44 : decode cX3_change 44 = .ok (.ireturn, 1) := by decide +kernel
theorem dX3_change_45 : decode cX3_change 45 = .ok (.aload_n 0, 1) := by decide +kernel
theorem dX3_change_46 : decode cX3_change 46 = .ok (.iload_n 2, 1) := by decide +kernel
theorem dX3_change_47 : decode cX3_change 47 = .ok (.invokevirtual 91, 3) := by decide +kernel
theorem dX3_change_50 : decode cX3_change 50 = .ok (.istore 5, 2) := by decide +kernel
theorem dX3_change_52 : decode cX3_change 52 = .ok (.iconst 0, 1) := by decide +kernel
theorem dX3_change_53 : decode cX3_change 53 = .ok (.istore 6, 2) := by decide +kernel
theorem dX3_change_55 : decode cX3_change 55 = .ok (.iload 6, 2) := by decide +kernel
theorem dX3_change_57 : decode cX3_change 57 = .ok (.iload 5, 2) := by decide +kernel
theorem dX3_change_59 : decode cX3_change 59 = .ok (.if_icmp .ge 27, 3) := by decide +kernel
theorem dX3_change_62 : decode cX3_change 62 = .ok (.aload_n 0, 1) := by decide +kernel
theorem dX3_change_63 : decode cX3_change 63 = .ok (.getfield 38, 3) := by decide +kernel
theorem dX3_change_66 : decode cX3_change 66 = .ok (.iload 6, 2) := by decide +kernel
theorem dX3_change_68 : decode cX3_change 68 = .ok (.aload_n 0, 1) := by decide +kernel
theorem dX3_change_69 : decode cX3_change 69 = .ok (.iload_n 2, 1) := by decide +kernel
theorem dX3_change_70 : decode cX3_change 70 = .ok (.iload 6, 2) := by decide +kernel
theorem dX3_change_72 : decode cX3_change 72 = .ok (.invokevirtual 94, 3) := by decide +kernel
theorem dX3_change_75 : decode cX3_change 75 = .ok (.iload_n 3, 1) := by decide +kernel
theorem dX3_change_76 : decode cX3_change 76 = .ok (.invokestatic 156, 3) := by decide +kernel
theorem dX3_change_79 : decode cX3_change 79 = .ok (.iastore, 1) := by decide +kernel
theorem dX3_change_80 : decode cX3_change 80 = .ok (.iinc 6 1, 3) := by decide +kernel
theorem dX3_change_83 : decode cX3_change 83 = .ok (.goto (-28), 3) := by decide +kernel
theorem dX3_change_86 : decode cX3_change 86 = .ok (.aload_n 0, 1) := by decide +kernel
theorem dX3_change_87 : decode cX3_change 87 = .ok (.iload_n 1, 1) := by decide +kernel
theorem dX3_change_88 : decode cX3_change 88 = .ok (.aload_n 0, 1) := by decide +kernel
theorem dX3_change_89 : decode cX3_change 89 = .ok (.iload_n 2, 1) := by decide +kernel
theorem dX3_change_90 : decode cX3_change 90 = .ok (.invokevirtual 88, 3) := by decide +kernel
theorem dX3_change_93 : decode cX3_change 93 = .ok (.aload_n 0, 1) := by decide +kernel
theorem dX3_change_94 : decode cX3_change 94 = .ok (.getfield 38, 3) := by decide +kernel
theorem dX3_change_97 : decode cX3_change 97 = .ok (.iload 5, 2) := by decide +kernel
theorem dX3_change_99 : decode cX3_change 99 = .ok (.invokevirtual 115, 3) := by decide +kernel
theorem dX3_change_102 : decode cX3_change 102 = .ok (.ireturn, 1) := by decide +kernel
set_option maxRecDepth 20000 in
theorem ggX3_keep_X3_isText : GoodIn wsX3_keep wsX3_isText := goodIn_r _ [10, 11, 12, 9, 13] (by decide +kernel) (by decide +kernel)
set_option maxRecDepth 20000 in
theorem gX3_keep_X3_isText : GoodIn wsX3_keep (va_wsS RX3 112 yX3_isText wsX3_isText) := goodIn_app (goodIn_of _ (by decide +kernel)) ggX3_keep_X3_isText
set_option maxRecDepth 20000 in
theorem ggX3_keep_X3_sortOf : GoodIn wsX3_keep wsX3_sortOf := goodIn_r _ [17, 6, 18, 36, 37, 38, 39, 40, 41, 42, 43, 44, 45, 46, 47, 48, 49, 50, 51, 52, 53] (by decide +kernel) (by decide +kernel)
set_option maxRecDepth 20000 in
theorem gX3_keep_X3_sortOf : GoodIn wsX3_keep (wsV RX3 88 RX3 yX3_sortOf wsX3_sortOf) := goodIn_app (goodIn_of _ (by decide +kernel)) ggX3_keep_X3_sortOf
set_option maxRecDepth 20000 in
theorem ggX3_keep_X3_no : GoodIn wsX3_keep wsX3_no := goodIn_r _ [22, 23, 36, 37, 38, 39, 40, 41, 42, 43, 44, 45, 46, 47, 48, 49, 50, 51, 52, 53] (by decide +kernel) (by decide +kernel)
set_option maxRecDepth 20000 in
theorem gX3_keep_X3_no : GoodIn wsX3_keep (wsV RX3 56 RX3 yX3_no wsX3_no) := goodIn_app (goodIn_of _ (by decide +kernel)) ggX3_keep_X3_no
set_option maxRecDepth 20000 in
theorem ggX3_keep_X3_manyOf : GoodIn wsX3_keep wsX3_manyOf := goodIn_r _ [27, 3, 6, 36, 37, 38, 39, 40, 41, 42, 43, 44, 45, 46, 47, 48, 49, 50, 51, 52, 53] (by decide +kernel) (by decide +kernel)
set_option maxRecDepth 20000 in
theorem gX3_keep_X3_manyOf : GoodIn wsX3_keep (wsV RX3 91 RX3 yX3_manyOf wsX3_manyOf) := goodIn_app (goodIn_of _ (by decide +kernel)) ggX3_keep_X3_manyOf
set_option maxRecDepth 20000 in
theorem ggX3_keep_X3_item : GoodIn wsX3_keep wsX3_item := goodIn_r _ [31, 5, 6, 36, 37, 38, 39, 40, 41, 42, 43, 44, 45, 46, 47, 48, 49, 50, 51, 52, 53] (by decide +kernel) (by decide +kernel)
set_option maxRecDepth 20000 in
theorem gX3_keep_X3_item : GoodIn wsX3_keep (wsV RX3 94 RX3 yX3_item wsX3_item) := goodIn_app (goodIn_of _ (by decide +kernel)) ggX3_keep_X3_item
set_option maxRecDepth 20000 in
theorem ggX3_keep_X3_yes : GoodIn wsX3_keep wsX3_yes := goodIn_r _ [35, 23, 36, 37, 38, 39, 40, 41, 42, 43, 44, 45, 46, 47, 48, 49, 50, 51, 52, 53] (by decide +kernel) (by decide +kernel)
set_option maxRecDepth 20000 in
theorem gX3_keep_X3_yes : GoodIn wsX3_keep (wsV RX3 67 RX3 yX3_yes wsX3_yes) := goodIn_app (goodIn_of _ (by decide +kernel)) ggX3_keep_X3_yes
theorem dX3_keep_0 : decode cX3_keep 0 = .ok (.iload_n 1, 1) := by decide +kernel
theorem dX3_keep_1 : decode cX3_keep 1 = .ok (.invokestatic 112, 3) := by decide +kernel
theorem dX3_keep_4 : decode cX3_keep 4 = .ok (.ifCond .ne 6, 3) := by decide +kernel
theorem dX3_keep_7 : decode cX3_keep 7 = .ok (.ldc 107, 2) := by decide +kernel
theorem dX3_keep_9 : decode cX3_keep 9 = .ok (.ireturn, 1) := by decide +kernel
theorem dX3_keep_10 : decode cX3_keep 10 = .ok (.aload_n 0, 1) := by decide +kernel
theorem dX3_keep_11 : decode cX3_keep 11 = .ok (.iload_n 1, 1) := by decide +kernel
theorem dX3_keep_12 : decode cX3_keep 12 = .ok (.invokevirtual 88, 3) := by decide +kernel
theorem dX3_keep_15 : decode cX3_keep 15 = .ok (.istore_n 2, 1) := by decide +kernel
theorem dX3_keep_16 : decode cX3_keep 16 = .ok (.iload_n 2, 1) := by decide +kernel
theorem dX3_keep_17 : decode cX3_keep 17 = .ok (.ifCond .eq 18, 3) := by decide +kernel
theorem dX3_keep_20 : decode cX3_keep 20 = .ok (.aload_n 0, 1) := by decide +kernel
theorem dX3_keep_21 : decode cX3_keep 21 = .ok (.iload_n 2, 1) := by decide +kernel
theorem dX3_keep_22 : decode cX3_keep 22 = .ok (.iconst (-1), 1) := by decide +kernel
theorem dX3_keep_23 : decode cX3_keep 23 = .ok (.if_icmp .ne 7, 3) := by decide +kernel
theorem dX3_keep_26 : decode cX3_keep 26 = .ok (.iconst 1, 1) := by decide +kernel
theorem dX3_keep_27 : decode cX3_keep 27 = .ok (.goto 4, 3) := by decide +kernel
theorem dX3_keep_30 : decode cX3_keep 30 = .ok (.iconst 2, 1) := by decide +kernel
theorem dX3_keep_31 : decode cX3_keep 31 = .ok (.invokevirtual 56, 3) := by decide +kernel
theorem dX3_keep_34 : decode cX3_keep 34 = .ok (.ireturn, 1) := by decide +kernel
theorem dX3_keep_35 : decode cX3_keep 35 = .ok (.iconst 0, 1) := by decide +kernel
theorem dX3_keep_36 : decode cX3_keep 36 = .ok (.istore_n 3, 1) := by decide +kernel
theorem dX3_keep_37 : decode cX3_keep 37 = .ok (.iload_n 3, 1) := by decide +kernel
theorem dX3_keep_38 : decode cX3_keep 38 = .ok (.aload_n 0, 1) := by decide +kernel
theorem dX3_keep_39 : decode cX3_keep 39 = .ok (.getfield 60, 3) := by decide +kernel
theorem dX3_keep_42 : decode cX3_keep 42 = .ok (.if_icmp .ge 117, 3) := by decide +kernel
theorem dX3_keep_45 : decode cX3_keep 45 = .ok (.aload_n 0, 1) := by decide +kernel
theorem dX3_keep_46 : decode cX3_keep 46 = .ok (.getfield 19, 3) := by decide +kernel
theorem dX3_keep_49 : decode cX3_keep 49 = .ok (.aload_n 0, 1) := by decide +kernel
theorem dX3_keep_50 : decode cX3_keep 50 = .ok (.getfield 13, 3) := by decide +kernel
theorem dX3_keep_53 : decode cX3_keep 53 = .ok (.iload_n 3, 1) := by decide +kernel
theorem dX3_keep_54 : decode cX3_keep 54 = .ok (.iaload, 1) := by decide +kernel
theorem dX3_keep_55 : decode cX3_keep 55 = .ok (.iaload, 1) := by decide +kernel
theorem dX3_keep_56 : decode cX3_keep 56 = .ok (.aload_n 0, 1) := by decide +kernel
theorem dX3_keep_57 : decode cX3_keep 57 = .ok (.iload_n 1, 1) := by decide +kernel
theorem dX3_keep_58 : decode cX3_keep 58 = .ok (.invokevirtual 91, 3) := by decide +kernel
theorem dX3_keep_61 : decode cX3_keep 61 = .ok (.if_icmp .ne 7, 3) := by decide +kernel
theorem dX3_keep_64 : decode cX3_keep 64 = .ok (.iconst 1, 1) := by decide +kernel
theorem dX3_keep_65 : decode cX3_keep 65 = .ok (.goto 4, 3) := by decide +kernel
theorem dX3_keep_68 : decode cX3_keep 68 = .ok (.iconst 0, 1) := by decide +kernel
theorem dX3_keep_69 : decode cX3_keep 69 = .ok (.istore 4, 2) := by decide +kernel
theorem dX3_keep_71 : decode cX3_keep 71 = .ok (.iconst 0, 1) := by decide +kernel
theorem dX3_keep_72 : decode cX3_keep 72 = .ok (.istore 5, 2) := by decide +kernel
theorem dX3_keep_74 : decode cX3_keep 74 = .ok (.iload 5, 2) := by decide +kernel
theorem dX3_keep_76 : decode cX3_keep 76 = .ok (.aload_n 0, 1) := by decide +kernel
theorem dX3_keep_77 : decode cX3_keep 77 = .ok (.iload_n 1, 1) := by decide +kernel
theorem dX3_keep_78 : decode cX3_keep 78 = .ok (.invokevirtual 91, 3) := by decide +kernel
theorem dX3_keep_81 : decode cX3_keep 81 = .ok (.if_icmp .ge 49, 3) := by decide +kernel
theorem dX3_keep_84 : decode cX3_keep 84 = .ok (.iload 4, 2) := by decide +kernel
theorem dX3_keep_86 : decode cX3_keep 86 = .ok (.ifCond .eq 44, 3) := by decide +kernel
theorem dX3_keep_89 : decode cX3_keep 89 = .ok (.aload_n 0, 1) := by decide +kernel
theorem dX3_keep_90 : decode cX3_keep 90 = .ok (.getfield 22, 3) := by decide +kernel
theorem dX3_keep_93 : decode cX3_keep 93 = .ok (.sipush 240, 3) := by decide +kernel
theorem dX3_keep_96 : decode cX3_keep 96 = .ok (.aload_n 0, 1) := by decide +kernel
theorem dX3_keep_97 : decode cX3_keep 97 = .ok (.getfield 13, 3) := by decide +kernel
theorem dX3_keep_100 : decode cX3_keep 100 = .ok (.iload_n 3, 1) := by decide +kernel
theorem dX3_keep_101 : decode cX3_keep 101 = .ok (.iaload, 1) := by decide +kernel
theorem dX3_keep_102 : decode cX3_keep 102 = .ok (.imul, 1) := by decide +kernel
theorem dX3_keep_103 : decode cX3_keep 103 = .ok (.iload 5, 2) := by decide +kernel
theorem dX3_keep_105 : decode cX3_keep 105 = .ok (.iadd, 1) := by decide +kernel
theorem dX3_keep_106 : decode cX3_keep 106 = .ok (.iaload, 1) := by decide +kernel
theorem dX3_keep_107 : decode cX3_keep 107 = .ok (.aload_n 0, 1) := by decide +kernel
theorem dX3_keep_108 : decode cX3_keep 108 = .ok (.iload_n 1, 1) := by decide +kernel
theorem dX3_keep_109 : decode cX3_keep 109 = .ok (.iload 5, 2) := by decide +kernel
theorem dX3_keep_111 : decode cX3_keep 111 = .ok (.invokevirtual 94, 3) := by decide +kernel
theorem dX3_keep_114 : decode cX3_keep 114 = .ok (.if_icmp .ne 7, 3) := by decide +kernel
theorem dX3_keep_117 : decode cX3_keep 117 = .ok (.iconst 1, 1) := by decide +kernel
theorem dX3_keep_118 : decode cX3_keep 118 = .ok (.goto 4, 3) := by decide +kernel
theorem dX3_keep_121 : decode cX3_keep 121 = .ok (.iconst 0, 1) := by decide +kernel
theorem dX3_keep_122 : decode cX3_keep 122 = .ok (.istore 4, 2) := by decide +kernel
theorem dX3_keep_124 : decode cX3_keep 124 = .ok (.iinc 5 1, 3) := by decide +kernel
theorem dX3_keep_127 : decode cX3_keep 127 = .ok (.goto (-53), 3) := by decide +kernel
theorem dX3_keep_130 : decode cX3_keep 130 = .ok (.iload 4, 2) := by decide +kernel
theorem dX3_keep_132 : decode cX3_keep 132 = .ok (.ifCond .eq 21, 3) := by decide +kernel
theorem dX3_keep_135 : decode cX3_keep 135 = .ok (.aload_n 0, 1) := by decide +kernel
theorem dX3_keep_136 : decode cX3_keep 136 = .ok (.getfield 7, 3) := by decide +kernel
theorem dX3_keep_139 : decode cX3_keep 139 = .ok (.iload_n 1, 1) := by decide +kernel
theorem dX3_keep_140 : decode cX3_keep 140 = .ok (.aload_n 0, 1) := by decide +kernel
theorem dX3_keep_141 : decode cX3_keep 141 = .ok (.getfield 13, 3) := by decide +kernel
theorem dX3_keep_144 : decode cX3_keep 144 = .ok (.iload_n 3, 1) := by decide +kernel
theorem dX3_keep_145 : decode cX3_keep 145 = .ok (.iaload, 1) := by decide +kernel
theorem dX3_keep_146 : decode cX3_keep 146 = .ok (.iastore, 1) := by decide +kernel
theorem dX3_keep_147 : decode cX3_keep 147 = .ok (.aload_n 0, 1) := by decide +kernel
theorem dX3_keep_148 : decode cX3_keep 148 = .ok (.iload_n 3, 1) := by decide +kernel
theorem dX3_keep_149 : decode cX3_keep 149 = .ok (.invokevirtual 67, 3) := by decide +kernel
theorem dX3_keep_152 : decode cX3_keep 152 = .ok (.ireturn, 1) := by decide +kernel
theorem dX3_keep_153 : decode cX3_keep 153 = .ok (.iinc 3 1, 3) := by decide +kernel
theorem dX3_keep_156 : decode cX3_keep 156 = .ok (.goto (-119), 3) := by decide +kernel
theorem dX3_keep_159 : decode cX3_keep 159 = .ok (.aload_n 0, 1) := by decide +kernel
theorem dX3_keep_160 : decode cX3_keep 160 = .ok (.getfield 60, 3) := by decide +kernel
theorem dX3_keep_163 : decode cX3_keep 163 = .ok (.bipush 12, 2) := by decide +kernel
theorem dX3_keep_165 : decode cX3_keep 165 = .ok (.if_icmp .ne 10, 3) := by decide +kernel
theorem dX3_keep_168 : decode cX3_keep 168 = .ok (.aload_n 0, 1) := by decide +kernel
theorem dX3_keep_169 : decode cX3_keep 169 = .ok (.bipush 6, 2) := by decide +kernel
theorem dX3_keep_171 : decode cX3_keep 171 = .ok (.invokevirtual 56, 3) := by decide +kernel
theorem dX3_keep_174 : decode cX3_keep 174 = .ok (.ireturn, 1) := by decide +kernel
theorem dX3_keep_175 : decode cX3_keep 175 = .ok (.aload_n 0, 1) := by decide +kernel
theorem dX3_keep_176 : decode cX3_keep 176 = .ok (.getfield 13, 3) := by decide +kernel
theorem dX3_keep_179 : decode cX3_keep 179 = .ok (.aload_n 0, 1) := by decide +kernel
theorem dX3_keep_180 : decode cX3_keep 180 = .ok (.getfield 60, 3) := by decide +kernel
theorem dX3_keep_183 : decode cX3_keep 183 = .ok (.aload_n 0, 1) := by decide +kernel
theorem dX3_keep_184 : decode cX3_keep 184 = .ok (.getfield 7, 3) := by decide +kernel
theorem dX3_keep_187 : decode cX3_keep 187 = .ok (.iload_n 1, 1) := by decide +kernel
theorem dX3_keep_188 : decode cX3_keep 188 = .ok (.iaload, 1) := by decide +kernel
theorem dX3_keep_189 : decode cX3_keep 189 = .ok (.iastore, 1) := by decide +kernel
theorem dX3_keep_190 : decode cX3_keep 190 = .ok (.aload_n 0, 1) := by decide +kernel
theorem dX3_keep_191 : decode cX3_keep 191 = .ok (.dup, 1) := by decide +kernel
theorem dX3_keep_192 : decode cX3_keep 192 = .ok (.getfield 60, 3) := by decide +kernel
theorem dX3_keep_195 : decode cX3_keep 195 = .ok (.iconst 1, 1) := by decide +kernel
theorem dX3_keep_196 : decode cX3_keep 196 = .ok (.iadd, 1) := by decide +kernel
theorem dX3_keep_197 : decode cX3_keep 197 = .ok (.putfield 60, 3) := by decide +kernel
theorem dX3_keep_200 : decode cX3_keep 200 = .ok (.aload_n 0, 1) := by decide +kernel
theorem dX3_keep_201 : decode cX3_keep 201 = .ok (.aload_n 0, 1) := by decide +kernel
theorem dX3_keep_202 : decode cX3_keep 202 = .ok (.getfield 60, 3) := by decide +kernel
theorem dX3_keep_205 : decode cX3_keep 205 = .ok (.iconst 1, 1) := by decide +kernel
theorem dX3_keep_206 : decode cX3_keep 206 = .ok (.isub, 1) := by decide +kernel
theorem dX3_keep_207 : decode cX3_keep 207 = .ok (.invokevirtual 67, 3) := by decide +kernel
theorem dX3_keep_210 : decode cX3_keep 210 = .ok (.ireturn, 1) := by decide +kernel
theorem dX3_kept_0 : decode cX3_kept 0 = .ok (.aload_n 0, 1) := by decide +kernel
theorem dX3_kept_1 : decode cX3_kept 1 = .ok (.getfield 60, 3) := by decide +kernel
theorem dX3_kept_4 : decode cX3_kept 4 = .ok (.ireturn, 1) := by decide +kernel
set_option maxRecDepth 20000 in
theorem ggX3_same_X3_isText : GoodIn wsX3_same wsX3_isText := goodIn_r _ [6, 7, 8, 5, 9] (by decide +kernel) (by decide +kernel)
set_option maxRecDepth 20000 in
theorem gX3_same_X3_isText : GoodIn wsX3_same (va_wsS RX3 112 yX3_isText wsX3_isText) := goodIn_app (goodIn_of _ (by decide +kernel)) ggX3_same_X3_isText
theorem dX3_same_0 : decode cX3_same 0 = .ok (.iload_n 1, 1) := by decide +kernel
theorem dX3_same_1 : decode cX3_same 1 = .ok (.invokestatic 112, 3) := by decide +kernel
theorem dX3_same_4 : decode cX3_same 4 = .ok (.ifCond .eq 10, 3) := by decide +kernel
theorem dX3_same_7 : decode cX3_same 7 = .ok (.iload_n 2, 1) := by decide +kernel
theorem dX3_same_8 : decode cX3_same 8 = .ok (.invokestatic 112, 3) := by decide +kernel
theorem dX3_same_11 : decode cX3_same 11 = .ok (.ifCond .ne 8, 3) := by decide +kernel
theorem dX3_same_14 : decode cX3_same 14 = .ok (.ldc 107, 2) := by decide +kernel
theorem dX3_same_16 : decode cX3_same 16 = .ok (.goto 23, 3) := by decide +kernel
theorem dX3_same_19 : decode cX3_same 19 = .ok (.aload_n 0, 1) := by decide +kernel
theorem dX3_same_20 : decode cX3_same 20 = .ok (.getfield 7, 3) := by decide +kernel
theorem dX3_same_23 : decode cX3_same 23 = .ok (.iload_n 1, 1) := by decide +kernel
theorem dX3_same_24 : decode cX3_same 24 = .ok (.iaload, 1) := by decide +kernel
theorem dX3_same_25 : decode cX3_same 25 = .ok (.aload_n 0, 1) := by decide +kernel
theorem dX3_same_26 : decode cX3_same 26 = .ok (.getfield 7, 3) := by decide +kernel
theorem dX3_same_29 : decode cX3_same 29 = .ok (.iload_n 2, 1) := by decide +kernel
theorem dX3_same_30 : decode cX3_same 30 = .ok (.iaload, 1) := by decide +kernel
theorem dX3_same_31 : decode cX3_same 31 = .ok (.if_icmp .ne 7, 3) := by decide +kernel
theorem dX3_same_34 : decode cX3_same 34 = .ok (.iconst 1, 1) := by decide +kernel
theorem dX3_same_35 : decode cX3_same 35 = .ok (.goto 4, 3) := by decide +kernel
theorem dX3_same_38 : decode cX3_same 38 = .ok (.iconst 0, 1) := by decide +kernel
theorem dX3_same_39 : decode cX3_same 39 = .ok (.ireturn, 1) := by decide +kernel
set_option maxRecDepth 20000 in
theorem ggX3_kind_X3_isPoint : GoodIn wsX3_kind wsX3_isPoint := goodIn_r _ [6, 7, 8, 9, 5, 10] (by decide +kernel) (by decide +kernel)
set_option maxRecDepth 20000 in
theorem gX3_kind_X3_isPoint : GoodIn wsX3_kind (va_wsS RX3 104 yX3_isPoint wsX3_isPoint) := goodIn_app (goodIn_of _ (by decide +kernel)) ggX3_kind_X3_isPoint
set_option maxRecDepth 20000 in
theorem ggX3_kind_X3_isHigh : GoodIn wsX3_kind wsX3_isHigh := goodIn_r _ [13, 14, 15, 8, 9, 5, 10] (by decide +kernel) (by decide +kernel)
set_option maxRecDepth 20000 in
theorem gX3_kind_X3_isHigh : GoodIn wsX3_kind (va_wsS RX3 77 yX3_isHigh wsX3_isHigh) := goodIn_app (goodIn_of _ (by decide +kernel)) ggX3_kind_X3_isHigh
set_option maxRecDepth 20000 in
theorem ggX3_kind_X3_isLow : GoodIn wsX3_kind wsX3_isLow := goodIn_r _ [18, 19, 20, 8, 9, 5, 10] (by decide +kernel) (by decide +kernel)
set_option maxRecDepth 20000 in
theorem gX3_kind_X3_isLow : GoodIn wsX3_kind (va_wsS RX3 81 yX3_isLow wsX3_isLow) := goodIn_app (goodIn_of _ (by decide +kernel)) ggX3_kind_X3_isLow
set_option maxRecDepth 20000 in
theorem ggX3_kind_X3_within : GoodIn wsX3_kind wsX3_within := goodIn_r _ [10] (by decide +kernel) (by decide +kernel)
set_option maxRecDepth 20000 in
theorem gX3_kind_X3_within : GoodIn wsX3_kind (va_wsS RX3 44 yX3_within wsX3_within) := goodIn_app (goodIn_of _ (by decide +kernel)) ggX3_kind_X3_within
set_option maxRecDepth 20000 in
theorem ggX3_kind_X3_inCase : GoodIn wsX3_kind wsX3_inCase := goodIn_r _ [23, 8, 9, 5, 10] (by decide +kernel) (by decide +kernel)
set_option maxRecDepth 20000 in
theorem gX3_kind_X3_inCase : GoodIn wsX3_kind (va_wsS RX3 156 yX3_inCase wsX3_inCase) := goodIn_app (goodIn_of _ (by decide +kernel)) ggX3_kind_X3_inCase
theorem dX3_kind_0 : decode cX3_kind 0 = .ok (.iload_n 1, 1) := by decide +kernel
theorem dX3_kind_1 : decode cX3_kind 1 = .ok (.invokestatic 104, 3) := by decide +kernel
theorem dX3_kind_4 : decode cX3_kind 4 = .ok (.ifCond .ne 6, 3) := by decide +kernel
theorem dX3_kind_7 : decode cX3_kind 7 = .ok (.ldc 107, 2) := by decide +kernel
theorem dX3_kind_9 : decode cX3_kind 9 = .ok (.ireturn, 1) := by decide +kernel
theorem dX3_kind_10 : decode cX3_kind 10 = .ok (.iload_n 1, 1) := by decide +kernel
theorem dX3_kind_11 : decode cX3_kind 11 = .ok (.invokestatic 77, 3) := by decide +kernel
theorem dX3_kind_14 : decode cX3_kind 14 = .ok (.ifCond .eq 5, 3) := by decide +kernel
theorem dX3_kind_17 : decode cX3_kind 17 = .ok (.iconst 0, 1) := by decide +kernel
theorem dX3_kind_18 : decode cX3_kind 18 = .ok (.ireturn, 1) := by decide +kernel
theorem dX3_kind_19 : decode cX3_kind 19 = .ok (.iload_n 1, 1) := by decide +kernel
theorem dX3_kind_20 : decode cX3_kind 20 = .ok (.invokestatic 81, 3) := by decide +kernel
theorem dX3_kind_23 : decode cX3_kind 23 = .ok (.ifCond .eq 5, 3) := by decide +kernel
theorem dX3_kind_26 : decode cX3_kind 26 = .ok (.iconst 1, 1) := by decide +kernel
theorem dX3_kind_27 : decode cX3_kind 27 = .ok (.ireturn, 1) := by decide +kernel
theorem dX3_kind_28 : decode cX3_kind 28 = .ok (.iload_n 1, 1) := by decide +kernel
theorem dX3_kind_29 : decode cX3_kind 29 = .ok (.bipush 48, 2) := by decide +kernel
theorem dX3_kind_31 : decode cX3_kind 31 = .ok (.bipush 57, 2) := by decide +kernel
theorem dX3_kind_33 : decode cX3_kind 33 = .ok (.invokestatic 44, 3) := by decide +kernel
theorem dX3_kind_36 : decode cX3_kind 36 = .ok (.ifCond .eq 5, 3) := by decide +kernel
theorem dX3_kind_39 : decode cX3_kind 39 = .ok (.iconst 2, 1) := by decide +kernel
theorem dX3_kind_40 : decode cX3_kind 40 = .ok (.ireturn, 1) := by decide +kernel
theorem dX3_kind_41 : decode cX3_kind 41 = .ok (.iload_n 1, 1) := by decide +kernel
theorem dX3_kind_42 : decode cX3_kind 42 = .ok (.iconst 0, 1) := by decide +kernel
theorem dX3_kind_43 : decode cX3_kind 43 = .ok (.invokestatic 156, 3) := by decide +kernel
theorem dX3_kind_46 : decode cX3_kind 46 = .ok (.iload_n 1, 1) := by decide +kernel
theorem dX3_kind_47 : decode cX3_kind 47 = .ok (.if_icmp .ne 12, 3) := by decide +kernel
theorem dX3_kind_50 : decode cX3_kind 50 = .ok (.iload_n 1, 1) := by decide +kernel
theorem dX3_kind_51 : decode cX3_kind 51 = .ok (.iconst 1, 1) := by decide +kernel
theorem dX3_kind_52 : decode cX3_kind 52 = .ok (.invokestatic 156, 3) := by decide +kernel
theorem dX3_kind_55 : decode cX3_kind 55 = .ok (.iload_n 1, 1) := by decide +kernel
theorem dX3_kind_56 : decode cX3_kind 56 = .ok (.if_icmp .eq 5, 3) := by decide +kernel
theorem dX3_kind_59 : decode cX3_kind 59 = .ok (.iconst 3, 1) := by decide +kernel
theorem dX3_kind_60 : decode cX3_kind 60 = .ok (.ireturn, 1) := by decide +kernel
theorem dX3_kind_61 : decode cX3_kind 61 = .ok (.iload_n 1, 1) := by decide +kernel
theorem dX3_kind_62 : decode cX3_kind 62 = .ok (.bipush 9, 2) := by decide +kernel
theorem dX3_kind_64 : decode cX3_kind 64 = .ok (.bipush 13, 2) := by decide +kernel
theorem dX3_kind_66 : decode cX3_kind 66 = .ok (.invokestatic 44, 3) := by decide +kernel
theorem dX3_kind_69 : decode cX3_kind 69 = .ok (.ifCond .ne 16, 3) := by decide +kernel
theorem dX3_kind_72 : decode cX3_kind 72 = .ok (.iload_n 1, 1) := by decide +kernel
theorem dX3_kind_73 : decode cX3_kind 73 = .ok (.bipush 32, 2) := by decide +kernel
theorem dX3_kind_75 : decode cX3_kind 75 = .ok (.if_icmp .eq 10, 3) := by decide +kernel
theorem dX3_kind_78 : decode cX3_kind 78 = .ok (.iload_n 1, 1) := by decide +kernel
theorem dX3_kind_79 : decode cX3_kind 79 = .ok (.sipush 160, 3) := by decide +kernel
theorem dX3_kind_82 : decode cX3_kind 82 = .ok (.if_icmp .ne 5, 3) := by decide +kernel
theorem dX3_kind_85 : decode cX3_kind 85 = .ok (.iconst 4, 1) := by decide +kernel
theorem dX3_kind_86 : decode cX3_kind 86 = .ok (.ireturn, 1) := by decide +kernel
theorem dX3_kind_87 : decode cX3_kind 87 = .ok (.iload_n 1, 1) := by decide +kernel
theorem dX3_kind_88 : decode cX3_kind 88 = .ok (.ldc 111, 2) := by decide +kernel
theorem dX3_kind_90 : decode cX3_kind 90 = .ok (.if_icmp .le 7, 3) := by decide +kernel
theorem dX3_kind_93 : decode cX3_kind 93 = .ok (.iconst 5, 1) := by decide +kernel
theorem dX3_kind_94 : decode cX3_kind 94 = .ok (.goto 5, 3) := by decide +kernel
theorem dX3_kind_97 : decode cX3_kind 97 = .ok (.bipush 6, 2) := by decide +kernel
theorem dX3_kind_99 : decode cX3_kind 99 = .ok (.ireturn, 1) := by decide +kernel
theorem dJ9_min_7cf53_0 : decode cJ9_min_7cf53 0 = .ok (.iload_n 0, 1) := by decide +kernel
theorem dJ9_min_7cf53_1 : decode cJ9_min_7cf53 1 = .ok (.iload_n 1, 1) := by decide +kernel
theorem dJ9_min_7cf53_2 : decode cJ9_min_7cf53 2 = .ok (.if_icmp .gt 7, 3) := by decide +kernel
theorem dJ9_min_7cf53_5 : decode cJ9_min_7cf53 5 = .ok (.iload_n 0, 1) := by decide +kernel
theorem dJ9_min_7cf53_6 : decode cJ9_min_7cf53 6 = .ok (.goto 4, 3) := by decide +kernel
theorem dJ9_min_7cf53_9 : decode cJ9_min_7cf53 9 = .ok (.iload_n 1, 1) := by decide +kernel
theorem dJ9_min_7cf53_10 : decode cJ9_min_7cf53 10 = .ok (.ireturn, 1) := by decide +kernel
theorem dJ7_copyOf_59c91_0 : decode cJ7_copyOf_59c91 0 = .ok (.iload_n 1, 1) := by decide +kernel
theorem dJ7_copyOf_59c91_1 : decode cJ7_copyOf_59c91 1 = .ok (.aload_n 0, 1) := by decide +kernel
theorem dJ7_copyOf_59c91_2 : decode cJ7_copyOf_59c91 2 = .ok (.arraylength, 1) := by decide +kernel
theorem dJ7_copyOf_59c91_3 : decode cJ7_copyOf_59c91 3 = .ok (.if_icmp .ne 11, 3) := by decide +kernel
theorem dJ7_copyOf_59c91_6 : decode cJ7_copyOf_59c91 6 = .ok (.aload_n 0, 1) := by decide +kernel
theorem dJ7_copyOf_59c91_7 : decode cJ7_copyOf_59c91 7 = .ok (.invokevirtual 316, 3) := by decide +kernel
theorem dJ7_copyOf_59c91_10 : decode cJ7_copyOf_59c91 10 = .ok (.checkcast 317, 3) := by decide +kernel
theorem dJ7_copyOf_59c91_13 : decode cJ7_copyOf_59c91 13 = .ok (.areturn, 1) := by decide +kernel
theorem dJ7_copyOf_59c91_14 : decode cJ7_copyOf_59c91 14 = .ok (.iload_n 1, 1) := by decide +kernel
theorem dJ7_copyOf_59c91_15 : decode cJ7_copyOf_59c91 15 = .ok (.newarray .int, 2) := by decide +kernel
theorem dJ7_copyOf_59c91_17 : decode cJ7_copyOf_59c91 17 = .ok (.astore_n 2, 1) := by decide +kernel
theorem dJ7_copyOf_59c91_18 : decode cJ7_copyOf_59c91 18 = .ok (.aload_n 0, 1) := by decide +kernel
theorem dJ7_copyOf_59c91_19 : decode cJ7_copyOf_59c91 19 = .ok (.iconst 0, 1) := by decide +kernel
theorem dJ7_copyOf_59c91_20 : decode cJ7_copyOf_59c91 20 = .ok (.aload_n 2, 1) := by decide +kernel
theorem dJ7_copyOf_59c91_21 : decode cJ7_copyOf_59c91 21 = .ok (.iconst 0, 1) := by decide +kernel
theorem dJ7_copyOf_59c91_22 : decode cJ7_copyOf_59c91 22 = .ok (.aload_n 0, 1) := by decide +kernel
theorem dJ7_copyOf_59c91_23 : decode cJ7_copyOf_59c91 23 = .ok (.arraylength, 1) := by decide +kernel
theorem dJ7_copyOf_59c91_24 : decode cJ7_copyOf_59c91 24 = .ok (.iload_n 1, 1) := by decide +kernel
theorem dJ7_copyOf_59c91_25 : decode cJ7_copyOf_59c91 25 = .ok (.invokestatic 304, 3) := by decide +kernel
theorem dJ7_copyOf_59c91_28 : decode cJ7_copyOf_59c91 28 = .ok (.invokestatic 150, 3) := by decide +kernel
theorem dJ7_copyOf_59c91_31 : decode cJ7_copyOf_59c91 31 = .ok (.aload_n 2, 1) := by decide +kernel
theorem dJ7_copyOf_59c91_32 : decode cJ7_copyOf_59c91 32 = .ok (.areturn, 1) := by decide +kernel
