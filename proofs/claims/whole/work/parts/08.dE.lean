theorem dX7_adds_4 : decode cX7_adds 4 = .ok (.sipush 370, 3) := by decide +kernel
theorem dX7_adds_7 : decode cX7_adds 7 = .ok (.aload_n 0, 1) := by decide +kernel
theorem dX7_adds_8 : decode cX7_adds 8 = .ok (.getfield 7, 3) := by decide +kernel
theorem dX7_adds_11 : decode cX7_adds 11 = .ok (.sipush 369, 3) := by decide +kernel
theorem dX7_adds_14 : decode cX7_adds 14 = .ok (.iaload, 1) := by decide +kernel
theorem dX7_adds_15 : decode cX7_adds 15 = .ok (.iadd, 1) := by decide +kernel
theorem dX7_adds_16 : decode cX7_adds 16 = .ok (.iload_n 1, 1) := by decide +kernel
theorem dX7_adds_17 : decode cX7_adds 17 = .ok (.iastore, 1) := by decide +kernel
theorem dX7_adds_18 : decode cX7_adds 18 = .ok (.aload_n 0, 1) := by decide +kernel
theorem dX7_adds_19 : decode cX7_adds 19 = .ok (.getfield 7, 3) := by decide +kernel
theorem dX7_adds_22 : decode cX7_adds 22 = .ok (.sipush 369, 3) := by decide +kernel
theorem dX7_adds_25 : decode cX7_adds 25 = .ok (.dup2, 1) := by decide +kernel
theorem dX7_adds_26 : decode cX7_adds 26 = .ok (.iaload, 1) := by decide +kernel
theorem dX7_adds_27 : decode cX7_adds 27 = .ok (.iconst 1, 1) := by decide +kernel
theorem dX7_adds_28 : decode cX7_adds 28 = .ok (.iadd, 1) := by decide +kernel
theorem dX7_adds_29 : decode cX7_adds 29 = .ok (.iastore, 1) := by decide +kernel
theorem dX7_adds_30 : decode cX7_adds 30 = .ok (.aload_n 0, 1) := by decide +kernel
theorem dX7_adds_31 : decode cX7_adds 31 = .ok (.getfield 7, 3) := by decide +kernel
theorem dX7_adds_34 : decode cX7_adds 34 = .ok (.sipush 369, 3) := by decide +kernel
theorem dX7_adds_37 : decode cX7_adds 37 = .ok (.iaload, 1) := by decide +kernel
theorem dX7_adds_38 : decode cX7_adds 38 = .ok (.bipush 8, 2) := by decide +kernel
theorem dX7_adds_40 : decode cX7_adds 40 = .ok (.if_icmp .eq 11, 3) := by decide +kernel
theorem dX7_adds_43 : decode cX7_adds 43 = .ok (.aload_n 0, 1) := by decide +kernel
theorem dX7_adds_44 : decode cX7_adds 44 = .ok (.invokevirtual 71, 3) := by decide +kernel
theorem dX7_adds_47 : decode cX7_adds 47 = .ok (.iconst 3, 1) := by decide +kernel
theorem dX7_adds_48 : decode cX7_adds 48 = .ok (.if_icmp .ne 7, 3) := by decide +kernel
theorem dX7_adds_51 : decode cX7_adds 51 = .ok (.aload_n 0, 1) := by decide +kernel
theorem dX7_adds_52 : decode cX7_adds 52 = .ok (.invokevirtual 74, 3) := by decide +kernel
theorem dX7_adds_55 : decode cX7_adds 55 = .ok (.return_, 1) := by decide +kernel
set_option maxRecDepth 20000 in
theorem ggX7_fetchesOne_X7_isPredictedTaken : GoodIn wsX7_fetchesOne wsX7_isPredictedTaken := goodIn_r _ [8, 9, 10, 11, 7, 12, 13, 14, 15, 16, 17, 18, 19, 20, 21, 22, 23, 24, 25, 26] (by decide +kernel) (by decide +kernel)
set_option maxRecDepth 20000 in
theorem gX7_fetchesOne_X7_isPredictedTaken : GoodIn wsX7_fetchesOne (wsV RX7 47 RX7 yX7_isPredictedTaken wsX7_isPredictedTaken) := goodIn_app (goodIn_of _ (by decide +kernel)) ggX7_fetchesOne_X7_isPredictedTaken
theorem dX7_fetchesOne_0 : decode cX7_fetchesOne 0 = .ok (.aload_n 0, 1) := by decide +kernel
theorem dX7_fetchesOne_1 : decode cX7_fetchesOne 1 = .ok (.getfield 22, 3) := by decide +kernel
theorem dX7_fetchesOne_4 : decode cX7_fetchesOne 4 = .ok (.aload_n 0, 1) := by decide +kernel
theorem dX7_fetchesOne_5 : decode cX7_fetchesOne 5 = .ok (.getfield 77, 3) := by decide +kernel
theorem dX7_fetchesOne_8 : decode cX7_fetchesOne 8 = .ok (.iload_n 1, 1) := by decide +kernel
theorem dX7_fetchesOne_9 : decode cX7_fetchesOne 9 = .ok (.iastore, 1) := by decide +kernel
theorem dX7_fetchesOne_10 : decode cX7_fetchesOne 10 = .ok (.aload_n 0, 1) := by decide +kernel
theorem dX7_fetchesOne_11 : decode cX7_fetchesOne 11 = .ok (.getfield 25, 3) := by decide +kernel
theorem dX7_fetchesOne_14 : decode cX7_fetchesOne 14 = .ok (.aload_n 0, 1) := by decide +kernel
theorem dX7_fetchesOne_15 : decode cX7_fetchesOne 15 = .ok (.getfield 77, 3) := by decide +kernel
theorem dX7_fetchesOne_18 : decode cX7_fetchesOne 18 = .ok (.aload_n 0, 1) := by decide +kernel
theorem dX7_fetchesOne_19 : decode cX7_fetchesOne 19 = .ok (.iload_n 1, 1) := by decide +kernel
theorem dX7_fetchesOne_20 : decode cX7_fetchesOne 20 = .ok (.invokevirtual 47, 3) := by decide +kernel
theorem dX7_fetchesOne_23 : decode cX7_fetchesOne 23 = .ok (.ifCond .eq 7, 3) := by decide +kernel
theorem dX7_fetchesOne_26 : decode cX7_fetchesOne 26 = .ok (.iconst 1, 1) := by decide +kernel
theorem dX7_fetchesOne_27 : decode cX7_fetchesOne 27 = .ok (.goto 4, 3) := by decide +kernel
theorem dX7_fetchesOne_30 : decode cX7_fetchesOne 30 = .ok (.iconst 0, 1) := by decide +kernel
theorem dX7_fetchesOne_31 : decode cX7_fetchesOne 31 = .ok (.iastore, 1) := by decide +kernel
theorem dX7_fetchesOne_32 : decode cX7_fetchesOne 32 = .ok (.aload_n 0, 1) := by decide +kernel
theorem dX7_fetchesOne_33 : decode cX7_fetchesOne 33 = .ok (.dup, 1) := by decide +kernel
theorem dX7_fetchesOne_34 : decode cX7_fetchesOne 34 = .ok (.getfield 77, 3) := by decide +kernel
theorem dX7_fetchesOne_37 : decode cX7_fetchesOne 37 = .ok (.iconst 1, 1) := by decide +kernel
theorem dX7_fetchesOne_38 : decode cX7_fetchesOne 38 = .ok (.iadd, 1) := by decide +kernel
theorem dX7_fetchesOne_39 : decode cX7_fetchesOne 39 = .ok (.putfield 77, 3) := by decide +kernel
theorem dX7_fetchesOne_42 : decode cX7_fetchesOne 42 = .ok (.return_, 1) := by decide +kernel
set_option maxRecDepth 20000 in
theorem ggX7_looks_X7_ofLine : GoodIn wsX7_looks wsX7_ofLine := goodIn_r _ [7] (by decide +kernel) (by decide +kernel)
set_option maxRecDepth 20000 in
theorem gX7_looks_X7_ofLine : GoodIn wsX7_looks (va_wsS RX7 55 yX7_ofLine wsX7_ofLine) := goodIn_app (goodIn_of _ (by decide +kernel)) ggX7_looks_X7_ofLine
set_option maxRecDepth 20000 in
theorem ggX7_looks_X7_usable : GoodIn wsX7_looks wsX7_usable := goodIn_r _ [11, 1, 4, 5, 6, 7, 12, 13, 14, 15, 16, 17, 18, 19, 20, 21, 22, 23, 24, 25, 26, 27, 28, 29, 36, 37, 38, 39, 40, 41, 42, 43, 44, 45, 46, 47, 48, 49] (by decide +kernel) (by decide +kernel)
set_option maxRecDepth 20000 in
theorem gX7_looks_X7_usable : GoodIn wsX7_looks (wsV RX7 80 RX7 yX7_usable wsX7_usable) := goodIn_app (goodIn_of _ (by decide +kernel)) ggX7_looks_X7_usable
set_option maxRecDepth 20000 in
theorem ggX7_looks_X7_fetchesOne : GoodIn wsX7_looks wsX7_fetchesOne := goodIn_r _ [33, 34, 2, 35, 16, 17, 18, 6, 19, 1, 20, 21, 22, 36, 37, 38, 39, 40, 41, 42, 43, 44, 45, 46, 47, 48, 49] (by decide +kernel) (by decide +kernel)
set_option maxRecDepth 20000 in
theorem gX7_looks_X7_fetchesOne : GoodIn wsX7_looks (wsV RX7 86 RX7 yX7_fetchesOne wsX7_fetchesOne) := goodIn_app (goodIn_of _ (by decide +kernel)) ggX7_looks_X7_fetchesOne
set_option maxRecDepth 20000 in
theorem ggX7_looks_X7_of : GoodIn wsX7_looks wsX7_of := goodIn_r _ [22] (by decide +kernel) (by decide +kernel)
set_option maxRecDepth 20000 in
theorem gX7_looks_X7_of : GoodIn wsX7_looks (va_wsS RX7 28 yX7_of wsX7_of) := goodIn_app (goodIn_of _ (by decide +kernel)) ggX7_looks_X7_of
set_option maxRecDepth 20000 in
theorem ggX7_looks_X7_isPredictedTaken : GoodIn wsX7_looks wsX7_isPredictedTaken := goodIn_r _ [19, 1, 20, 21, 6, 22, 36, 37, 38, 39, 40, 41, 42, 43, 44, 45, 46, 47, 48, 49] (by decide +kernel) (by decide +kernel)
set_option maxRecDepth 20000 in
theorem gX7_looks_X7_isPredictedTaken : GoodIn wsX7_looks (wsV RX7 47 RX7 yX7_isPredictedTaken wsX7_isPredictedTaken) := goodIn_app (goodIn_of _ (by decide +kernel)) ggX7_looks_X7_isPredictedTaken
set_option maxRecDepth 20000 in
theorem ggX7_looks_X7_after : GoodIn wsX7_looks wsX7_after := goodIn_r _ [29] (by decide +kernel) (by decide +kernel)
set_option maxRecDepth 20000 in
theorem gX7_looks_X7_after : GoodIn wsX7_looks (va_wsS RX7 43 yX7_after wsX7_after) := goodIn_app (goodIn_of _ (by decide +kernel)) ggX7_looks_X7_after
theorem dX7_looks_0 : decode cX7_looks 0 = .ok (.aload_n 0, 1) := by decide +kernel
theorem dX7_looks_1 : decode cX7_looks 1 = .ok (.getfield 7, 3) := by decide +kernel
theorem dX7_looks_4 : decode cX7_looks 4 = .ok (.sipush 288, 3) := by decide +kernel
theorem dX7_looks_7 : decode cX7_looks 7 = .ok (.iaload, 1) := by decide +kernel
theorem dX7_looks_8 : decode cX7_looks 8 = .ok (.istore_n 1, 1) := by decide +kernel
theorem dX7_looks_9 : decode cX7_looks 9 = .ok (.iconst (-1), 1) := by decide +kernel
theorem dX7_looks_10 : decode cX7_looks 10 = .ok (.istore_n 2, 1) := by decide +kernel
theorem dX7_looks_11 : decode cX7_looks 11 = .ok (.aload_n 0, 1) := by decide +kernel
theorem dX7_looks_12 : decode cX7_looks 12 = .ok (.iconst 0, 1) := by decide +kernel
theorem dX7_looks_13 : decode cX7_looks 13 = .ok (.putfield 77, 3) := by decide +kernel
theorem dX7_looks_16 : decode cX7_looks 16 = .ok (.iconst 1, 1) := by decide +kernel
theorem dX7_looks_17 : decode cX7_looks 17 = .ok (.istore_n 3, 1) := by decide +kernel
theorem dX7_looks_18 : decode cX7_looks 18 = .ok (.iload_n 3, 1) := by decide +kernel
theorem dX7_looks_19 : decode cX7_looks 19 = .ok (.ifCond .lt 85, 3) := by decide +kernel
theorem dX7_looks_22 : decode cX7_looks 22 = .ok (.iconst 2, 1) := by decide +kernel
theorem dX7_looks_23 : decode cX7_looks 23 = .ok (.iload_n 1, 1) := by decide +kernel
theorem dX7_looks_24 : decode cX7_looks 24 = .ok (.iconst 4, 1) := by decide +kernel
theorem dX7_looks_25 : decode cX7_looks 25 = .ok (.irem, 1) := by decide +kernel
theorem dX7_looks_26 : decode cX7_looks 26 = .ok (.imul, 1) := by decide +kernel
theorem dX7_looks_27 : decode cX7_looks 27 = .ok (.iload_n 3, 1) := by decide +kernel
theorem dX7_looks_28 : decode cX7_looks 28 = .ok (.iadd, 1) := by decide +kernel
theorem dX7_looks_29 : decode cX7_looks 29 = .ok (.istore 4, 2) := by decide +kernel
theorem dX7_looks_31 : decode cX7_looks 31 = .ok (.aload_n 0, 1) := by decide +kernel
theorem dX7_looks_32 : decode cX7_looks 32 = .ok (.getfield 7, 3) := by decide +kernel
theorem dX7_looks_35 : decode cX7_looks 35 = .ok (.iload 4, 2) := by decide +kernel
theorem dX7_looks_37 : decode cX7_looks 37 = .ok (.iconst 0, 1) := by decide +kernel
theorem dX7_looks_38 : decode cX7_looks 38 = .ok (.invokestatic 55, 3) := by decide +kernel
theorem dX7_looks_41 : decode cX7_looks 41 = .ok (.iaload, 1) := by decide +kernel
theorem dX7_looks_42 : decode cX7_looks 42 = .ok (.ifCond .le 22, 3) := by decide +kernel
theorem dX7_looks_45 : decode cX7_looks 45 = .ok (.aload_n 0, 1) := by decide +kernel
theorem dX7_looks_46 : decode cX7_looks 46 = .ok (.getfield 7, 3) := by decide +kernel
theorem dX7_looks_49 : decode cX7_looks 49 = .ok (.iload 4, 2) := by decide +kernel
theorem dX7_looks_51 : decode cX7_looks 51 = .ok (.iconst 2, 1) := by decide +kernel
theorem dX7_looks_52 : decode cX7_looks 52 = .ok (.invokestatic 55, 3) := by decide +kernel
theorem dX7_looks_55 : decode cX7_looks 55 = .ok (.iaload, 1) := by decide +kernel
theorem dX7_looks_56 : decode cX7_looks 56 = .ok (.iload_n 1, 1) := by decide +kernel
theorem dX7_looks_57 : decode cX7_looks 57 = .ok (.if_icmp .ne 7, 3) := by decide +kernel
theorem dX7_looks_60 : decode cX7_looks 60 = .ok (.iconst 1, 1) := by decide +kernel
theorem dX7_looks_61 : decode cX7_looks 61 = .ok (.goto 4, 3) := by decide +kernel
theorem dX7_looks_64 : decode cX7_looks 64 = .ok (.iconst 0, 1) := by decide +kernel
theorem dX7_looks_65 : decode cX7_looks 65 = .ok (.istore 5, 2) := by decide +kernel
theorem dX7_looks_67 : decode cX7_looks 67 = .ok (.iload 5, 2) := by decide +kernel
theorem dX7_looks_69 : decode cX7_looks 69 = .ok (.ifCond .eq 27, 3) := by decide +kernel
theorem dX7_looks_72 : decode cX7_looks 72 = .ok (.iload_n 2, 1) := by decide +kernel
theorem dX7_looks_73 : decode cX7_looks 73 = .ok (.iconst (-1), 1) := by decide +kernel
theorem dX7_looks_74 : decode cX7_looks 74 = .ok (.if_icmp .eq 17, 3) := by decide +kernel
theorem dX7_looks_77 : decode cX7_looks 77 = .ok (.aload_n 0, 1) := by decide +kernel
theorem dX7_looks_78 : decode cX7_looks 78 = .ok (.iload 4, 2) := by decide +kernel
theorem dX7_looks_80 : decode cX7_looks 80 = .ok (.invokevirtual 80, 3) := by decide +kernel
theorem dX7_looks_83 : decode cX7_looks 83 = .ok (.aload_n 0, 1) := by decide +kernel
theorem dX7_looks_84 : decode cX7_looks 84 = .ok (.iload_n 2, 1) := by decide +kernel
theorem dX7_looks_85 : decode cX7_looks 85 = .ok (.invokevirtual 80, 3) := by decide +kernel
theorem dX7_looks_88 : decode cX7_looks 88 = .ok (.if_icmp .lt 8, 3) := by decide +kernel
theorem dX7_looks_91 : decode cX7_looks 91 = .ok (.iload 4, 2) := by decide +kernel
theorem dX7_looks_93 : decode cX7_looks 93 = .ok (.goto 4, 3) := by decide +kernel
theorem dX7_looks_96 : decode cX7_looks 96 = .ok (.iload_n 2, 1) := by decide +kernel
theorem dX7_looks_97 : decode cX7_looks 97 = .ok (.istore_n 2, 1) := by decide +kernel
theorem dX7_looks_98 : decode cX7_looks 98 = .ok (.iinc 3 (-1), 3) := by decide +kernel
theorem dX7_looks_101 : decode cX7_looks 101 = .ok (.goto (-83), 3) := by decide +kernel
theorem dX7_looks_104 : decode cX7_looks 104 = .ok (.aload_n 0, 1) := by decide +kernel
theorem dX7_looks_105 : decode cX7_looks 105 = .ok (.iload_n 2, 1) := by decide +kernel
theorem dX7_looks_106 : decode cX7_looks 106 = .ok (.iconst (-1), 1) := by decide +kernel
theorem dX7_looks_107 : decode cX7_looks 107 = .ok (.if_icmp .ne 7, 3) := by decide +kernel
theorem dX7_looks_110 : decode cX7_looks 110 = .ok (.iconst (-1), 1) := by decide +kernel
theorem dX7_looks_111 : decode cX7_looks 111 = .ok (.goto 6, 3) := by decide +kernel
theorem dX7_looks_114 : decode cX7_looks 114 = .ok (.iload_n 2, 1) := by decide +kernel
theorem dX7_looks_115 : decode cX7_looks 115 = .ok (.iconst 2, 1) := by decide +kernel
theorem dX7_looks_116 : decode cX7_looks 116 = .ok (.irem, 1) := by decide +kernel
theorem dX7_looks_117 : decode cX7_looks 117 = .ok (.putfield 83, 3) := by decide +kernel
theorem dX7_looks_120 : decode cX7_looks 120 = .ok (.iload_n 2, 1) := by decide +kernel
theorem dX7_looks_121 : decode cX7_looks 121 = .ok (.iconst (-1), 1) := by decide +kernel
theorem dX7_looks_122 : decode cX7_looks 122 = .ok (.if_icmp .eq 42, 3) := by decide +kernel
theorem dX7_looks_125 : decode cX7_looks 125 = .ok (.aload_n 0, 1) := by decide +kernel
theorem dX7_looks_126 : decode cX7_looks 126 = .ok (.iload_n 2, 1) := by decide +kernel
theorem dX7_looks_127 : decode cX7_looks 127 = .ok (.invokevirtual 80, 3) := by decide +kernel
theorem dX7_looks_130 : decode cX7_looks 130 = .ok (.istore_n 3, 1) := by decide +kernel
theorem dX7_looks_131 : decode cX7_looks 131 = .ok (.iconst 0, 1) := by decide +kernel
theorem dX7_looks_132 : decode cX7_looks 132 = .ok (.istore 4, 2) := by decide +kernel
theorem dX7_looks_134 : decode cX7_looks 134 = .ok (.iload 4, 2) := by decide +kernel
theorem dX7_looks_136 : decode cX7_looks 136 = .ok (.iload_n 3, 1) := by decide +kernel
theorem dX7_looks_137 : decode cX7_looks 137 = .ok (.if_icmp .ge 26, 3) := by decide +kernel
theorem dX7_looks_140 : decode cX7_looks 140 = .ok (.aload_n 0, 1) := by decide +kernel
theorem dX7_looks_141 : decode cX7_looks 141 = .ok (.aload_n 0, 1) := by decide +kernel
theorem dX7_looks_142 : decode cX7_looks 142 = .ok (.getfield 7, 3) := by decide +kernel
theorem dX7_looks_145 : decode cX7_looks 145 = .ok (.iload_n 2, 1) := by decide +kernel
theorem dX7_looks_146 : decode cX7_looks 146 = .ok (.iconst 2, 1) := by decide +kernel
theorem dX7_looks_147 : decode cX7_looks 147 = .ok (.iload 4, 2) := by decide +kernel
theorem dX7_looks_149 : decode cX7_looks 149 = .ok (.iadd, 1) := by decide +kernel
theorem dX7_looks_150 : decode cX7_looks 150 = .ok (.invokestatic 55, 3) := by decide +kernel
theorem dX7_looks_153 : decode cX7_looks 153 = .ok (.iaload, 1) := by decide +kernel
theorem dX7_looks_154 : decode cX7_looks 154 = .ok (.invokevirtual 86, 3) := by decide +kernel
theorem dX7_looks_157 : decode cX7_looks 157 = .ok (.iinc 4 1, 3) := by decide +kernel
theorem dX7_looks_160 : decode cX7_looks 160 = .ok (.goto (-26), 3) := by decide +kernel
theorem dX7_looks_163 : decode cX7_looks 163 = .ok (.return_, 1) := by decide +kernel
theorem dX7_looks_164 : decode cX7_looks 164 = .ok (.iload_n 1, 1) := by decide +kernel
theorem dX7_looks_165 : decode cX7_looks 165 = .ok (.istore_n 3, 1) := by decide +kernel
theorem dX7_looks_166 : decode cX7_looks 166 = .ok (.iconst 1, 1) := by decide +kernel
theorem dX7_looks_167 : decode cX7_looks 167 = .ok (.istore 4, 2) := by decide +kernel
theorem dX7_looks_169 : decode cX7_looks 169 = .ok (.iload 4, 2) := by decide +kernel
theorem dX7_looks_171 : decode cX7_looks 171 = .ok (.ifCond .eq 53, 3) := by decide +kernel
theorem dX7_looks_174 : decode cX7_looks 174 = .ok (.aload_n 0, 1) := by decide +kernel
theorem dX7_looks_175 : decode cX7_looks 175 = .ok (.iload_n 3, 1) := by decide +kernel
theorem dX7_looks_176 : decode cX7_looks 176 = .ok (.invokevirtual 86, 3) := by decide +kernel
theorem dX7_looks_179 : decode cX7_looks 179 = .ok (.aload_n 0, 1) := by decide +kernel
theorem dX7_looks_180 : decode cX7_looks 180 = .ok (.getfield 77, 3) := by decide +kernel
theorem dX7_looks_183 : decode cX7_looks 183 = .ok (.iconst 4, 1) := by decide +kernel
theorem dX7_looks_184 : decode cX7_looks 184 = .ok (.if_icmp .ge 29, 3) := by decide +kernel
theorem dX7_looks_187 : decode cX7_looks 187 = .ok (.aload_n 0, 1) := by decide +kernel
theorem dX7_looks_188 : decode cX7_looks 188 = .ok (.getfield 7, 3) := by decide +kernel
theorem dX7_looks_191 : decode cX7_looks 191 = .ok (.iload_n 3, 1) := by decide +kernel
theorem dX7_looks_192 : decode cX7_looks 192 = .ok (.iconst 0, 1) := by decide +kernel
theorem dX7_looks_193 : decode cX7_looks 193 = .ok (.invokestatic 28, 3) := by decide +kernel
theorem dX7_looks_196 : decode cX7_looks 196 = .ok (.iaload, 1) := by decide +kernel
theorem dX7_looks_197 : decode cX7_looks 197 = .ok (.iconst 1, 1) := by decide +kernel
theorem dX7_looks_198 : decode cX7_looks 198 = .ok (.if_icmp .eq 15, 3) := by decide +kernel
theorem dX7_looks_201 : decode cX7_looks 201 = .ok (.aload_n 0, 1) := by decide +kernel
theorem dX7_looks_202 : decode cX7_looks 202 = .ok (.iload_n 3, 1) := by decide +kernel
theorem dX7_looks_203 : decode cX7_looks 203 = .ok (.invokevirtual 47, 3) := by decide +kernel
theorem dX7_looks_206 : decode cX7_looks 206 = .ok (.ifCond .ne 7, 3) := by decide +kernel
theorem dX7_looks_209 : decode cX7_looks 209 = .ok (.iconst 1, 1) := by decide +kernel
theorem dX7_looks_210 : decode cX7_looks 210 = .ok (.goto 4, 3) := by decide +kernel
theorem dX7_looks_213 : decode cX7_looks 213 = .ok (.iconst 0, 1) := by decide +kernel
theorem dX7_looks_214 : decode cX7_looks 214 = .ok (.istore 4, 2) := by decide +kernel
theorem dX7_looks_216 : decode cX7_looks 216 = .ok (.iload_n 3, 1) := by decide +kernel
theorem dX7_looks_217 : decode cX7_looks 217 = .ok (.invokestatic 43, 3) := by decide +kernel
theorem dX7_looks_220 : decode cX7_looks 220 = .ok (.istore_n 3, 1) := by decide +kernel
theorem dX7_looks_221 : decode cX7_looks 221 = .ok (.goto (-52), 3) := by decide +kernel
theorem dX7_looks_224 : decode cX7_looks 224 = .ok (.return_, 1) := by decide +kernel
set_option maxRecDepth 20000 in
theorem ggX7_executes_X7_isTakenNow : GoodIn wsX7_executes wsX7_isTakenNow := goodIn_r _ [7, 1, 8, 9, 6, 10, 45, 46, 47, 48, 49, 50, 51, 52, 53, 54, 55, 56, 57, 58] (by decide +kernel) (by decide +kernel)
set_option maxRecDepth 20000 in
theorem gX7_executes_X7_isTakenNow : GoodIn wsX7_executes (wsV RX7 90 RX7 yX7_isTakenNow wsX7_isTakenNow) := goodIn_app (goodIn_of _ (by decide +kernel)) ggX7_executes_X7_isTakenNow
set_option maxRecDepth 20000 in
theorem ggX7_executes_X7_successor : GoodIn wsX7_executes wsX7_successor := goodIn_r _ [14, 1, 8, 9, 6, 10, 15, 16, 17, 45, 46, 47, 48, 49, 50, 51, 52, 53, 54, 55, 56, 57, 58] (by decide +kernel) (by decide +kernel)
set_option maxRecDepth 20000 in
theorem gX7_executes_X7_successor : GoodIn wsX7_executes (wsV RX7 51 RX7 yX7_successor wsX7_successor) := goodIn_app (goodIn_of _ (by decide +kernel)) ggX7_executes_X7_successor
set_option maxRecDepth 20000 in
theorem ggX7_executes_X7_of : GoodIn wsX7_executes wsX7_of := goodIn_r _ [10] (by decide +kernel) (by decide +kernel)
set_option maxRecDepth 20000 in
theorem gX7_executes_X7_of : GoodIn wsX7_executes (va_wsS RX7 28 yX7_of wsX7_of) := goodIn_app (goodIn_of _ (by decide +kernel)) ggX7_executes_X7_of
set_option maxRecDepth 20000 in
theorem ggX7_executes_X7_adds : GoodIn wsX7_executes wsX7_adds := goodIn_r _ [21, 1, 22, 23, 24, 6, 25, 8, 9, 10, 26, 27, 28, 29, 30, 31, 32, 33, 34, 35, 36, 37, 38, 39, 40, 41, 42, 43, 44, 45, 46, 47, 48, 49, 50, 51, 52, 53, 54, 55, 56, 57, 58] (by decide +kernel) (by decide +kernel)
set_option maxRecDepth 20000 in
theorem gX7_executes_X7_adds : GoodIn wsX7_executes (wsV RX7 93 RX7 yX7_adds wsX7_adds) := goodIn_app (goodIn_of _ (by decide +kernel)) ggX7_executes_X7_adds
theorem dX7_executes_0 : decode cX7_executes 0 = .ok (.aload_n 0, 1) := by decide +kernel
theorem dX7_executes_1 : decode cX7_executes 1 = .ok (.iload_n 1, 1) := by decide +kernel
theorem dX7_executes_2 : decode cX7_executes 2 = .ok (.invokevirtual 90, 3) := by decide +kernel
theorem dX7_executes_5 : decode cX7_executes 5 = .ok (.istore_n 3, 1) := by decide +kernel
theorem dX7_executes_6 : decode cX7_executes 6 = .ok (.aload_n 0, 1) := by decide +kernel
theorem dX7_executes_7 : decode cX7_executes 7 = .ok (.iload_n 1, 1) := by decide +kernel
theorem dX7_executes_8 : decode cX7_executes 8 = .ok (.iload_n 3, 1) := by decide +kernel
theorem dX7_executes_9 : decode cX7_executes 9 = .ok (.invokevirtual 51, 3) := by decide +kernel
theorem dX7_executes_12 : decode cX7_executes 12 = .ok (.istore 4, 2) := by decide +kernel
theorem dX7_executes_14 : decode cX7_executes 14 = .ok (.aload_n 0, 1) := by decide +kernel
theorem dX7_executes_15 : decode cX7_executes 15 = .ok (.getfield 7, 3) := by decide +kernel
theorem dX7_executes_18 : decode cX7_executes 18 = .ok (.iload_n 1, 1) := by decide +kernel
theorem dX7_executes_19 : decode cX7_executes 19 = .ok (.iconst 0, 1) := by decide +kernel
theorem dX7_executes_20 : decode cX7_executes 20 = .ok (.invokestatic 28, 3) := by decide +kernel
theorem dX7_executes_23 : decode cX7_executes 23 = .ok (.iaload, 1) := by decide +kernel
theorem dX7_executes_24 : decode cX7_executes 24 = .ok (.iconst 2, 1) := by decide +kernel
theorem dX7_executes_25 : decode cX7_executes 25 = .ok (.if_icmp .ne 133, 3) := by decide +kernel
theorem dX7_executes_28 : decode cX7_executes 28 = .ok (.aload_n 0, 1) := by decide +kernel
theorem dX7_executes_29 : decode cX7_executes 29 = .ok (.getfield 7, 3) := by decide +kernel
theorem dX7_executes_32 : decode cX7_executes 32 = .ok (.iload_n 1, 1) := by decide +kernel
theorem dX7_executes_33 : decode cX7_executes 33 = .ok (.iconst 5, 1) := by decide +kernel
theorem dX7_executes_34 : decode cX7_executes 34 = .ok (.invokestatic 28, 3) := by decide +kernel
theorem dX7_executes_37 : decode cX7_executes 37 = .ok (.iaload, 1) := by decide +kernel
theorem dX7_executes_38 : decode cX7_executes 38 = .ok (.iload_n 3, 1) := by decide +kernel
theorem dX7_executes_39 : decode cX7_executes 39 = .ok (.ifCond .eq 7, 3) := by decide +kernel
theorem dX7_executes_42 : decode cX7_executes 42 = .ok (.iconst 1, 1) := by decide +kernel
theorem dX7_executes_43 : decode cX7_executes 43 = .ok (.goto 4, 3) := by decide +kernel
theorem dX7_executes_46 : decode cX7_executes 46 = .ok (.iconst (-1), 1) := by decide +kernel
theorem dX7_executes_47 : decode cX7_executes 47 = .ok (.iadd, 1) := by decide +kernel
theorem dX7_executes_48 : decode cX7_executes 48 = .ok (.istore 5, 2) := by decide +kernel
theorem dX7_executes_50 : decode cX7_executes 50 = .ok (.iload_n 3, 1) := by decide +kernel
theorem dX7_executes_51 : decode cX7_executes 51 = .ok (.iload_n 2, 1) := by decide +kernel
theorem dX7_executes_52 : decode cX7_executes 52 = .ok (.iconst 1, 1) := by decide +kernel
theorem dX7_executes_53 : decode cX7_executes 53 = .ok (.if_icmp .ne 7, 3) := by decide +kernel
theorem dX7_executes_56 : decode cX7_executes 56 = .ok (.iconst 1, 1) := by decide +kernel
theorem dX7_executes_57 : decode cX7_executes 57 = .ok (.goto 4, 3) := by decide +kernel
theorem dX7_executes_60 : decode cX7_executes 60 = .ok (.iconst 0, 1) := by decide +kernel
theorem dX7_executes_61 : decode cX7_executes 61 = .ok (.if_icmp .eq 7, 3) := by decide +kernel
theorem dX7_executes_64 : decode cX7_executes 64 = .ok (.iconst 1, 1) := by decide +kernel
theorem dX7_executes_65 : decode cX7_executes 65 = .ok (.goto 4, 3) := by decide +kernel
theorem dX7_executes_68 : decode cX7_executes 68 = .ok (.iconst 0, 1) := by decide +kernel
theorem dX7_executes_69 : decode cX7_executes 69 = .ok (.istore 6, 2) := by decide +kernel
theorem dX7_executes_71 : decode cX7_executes 71 = .ok (.aload_n 0, 1) := by decide +kernel
theorem dX7_executes_72 : decode cX7_executes 72 = .ok (.getfield 7, 3) := by decide +kernel
theorem dX7_executes_75 : decode cX7_executes 75 = .ok (.iload_n 1, 1) := by decide +kernel
theorem dX7_executes_76 : decode cX7_executes 76 = .ok (.iconst 5, 1) := by decide +kernel
theorem dX7_executes_77 : decode cX7_executes 77 = .ok (.invokestatic 28, 3) := by decide +kernel
theorem dX7_executes_80 : decode cX7_executes 80 = .ok (.iload 5, 2) := by decide +kernel
theorem dX7_executes_82 : decode cX7_executes 82 = .ok (.ifCond .ge 7, 3) := by decide +kernel
theorem dX7_executes_85 : decode cX7_executes 85 = .ok (.iconst 0, 1) := by decide +kernel
theorem dX7_executes_86 : decode cX7_executes 86 = .ok (.goto 15, 3) := by decide +kernel
theorem dX7_executes_89 : decode cX7_executes 89 = .ok (.iload 5, 2) := by decide +kernel
theorem dX7_executes_91 : decode cX7_executes 91 = .ok (.iconst 3, 1) := by decide +kernel
theorem dX7_executes_92 : decode cX7_executes 92 = .ok (.if_icmp .le 7, 3) := by decide +kernel
theorem dX7_executes_95 : decode cX7_executes 95 = .ok (.iconst 3, 1) := by decide +kernel
theorem dX7_executes_96 : decode cX7_executes 96 = .ok (.goto 5, 3) := by decide +kernel
theorem dX7_executes_99 : decode cX7_executes 99 = .ok (.iload 5, 2) := by decide +kernel
theorem dX7_executes_101 : decode cX7_executes 101 = .ok (.iastore, 1) := by decide +kernel
theorem dX7_executes_102 : decode cX7_executes 102 = .ok (.aload_n 0, 1) := by decide +kernel
theorem dX7_executes_103 : decode cX7_executes 103 = .ok (.getfield 7, 3) := by decide +kernel
theorem dX7_executes_106 : decode cX7_executes 106 = .ok (.iload_n 1, 1) := by decide +kernel
theorem dX7_executes_107 : decode cX7_executes 107 = .ok (.iconst 4, 1) := by decide +kernel
theorem dX7_executes_108 : decode cX7_executes 108 = .ok (.invokestatic 28, 3) := by decide +kernel
theorem dX7_executes_111 : decode cX7_executes 111 = .ok (.dup2, 1) := by decide +kernel
theorem dX7_executes_112 : decode cX7_executes 112 = .ok (.iaload, 1) := by decide +kernel
theorem dX7_executes_113 : decode cX7_executes 113 = .ok (.iconst 1, 1) := by decide +kernel
theorem dX7_executes_114 : decode cX7_executes 114 = .ok (.iadd, 1) := by decide +kernel
theorem dX7_executes_115 : decode cX7_executes 115 = .ok (.iastore, 1) := by decide +kernel
theorem dX7_executes_116 : decode cX7_executes 116 = .ok (.aload_n 0, 1) := by decide +kernel
theorem dX7_executes_117 : decode cX7_executes 117 = .ok (.getfield 7, 3) := by decide +kernel
theorem dX7_executes_120 : decode cX7_executes 120 = .ok (.sipush 383, 3) := by decide +kernel
theorem dX7_executes_123 : decode cX7_executes 123 = .ok (.dup2, 1) := by decide +kernel
theorem dX7_executes_124 : decode cX7_executes 124 = .ok (.iaload, 1) := by decide +kernel
theorem dX7_executes_125 : decode cX7_executes 125 = .ok (.iload 6, 2) := by decide +kernel
theorem dX7_executes_127 : decode cX7_executes 127 = .ok (.ifCond .eq 7, 3) := by decide +kernel
theorem dX7_executes_130 : decode cX7_executes 130 = .ok (.iconst 1, 1) := by decide +kernel
theorem dX7_executes_131 : decode cX7_executes 131 = .ok (.goto 4, 3) := by decide +kernel
theorem dX7_executes_134 : decode cX7_executes 134 = .ok (.iconst 0, 1) := by decide +kernel
theorem dX7_executes_135 : decode cX7_executes 135 = .ok (.iadd, 1) := by decide +kernel
theorem dX7_executes_136 : decode cX7_executes 136 = .ok (.iastore, 1) := by decide +kernel
theorem dX7_executes_137 : decode cX7_executes 137 = .ok (.aload_n 0, 1) := by decide +kernel
theorem dX7_executes_138 : decode cX7_executes 138 = .ok (.getfield 7, 3) := by decide +kernel
theorem dX7_executes_141 : decode cX7_executes 141 = .ok (.sipush 379, 3) := by decide +kernel
theorem dX7_executes_144 : decode cX7_executes 144 = .ok (.dup2, 1) := by decide +kernel
theorem dX7_executes_145 : decode cX7_executes 145 = .ok (.iaload, 1) := by decide +kernel
theorem dX7_executes_146 : decode cX7_executes 146 = .ok (.iload 6, 2) := by decide +kernel
theorem dX7_executes_148 : decode cX7_executes 148 = .ok (.ifCond .eq 7, 3) := by decide +kernel
theorem dX7_executes_151 : decode cX7_executes 151 = .ok (.iconst 3, 1) := by decide +kernel
theorem dX7_executes_152 : decode cX7_executes 152 = .ok (.goto 4, 3) := by decide +kernel
theorem dX7_executes_155 : decode cX7_executes 155 = .ok (.iconst 0, 1) := by decide +kernel
theorem dX7_executes_156 : decode cX7_executes 156 = .ok (.iadd, 1) := by decide +kernel
theorem dX7_executes_157 : decode cX7_executes 157 = .ok (.iastore, 1) := by decide +kernel
theorem dX7_executes_158 : decode cX7_executes 158 = .ok (.aload_n 0, 1) := by decide +kernel
theorem dX7_executes_159 : decode cX7_executes 159 = .ok (.iload_n 1, 1) := by decide +kernel
theorem dX7_executes_160 : decode cX7_executes 160 = .ok (.invokevirtual 93, 3) := by decide +kernel
theorem dX7_executes_163 : decode cX7_executes 163 = .ok (.aload_n 0, 1) := by decide +kernel
theorem dX7_executes_164 : decode cX7_executes 164 = .ok (.getfield 7, 3) := by decide +kernel
theorem dX7_executes_167 : decode cX7_executes 167 = .ok (.sipush 288, 3) := by decide +kernel
theorem dX7_executes_170 : decode cX7_executes 170 = .ok (.iload 4, 2) := by decide +kernel
theorem dX7_executes_172 : decode cX7_executes 172 = .ok (.iastore, 1) := by decide +kernel
theorem dX7_executes_173 : decode cX7_executes 173 = .ok (.aload_n 0, 1) := by decide +kernel
theorem dX7_executes_174 : decode cX7_executes 174 = .ok (.getfield 7, 3) := by decide +kernel
theorem dX7_executes_177 : decode cX7_executes 177 = .ok (.sipush 381, 3) := by decide +kernel
theorem dX7_executes_180 : decode cX7_executes 180 = .ok (.dup2, 1) := by decide +kernel
theorem dX7_executes_181 : decode cX7_executes 181 = .ok (.iaload, 1) := by decide +kernel
theorem dX7_executes_182 : decode cX7_executes 182 = .ok (.iconst 1, 1) := by decide +kernel
theorem dX7_executes_183 : decode cX7_executes 183 = .ok (.iadd, 1) := by decide +kernel
theorem dX7_executes_184 : decode cX7_executes 184 = .ok (.iastore, 1) := by decide +kernel
theorem dX7_executes_185 : decode cX7_executes 185 = .ok (.aload_n 0, 1) := by decide +kernel
theorem dX7_executes_186 : decode cX7_executes 186 = .ok (.getfield 7, 3) := by decide +kernel
theorem dX7_executes_189 : decode cX7_executes 189 = .ok (.sipush 384, 3) := by decide +kernel
theorem dX7_executes_192 : decode cX7_executes 192 = .ok (.dup2, 1) := by decide +kernel
theorem dX7_executes_193 : decode cX7_executes 193 = .ok (.iaload, 1) := by decide +kernel
theorem dX7_executes_194 : decode cX7_executes 194 = .ok (.aload_n 0, 1) := by decide +kernel
theorem dX7_executes_195 : decode cX7_executes 195 = .ok (.getfield 83, 3) := by decide +kernel
theorem dX7_executes_198 : decode cX7_executes 198 = .ok (.iconst (-1), 1) := by decide +kernel
theorem dX7_executes_199 : decode cX7_executes 199 = .ok (.if_icmp .ne 7, 3) := by decide +kernel
theorem dX7_executes_202 : decode cX7_executes 202 = .ok (.iconst 0, 1) := by decide +kernel
theorem dX7_executes_203 : decode cX7_executes 203 = .ok (.goto 4, 3) := by decide +kernel
theorem dX7_executes_206 : decode cX7_executes 206 = .ok (.iconst 1, 1) := by decide +kernel
theorem dX7_executes_207 : decode cX7_executes 207 = .ok (.iadd, 1) := by decide +kernel
theorem dX7_executes_208 : decode cX7_executes 208 = .ok (.iastore, 1) := by decide +kernel
theorem dX7_executes_209 : decode cX7_executes 209 = .ok (.return_, 1) := by decide +kernel
set_option maxRecDepth 20000 in
theorem ggX7_fetches_X7_looks : GoodIn wsX7_fetches wsX7_looks := goodIn_r _ [10, 1, 3, 2, 11, 12, 9, 13, 14, 15, 16, 17, 18, 19, 20, 21, 22, 23, 24, 25, 26, 27, 28, 29, 30, 31, 32, 33, 34, 35, 36, 37, 38, 39, 4, 5, 72, 73, 74, 75, 76, 77, 78, 79, 80, 81, 82, 83, 84, 85] (by decide +kernel) (by decide +kernel)
set_option maxRecDepth 20000 in
theorem gX7_fetches_X7_looks : GoodIn wsX7_fetches (wsV RX7 96 RX7 yX7_looks wsX7_looks) := goodIn_app (goodIn_of _ (by decide +kernel)) ggX7_fetches_X7_looks
set_option maxRecDepth 20000 in
theorem ggX7_fetches_X7_ofLine : GoodIn wsX7_fetches wsX7_ofLine := goodIn_r _ [13] (by decide +kernel) (by decide +kernel)
set_option maxRecDepth 20000 in
theorem gX7_fetches_X7_ofLine : GoodIn wsX7_fetches (va_wsS RX7 55 yX7_ofLine wsX7_ofLine) := goodIn_app (goodIn_of _ (by decide +kernel)) ggX7_fetches_X7_ofLine
set_option maxRecDepth 20000 in
theorem ggX7_fetches_X7_nextUse : GoodIn wsX7_fetches wsX7_nextUse := goodIn_r _ [43, 1, 72, 73, 74, 75, 76, 77, 78, 79, 80, 81, 82, 83, 84, 85] (by decide +kernel) (by decide +kernel)
set_option maxRecDepth 20000 in
theorem gX7_fetches_X7_nextUse : GoodIn wsX7_fetches (wsV RX7 67 RX7 yX7_nextUse wsX7_nextUse) := goodIn_app (goodIn_of _ (by decide +kernel)) ggX7_fetches_X7_nextUse
set_option maxRecDepth 20000 in
theorem ggX7_fetches_X7_executes : GoodIn wsX7_fetches wsX7_executes := goodIn_r _ [47, 1, 2, 48, 49, 50, 9, 51, 26, 27, 28, 29, 30, 31, 32, 33, 34, 35, 52, 53, 54, 55, 56, 57, 58, 59, 60, 61, 62, 63, 64, 65, 66, 67, 11, 12, 13, 68, 69, 70, 71, 40, 41, 42, 43, 72, 73, 74, 75, 76, 77, 78, 79, 80, 81, 82, 83, 84, 85] (by decide +kernel) (by decide +kernel)
set_option maxRecDepth 20000 in
theorem gX7_fetches_X7_executes : GoodIn wsX7_fetches (wsV RX7 99 RX7 yX7_executes wsX7_executes) := goodIn_app (goodIn_of _ (by decide +kernel)) ggX7_fetches_X7_executes
theorem dX7_fetches_0 : decode cX7_fetches 0 = .ok (.aload_n 0, 1) := by decide +kernel
theorem dX7_fetches_1 : decode cX7_fetches 1 = .ok (.invokevirtual 96, 3) := by decide +kernel
theorem dX7_fetches_4 : decode cX7_fetches 4 = .ok (.aload_n 0, 1) := by decide +kernel
theorem dX7_fetches_5 : decode cX7_fetches 5 = .ok (.getfield 7, 3) := by decide +kernel
theorem dX7_fetches_8 : decode cX7_fetches 8 = .ok (.sipush 380, 3) := by decide +kernel
theorem dX7_fetches_11 : decode cX7_fetches 11 = .ok (.dup2, 1) := by decide +kernel
theorem dX7_fetches_12 : decode cX7_fetches 12 = .ok (.iaload, 1) := by decide +kernel
theorem dX7_fetches_13 : decode cX7_fetches 13 = .ok (.iconst 1, 1) := by decide +kernel
theorem dX7_fetches_14 : decode cX7_fetches 14 = .ok (.iadd, 1) := by decide +kernel
theorem dX7_fetches_15 : decode cX7_fetches 15 = .ok (.iastore, 1) := by decide +kernel
theorem dX7_fetches_16 : decode cX7_fetches 16 = .ok (.aload_n 0, 1) := by decide +kernel
theorem dX7_fetches_17 : decode cX7_fetches 17 = .ok (.getfield 7, 3) := by decide +kernel
theorem dX7_fetches_20 : decode cX7_fetches 20 = .ok (.sipush 379, 3) := by decide +kernel
theorem dX7_fetches_23 : decode cX7_fetches 23 = .ok (.dup2, 1) := by decide +kernel
theorem dX7_fetches_24 : decode cX7_fetches 24 = .ok (.iaload, 1) := by decide +kernel
theorem dX7_fetches_25 : decode cX7_fetches 25 = .ok (.iconst 1, 1) := by decide +kernel
theorem dX7_fetches_26 : decode cX7_fetches 26 = .ok (.iadd, 1) := by decide +kernel
theorem dX7_fetches_27 : decode cX7_fetches 27 = .ok (.iastore, 1) := by decide +kernel
theorem dX7_fetches_28 : decode cX7_fetches 28 = .ok (.aload_n 0, 1) := by decide +kernel
theorem dX7_fetches_29 : decode cX7_fetches 29 = .ok (.getfield 83, 3) := by decide +kernel
theorem dX7_fetches_32 : decode cX7_fetches 32 = .ok (.iconst (-1), 1) := by decide +kernel
theorem dX7_fetches_33 : decode cX7_fetches 33 = .ok (.if_icmp .eq 45, 3) := by decide +kernel
theorem dX7_fetches_36 : decode cX7_fetches 36 = .ok (.aload_n 0, 1) := by decide +kernel
theorem dX7_fetches_37 : decode cX7_fetches 37 = .ok (.getfield 7, 3) := by decide +kernel
theorem dX7_fetches_40 : decode cX7_fetches 40 = .ok (.sipush 385, 3) := by decide +kernel
theorem dX7_fetches_43 : decode cX7_fetches 43 = .ok (.dup2, 1) := by decide +kernel
theorem dX7_fetches_44 : decode cX7_fetches 44 = .ok (.iaload, 1) := by decide +kernel
theorem dX7_fetches_45 : decode cX7_fetches 45 = .ok (.iconst 1, 1) := by decide +kernel
theorem dX7_fetches_46 : decode cX7_fetches 46 = .ok (.iadd, 1) := by decide +kernel
theorem dX7_fetches_47 : decode cX7_fetches 47 = .ok (.iastore, 1) := by decide +kernel
theorem dX7_fetches_48 : decode cX7_fetches 48 = .ok (.aload_n 0, 1) := by decide +kernel
theorem dX7_fetches_49 : decode cX7_fetches 49 = .ok (.getfield 7, 3) := by decide +kernel
theorem dX7_fetches_52 : decode cX7_fetches 52 = .ok (.iconst 2, 1) := by decide +kernel
theorem dX7_fetches_53 : decode cX7_fetches 53 = .ok (.aload_n 0, 1) := by decide +kernel
theorem dX7_fetches_54 : decode cX7_fetches 54 = .ok (.getfield 7, 3) := by decide +kernel
theorem dX7_fetches_57 : decode cX7_fetches 57 = .ok (.sipush 288, 3) := by decide +kernel
theorem dX7_fetches_60 : decode cX7_fetches 60 = .ok (.iaload, 1) := by decide +kernel
theorem dX7_fetches_61 : decode cX7_fetches 61 = .ok (.iconst 4, 1) := by decide +kernel
theorem dX7_fetches_62 : decode cX7_fetches 62 = .ok (.irem, 1) := by decide +kernel
theorem dX7_fetches_63 : decode cX7_fetches 63 = .ok (.imul, 1) := by decide +kernel
theorem dX7_fetches_64 : decode cX7_fetches 64 = .ok (.aload_n 0, 1) := by decide +kernel
theorem dX7_fetches_65 : decode cX7_fetches 65 = .ok (.getfield 83, 3) := by decide +kernel
theorem dX7_fetches_68 : decode cX7_fetches 68 = .ok (.iadd, 1) := by decide +kernel
theorem dX7_fetches_69 : decode cX7_fetches 69 = .ok (.iconst 1, 1) := by decide +kernel
theorem dX7_fetches_70 : decode cX7_fetches 70 = .ok (.invokestatic 55, 3) := by decide +kernel
theorem dX7_fetches_73 : decode cX7_fetches 73 = .ok (.aload_n 0, 1) := by decide +kernel
theorem dX7_fetches_74 : decode cX7_fetches 74 = .ok (.invokevirtual 67, 3) := by decide +kernel
theorem dX7_fetches_77 : decode cX7_fetches 77 = .ok (.iastore, 1) := by decide +kernel
theorem dX7_fetches_78 : decode cX7_fetches 78 = .ok (.iconst 0, 1) := by decide +kernel
theorem dX7_fetches_79 : decode cX7_fetches 79 = .ok (.istore_n 1, 1) := by decide +kernel
theorem dX7_fetches_80 : decode cX7_fetches 80 = .ok (.iload_n 1, 1) := by decide +kernel
theorem dX7_fetches_81 : decode cX7_fetches 81 = .ok (.aload_n 0, 1) := by decide +kernel
theorem dX7_fetches_82 : decode cX7_fetches 82 = .ok (.getfield 77, 3) := by decide +kernel
theorem dX7_fetches_85 : decode cX7_fetches 85 = .ok (.if_icmp .ge 42, 3) := by decide +kernel
theorem dX7_fetches_88 : decode cX7_fetches 88 = .ok (.aload_n 0, 1) := by decide +kernel
theorem dX7_fetches_89 : decode cX7_fetches 89 = .ok (.getfield 22, 3) := by decide +kernel
theorem dX7_fetches_92 : decode cX7_fetches 92 = .ok (.iload_n 1, 1) := by decide +kernel
theorem dX7_fetches_93 : decode cX7_fetches 93 = .ok (.iaload, 1) := by decide +kernel
theorem dX7_fetches_94 : decode cX7_fetches 94 = .ok (.aload_n 0, 1) := by decide +kernel
theorem dX7_fetches_95 : decode cX7_fetches 95 = .ok (.getfield 7, 3) := by decide +kernel
theorem dX7_fetches_98 : decode cX7_fetches 98 = .ok (.sipush 288, 3) := by decide +kernel
theorem dX7_fetches_101 : decode cX7_fetches 101 = .ok (.iaload, 1) := by decide +kernel
theorem dX7_fetches_102 : decode cX7_fetches 102 = .ok (.if_icmp .ne 25, 3) := by decide +kernel
theorem dX7_fetches_105 : decode cX7_fetches 105 = .ok (.aload_n 0, 1) := by decide +kernel
theorem dX7_fetches_106 : decode cX7_fetches 106 = .ok (.aload_n 0, 1) := by decide +kernel
theorem dX7_fetches_107 : decode cX7_fetches 107 = .ok (.getfield 22, 3) := by decide +kernel
theorem dX7_fetches_110 : decode cX7_fetches 110 = .ok (.iload_n 1, 1) := by decide +kernel
theorem dX7_fetches_111 : decode cX7_fetches 111 = .ok (.iaload, 1) := by decide +kernel
theorem dX7_fetches_112 : decode cX7_fetches 112 = .ok (.aload_n 0, 1) := by decide +kernel
theorem dX7_fetches_113 : decode cX7_fetches 113 = .ok (.getfield 25, 3) := by decide +kernel
theorem dX7_fetches_116 : decode cX7_fetches 116 = .ok (.iload_n 1, 1) := by decide +kernel
theorem dX7_fetches_117 : decode cX7_fetches 117 = .ok (.iaload, 1) := by decide +kernel
theorem dX7_fetches_118 : decode cX7_fetches 118 = .ok (.invokevirtual 99, 3) := by decide +kernel
theorem dX7_fetches_121 : decode cX7_fetches 121 = .ok (.iinc 1 1, 3) := by decide +kernel
theorem dX7_fetches_124 : decode cX7_fetches 124 = .ok (.goto (-44), 3) := by decide +kernel
theorem dX7_fetches_127 : decode cX7_fetches 127 = .ok (.aload_n 0, 1) := by decide +kernel
theorem dX7_fetches_128 : decode cX7_fetches 128 = .ok (.getfield 7, 3) := by decide +kernel
theorem dX7_fetches_131 : decode cX7_fetches 131 = .ok (.sipush 382, 3) := by decide +kernel
theorem dX7_fetches_134 : decode cX7_fetches 134 = .ok (.dup2, 1) := by decide +kernel
theorem dX7_fetches_135 : decode cX7_fetches 135 = .ok (.iaload, 1) := by decide +kernel
theorem dX7_fetches_136 : decode cX7_fetches 136 = .ok (.aload_n 0, 1) := by decide +kernel
theorem dX7_fetches_137 : decode cX7_fetches 137 = .ok (.getfield 77, 3) := by decide +kernel
theorem dX7_fetches_140 : decode cX7_fetches 140 = .ok (.iload_n 1, 1) := by decide +kernel
theorem dX7_fetches_141 : decode cX7_fetches 141 = .ok (.isub, 1) := by decide +kernel
theorem dX7_fetches_142 : decode cX7_fetches 142 = .ok (.iadd, 1) := by decide +kernel
theorem dX7_fetches_143 : decode cX7_fetches 143 = .ok (.iastore, 1) := by decide +kernel
theorem dX7_fetches_144 : decode cX7_fetches 144 = .ok (.iload_n 1, 1) := by decide +kernel
theorem dX7_fetches_145 : decode cX7_fetches 145 = .ok (.ireturn, 1) := by decide +kernel
set_option maxRecDepth 20000 in
theorem ggX7_runs_X7_fetches : GoodIn wsX7_runs wsX7_fetches := goodIn_r _ [5, 6, 7, 8, 9, 10, 11, 12, 13, 4, 14, 15, 16, 17, 18, 19, 20, 21, 22, 23, 24, 25, 26, 27, 28, 29, 30, 31, 32, 33, 34, 35, 36, 37, 38, 39, 40, 41, 42, 43, 44, 45, 46, 47, 48, 49, 50, 51, 52, 53, 54, 55, 56, 57, 58, 59, 60, 61, 62, 63, 64, 65, 66, 67, 68, 69, 70, 71, 72, 73, 74, 75, 76, 77, 78, 79, 80, 81, 82, 83, 84, 85, 86, 87, 88, 89] (by decide +kernel) (by decide +kernel)
set_option maxRecDepth 20000 in
theorem gX7_runs_X7_fetches : GoodIn wsX7_runs (wsV RX7 103 RX7 yX7_fetches wsX7_fetches) := goodIn_app (goodIn_of _ (by decide +kernel)) ggX7_runs_X7_fetches
theorem dX7_runs_0 : decode cX7_runs 0 = .ok (.iconst 0, 1) := by decide +kernel
theorem dX7_runs_1 : decode cX7_runs 1 = .ok (.istore_n 2, 1) := by decide +kernel
theorem dX7_runs_2 : decode cX7_runs 2 = .ok (.iconst 0, 1) := by decide +kernel
theorem dX7_runs_3 : decode cX7_runs 3 = .ok (.istore_n 3, 1) := by decide +kernel
theorem dX7_runs_4 : decode cX7_runs 4 = .ok (.iload_n 3, 1) := by decide +kernel
theorem dX7_runs_5 : decode cX7_runs 5 = .ok (.iload_n 1, 1) := by decide +kernel
theorem dX7_runs_6 : decode cX7_runs 6 = .ok (.if_icmp .ge 16, 3) := by decide +kernel
theorem dX7_runs_9 : decode cX7_runs 9 = .ok (.iload_n 2, 1) := by decide +kernel
theorem dX7_runs_10 : decode cX7_runs 10 = .ok (.aload_n 0, 1) := by decide +kernel
theorem dX7_runs_11 : decode cX7_runs 11 = .ok (.invokevirtual 103, 3) := by decide +kernel
theorem dX7_runs_14 : decode cX7_runs 14 = .ok (.iadd, 1) := by decide +kernel
theorem dX7_runs_15 : decode cX7_runs 15 = .ok (.istore_n 2, 1) := by decide +kernel
theorem dX7_runs_16 : decode cX7_runs 16 = .ok (.iinc 3 1, 3) := by decide +kernel
theorem dX7_runs_19 : decode cX7_runs 19 = .ok (.goto (-15), 3) := by decide +kernel
theorem dX7_runs_22 : decode cX7_runs 22 = .ok (.iload_n 2, 1) := by decide +kernel
theorem dX7_runs_23 : decode cX7_runs 23 = .ok (.ireturn, 1) := by decide +kernel
set_option maxRecDepth 20000 in
theorem ggX7_empties_X7_ofLine : GoodIn wsX7_empties wsX7_ofLine := goodIn_r _ [5] (by decide +kernel) (by decide +kernel)
set_option maxRecDepth 20000 in
theorem gX7_empties_X7_ofLine : GoodIn wsX7_empties (va_wsS RX7 55 yX7_ofLine wsX7_ofLine) := goodIn_app (goodIn_of _ (by decide +kernel)) ggX7_empties_X7_ofLine
theorem dX7_empties_0 : decode cX7_empties 0 = .ok (.aload_n 0, 1) := by decide +kernel
theorem dX7_empties_1 : decode cX7_empties 1 = .ok (.getfield 7, 3) := by decide +kernel
theorem dX7_empties_4 : decode cX7_empties 4 = .ok (.sipush 388, 3) := by decide +kernel
theorem dX7_empties_7 : decode cX7_empties 7 = .ok (.dup2, 1) := by decide +kernel
theorem dX7_empties_8 : decode cX7_empties 8 = .ok (.iaload, 1) := by decide +kernel
theorem dX7_empties_9 : decode cX7_empties 9 = .ok (.aload_n 0, 1) := by decide +kernel
theorem dX7_empties_10 : decode cX7_empties 10 = .ok (.getfield 7, 3) := by decide +kernel
theorem dX7_empties_13 : decode cX7_empties 13 = .ok (.iload_n 1, 1) := by decide +kernel
theorem dX7_empties_14 : decode cX7_empties 14 = .ok (.iconst 0, 1) := by decide +kernel
theorem dX7_empties_15 : decode cX7_empties 15 = .ok (.invokestatic 55, 3) := by decide +kernel
theorem dX7_empties_18 : decode cX7_empties 18 = .ok (.iaload, 1) := by decide +kernel
theorem dX7_empties_19 : decode cX7_empties 19 = .ok (.ifCond .le 7, 3) := by decide +kernel
theorem dX7_empties_22 : decode cX7_empties 22 = .ok (.iconst 1, 1) := by decide +kernel
theorem dX7_empties_23 : decode cX7_empties 23 = .ok (.goto 4, 3) := by decide +kernel
theorem dX7_empties_26 : decode cX7_empties 26 = .ok (.iconst 0, 1) := by decide +kernel
theorem dX7_empties_27 : decode cX7_empties 27 = .ok (.iadd, 1) := by decide +kernel
theorem dX7_empties_28 : decode cX7_empties 28 = .ok (.iastore, 1) := by decide +kernel
theorem dX7_empties_29 : decode cX7_empties 29 = .ok (.iconst 0, 1) := by decide +kernel
theorem dX7_empties_30 : decode cX7_empties 30 = .ok (.istore_n 2, 1) := by decide +kernel
theorem dX7_empties_31 : decode cX7_empties 31 = .ok (.iload_n 2, 1) := by decide +kernel
theorem dX7_empties_32 : decode cX7_empties 32 = .ok (.bipush 10, 2) := by decide +kernel
theorem dX7_empties_34 : decode cX7_empties 34 = .ok (.if_icmp .ge 20, 3) := by decide +kernel
theorem dX7_empties_37 : decode cX7_empties 37 = .ok (.aload_n 0, 1) := by decide +kernel
theorem dX7_empties_38 : decode cX7_empties 38 = .ok (.getfield 7, 3) := by decide +kernel
theorem dX7_empties_41 : decode cX7_empties 41 = .ok (.iload_n 1, 1) := by decide +kernel
theorem dX7_empties_42 : decode cX7_empties 42 = .ok (.iload_n 2, 1) := by decide +kernel
theorem dX7_empties_43 : decode cX7_empties 43 = .ok (.invokestatic 55, 3) := by decide +kernel
theorem dX7_empties_46 : decode cX7_empties 46 = .ok (.iconst 0, 1) := by decide +kernel
theorem dX7_empties_47 : decode cX7_empties 47 = .ok (.iastore, 1) := by decide +kernel
theorem dX7_empties_48 : decode cX7_empties 48 = .ok (.iinc 2 1, 3) := by decide +kernel
theorem dX7_empties_51 : decode cX7_empties 51 = .ok (.goto (-20), 3) := by decide +kernel
theorem dX7_empties_54 : decode cX7_empties 54 = .ok (.return_, 1) := by decide +kernel
set_option maxRecDepth 20000 in
theorem ggX7_writes_X7_contains : GoodIn wsX7_writes wsX7_contains := goodIn_r _ [6, 1, 7, 8, 5, 9, 17, 18, 19, 20, 21, 22, 23, 24, 25, 26, 27, 28, 29, 30] (by decide +kernel) (by decide +kernel)
set_option maxRecDepth 20000 in
theorem gX7_writes_X7_contains : GoodIn wsX7_writes (wsV RX7 106 RX7 yX7_contains wsX7_contains) := goodIn_app (goodIn_of _ (by decide +kernel)) ggX7_writes_X7_contains
set_option maxRecDepth 20000 in
theorem ggX7_writes_X7_empties : GoodIn wsX7_writes wsX7_empties := goodIn_r _ [13, 1, 7, 8, 5, 9, 17, 18, 19, 20, 21, 22, 23, 24, 25, 26, 27, 28, 29, 30] (by decide +kernel) (by decide +kernel)
set_option maxRecDepth 20000 in
theorem gX7_writes_X7_empties : GoodIn wsX7_writes (wsV RX7 110 RX7 yX7_empties wsX7_empties) := goodIn_app (goodIn_of _ (by decide +kernel)) ggX7_writes_X7_empties
set_option maxRecDepth 20000 in
theorem ggX7_writes_X7_of : GoodIn wsX7_writes wsX7_of := goodIn_r _ [16] (by decide +kernel) (by decide +kernel)
set_option maxRecDepth 20000 in
theorem gX7_writes_X7_of : GoodIn wsX7_writes (va_wsS RX7 28 yX7_of wsX7_of) := goodIn_app (goodIn_of _ (by decide +kernel)) ggX7_writes_X7_of
theorem dX7_writes_0 : decode cX7_writes 0 = .ok (.iconst 0, 1) := by decide +kernel
theorem dX7_writes_1 : decode cX7_writes 1 = .ok (.istore 4, 2) := by decide +kernel
theorem dX7_writes_3 : decode cX7_writes 3 = .ok (.iconst 0, 1) := by decide +kernel
theorem dX7_writes_4 : decode cX7_writes 4 = .ok (.istore 5, 2) := by decide +kernel
theorem dX7_writes_6 : decode cX7_writes 6 = .ok (.iload 5, 2) := by decide +kernel
theorem dX7_writes_8 : decode cX7_writes 8 = .ok (.bipush 8, 2) := by decide +kernel
theorem dX7_writes_10 : decode cX7_writes 10 = .ok (.if_icmp .ge 28, 3) := by decide +kernel
theorem dX7_writes_13 : decode cX7_writes 13 = .ok (.aload_n 0, 1) := by decide +kernel
theorem dX7_writes_14 : decode cX7_writes 14 = .ok (.iload 5, 2) := by decide +kernel
theorem dX7_writes_16 : decode cX7_writes 16 = .ok (.iload_n 1, 1) := by decide +kernel
theorem dX7_writes_17 : decode cX7_writes 17 = .ok (.invokevirtual 106, 3) := by decide +kernel
theorem dX7_writes_20 : decode cX7_writes 20 = .ok (.ifCond .eq 12, 3) := by decide +kernel
theorem dX7_writes_23 : decode cX7_writes 23 = .ok (.aload_n 0, 1) := by decide +kernel
theorem dX7_writes_24 : decode cX7_writes 24 = .ok (.iload 5, 2) := by decide +kernel
theorem dX7_writes_26 : decode cX7_writes 26 = .ok (.invokevirtual 110, 3) := by decide +kernel
theorem dX7_writes_29 : decode cX7_writes 29 = .ok (.iinc 4 1, 3) := by decide +kernel
theorem dX7_writes_32 : decode cX7_writes 32 = .ok (.iinc 5 1, 3) := by decide +kernel
theorem dX7_writes_35 : decode cX7_writes 35 = .ok (.goto (-29), 3) := by decide +kernel
theorem dX7_writes_38 : decode cX7_writes 38 = .ok (.iconst 0, 1) := by decide +kernel
theorem dX7_writes_39 : decode cX7_writes 39 = .ok (.istore 5, 2) := by decide +kernel
theorem dX7_writes_41 : decode cX7_writes 41 = .ok (.iconst 0, 1) := by decide +kernel
theorem dX7_writes_42 : decode cX7_writes 42 = .ok (.istore 6, 2) := by decide +kernel
theorem dX7_writes_44 : decode cX7_writes 44 = .ok (.iload 6, 2) := by decide +kernel
theorem dX7_writes_46 : decode cX7_writes 46 = .ok (.aload_n 0, 1) := by decide +kernel
theorem dX7_writes_47 : decode cX7_writes 47 = .ok (.getfield 7, 3) := by decide +kernel
theorem dX7_writes_50 : decode cX7_writes 50 = .ok (.sipush 369, 3) := by decide +kernel
theorem dX7_writes_53 : decode cX7_writes 53 = .ok (.iaload, 1) := by decide +kernel
theorem dX7_writes_54 : decode cX7_writes 54 = .ok (.if_icmp .ge 36, 3) := by decide +kernel
theorem dX7_writes_57 : decode cX7_writes 57 = .ok (.iload 5, 2) := by decide +kernel
theorem dX7_writes_59 : decode cX7_writes 59 = .ok (.ifCond .ne 18, 3) := by decide +kernel
theorem dX7_writes_62 : decode cX7_writes 62 = .ok (.aload_n 0, 1) := by decide +kernel
theorem dX7_writes_63 : decode cX7_writes 63 = .ok (.getfield 7, 3) := by decide +kernel
theorem dX7_writes_66 : decode cX7_writes 66 = .ok (.sipush 370, 3) := by decide +kernel
theorem dX7_writes_69 : decode cX7_writes 69 = .ok (.iload 6, 2) := by decide +kernel
theorem dX7_writes_71 : decode cX7_writes 71 = .ok (.iadd, 1) := by decide +kernel
theorem dX7_writes_72 : decode cX7_writes 72 = .ok (.iaload, 1) := by decide +kernel
theorem dX7_writes_73 : decode cX7_writes 73 = .ok (.iload_n 1, 1) := by decide +kernel
theorem dX7_writes_74 : decode cX7_writes 74 = .ok (.if_icmp .ne 7, 3) := by decide +kernel
theorem dX7_writes_77 : decode cX7_writes 77 = .ok (.iconst 1, 1) := by decide +kernel
theorem dX7_writes_78 : decode cX7_writes 78 = .ok (.goto 4, 3) := by decide +kernel
theorem dX7_writes_81 : decode cX7_writes 81 = .ok (.iconst 0, 1) := by decide +kernel
theorem dX7_writes_82 : decode cX7_writes 82 = .ok (.istore 5, 2) := by decide +kernel
theorem dX7_writes_84 : decode cX7_writes 84 = .ok (.iinc 6 1, 3) := by decide +kernel
theorem dX7_writes_87 : decode cX7_writes 87 = .ok (.goto (-43), 3) := by decide +kernel
theorem dX7_writes_90 : decode cX7_writes 90 = .ok (.aload_n 0, 1) := by decide +kernel
theorem dX7_writes_91 : decode cX7_writes 91 = .ok (.getfield 7, 3) := by decide +kernel
theorem dX7_writes_94 : decode cX7_writes 94 = .ok (.sipush 369, 3) := by decide +kernel
theorem dX7_writes_97 : decode cX7_writes 97 = .ok (.iload 5, 2) := by decide +kernel
theorem dX7_writes_99 : decode cX7_writes 99 = .ok (.ifCond .eq 7, 3) := by decide +kernel
theorem dX7_writes_102 : decode cX7_writes 102 = .ok (.iconst 0, 1) := by decide +kernel
theorem dX7_writes_103 : decode cX7_writes 103 = .ok (.goto 11, 3) := by decide +kernel
theorem dX7_writes_106 : decode cX7_writes 106 = .ok (.aload_n 0, 1) := by decide +kernel
theorem dX7_writes_107 : decode cX7_writes 107 = .ok (.getfield 7, 3) := by decide +kernel
theorem dX7_writes_110 : decode cX7_writes 110 = .ok (.sipush 369, 3) := by decide +kernel
theorem dX7_writes_113 : decode cX7_writes 113 = .ok (.iaload, 1) := by decide +kernel
theorem dX7_writes_114 : decode cX7_writes 114 = .ok (.iastore, 1) := by decide +kernel
theorem dX7_writes_115 : decode cX7_writes 115 = .ok (.aload_n 0, 1) := by decide +kernel
theorem dX7_writes_116 : decode cX7_writes 116 = .ok (.getfield 7, 3) := by decide +kernel
theorem dX7_writes_119 : decode cX7_writes 119 = .ok (.iload_n 1, 1) := by decide +kernel
theorem dX7_writes_120 : decode cX7_writes 120 = .ok (.iconst 0, 1) := by decide +kernel
theorem dX7_writes_121 : decode cX7_writes 121 = .ok (.invokestatic 28, 3) := by decide +kernel
theorem dX7_writes_124 : decode cX7_writes 124 = .ok (.iload_n 2, 1) := by decide +kernel
theorem dX7_writes_125 : decode cX7_writes 125 = .ok (.iastore, 1) := by decide +kernel
theorem dX7_writes_126 : decode cX7_writes 126 = .ok (.aload_n 0, 1) := by decide +kernel
theorem dX7_writes_127 : decode cX7_writes 127 = .ok (.getfield 7, 3) := by decide +kernel
theorem dX7_writes_130 : decode cX7_writes 130 = .ok (.iload_n 1, 1) := by decide +kernel
theorem dX7_writes_131 : decode cX7_writes 131 = .ok (.iconst 1, 1) := by decide +kernel
theorem dX7_writes_132 : decode cX7_writes 132 = .ok (.invokestatic 28, 3) := by decide +kernel
theorem dX7_writes_135 : decode cX7_writes 135 = .ok (.iload_n 2, 1) := by decide +kernel
theorem dX7_writes_136 : decode cX7_writes 136 = .ok (.ifCond .ne 7, 3) := by decide +kernel
theorem dX7_writes_139 : decode cX7_writes 139 = .ok (.iconst (-1), 1) := by decide +kernel
theorem dX7_writes_140 : decode cX7_writes 140 = .ok (.goto 4, 3) := by decide +kernel
theorem dX7_writes_143 : decode cX7_writes 143 = .ok (.iload_n 3, 1) := by decide +kernel
theorem dX7_writes_144 : decode cX7_writes 144 = .ok (.iastore, 1) := by decide +kernel
theorem dX7_writes_145 : decode cX7_writes 145 = .ok (.iload 4, 2) := by decide +kernel
theorem dX7_writes_147 : decode cX7_writes 147 = .ok (.ireturn, 1) := by decide +kernel
set_option maxRecDepth 20000 in
theorem ggX7_patterns_X7_of : GoodIn wsX7_patterns wsX7_of := goodIn_r _ [5] (by decide +kernel) (by decide +kernel)
set_option maxRecDepth 20000 in
theorem gX7_patterns_X7_of : GoodIn wsX7_patterns (va_wsS RX7 28 yX7_of wsX7_of) := goodIn_app (goodIn_of _ (by decide +kernel)) ggX7_patterns_X7_of
theorem dX7_patterns_0 : decode cX7_patterns 0 = .ok (.aload_n 0, 1) := by decide +kernel
theorem dX7_patterns_1 : decode cX7_patterns 1 = .ok (.getfield 7, 3) := by decide +kernel
theorem dX7_patterns_4 : decode cX7_patterns 4 = .ok (.iload_n 1, 1) := by decide +kernel
theorem dX7_patterns_5 : decode cX7_patterns 5 = .ok (.iconst 4, 1) := by decide +kernel
theorem dX7_patterns_6 : decode cX7_patterns 6 = .ok (.invokestatic 28, 3) := by decide +kernel
theorem dX7_patterns_9 : decode cX7_patterns 9 = .ok (.iaload, 1) := by decide +kernel
theorem dX7_patterns_10 : decode cX7_patterns 10 = .ok (.istore 4, 2) := by decide +kernel
theorem dX7_patterns_12 : decode cX7_patterns 12 = .ok (.aload_n 0, 1) := by decide +kernel
theorem dX7_patterns_13 : decode cX7_patterns 13 = .ok (.getfield 7, 3) := by decide +kernel
theorem dX7_patterns_16 : decode cX7_patterns 16 = .ok (.iload_n 1, 1) := by decide +kernel
theorem dX7_patterns_17 : decode cX7_patterns 17 = .ok (.iconst 4, 1) := by decide +kernel
theorem dX7_patterns_18 : decode cX7_patterns 18 = .ok (.invokestatic 28, 3) := by decide +kernel
theorem dX7_patterns_21 : decode cX7_patterns 21 = .ok (.iconst 0, 1) := by decide +kernel
theorem dX7_patterns_22 : decode cX7_patterns 22 = .ok (.iastore, 1) := by decide +kernel
theorem dX7_patterns_23 : decode cX7_patterns 23 = .ok (.aload_n 0, 1) := by decide +kernel
theorem dX7_patterns_24 : decode cX7_patterns 24 = .ok (.getfield 7, 3) := by decide +kernel
theorem dX7_patterns_27 : decode cX7_patterns 27 = .ok (.iload_n 1, 1) := by decide +kernel
theorem dX7_patterns_28 : decode cX7_patterns 28 = .ok (.iconst 2, 1) := by decide +kernel
theorem dX7_patterns_29 : decode cX7_patterns 29 = .ok (.invokestatic 28, 3) := by decide +kernel
theorem dX7_patterns_32 : decode cX7_patterns 32 = .ok (.iload_n 2, 1) := by decide +kernel
theorem dX7_patterns_33 : decode cX7_patterns 33 = .ok (.iastore, 1) := by decide +kernel
theorem dX7_patterns_34 : decode cX7_patterns 34 = .ok (.aload_n 0, 1) := by decide +kernel
theorem dX7_patterns_35 : decode cX7_patterns 35 = .ok (.getfield 7, 3) := by decide +kernel
theorem dX7_patterns_38 : decode cX7_patterns 38 = .ok (.iload_n 1, 1) := by decide +kernel
theorem dX7_patterns_39 : decode cX7_patterns 39 = .ok (.iconst 3, 1) := by decide +kernel
theorem dX7_patterns_40 : decode cX7_patterns 40 = .ok (.invokestatic 28, 3) := by decide +kernel
theorem dX7_patterns_43 : decode cX7_patterns 43 = .ok (.iload_n 3, 1) := by decide +kernel
theorem dX7_patterns_44 : decode cX7_patterns 44 = .ok (.iastore, 1) := by decide +kernel
theorem dX7_patterns_45 : decode cX7_patterns 45 = .ok (.iload 4, 2) := by decide +kernel
theorem dX7_patterns_47 : decode cX7_patterns 47 = .ok (.ireturn, 1) := by decide +kernel
set_option maxRecDepth 20000 in
theorem ggX7_write_X7_isAddress : GoodIn wsX7_write wsX7_isAddress := goodIn_r _ [4, 5, 6, 3, 7] (by decide +kernel) (by decide +kernel)
set_option maxRecDepth 20000 in
theorem gX7_write_X7_isAddress : GoodIn wsX7_write (va_wsS RX7 113 yX7_isAddress wsX7_isAddress) := goodIn_app (goodIn_of _ (by decide +kernel)) ggX7_write_X7_isAddress
set_option maxRecDepth 20000 in
theorem ggX7_write_X7_in : GoodIn wsX7_write wsX7_in := goodIn_r _ [7] (by decide +kernel) (by decide +kernel)
set_option maxRecDepth 20000 in
theorem gX7_write_X7_in : GoodIn wsX7_write (va_wsS RX7 36 yX7_in wsX7_in) := goodIn_app (goodIn_of _ (by decide +kernel)) ggX7_write_X7_in
set_option maxRecDepth 20000 in
theorem ggX7_write_X7_holds : GoodIn wsX7_write wsX7_holds := goodIn_r _ [11, 12, 38, 39, 40, 41, 42, 43, 44, 45, 46, 47, 48, 49, 50, 51] (by decide +kernel) (by decide +kernel)
set_option maxRecDepth 20000 in
theorem gX7_write_X7_holds : GoodIn wsX7_write (wsV RX7 116 RX7 yX7_holds wsX7_holds) := goodIn_app (goodIn_of _ (by decide +kernel)) ggX7_write_X7_holds
set_option maxRecDepth 20000 in
theorem ggX7_write_X7_save : GoodIn wsX7_write wsX7_save := goodIn_r _ [16, 17, 18, 19, 38, 39, 40, 41, 42, 43, 44, 45, 46, 47, 48, 49, 50, 51] (by decide +kernel) (by decide +kernel)
set_option maxRecDepth 20000 in
theorem gX7_write_X7_save : GoodIn wsX7_write (wsV RX7 119 RX7 yX7_save wsX7_save) := goodIn_app (goodIn_of _ (by decide +kernel)) ggX7_write_X7_save
set_option maxRecDepth 20000 in
theorem ggX7_write_X7_writes : GoodIn wsX7_write wsX7_writes := goodIn_r _ [23, 19, 24, 25, 26, 3, 27, 28, 29, 30, 31, 32, 33, 34, 35, 36, 37, 38, 39, 40, 41, 42, 43, 44, 45, 46, 47, 48, 49, 50, 51] (by decide +kernel) (by decide +kernel)
set_option maxRecDepth 20000 in
theorem gX7_write_X7_writes : GoodIn wsX7_write (wsV RX7 122 RX7 yX7_writes wsX7_writes) := goodIn_app (goodIn_of _ (by decide +kernel)) ggX7_write_X7_writes
theorem dX7_write_0 : decode cX7_write 0 = .ok (.aload_n 0, 1) := by decide +kernel
theorem dX7_write_1 : decode cX7_write 1 = .ok (.iload_n 1, 1) := by decide +kernel
theorem dX7_write_2 : decode cX7_write 2 = .ok (.invokestatic 113, 3) := by decide +kernel
theorem dX7_write_5 : decode cX7_write 5 = .ok (.ifCond .eq 10, 3) := by decide +kernel
theorem dX7_write_8 : decode cX7_write 8 = .ok (.iload_n 3, 1) := by decide +kernel
theorem dX7_write_9 : decode cX7_write 9 = .ok (.invokestatic 113, 3) := by decide +kernel
theorem dX7_write_12 : decode cX7_write 12 = .ok (.ifCond .ne 7, 3) := by decide +kernel
theorem dX7_write_15 : decode cX7_write 15 = .ok (.iconst 1, 1) := by decide +kernel
theorem dX7_write_16 : decode cX7_write 16 = .ok (.goto 17, 3) := by decide +kernel
theorem dX7_write_19 : decode cX7_write 19 = .ok (.iload_n 2, 1) := by decide +kernel
theorem dX7_write_20 : decode cX7_write 20 = .ok (.iconst 0, 1) := by decide +kernel
theorem dX7_write_21 : decode cX7_write 21 = .ok (.iconst 2, 1) := by decide +kernel
theorem dX7_write_22 : decode cX7_write 22 = .ok (.invokestatic 36, 3) := by decide +kernel
theorem dX7_write_25 : decode cX7_write 25 = .ok (.ifCond .eq 7, 3) := by decide +kernel
theorem dX7_write_28 : decode cX7_write 28 = .ok (.iconst 0, 1) := by decide +kernel
theorem dX7_write_29 : decode cX7_write 29 = .ok (.goto 4, 3) := by decide +kernel
theorem dX7_write_32 : decode cX7_write 32 = .ok (.iconst 2, 1) := by decide +kernel
theorem dX7_write_33 : decode cX7_write 33 = .ok (.invokevirtual 116, 3) := by decide +kernel
theorem dX7_write_36 : decode cX7_write 36 = .ok (.ifCond .ne 5, 3) := by decide +kernel
theorem dX7_write_39 : decode cX7_write 39 = .ok (.iconst 0, 1) := by decide +kernel
theorem dX7_write_40 : decode cX7_write 40 = .ok (.ireturn, 1) := by decide +kernel
theorem dX7_write_41 : decode cX7_write 41 = .ok (.aload_n 0, 1) := by decide +kernel
theorem dX7_write_42 : decode cX7_write 42 = .ok (.invokevirtual 119, 3) := by decide +kernel
theorem dX7_write_45 : decode cX7_write 45 = .ok (.aload_n 0, 1) := by decide +kernel
theorem dX7_write_46 : decode cX7_write 46 = .ok (.iload_n 1, 1) := by decide +kernel
theorem dX7_write_47 : decode cX7_write 47 = .ok (.iload_n 2, 1) := by decide +kernel
theorem dX7_write_48 : decode cX7_write 48 = .ok (.iload_n 3, 1) := by decide +kernel
theorem dX7_write_49 : decode cX7_write 49 = .ok (.invokevirtual 122, 3) := by decide +kernel
theorem dX7_write_52 : decode cX7_write 52 = .ok (.ireturn, 1) := by decide +kernel
set_option maxRecDepth 20000 in
theorem ggX7_setPattern_X7_in : GoodIn wsX7_setPattern wsX7_in := goodIn_r _ [4] (by decide +kernel) (by decide +kernel)
set_option maxRecDepth 20000 in
theorem gX7_setPattern_X7_in : GoodIn wsX7_setPattern (va_wsS RX7 36 yX7_in wsX7_in) := goodIn_app (goodIn_of _ (by decide +kernel)) ggX7_setPattern_X7_in
set_option maxRecDepth 20000 in
theorem ggX7_setPattern_X7_isAddress : GoodIn wsX7_setPattern wsX7_isAddress := goodIn_r _ [7, 1, 2, 3, 4] (by decide +kernel) (by decide +kernel)
set_option maxRecDepth 20000 in
theorem gX7_setPattern_X7_isAddress : GoodIn wsX7_setPattern (va_wsS RX7 113 yX7_isAddress wsX7_isAddress) := goodIn_app (goodIn_of _ (by decide +kernel)) ggX7_setPattern_X7_isAddress
set_option maxRecDepth 20000 in
theorem ggX7_setPattern_X7_holds : GoodIn wsX7_setPattern wsX7_holds := goodIn_r _ [11, 12, 27, 28, 29, 30, 31, 32, 33, 34, 35, 36, 37, 38, 39, 40] (by decide +kernel) (by decide +kernel)
set_option maxRecDepth 20000 in
theorem gX7_setPattern_X7_holds : GoodIn wsX7_setPattern (wsV RX7 116 RX7 yX7_holds wsX7_holds) := goodIn_app (goodIn_of _ (by decide +kernel)) ggX7_setPattern_X7_holds
set_option maxRecDepth 20000 in
theorem ggX7_setPattern_X7_save : GoodIn wsX7_setPattern wsX7_save := goodIn_r _ [16, 17, 18, 19, 27, 28, 29, 30, 31, 32, 33, 34, 35, 36, 37, 38, 39, 40] (by decide +kernel) (by decide +kernel)
set_option maxRecDepth 20000 in
theorem gX7_setPattern_X7_save : GoodIn wsX7_setPattern (wsV RX7 119 RX7 yX7_save wsX7_save) := goodIn_app (goodIn_of _ (by decide +kernel)) ggX7_setPattern_X7_save
set_option maxRecDepth 20000 in
theorem ggX7_setPattern_X7_patterns : GoodIn wsX7_setPattern wsX7_patterns := goodIn_r _ [23, 19, 24, 25, 3, 26, 27, 28, 29, 30, 31, 32, 33, 34, 35, 36, 37, 38, 39, 40] (by decide +kernel) (by decide +kernel)
set_option maxRecDepth 20000 in
theorem gX7_setPattern_X7_patterns : GoodIn wsX7_setPattern (wsV RX7 126 RX7 yX7_patterns wsX7_patterns) := goodIn_app (goodIn_of _ (by decide +kernel)) ggX7_setPattern_X7_patterns
