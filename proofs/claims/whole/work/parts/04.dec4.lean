set_option maxRecDepth 20000 in
theorem gX5_pair_X5_findMeets : GoodIn wsX5_pair (wsV RX5 92 RX5 yX5_findMeets wsX5_findMeets) := goodIn_app (goodIn_of _ (by decide +kernel)) ggX5_pair_X5_findMeets
set_option maxRecDepth 20000 in
theorem ggX5_pair_X5_isPair : GoodIn wsX5_pair wsX5_isPair := goodIn_r _ [32, 12, 33, 34, 35, 5, 36, 1, 37, 38, 39, 40, 13, 26, 14, 28, 15, 27, 19, 20, 21, 41, 42, 43, 44, 45, 46, 47, 48, 49, 50, 51, 52, 53, 54, 55, 56, 57, 58, 59] (by decide +kernel) (by decide +kernel)
set_option maxRecDepth 20000 in
theorem gX5_pair_X5_isPair : GoodIn wsX5_pair (wsV RX5 150 RX5 yX5_isPair wsX5_isPair) := goodIn_app (goodIn_of _ (by decide +kernel)) ggX5_pair_X5_isPair
theorem dX5_pair_0 : decode cX5_pair 0 = .ok (.aload_n 0, 1) := by decide +kernel
theorem dX5_pair_1 : decode cX5_pair 1 = .ok (.iload_n 1, 1) := by decide +kernel
theorem dX5_pair_2 : decode cX5_pair 2 = .ok (.ifCond .lt 7, 3) := by decide +kernel
theorem dX5_pair_5 : decode cX5_pair 5 = .ok (.iconst 1, 1) := by decide +kernel
theorem dX5_pair_6 : decode cX5_pair 6 = .ok (.goto 4, 3) := by decide +kernel
theorem dX5_pair_9 : decode cX5_pair 9 = .ok (.iconst 0, 1) := by decide +kernel
theorem dX5_pair_10 : decode cX5_pair 10 = .ok (.iconst 1, 1) := by decide +kernel
theorem dX5_pair_11 : decode cX5_pair 11 = .ok (.invokevirtual 62, 3) := by decide +kernel
theorem dX5_pair_14 : decode cX5_pair 14 = .ok (.ifCond .eq 5, 3) := by decide +kernel
theorem dX5_pair_17 : decode cX5_pair 17 = .ok (.iconst 0, 1) := by decide +kernel
theorem dX5_pair_18 : decode cX5_pair 18 = .ok (.ireturn, 1) := by decide +kernel
theorem dX5_pair_19 : decode cX5_pair 19 = .ok (.aload_n 0, 1) := by decide +kernel
theorem dX5_pair_20 : decode cX5_pair 20 = .ok (.invokevirtual 92, 3) := by decide +kernel
theorem dX5_pair_23 : decode cX5_pair 23 = .ok (.iload_n 1, 1) := by decide +kernel
theorem dX5_pair_24 : decode cX5_pair 24 = .ok (.istore_n 2, 1) := by decide +kernel
theorem dX5_pair_25 : decode cX5_pair 25 = .ok (.iconst 0, 1) := by decide +kernel
theorem dX5_pair_26 : decode cX5_pair 26 = .ok (.istore_n 3, 1) := by decide +kernel
theorem dX5_pair_27 : decode cX5_pair 27 = .ok (.iload_n 3, 1) := by decide +kernel
theorem dX5_pair_28 : decode cX5_pair 28 = .ok (.aload_n 0, 1) := by decide +kernel
theorem dX5_pair_29 : decode cX5_pair 29 = .ok (.getfield 51, 3) := by decide +kernel
theorem dX5_pair_32 : decode cX5_pair 32 = .ok (.if_icmp .ge 55, 3) := by decide +kernel
theorem dX5_pair_35 : decode cX5_pair 35 = .ok (.iload_n 3, 1) := by decide +kernel
theorem dX5_pair_36 : decode cX5_pair 36 = .ok (.iconst 1, 1) := by decide +kernel
theorem dX5_pair_37 : decode cX5_pair 37 = .ok (.iadd, 1) := by decide +kernel
theorem dX5_pair_38 : decode cX5_pair 38 = .ok (.istore 4, 2) := by decide +kernel
theorem dX5_pair_40 : decode cX5_pair 40 = .ok (.iload 4, 2) := by decide +kernel
theorem dX5_pair_42 : decode cX5_pair 42 = .ok (.aload_n 0, 1) := by decide +kernel
theorem dX5_pair_43 : decode cX5_pair 43 = .ok (.getfield 51, 3) := by decide +kernel
theorem dX5_pair_46 : decode cX5_pair 46 = .ok (.if_icmp .ge 35, 3) := by decide +kernel
theorem dX5_pair_49 : decode cX5_pair 49 = .ok (.aload_n 0, 1) := by decide +kernel
theorem dX5_pair_50 : decode cX5_pair 50 = .ok (.iload_n 3, 1) := by decide +kernel
theorem dX5_pair_51 : decode cX5_pair 51 = .ok (.iload 4, 2) := by decide +kernel
theorem dX5_pair_53 : decode cX5_pair 53 = .ok (.invokevirtual 150, 3) := by decide +kernel
theorem dX5_pair_56 : decode cX5_pair 56 = .ok (.ifCond .eq 19, 3) := by decide +kernel
theorem dX5_pair_59 : decode cX5_pair 59 = .ok (.iload_n 2, 1) := by decide +kernel
theorem dX5_pair_60 : decode cX5_pair 60 = .ok (.ifCond .ne 12, 3) := by decide +kernel
theorem dX5_pair_63 : decode cX5_pair 63 = .ok (.iconst 1, 1) := by decide +kernel
theorem dX5_pair_64 : decode cX5_pair 64 = .ok (.iload_n 3, 1) := by decide +kernel
theorem dX5_pair_65 : decode cX5_pair 65 = .ok (.ishl, 1) := by decide +kernel
theorem dX5_pair_66 : decode cX5_pair 66 = .ok (.iconst 1, 1) := by decide +kernel
theorem dX5_pair_67 : decode cX5_pair 67 = .ok (.iload 4, 2) := by decide +kernel
theorem dX5_pair_69 : decode cX5_pair 69 = .ok (.ishl, 1) := by decide +kernel
theorem dX5_pair_70 : decode cX5_pair 70 = .ok (.ior, 1) := by decide +kernel
theorem dX5_pair_71 : decode cX5_pair 71 = .ok (.ireturn, 1) := by decide +kernel
theorem dX5_pair_72 : decode cX5_pair 72 = .ok (.iinc 2 (-1), 3) := by decide +kernel
theorem dX5_pair_75 : decode cX5_pair 75 = .ok (.iinc 4 1, 3) := by decide +kernel
theorem dX5_pair_78 : decode cX5_pair 78 = .ok (.goto (-38), 3) := by decide +kernel
theorem dX5_pair_81 : decode cX5_pair 81 = .ok (.iinc 3 1, 3) := by decide +kernel
theorem dX5_pair_84 : decode cX5_pair 84 = .ok (.goto (-57), 3) := by decide +kernel
theorem dX5_pair_87 : decode cX5_pair 87 = .ok (.iconst (-1), 1) := by decide +kernel
theorem dX5_pair_88 : decode cX5_pair 88 = .ok (.ireturn, 1) := by decide +kernel
set_option maxRecDepth 20000 in
theorem ggX5_edge_X5_in : GoodIn wsX5_edge wsX5_in := goodIn_r _ [7] (by decide +kernel) (by decide +kernel)
set_option maxRecDepth 20000 in
theorem gX5_edge_X5_in : GoodIn wsX5_edge (va_wsS RX5 54 yX5_in wsX5_in) := goodIn_app (goodIn_of _ (by decide +kernel)) ggX5_edge_X5_in
set_option maxRecDepth 20000 in
theorem ggX5_edge_X5_fails : GoodIn wsX5_edge wsX5_fails := goodIn_r _ [11, 12, 13, 14, 15, 16, 17, 18, 19, 20, 21, 22, 23, 24, 25, 26, 27, 28, 29, 30, 31] (by decide +kernel) (by decide +kernel)
set_option maxRecDepth 20000 in
theorem gX5_edge_X5_fails : GoodIn wsX5_edge (wsV RX5 62 RX5 yX5_fails wsX5_fails) := goodIn_app (goodIn_of _ (by decide +kernel)) ggX5_edge_X5_fails
theorem dX5_edge_0 : decode cX5_edge 0 = .ok (.aload_n 0, 1) := by decide +kernel
theorem dX5_edge_1 : decode cX5_edge 1 = .ok (.iload_n 1, 1) := by decide +kernel
theorem dX5_edge_2 : decode cX5_edge 2 = .ok (.iconst 0, 1) := by decide +kernel
theorem dX5_edge_3 : decode cX5_edge 3 = .ok (.iconst 5, 1) := by decide +kernel
theorem dX5_edge_4 : decode cX5_edge 4 = .ok (.invokestatic 54, 3) := by decide +kernel
theorem dX5_edge_7 : decode cX5_edge 7 = .ok (.ifCond .eq 16, 3) := by decide +kernel
theorem dX5_edge_10 : decode cX5_edge 10 = .ok (.iload_n 2, 1) := by decide +kernel
theorem dX5_edge_11 : decode cX5_edge 11 = .ok (.iconst 0, 1) := by decide +kernel
theorem dX5_edge_12 : decode cX5_edge 12 = .ok (.iconst 5, 1) := by decide +kernel
theorem dX5_edge_13 : decode cX5_edge 13 = .ok (.invokestatic 54, 3) := by decide +kernel
theorem dX5_edge_16 : decode cX5_edge 16 = .ok (.ifCond .eq 7, 3) := by decide +kernel
theorem dX5_edge_19 : decode cX5_edge 19 = .ok (.iconst 1, 1) := by decide +kernel
theorem dX5_edge_20 : decode cX5_edge 20 = .ok (.goto 4, 3) := by decide +kernel
theorem dX5_edge_23 : decode cX5_edge 23 = .ok (.iconst 0, 1) := by decide +kernel
theorem dX5_edge_24 : decode cX5_edge 24 = .ok (.iconst 1, 1) := by decide +kernel
theorem dX5_edge_25 : decode cX5_edge 25 = .ok (.invokevirtual 62, 3) := by decide +kernel
theorem dX5_edge_28 : decode cX5_edge 28 = .ok (.ifCond .eq 5, 3) := by decide +kernel
theorem dX5_edge_31 : decode cX5_edge 31 = .ok (.iconst 0, 1) := by decide +kernel
theorem dX5_edge_32 : decode cX5_edge 32 = .ok (.ireturn, 1) := by decide +kernel
theorem dX5_edge_33 : decode cX5_edge 33 = .ok (.aload_n 0, 1) := by decide +kernel
theorem dX5_edge_34 : decode cX5_edge 34 = .ok (.iload_n 1, 1) := by decide +kernel
theorem dX5_edge_35 : decode cX5_edge 35 = .ok (.iload_n 2, 1) := by decide +kernel
theorem dX5_edge_36 : decode cX5_edge 36 = .ok (.if_icmp .eq 7, 3) := by decide +kernel
theorem dX5_edge_39 : decode cX5_edge 39 = .ok (.iconst 1, 1) := by decide +kernel
theorem dX5_edge_40 : decode cX5_edge 40 = .ok (.goto 4, 3) := by decide +kernel
theorem dX5_edge_43 : decode cX5_edge 43 = .ok (.iconst 0, 1) := by decide +kernel
theorem dX5_edge_44 : decode cX5_edge 44 = .ok (.iconst 2, 1) := by decide +kernel
theorem dX5_edge_45 : decode cX5_edge 45 = .ok (.invokevirtual 62, 3) := by decide +kernel
theorem dX5_edge_48 : decode cX5_edge 48 = .ok (.ifCond .eq 5, 3) := by decide +kernel
theorem dX5_edge_51 : decode cX5_edge 51 = .ok (.iconst 0, 1) := by decide +kernel
theorem dX5_edge_52 : decode cX5_edge 52 = .ok (.ireturn, 1) := by decide +kernel
theorem dX5_edge_53 : decode cX5_edge 53 = .ok (.iconst (-1), 1) := by decide +kernel
theorem dX5_edge_54 : decode cX5_edge 54 = .ok (.istore_n 3, 1) := by decide +kernel
theorem dX5_edge_55 : decode cX5_edge 55 = .ok (.iconst 0, 1) := by decide +kernel
theorem dX5_edge_56 : decode cX5_edge 56 = .ok (.istore 4, 2) := by decide +kernel
theorem dX5_edge_58 : decode cX5_edge 58 = .ok (.iload 4, 2) := by decide +kernel
theorem dX5_edge_60 : decode cX5_edge 60 = .ok (.aload_n 0, 1) := by decide +kernel
theorem dX5_edge_61 : decode cX5_edge 61 = .ok (.getfield 153, 3) := by decide +kernel
theorem dX5_edge_64 : decode cX5_edge 64 = .ok (.if_icmp .ge 60, 3) := by decide +kernel
theorem dX5_edge_67 : decode cX5_edge 67 = .ok (.aload_n 0, 1) := by decide +kernel
theorem dX5_edge_68 : decode cX5_edge 68 = .ok (.getfield 35, 3) := by decide +kernel
theorem dX5_edge_71 : decode cX5_edge 71 = .ok (.iload 4, 2) := by decide +kernel
theorem dX5_edge_73 : decode cX5_edge 73 = .ok (.iaload, 1) := by decide +kernel
theorem dX5_edge_74 : decode cX5_edge 74 = .ok (.iload_n 1, 1) := by decide +kernel
theorem dX5_edge_75 : decode cX5_edge 75 = .ok (.if_icmp .ne 14, 3) := by decide +kernel
theorem dX5_edge_78 : decode cX5_edge 78 = .ok (.aload_n 0, 1) := by decide +kernel
theorem dX5_edge_79 : decode cX5_edge 79 = .ok (.getfield 38, 3) := by decide +kernel
theorem dX5_edge_82 : decode cX5_edge 82 = .ok (.iload 4, 2) := by decide +kernel
theorem dX5_edge_84 : decode cX5_edge 84 = .ok (.iaload, 1) := by decide +kernel
theorem dX5_edge_85 : decode cX5_edge 85 = .ok (.iload_n 2, 1) := by decide +kernel
theorem dX5_edge_86 : decode cX5_edge 86 = .ok (.if_icmp .eq 25, 3) := by decide +kernel
theorem dX5_edge_89 : decode cX5_edge 89 = .ok (.aload_n 0, 1) := by decide +kernel
theorem dX5_edge_90 : decode cX5_edge 90 = .ok (.getfield 35, 3) := by decide +kernel
theorem dX5_edge_93 : decode cX5_edge 93 = .ok (.iload 4, 2) := by decide +kernel
theorem dX5_edge_95 : decode cX5_edge 95 = .ok (.iaload, 1) := by decide +kernel
theorem dX5_edge_96 : decode cX5_edge 96 = .ok (.iload_n 2, 1) := by decide +kernel
theorem dX5_edge_97 : decode cX5_edge 97 = .ok (.if_icmp .ne 19, 3) := by decide +kernel
theorem dX5_edge_100 : decode cX5_edge 100 = .ok (.aload_n 0, 1) := by decide +kernel
theorem dX5_edge_101 : decode cX5_edge 101 = .ok (.getfield 38, 3) := by decide +kernel
theorem dX5_edge_104 : decode cX5_edge 104 = .ok (.iload 4, 2) := by decide +kernel
theorem dX5_edge_106 : decode cX5_edge 106 = .ok (.iaload, 1) := by decide +kernel
theorem dX5_edge_107 : decode cX5_edge 107 = .ok (.iload_n 1, 1) := by decide +kernel
theorem dX5_edge_108 : decode cX5_edge 108 = .ok (.if_icmp .ne 8, 3) := by decide +kernel
theorem dX5_edge_111 : decode cX5_edge 111 = .ok (.iload 4, 2) := by decide +kernel
theorem dX5_edge_113 : decode cX5_edge 113 = .ok (.goto 4, 3) := by decide +kernel
theorem dX5_edge_116 : decode cX5_edge 116 = .ok (.iload_n 3, 1) := by decide +kernel
theorem dX5_edge_117 : decode cX5_edge 117 = .ok (.istore_n 3, 1) := by decide +kernel
theorem dX5_edge_118 : decode cX5_edge 118 = .ok (.iinc 4 1, 3) := by decide +kernel
theorem dX5_edge_121 : decode cX5_edge 121 = .ok (.goto (-63), 3) := by decide +kernel
theorem dX5_edge_124 : decode cX5_edge 124 = .ok (.iload_n 3, 1) := by decide +kernel
theorem dX5_edge_125 : decode cX5_edge 125 = .ok (.iconst (-1), 1) := by decide +kernel
theorem dX5_edge_126 : decode cX5_edge 126 = .ok (.if_icmp .ne 36, 3) := by decide +kernel
theorem dX5_edge_129 : decode cX5_edge 129 = .ok (.aload_n 0, 1) := by decide +kernel
theorem dX5_edge_130 : decode cX5_edge 130 = .ok (.getfield 35, 3) := by decide +kernel
theorem dX5_edge_133 : decode cX5_edge 133 = .ok (.aload_n 0, 1) := by decide +kernel
theorem dX5_edge_134 : decode cX5_edge 134 = .ok (.getfield 153, 3) := by decide +kernel
theorem dX5_edge_137 : decode cX5_edge 137 = .ok (.iload_n 1, 1) := by decide +kernel
theorem dX5_edge_138 : decode cX5_edge 138 = .ok (.iastore, 1) := by decide +kernel
theorem dX5_edge_139 : decode cX5_edge 139 = .ok (.aload_n 0, 1) := by decide +kernel
theorem dX5_edge_140 : decode cX5_edge 140 = .ok (.getfield 38, 3) := by decide +kernel
theorem dX5_edge_143 : decode cX5_edge 143 = .ok (.aload_n 0, 1) := by decide +kernel
theorem dX5_edge_144 : decode cX5_edge 144 = .ok (.getfield 153, 3) := by decide +kernel
theorem dX5_edge_147 : decode cX5_edge 147 = .ok (.iload_n 2, 1) := by decide +kernel
theorem dX5_edge_148 : decode cX5_edge 148 = .ok (.iastore, 1) := by decide +kernel
theorem dX5_edge_149 : decode cX5_edge 149 = .ok (.aload_n 0, 1) := by decide +kernel
theorem dX5_edge_150 : decode cX5_edge 150 = .ok (.dup, 1) := by decide +kernel
theorem dX5_edge_151 : decode cX5_edge 151 = .ok (.getfield 153, 3) := by decide +kernel
theorem dX5_edge_154 : decode cX5_edge 154 = .ok (.iconst 1, 1) := by decide +kernel
theorem dX5_edge_155 : decode cX5_edge 155 = .ok (.iadd, 1) := by decide +kernel
theorem dX5_edge_156 : decode cX5_edge 156 = .ok (.putfield 153, 3) := by decide +kernel
theorem dX5_edge_159 : decode cX5_edge 159 = .ok (.goto 43, 3) := by decide +kernel
theorem dX5_edge_162 : decode cX5_edge 162 = .ok (.aload_n 0, 1) := by decide +kernel
theorem dX5_edge_163 : decode cX5_edge 163 = .ok (.dup, 1) := by decide +kernel
theorem dX5_edge_164 : decode cX5_edge 164 = .ok (.getfield 153, 3) := by decide +kernel
theorem dX5_edge_167 : decode cX5_edge 167 = .ok (.iconst 1, 1) := by decide +kernel
theorem dX5_edge_168 : decode cX5_edge 168 = .ok (.isub, 1) := by decide +kernel
theorem dX5_edge_169 : decode cX5_edge 169 = .ok (.putfield 153, 3) := by decide +kernel
theorem dX5_edge_172 : decode cX5_edge 172 = .ok (.aload_n 0, 1) := by decide +kernel
theorem dX5_edge_173 : decode cX5_edge 173 = .ok (.getfield 35, 3) := by decide +kernel
theorem dX5_edge_176 : decode cX5_edge 176 = .ok (.iload_n 3, 1) := by decide +kernel
theorem dX5_edge_177 : decode cX5_edge 177 = .ok (.aload_n 0, 1) := by decide +kernel
theorem dX5_edge_178 : decode cX5_edge 178 = .ok (.getfield 35, 3) := by decide +kernel
theorem dX5_edge_181 : decode cX5_edge 181 = .ok (.aload_n 0, 1) := by decide +kernel
theorem dX5_edge_182 : decode cX5_edge 182 = .ok (.getfield 153, 3) := by decide +kernel
theorem dX5_edge_185 : decode cX5_edge 185 = .ok (.iaload, 1) := by decide +kernel
theorem dX5_edge_186 : decode cX5_edge 186 = .ok (.iastore, 1) := by decide +kernel
theorem dX5_edge_187 : decode cX5_edge 187 = .ok (.aload_n 0, 1) := by decide +kernel
theorem dX5_edge_188 : decode cX5_edge 188 = .ok (.getfield 38, 3) := by decide +kernel
theorem dX5_edge_191 : decode cX5_edge 191 = .ok (.iload_n 3, 1) := by decide +kernel
theorem dX5_edge_192 : decode cX5_edge 192 = .ok (.aload_n 0, 1) := by decide +kernel
theorem dX5_edge_193 : decode cX5_edge 193 = .ok (.getfield 38, 3) := by decide +kernel
theorem dX5_edge_196 : decode cX5_edge 196 = .ok (.aload_n 0, 1) := by decide +kernel
theorem dX5_edge_197 : decode cX5_edge 197 = .ok (.getfield 153, 3) := by decide +kernel
theorem dX5_edge_200 : decode cX5_edge 200 = .ok (.iaload, 1) := by decide +kernel
theorem dX5_edge_201 : decode cX5_edge 201 = .ok (.iastore, 1) := by decide +kernel
theorem dX5_edge_202 : decode cX5_edge 202 = .ok (.aload_n 0, 1) := by decide +kernel
theorem dX5_edge_203 : decode cX5_edge 203 = .ok (.getfield 153, 3) := by decide +kernel
theorem dX5_edge_206 : decode cX5_edge 206 = .ok (.ireturn, 1) := by decide +kernel
set_option maxRecDepth 20000 in
theorem ggX5_colourings_X5_in : GoodIn wsX5_colourings wsX5_in := goodIn_r _ [8] (by decide +kernel) (by decide +kernel)
set_option maxRecDepth 20000 in
theorem gX5_colourings_X5_in : GoodIn wsX5_colourings (va_wsS RX5 54 yX5_in wsX5_in) := goodIn_app (goodIn_of _ (by decide +kernel)) ggX5_colourings_X5_in
set_option maxRecDepth 20000 in
theorem ggX5_colourings_X5_fails : GoodIn wsX5_colourings wsX5_fails := goodIn_r _ [12, 13, 14, 15, 16, 17, 18, 19, 20, 21, 22, 23, 24, 25, 26, 27, 28, 29, 30, 31, 32] (by decide +kernel) (by decide +kernel)
set_option maxRecDepth 20000 in
theorem gX5_colourings_X5_fails : GoodIn wsX5_colourings (wsV RX5 62 RX5 yX5_fails wsX5_fails) := goodIn_app (goodIn_of _ (by decide +kernel)) ggX5_colourings_X5_fails
theorem dX5_colourings_0 : decode cX5_colourings 0 = .ok (.aload_n 0, 1) := by decide +kernel
theorem dX5_colourings_1 : decode cX5_colourings 1 = .ok (.iload_n 1, 1) := by decide +kernel
theorem dX5_colourings_2 : decode cX5_colourings 2 = .ok (.iconst 0, 1) := by decide +kernel
theorem dX5_colourings_3 : decode cX5_colourings 3 = .ok (.bipush 6, 2) := by decide +kernel
theorem dX5_colourings_5 : decode cX5_colourings 5 = .ok (.invokestatic 54, 3) := by decide +kernel
theorem dX5_colourings_8 : decode cX5_colourings 8 = .ok (.iconst 1, 1) := by decide +kernel
theorem dX5_colourings_9 : decode cX5_colourings 9 = .ok (.invokevirtual 62, 3) := by decide +kernel
theorem dX5_colourings_12 : decode cX5_colourings 12 = .ok (.ifCond .eq 5, 3) := by decide +kernel
theorem dX5_colourings_15 : decode cX5_colourings 15 = .ok (.iconst 0, 1) := by decide +kernel
theorem dX5_colourings_16 : decode cX5_colourings 16 = .ok (.ireturn, 1) := by decide +kernel
theorem dX5_colourings_17 : decode cX5_colourings 17 = .ok (.iconst 1, 1) := by decide +kernel
theorem dX5_colourings_18 : decode cX5_colourings 18 = .ok (.istore_n 2, 1) := by decide +kernel
theorem dX5_colourings_19 : decode cX5_colourings 19 = .ok (.iconst 0, 1) := by decide +kernel
theorem dX5_colourings_20 : decode cX5_colourings 20 = .ok (.istore_n 3, 1) := by decide +kernel
theorem dX5_colourings_21 : decode cX5_colourings 21 = .ok (.iload_n 3, 1) := by decide +kernel
theorem dX5_colourings_22 : decode cX5_colourings 22 = .ok (.bipush 6, 2) := by decide +kernel
theorem dX5_colourings_24 : decode cX5_colourings 24 = .ok (.if_icmp .ge 13, 3) := by decide +kernel
theorem dX5_colourings_27 : decode cX5_colourings 27 = .ok (.iload_n 2, 1) := by decide +kernel
theorem dX5_colourings_28 : decode cX5_colourings 28 = .ok (.iload_n 1, 1) := by decide +kernel
theorem dX5_colourings_29 : decode cX5_colourings 29 = .ok (.imul, 1) := by decide +kernel
theorem dX5_colourings_30 : decode cX5_colourings 30 = .ok (.istore_n 2, 1) := by decide +kernel
theorem dX5_colourings_31 : decode cX5_colourings 31 = .ok (.iinc 3 1, 3) := by decide +kernel
theorem dX5_colourings_34 : decode cX5_colourings 34 = .ok (.goto (-13), 3) := by decide +kernel
theorem dX5_colourings_37 : decode cX5_colourings 37 = .ok (.iconst 0, 1) := by decide +kernel
theorem dX5_colourings_38 : decode cX5_colourings 38 = .ok (.istore_n 3, 1) := by decide +kernel
theorem dX5_colourings_39 : decode cX5_colourings 39 = .ok (.iconst 0, 1) := by decide +kernel
theorem dX5_colourings_40 : decode cX5_colourings 40 = .ok (.istore 4, 2) := by decide +kernel
theorem dX5_colourings_42 : decode cX5_colourings 42 = .ok (.iload 4, 2) := by decide +kernel
theorem dX5_colourings_44 : decode cX5_colourings 44 = .ok (.iload_n 2, 1) := by decide +kernel
theorem dX5_colourings_45 : decode cX5_colourings 45 = .ok (.if_icmp .ge 117, 3) := by decide +kernel
theorem dX5_colourings_48 : decode cX5_colourings 48 = .ok (.iload 4, 2) := by decide +kernel
theorem dX5_colourings_50 : decode cX5_colourings 50 = .ok (.istore 5, 2) := by decide +kernel
theorem dX5_colourings_52 : decode cX5_colourings 52 = .ok (.iconst 0, 1) := by decide +kernel
theorem dX5_colourings_53 : decode cX5_colourings 53 = .ok (.istore 6, 2) := by decide +kernel
theorem dX5_colourings_55 : decode cX5_colourings 55 = .ok (.iload 6, 2) := by decide +kernel
theorem dX5_colourings_57 : decode cX5_colourings 57 = .ok (.bipush 6, 2) := by decide +kernel
theorem dX5_colourings_59 : decode cX5_colourings 59 = .ok (.if_icmp .ge 26, 3) := by decide +kernel
theorem dX5_colourings_62 : decode cX5_colourings 62 = .ok (.aload_n 0, 1) := by decide +kernel
theorem dX5_colourings_63 : decode cX5_colourings 63 = .ok (.getfield 41, 3) := by decide +kernel
theorem dX5_colourings_66 : decode cX5_colourings 66 = .ok (.iload 6, 2) := by decide +kernel
theorem dX5_colourings_68 : decode cX5_colourings 68 = .ok (.iload 5, 2) := by decide +kernel
theorem dX5_colourings_70 : decode cX5_colourings 70 = .ok (.iload_n 1, 1) := by decide +kernel
theorem dX5_colourings_71 : decode cX5_colourings 71 = .ok (.irem, 1) := by decide +kernel
theorem dX5_colourings_72 : decode cX5_colourings 72 = .ok (.iastore, 1) := by decide +kernel
theorem dX5_colourings_73 : decode cX5_colourings 73 = .ok (.iload 5, 2) := by decide +kernel
theorem dX5_colourings_75 : decode cX5_colourings 75 = .ok (.iload_n 1, 1) := by decide +kernel
theorem dX5_colourings_76 : decode cX5_colourings 76 = .ok (.idiv, 1) := by decide +kernel
theorem dX5_colourings_77 : decode cX5_colourings 77 = .ok (.istore 5, 2) := by decide +kernel
theorem dX5_colourings_79 : decode cX5_colourings 79 = .ok (.iinc 6 1, 3) := by decide +kernel
theorem dX5_colourings_82 : decode cX5_colourings 82 = .ok (.goto (-27), 3) := by decide +kernel
theorem dX5_colourings_85 : decode cX5_colourings 85 = .ok (.iconst 1, 1) := by decide +kernel
theorem dX5_colourings_86 : decode cX5_colourings 86 = .ok (.istore 6, 2) := by decide +kernel
theorem dX5_colourings_88 : decode cX5_colourings 88 = .ok (.iconst 0, 1) := by decide +kernel
theorem dX5_colourings_89 : decode cX5_colourings 89 = .ok (.istore 7, 2) := by decide +kernel
theorem dX5_colourings_91 : decode cX5_colourings 91 = .ok (.iload 7, 2) := by decide +kernel
theorem dX5_colourings_93 : decode cX5_colourings 93 = .ok (.aload_n 0, 1) := by decide +kernel
theorem dX5_colourings_94 : decode cX5_colourings 94 = .ok (.getfield 153, 3) := by decide +kernel
theorem dX5_colourings_97 : decode cX5_colourings 97 = .ok (.if_icmp .ge 46, 3) := by decide +kernel
theorem dX5_colourings_100 : decode cX5_colourings 100 = .ok (.iload 6, 2) := by decide +kernel
theorem dX5_colourings_102 : decode cX5_colourings 102 = .ok (.aload_n 0, 1) := by decide +kernel
theorem dX5_colourings_103 : decode cX5_colourings 103 = .ok (.getfield 41, 3) := by decide +kernel
theorem dX5_colourings_106 : decode cX5_colourings 106 = .ok (.aload_n 0, 1) := by decide +kernel
theorem dX5_colourings_107 : decode cX5_colourings 107 = .ok (.getfield 35, 3) := by decide +kernel
theorem dX5_colourings_110 : decode cX5_colourings 110 = .ok (.iload 7, 2) := by decide +kernel
theorem dX5_colourings_112 : decode cX5_colourings 112 = .ok (.iaload, 1) := by decide +kernel
theorem dX5_colourings_113 : decode cX5_colourings 113 = .ok (.iaload, 1) := by decide +kernel
theorem dX5_colourings_114 : decode cX5_colourings 114 = .ok (.aload_n 0, 1) := by decide +kernel
theorem dX5_colourings_115 : decode cX5_colourings 115 = .ok (.getfield 41, 3) := by decide +kernel
theorem dX5_colourings_118 : decode cX5_colourings 118 = .ok (.aload_n 0, 1) := by decide +kernel
theorem dX5_colourings_119 : decode cX5_colourings 119 = .ok (.getfield 38, 3) := by decide +kernel
theorem dX5_colourings_122 : decode cX5_colourings 122 = .ok (.iload 7, 2) := by decide +kernel
theorem dX5_colourings_124 : decode cX5_colourings 124 = .ok (.iaload, 1) := by decide +kernel
theorem dX5_colourings_125 : decode cX5_colourings 125 = .ok (.iaload, 1) := by decide +kernel
theorem dX5_colourings_126 : decode cX5_colourings 126 = .ok (.if_icmp .eq 7, 3) := by decide +kernel
theorem dX5_colourings_129 : decode cX5_colourings 129 = .ok (.iconst 1, 1) := by decide +kernel
theorem dX5_colourings_130 : decode cX5_colourings 130 = .ok (.goto 4, 3) := by decide +kernel
theorem dX5_colourings_133 : decode cX5_colourings 133 = .ok (.iconst 0, 1) := by decide +kernel
theorem dX5_colourings_134 : decode cX5_colourings 134 = .ok (.iand, 1) := by decide +kernel
theorem dX5_colourings_135 : decode cX5_colourings 135 = .ok (.istore 6, 2) := by decide +kernel
theorem dX5_colourings_137 : decode cX5_colourings 137 = .ok (.iinc 7 1, 3) := by decide +kernel
theorem dX5_colourings_140 : decode cX5_colourings 140 = .ok (.goto (-49), 3) := by decide +kernel
theorem dX5_colourings_143 : decode cX5_colourings 143 = .ok (.iload_n 3, 1) := by decide +kernel
theorem dX5_colourings_144 : decode cX5_colourings 144 = .ok (.iload 6, 2) := by decide +kernel
theorem dX5_colourings_146 : decode cX5_colourings 146 = .ok (.ifCond .eq 7, 3) := by decide +kernel
theorem dX5_colourings_149 : decode cX5_colourings 149 = .ok (.iconst 1, 1) := by decide +kernel
theorem dX5_colourings_150 : decode cX5_colourings 150 = .ok (.goto 4, 3) := by decide +kernel
theorem dX5_colourings_153 : decode cX5_colourings 153 = .ok (.iconst 0, 1) := by decide +kernel
theorem dX5_colourings_154 : decode cX5_colourings 154 = .ok (.iadd, 1) := by decide +kernel
theorem dX5_colourings_155 : decode cX5_colourings 155 = .ok (.istore_n 3, 1) := by decide +kernel
theorem dX5_colourings_156 : decode cX5_colourings 156 = .ok (.iinc 4 1, 3) := by decide +kernel
theorem dX5_colourings_159 : decode cX5_colourings 159 = .ok (.goto (-117), 3) := by decide +kernel
theorem dX5_colourings_162 : decode cX5_colourings 162 = .ok (.iload_n 3, 1) := by decide +kernel
theorem dX5_colourings_163 : decode cX5_colourings 163 = .ok (.ireturn, 1) := by decide +kernel
theorem dX5_sum_0 : decode cX5_sum 0 = .ok (.iconst 0, 1) := by decide +kernel
theorem dX5_sum_1 : decode cX5_sum 1 = .ok (.istore_n 2, 1) := by decide +kernel
theorem dX5_sum_2 : decode cX5_sum 2 = .ok (.iconst 0, 1) := by decide +kernel
theorem dX5_sum_3 : decode cX5_sum 3 = .ok (.istore_n 3, 1) := by decide +kernel
theorem dX5_sum_4 : decode cX5_sum 4 = .ok (.iload_n 3, 1) := by decide +kernel
theorem dX5_sum_5 : decode cX5_sum 5 = .ok (.iconst 1, 1) := by decide +kernel
theorem dX5_sum_6 : decode cX5_sum 6 = .ok (.aload_n 0, 1) := by decide +kernel
theorem dX5_sum_7 : decode cX5_sum 7 = .ok (.getfield 153, 3) := by decide +kernel
theorem dX5_sum_10 : decode cX5_sum 10 = .ok (.ishl, 1) := by decide +kernel
theorem dX5_sum_11 : decode cX5_sum 11 = .ok (.if_icmp .ge 193, 3) := by decide +kernel
theorem dX5_sum_14 : decode cX5_sum 14 = .ok (.iconst 0, 1) := by decide +kernel
theorem dX5_sum_15 : decode cX5_sum 15 = .ok (.istore 4, 2) := by decide +kernel
theorem dX5_sum_17 : decode cX5_sum 17 = .ok (.iload 4, 2) := by decide +kernel
theorem dX5_sum_19 : decode cX5_sum 19 = .ok (.bipush 6, 2) := by decide +kernel
theorem dX5_sum_21 : decode cX5_sum 21 = .ok (.if_icmp .ge 18, 3) := by decide +kernel
theorem dX5_sum_24 : decode cX5_sum 24 = .ok (.aload_n 0, 1) := by decide +kernel
theorem dX5_sum_25 : decode cX5_sum 25 = .ok (.getfield 44, 3) := by decide +kernel
theorem dX5_sum_28 : decode cX5_sum 28 = .ok (.iload 4, 2) := by decide +kernel
theorem dX5_sum_30 : decode cX5_sum 30 = .ok (.iload 4, 2) := by decide +kernel
theorem dX5_sum_32 : decode cX5_sum 32 = .ok (.iastore, 1) := by decide +kernel
theorem dX5_sum_33 : decode cX5_sum 33 = .ok (.iinc 4 1, 3) := by decide +kernel
theorem dX5_sum_36 : decode cX5_sum 36 = .ok (.goto (-19), 3) := by decide +kernel
theorem dX5_sum_39 : decode cX5_sum 39 = .ok (.iconst 1, 1) := by decide +kernel
theorem dX5_sum_40 : decode cX5_sum 40 = .ok (.istore 4, 2) := by decide +kernel
theorem dX5_sum_42 : decode cX5_sum 42 = .ok (.bipush 6, 2) := by decide +kernel
theorem dX5_sum_44 : decode cX5_sum 44 = .ok (.istore 5, 2) := by decide +kernel
theorem dX5_sum_46 : decode cX5_sum 46 = .ok (.iconst 0, 1) := by decide +kernel
theorem dX5_sum_47 : decode cX5_sum 47 = .ok (.istore 6, 2) := by decide +kernel
theorem dX5_sum_49 : decode cX5_sum 49 = .ok (.iload 6, 2) := by decide +kernel
theorem dX5_sum_51 : decode cX5_sum 51 = .ok (.aload_n 0, 1) := by decide +kernel
theorem dX5_sum_52 : decode cX5_sum 52 = .ok (.getfield 153, 3) := by decide +kernel
theorem dX5_sum_55 : decode cX5_sum 55 = .ok (.if_icmp .ge 116, 3) := by decide +kernel
theorem dX5_sum_58 : decode cX5_sum 58 = .ok (.iload_n 3, 1) := by decide +kernel
theorem dX5_sum_59 : decode cX5_sum 59 = .ok (.iload 6, 2) := by decide +kernel
theorem dX5_sum_61 : decode cX5_sum 61 = .ok (.ishr, 1) := by decide +kernel
theorem dX5_sum_62 : decode cX5_sum 62 = .ok (.iconst 1, 1) := by decide +kernel
theorem dX5_sum_63 : decode cX5_sum 63 = .ok (.iand, 1) := by decide +kernel
theorem dX5_sum_64 : decode cX5_sum 64 = .ok (.iconst 1, 1) := by decide +kernel
theorem dX5_sum_65 : decode cX5_sum 65 = .ok (.if_icmp .ne 100, 3) := by decide +kernel
theorem dX5_sum_68 : decode cX5_sum 68 = .ok (.aload_n 0, 1) := by decide +kernel
theorem dX5_sum_69 : decode cX5_sum 69 = .ok (.getfield 44, 3) := by decide +kernel
theorem dX5_sum_72 : decode cX5_sum 72 = .ok (.aload_n 0, 1) := by decide +kernel
theorem dX5_sum_73 : decode cX5_sum 73 = .ok (.getfield 35, 3) := by decide +kernel
theorem dX5_sum_76 : decode cX5_sum 76 = .ok (.iload 6, 2) := by decide +kernel
theorem dX5_sum_78 : decode cX5_sum 78 = .ok (.iaload, 1) := by decide +kernel
theorem dX5_sum_79 : decode cX5_sum 79 = .ok (.iaload, 1) := by decide +kernel
theorem dX5_sum_80 : decode cX5_sum 80 = .ok (.istore 7, 2) := by decide +kernel
theorem dX5_sum_82 : decode cX5_sum 82 = .ok (.aload_n 0, 1) := by decide +kernel
theorem dX5_sum_83 : decode cX5_sum 83 = .ok (.getfield 44, 3) := by decide +kernel
theorem dX5_sum_86 : decode cX5_sum 86 = .ok (.aload_n 0, 1) := by decide +kernel
theorem dX5_sum_87 : decode cX5_sum 87 = .ok (.getfield 38, 3) := by decide +kernel
theorem dX5_sum_90 : decode cX5_sum 90 = .ok (.iload 6, 2) := by decide +kernel
theorem dX5_sum_92 : decode cX5_sum 92 = .ok (.iaload, 1) := by decide +kernel
theorem dX5_sum_93 : decode cX5_sum 93 = .ok (.iaload, 1) := by decide +kernel
theorem dX5_sum_94 : decode cX5_sum 94 = .ok (.istore 8, 2) := by decide +kernel
theorem dX5_sum_96 : decode cX5_sum 96 = .ok (.iload 5, 2) := by decide +kernel
theorem dX5_sum_98 : decode cX5_sum 98 = .ok (.iload 7, 2) := by decide +kernel
theorem dX5_sum_100 : decode cX5_sum 100 = .ok (.iload 8, 2) := by decide +kernel
theorem dX5_sum_102 : decode cX5_sum 102 = .ok (.if_icmp .ne 7, 3) := by decide +kernel
theorem dX5_sum_105 : decode cX5_sum 105 = .ok (.iconst 0, 1) := by decide +kernel
theorem dX5_sum_106 : decode cX5_sum 106 = .ok (.goto 4, 3) := by decide +kernel
theorem dX5_sum_109 : decode cX5_sum 109 = .ok (.iconst 1, 1) := by decide +kernel
theorem dX5_sum_110 : decode cX5_sum 110 = .ok (.isub, 1) := by decide +kernel
theorem dX5_sum_111 : decode cX5_sum 111 = .ok (.istore 5, 2) := by decide +kernel
theorem dX5_sum_113 : decode cX5_sum 113 = .ok (.iload 4, 2) := by decide +kernel
theorem dX5_sum_115 : decode cX5_sum 115 = .ok (.ineg, 1) := by decide +kernel
theorem dX5_sum_116 : decode cX5_sum 116 = .ok (.istore 4, 2) := by decide +kernel
theorem dX5_sum_118 : decode cX5_sum 118 = .ok (.iconst 0, 1) := by decide +kernel
theorem dX5_sum_119 : decode cX5_sum 119 = .ok (.istore 9, 2) := by decide +kernel
theorem dX5_sum_121 : decode cX5_sum 121 = .ok (.iload 9, 2) := by decide +kernel
theorem dX5_sum_123 : decode cX5_sum 123 = .ok (.bipush 6, 2) := by decide +kernel
theorem dX5_sum_125 : decode cX5_sum 125 = .ok (.if_icmp .ge 40, 3) := by decide +kernel
theorem dX5_sum_128 : decode cX5_sum 128 = .ok (.aload_n 0, 1) := by decide +kernel
theorem dX5_sum_129 : decode cX5_sum 129 = .ok (.getfield 44, 3) := by decide +kernel
theorem dX5_sum_132 : decode cX5_sum 132 = .ok (.iload 9, 2) := by decide +kernel
theorem dX5_sum_134 : decode cX5_sum 134 = .ok (.aload_n 0, 1) := by decide +kernel
theorem dX5_sum_135 : decode cX5_sum 135 = .ok (.getfield 44, 3) := by decide +kernel
theorem dX5_sum_138 : decode cX5_sum 138 = .ok (.iload 9, 2) := by decide +kernel
theorem dX5_sum_140 : decode cX5_sum 140 = .ok (.iaload, 1) := by decide +kernel
theorem dX5_sum_141 : decode cX5_sum 141 = .ok (.iload 7, 2) := by decide +kernel
theorem dX5_sum_143 : decode cX5_sum 143 = .ok (.if_icmp .ne 8, 3) := by decide +kernel
theorem dX5_sum_146 : decode cX5_sum 146 = .ok (.iload 8, 2) := by decide +kernel
theorem dX5_sum_148 : decode cX5_sum 148 = .ok (.goto 10, 3) := by decide +kernel
theorem dX5_sum_151 : decode cX5_sum 151 = .ok (.aload_n 0, 1) := by decide +kernel
theorem dX5_sum_152 : decode cX5_sum 152 = .ok (.getfield 44, 3) := by decide +kernel
theorem dX5_sum_155 : decode cX5_sum 155 = .ok (.iload 9, 2) := by decide +kernel
theorem dX5_sum_157 : decode cX5_sum 157 = .ok (.iaload, 1) := by decide +kernel
theorem dX5_sum_158 : decode cX5_sum 158 = .ok (.iastore, 1) := by decide +kernel
theorem dX5_sum_159 : decode cX5_sum 159 = .ok (.iinc 9 1, 3) := by decide +kernel
theorem dX5_sum_162 : decode cX5_sum 162 = .ok (.goto (-41), 3) := by decide +kernel
theorem dX5_sum_165 : decode cX5_sum 165 = .ok (.iinc 6 1, 3) := by decide +kernel
theorem dX5_sum_168 : decode cX5_sum 168 = .ok (.goto (-119), 3) := by decide +kernel
theorem dX5_sum_171 : decode cX5_sum 171 = .ok (.iconst 0, 1) := by decide +kernel
theorem dX5_sum_172 : decode cX5_sum 172 = .ok (.istore 6, 2) := by decide +kernel
theorem dX5_sum_174 : decode cX5_sum 174 = .ok (.iload 6, 2) := by decide +kernel
theorem dX5_sum_176 : decode cX5_sum 176 = .ok (.iload 5, 2) := by decide +kernel
theorem dX5_sum_178 : decode cX5_sum 178 = .ok (.if_icmp .ge 15, 3) := by decide +kernel
theorem dX5_sum_181 : decode cX5_sum 181 = .ok (.iload 4, 2) := by decide +kernel
theorem dX5_sum_183 : decode cX5_sum 183 = .ok (.iload_n 1, 1) := by decide +kernel
theorem dX5_sum_184 : decode cX5_sum 184 = .ok (.imul, 1) := by decide +kernel
theorem dX5_sum_185 : decode cX5_sum 185 = .ok (.istore 4, 2) := by decide +kernel
theorem dX5_sum_187 : decode cX5_sum 187 = .ok (.iinc 6 1, 3) := by decide +kernel
theorem dX5_sum_190 : decode cX5_sum 190 = .ok (.goto (-16), 3) := by decide +kernel
theorem dX5_sum_193 : decode cX5_sum 193 = .ok (.iload_n 2, 1) := by decide +kernel
theorem dX5_sum_194 : decode cX5_sum 194 = .ok (.iload 4, 2) := by decide +kernel
theorem dX5_sum_196 : decode cX5_sum 196 = .ok (.iadd, 1) := by decide +kernel
theorem dX5_sum_197 : decode cX5_sum 197 = .ok (.istore_n 2, 1) := by decide +kernel
theorem dX5_sum_198 : decode cX5_sum 198 = .ok (.iinc 3 1, 3) := by decide +kernel
theorem dX5_sum_201 : decode cX5_sum 201 = .ok (.goto (-197), 3) := by decide +kernel
theorem dX5_sum_204 : decode cX5_sum 204 = .ok (.iload_n 2, 1) := by decide +kernel
theorem dX5_sum_205 : decode cX5_sum 205 = .ok (.ireturn, 1) := by decide +kernel
set_option maxRecDepth 20000 in
theorem ggX5_colouringsAnew_X5_in : GoodIn wsX5_colouringsAnew wsX5_in := goodIn_r _ [4] (by decide +kernel) (by decide +kernel)
set_option maxRecDepth 20000 in
theorem gX5_colouringsAnew_X5_in : GoodIn wsX5_colouringsAnew (va_wsS RX5 54 yX5_in wsX5_in) := goodIn_app (goodIn_of _ (by decide +kernel)) ggX5_colouringsAnew_X5_in
set_option maxRecDepth 20000 in
theorem ggX5_colouringsAnew_X5_fails : GoodIn wsX5_colouringsAnew wsX5_fails := goodIn_r _ [8, 9, 18, 19, 20, 21, 22, 23, 24, 25, 26, 27, 28, 29, 30, 31, 32, 33, 34, 35, 36] (by decide +kernel) (by decide +kernel)
set_option maxRecDepth 20000 in
theorem gX5_colouringsAnew_X5_fails : GoodIn wsX5_colouringsAnew (wsV RX5 62 RX5 yX5_fails wsX5_fails) := goodIn_app (goodIn_of _ (by decide +kernel)) ggX5_colouringsAnew_X5_fails
set_option maxRecDepth 20000 in
theorem ggX5_colouringsAnew_X5_sum : GoodIn wsX5_colouringsAnew wsX5_sum := goodIn_r _ [13, 14, 15, 16, 17, 18, 19, 20, 21, 22, 23, 24, 25, 26, 27, 28, 29, 30, 31, 32, 33, 34, 35, 36] (by decide +kernel) (by decide +kernel)
set_option maxRecDepth 20000 in
theorem gX5_colouringsAnew_X5_sum : GoodIn wsX5_colouringsAnew (wsV RX5 156 RX5 yX5_sum wsX5_sum) := goodIn_app (goodIn_of _ (by decide +kernel)) ggX5_colouringsAnew_X5_sum
theorem dX5_colouringsAnew_0 : decode cX5_colouringsAnew 0 = .ok (.aload_n 0, 1) := by decide +kernel
theorem dX5_colouringsAnew_1 : decode cX5_colouringsAnew 1 = .ok (.iload_n 1, 1) := by decide +kernel
theorem dX5_colouringsAnew_2 : decode cX5_colouringsAnew 2 = .ok (.iconst 0, 1) := by decide +kernel
theorem dX5_colouringsAnew_3 : decode cX5_colouringsAnew 3 = .ok (.bipush 6, 2) := by decide +kernel
theorem dX5_colouringsAnew_5 : decode cX5_colouringsAnew 5 = .ok (.invokestatic 54, 3) := by decide +kernel
theorem dX5_colouringsAnew_8 : decode cX5_colouringsAnew 8 = .ok (.iconst 1, 1) := by decide +kernel
theorem dX5_colouringsAnew_9 : decode cX5_colouringsAnew 9 = .ok (.invokevirtual 62, 3) := by decide +kernel
theorem dX5_colouringsAnew_12 : decode cX5_colouringsAnew 12 = .ok (.ifCond .eq 5, 3) := by decide +kernel
theorem dX5_colouringsAnew_15 : decode cX5_colouringsAnew 15 = .ok (.iconst 0, 1) := by decide +kernel
theorem dX5_colouringsAnew_16 : decode cX5_colouringsAnew 16 = .ok (.ireturn, 1) := by decide +kernel
theorem dX5_colouringsAnew_17 : decode cX5_colouringsAnew 17 = .ok (.aload_n 0, 1) := by decide +kernel
theorem dX5_colouringsAnew_18 : decode cX5_colouringsAnew 18 = .ok (.iload_n 1, 1) := by decide +kernel
theorem dX5_colouringsAnew_19 : decode cX5_colouringsAnew 19 = .ok (.invokevirtual 156, 3) := by decide +kernel
theorem dX5_colouringsAnew_22 : decode cX5_colouringsAnew 22 = .ok (.ireturn, 1) := by decide +kernel
theorem dX5_directions_0 : decode cX5_directions 0 = .ok (.aload_n 0, 1) := by decide +kernel
theorem dX5_directions_1 : decode cX5_directions 1 = .ok (.iconst 0, 1) := by decide +kernel
theorem dX5_directions_2 : decode cX5_directions 2 = .ok (.putfield 47, 3) := by decide +kernel
theorem dX5_directions_5 : decode cX5_directions 5 = .ok (.iconst 0, 1) := by decide +kernel
theorem dX5_directions_6 : decode cX5_directions 6 = .ok (.istore_n 1, 1) := by decide +kernel
theorem dX5_directions_7 : decode cX5_directions 7 = .ok (.iconst 0, 1) := by decide +kernel
theorem dX5_directions_8 : decode cX5_directions 8 = .ok (.istore_n 2, 1) := by decide +kernel
theorem dX5_directions_9 : decode cX5_directions 9 = .ok (.iload_n 2, 1) := by decide +kernel
theorem dX5_directions_10 : decode cX5_directions 10 = .ok (.iconst 1, 1) := by decide +kernel
theorem dX5_directions_11 : decode cX5_directions 11 = .ok (.aload_n 0, 1) := by decide +kernel
theorem dX5_directions_12 : decode cX5_directions 12 = .ok (.getfield 153, 3) := by decide +kernel
theorem dX5_directions_15 : decode cX5_directions 15 = .ok (.ishl, 1) := by decide +kernel
theorem dX5_directions_16 : decode cX5_directions 16 = .ok (.if_icmp .ge 150, 3) := by decide +kernel
theorem dX5_directions_19 : decode cX5_directions 19 = .ok (.bipush 63, 2) := by decide +kernel
theorem dX5_directions_21 : decode cX5_directions 21 = .ok (.istore_n 3, 1) := by decide +kernel
theorem dX5_directions_22 : decode cX5_directions 22 = .ok (.iconst 0, 1) := by decide +kernel
theorem dX5_directions_23 : decode cX5_directions 23 = .ok (.istore 4, 2) := by decide +kernel
theorem dX5_directions_25 : decode cX5_directions 25 = .ok (.iload 4, 2) := by decide +kernel
theorem dX5_directions_27 : decode cX5_directions 27 = .ok (.bipush 6, 2) := by decide +kernel
theorem dX5_directions_29 : decode cX5_directions 29 = .ok (.if_icmp .ge 119, 3) := by decide +kernel
theorem dX5_directions_32 : decode cX5_directions 32 = .ok (.iconst 0, 1) := by decide +kernel
theorem dX5_directions_33 : decode cX5_directions 33 = .ok (.istore 5, 2) := by decide +kernel
theorem dX5_directions_35 : decode cX5_directions 35 = .ok (.iconst 0, 1) := by decide +kernel
theorem dX5_directions_36 : decode cX5_directions 36 = .ok (.istore 6, 2) := by decide +kernel
theorem dX5_directions_38 : decode cX5_directions 38 = .ok (.iload 6, 2) := by decide +kernel
theorem dX5_directions_40 : decode cX5_directions 40 = .ok (.aload_n 0, 1) := by decide +kernel
theorem dX5_directions_41 : decode cX5_directions 41 = .ok (.getfield 153, 3) := by decide +kernel
theorem dX5_directions_44 : decode cX5_directions 44 = .ok (.if_icmp .ge 93, 3) := by decide +kernel
theorem dX5_directions_47 : decode cX5_directions 47 = .ok (.iload_n 2, 1) := by decide +kernel
theorem dX5_directions_48 : decode cX5_directions 48 = .ok (.iload 6, 2) := by decide +kernel
theorem dX5_directions_50 : decode cX5_directions 50 = .ok (.ishr, 1) := by decide +kernel
theorem dX5_directions_51 : decode cX5_directions 51 = .ok (.iconst 1, 1) := by decide +kernel
theorem dX5_directions_52 : decode cX5_directions 52 = .ok (.iand, 1) := by decide +kernel
theorem dX5_directions_53 : decode cX5_directions 53 = .ok (.iconst 1, 1) := by decide +kernel
theorem dX5_directions_54 : decode cX5_directions 54 = .ok (.if_icmp .ne 7, 3) := by decide +kernel
theorem dX5_directions_57 : decode cX5_directions 57 = .ok (.iconst 1, 1) := by decide +kernel
theorem dX5_directions_58 : decode cX5_directions 58 = .ok (.goto 4, 3) := by decide +kernel
theorem dX5_directions_61 : decode cX5_directions 61 = .ok (.iconst 0, 1) := by decide +kernel
theorem dX5_directions_62 : decode cX5_directions 62 = .ok (.istore 7, 2) := by decide +kernel
theorem dX5_directions_64 : decode cX5_directions 64 = .ok (.iload 7, 2) := by decide +kernel
theorem dX5_directions_66 : decode cX5_directions 66 = .ok (.ifCond .eq 13, 3) := by decide +kernel
theorem dX5_directions_69 : decode cX5_directions 69 = .ok (.aload_n 0, 1) := by decide +kernel
theorem dX5_directions_70 : decode cX5_directions 70 = .ok (.getfield 38, 3) := by decide +kernel
theorem dX5_directions_73 : decode cX5_directions 73 = .ok (.iload 6, 2) := by decide +kernel
theorem dX5_directions_75 : decode cX5_directions 75 = .ok (.iaload, 1) := by decide +kernel
theorem dX5_directions_76 : decode cX5_directions 76 = .ok (.goto 10, 3) := by decide +kernel
theorem dX5_directions_79 : decode cX5_directions 79 = .ok (.aload_n 0, 1) := by decide +kernel
theorem dX5_directions_80 : decode cX5_directions 80 = .ok (.getfield 35, 3) := by decide +kernel
theorem dX5_directions_83 : decode cX5_directions 83 = .ok (.iload 6, 2) := by decide +kernel
theorem dX5_directions_85 : decode cX5_directions 85 = .ok (.iaload, 1) := by decide +kernel
theorem dX5_directions_86 : decode cX5_directions 86 = .ok (.istore 8, 2) := by decide +kernel
theorem dX5_directions_88 : decode cX5_directions 88 = .ok (.iload 5, 2) := by decide +kernel
theorem dX5_directions_90 : decode cX5_directions 90 = .ok (.iload_n 3, 1) := by decide +kernel
theorem dX5_directions_91 : decode cX5_directions 91 = .ok (.iload 8, 2) := by decide +kernel
theorem dX5_directions_93 : decode cX5_directions 93 = .ok (.ishr, 1) := by decide +kernel
theorem dX5_directions_94 : decode cX5_directions 94 = .ok (.iconst 1, 1) := by decide +kernel
theorem dX5_directions_95 : decode cX5_directions 95 = .ok (.iand, 1) := by decide +kernel
theorem dX5_directions_96 : decode cX5_directions 96 = .ok (.iconst 1, 1) := by decide +kernel
theorem dX5_directions_97 : decode cX5_directions 97 = .ok (.if_icmp .ne 30, 3) := by decide +kernel
theorem dX5_directions_100 : decode cX5_directions 100 = .ok (.iconst 1, 1) := by decide +kernel
theorem dX5_directions_101 : decode cX5_directions 101 = .ok (.iload 7, 2) := by decide +kernel
theorem dX5_directions_103 : decode cX5_directions 103 = .ok (.ifCond .eq 13, 3) := by decide +kernel
theorem dX5_directions_106 : decode cX5_directions 106 = .ok (.aload_n 0, 1) := by decide +kernel
theorem dX5_directions_107 : decode cX5_directions 107 = .ok (.getfield 35, 3) := by decide +kernel
theorem dX5_directions_110 : decode cX5_directions 110 = .ok (.iload 6, 2) := by decide +kernel
theorem dX5_directions_112 : decode cX5_directions 112 = .ok (.iaload, 1) := by decide +kernel
theorem dX5_directions_113 : decode cX5_directions 113 = .ok (.goto 10, 3) := by decide +kernel
theorem dX5_directions_116 : decode cX5_directions 116 = .ok (.aload_n 0, 1) := by decide +kernel
theorem dX5_directions_117 : decode cX5_directions 117 = .ok (.getfield 38, 3) := by decide +kernel
theorem dX5_directions_120 : decode cX5_directions 120 = .ok (.iload 6, 2) := by decide +kernel
theorem dX5_directions_122 : decode cX5_directions 122 = .ok (.iaload, 1) := by decide +kernel
theorem dX5_directions_123 : decode cX5_directions 123 = .ok (.ishl, 1) := by decide +kernel
theorem dX5_directions_124 : decode cX5_directions 124 = .ok (.goto 4, 3) := by decide +kernel
theorem dX5_directions_127 : decode cX5_directions 127 = .ok (.iconst 0, 1) := by decide +kernel
theorem dX5_directions_128 : decode cX5_directions 128 = .ok (.ior, 1) := by decide +kernel
theorem dX5_directions_129 : decode cX5_directions 129 = .ok (.istore 5, 2) := by decide +kernel
theorem dX5_directions_131 : decode cX5_directions 131 = .ok (.iinc 6 1, 3) := by decide +kernel
theorem dX5_directions_134 : decode cX5_directions 134 = .ok (.goto (-96), 3) := by decide +kernel
theorem dX5_directions_137 : decode cX5_directions 137 = .ok (.iload_n 3, 1) := by decide +kernel
theorem dX5_directions_138 : decode cX5_directions 138 = .ok (.iload 5, 2) := by decide +kernel
theorem dX5_directions_140 : decode cX5_directions 140 = .ok (.iand, 1) := by decide +kernel
theorem dX5_directions_141 : decode cX5_directions 141 = .ok (.istore_n 3, 1) := by decide +kernel
theorem dX5_directions_142 : decode cX5_directions 142 = .ok (.iinc 4 1, 3) := by decide +kernel
theorem dX5_directions_145 : decode cX5_directions 145 = .ok (.goto (-120), 3) := by decide +kernel
theorem dX5_directions_148 : decode cX5_directions 148 = .ok (.iload_n 1, 1) := by decide +kernel
theorem dX5_directions_149 : decode cX5_directions 149 = .ok (.iload_n 3, 1) := by decide +kernel
theorem dX5_directions_150 : decode cX5_directions 150 = .ok (.ifCond .ne 7, 3) := by decide +kernel
theorem dX5_directions_153 : decode cX5_directions 153 = .ok (.iconst 1, 1) := by decide +kernel
theorem dX5_directions_154 : decode cX5_directions 154 = .ok (.goto 4, 3) := by decide +kernel
theorem dX5_directions_157 : decode cX5_directions 157 = .ok (.iconst 0, 1) := by decide +kernel
theorem dX5_directions_158 : decode cX5_directions 158 = .ok (.iadd, 1) := by decide +kernel
theorem dX5_directions_159 : decode cX5_directions 159 = .ok (.istore_n 1, 1) := by decide +kernel
theorem dX5_directions_160 : decode cX5_directions 160 = .ok (.iinc 2 1, 3) := by decide +kernel
theorem dX5_directions_163 : decode cX5_directions 163 = .ok (.goto (-154), 3) := by decide +kernel
theorem dX5_directions_166 : decode cX5_directions 166 = .ok (.iload_n 1, 1) := by decide +kernel
theorem dX5_directions_167 : decode cX5_directions 167 = .ok (.ireturn, 1) := by decide +kernel
set_option maxRecDepth 20000 in
theorem ggX5_directionsAnew_X5_sum : GoodIn wsX5_directionsAnew wsX5_sum := goodIn_r _ [6, 7, 8, 9, 10, 11, 12, 13, 14, 15, 16, 17, 18, 19, 20, 21, 22, 23, 24, 25, 26, 27, 28, 29] (by decide +kernel) (by decide +kernel)
set_option maxRecDepth 20000 in
theorem gX5_directionsAnew_X5_sum : GoodIn wsX5_directionsAnew (wsV RX5 156 RX5 yX5_sum wsX5_sum) := goodIn_app (goodIn_of _ (by decide +kernel)) ggX5_directionsAnew_X5_sum
theorem dX5_directionsAnew_0 : decode cX5_directionsAnew 0 = .ok (.aload_n 0, 1) := by decide +kernel
theorem dX5_directionsAnew_1 : decode cX5_directionsAnew 1 = .ok (.iconst 0, 1) := by decide +kernel
theorem dX5_directionsAnew_2 : decode cX5_directionsAnew 2 = .ok (.putfield 47, 3) := by decide +kernel
theorem dX5_directionsAnew_5 : decode cX5_directionsAnew 5 = .ok (.aload_n 0, 1) := by decide +kernel
theorem dX5_directionsAnew_6 : decode cX5_directionsAnew 6 = .ok (.iconst (-1), 1) := by decide +kernel
theorem dX5_directionsAnew_7 : decode cX5_directionsAnew 7 = .ok (.invokevirtual 156, 3) := by decide +kernel
theorem dX5_directionsAnew_10 : decode cX5_directionsAnew 10 = .ok (.ireturn, 1) := by decide +kernel
theorem dJ6_bitCount_0f7a4_0 : decode cJ6_bitCount_0f7a4 0 = .ok (.iload_n 0, 1) := by decide +kernel
theorem dJ6_bitCount_0f7a4_1 : decode cJ6_bitCount_0f7a4 1 = .ok (.iload_n 0, 1) := by decide +kernel
theorem dJ6_bitCount_0f7a4_2 : decode cJ6_bitCount_0f7a4 2 = .ok (.iconst 1, 1) := by decide +kernel
theorem dJ6_bitCount_0f7a4_3 : decode cJ6_bitCount_0f7a4 3 = .ok (.iushr, 1) := by decide +kernel
theorem dJ6_bitCount_0f7a4_4 : decode cJ6_bitCount_0f7a4 4 = .ok (.ldc_w 265, 3) := by decide +kernel
theorem dJ6_bitCount_0f7a4_7 : decode cJ6_bitCount_0f7a4 7 = .ok (.iand, 1) := by decide +kernel
theorem dJ6_bitCount_0f7a4_8 : decode cJ6_bitCount_0f7a4 8 = .ok (.isub, 1) := by decide +kernel
theorem dJ6_bitCount_0f7a4_9 : decode cJ6_bitCount_0f7a4 9 = .ok (.istore_n 0, 1) := by decide +kernel
theorem dJ6_bitCount_0f7a4_10 : decode cJ6_bitCount_0f7a4 10 = .ok (.iload_n 0, 1) := by decide +kernel
theorem dJ6_bitCount_0f7a4_11 : decode cJ6_bitCount_0f7a4 11 = .ok (.ldc_w 266, 3) := by decide +kernel
theorem dJ6_bitCount_0f7a4_14 : decode cJ6_bitCount_0f7a4 14 = .ok (.iand, 1) := by decide +kernel
theorem dJ6_bitCount_0f7a4_15 : decode cJ6_bitCount_0f7a4 15 = .ok (.iload_n 0, 1) := by decide +kernel
theorem dJ6_bitCount_0f7a4_16 : decode cJ6_bitCount_0f7a4 16 = .ok (.iconst 2, 1) := by decide +kernel
theorem dJ6_bitCount_0f7a4_17 : decode cJ6_bitCount_0f7a4 17 = .ok (.iushr, 1) := by decide +kernel
theorem dJ6_bitCount_0f7a4_18 : decode cJ6_bitCount_0f7a4 18 = .ok (.ldc_w 266, 3) := by decide +kernel
theorem dJ6_bitCount_0f7a4_21 : decode cJ6_bitCount_0f7a4 21 = .ok (.iand, 1) := by decide +kernel
theorem dJ6_bitCount_0f7a4_22 : decode cJ6_bitCount_0f7a4 22 = .ok (.iadd, 1) := by decide +kernel
theorem dJ6_bitCount_0f7a4_23 : decode cJ6_bitCount_0f7a4 23 = .ok (.istore_n 0, 1) := by decide +kernel
theorem dJ6_bitCount_0f7a4_24 : decode cJ6_bitCount_0f7a4 24 = .ok (.iload_n 0, 1) := by decide +kernel
theorem dJ6_bitCount_0f7a4_25 : decode cJ6_bitCount_0f7a4 25 = .ok (.iload_n 0, 1) := by decide +kernel
theorem dJ6_bitCount_0f7a4_26 : decode cJ6_bitCount_0f7a4 26 = .ok (.iconst 4, 1) := by decide +kernel
theorem dJ6_bitCount_0f7a4_27 : decode cJ6_bitCount_0f7a4 27 = .ok (.iushr, 1) := by decide +kernel
theorem dJ6_bitCount_0f7a4_28 : decode cJ6_bitCount_0f7a4 28 = .ok (.iadd, 1) := by decide +kernel
theorem dJ6_bitCount_0f7a4_29 : decode cJ6_bitCount_0f7a4 29 = .ok (.ldc_w 267, 3) := by decide +kernel
theorem dJ6_bitCount_0f7a4_32 : decode cJ6_bitCount_0f7a4 32 = .ok (.iand, 1) := by decide +kernel
theorem dJ6_bitCount_0f7a4_33 : decode cJ6_bitCount_0f7a4 33 = .ok (.istore_n 0, 1) := by decide +kernel
theorem dJ6_bitCount_0f7a4_34 : decode cJ6_bitCount_0f7a4 34 = .ok (.iload_n 0, 1) := by decide +kernel
theorem dJ6_bitCount_0f7a4_35 : decode cJ6_bitCount_0f7a4 35 = .ok (.iload_n 0, 1) := by decide +kernel
theorem dJ6_bitCount_0f7a4_36 : decode cJ6_bitCount_0f7a4 36 = .ok (.bipush 8, 2) := by decide +kernel
theorem dJ6_bitCount_0f7a4_38 : decode cJ6_bitCount_0f7a4 38 = .ok (.iushr, 1) := by decide +kernel
theorem dJ6_bitCount_0f7a4_39 : decode cJ6_bitCount_0f7a4 39 = .ok (.iadd, 1) := by decide +kernel
theorem dJ6_bitCount_0f7a4_40 : decode cJ6_bitCount_0f7a4 40 = .ok (.istore_n 0, 1) := by decide +kernel
theorem dJ6_bitCount_0f7a4_41 : decode cJ6_bitCount_0f7a4 41 = .ok (.iload_n 0, 1) := by decide +kernel
theorem dJ6_bitCount_0f7a4_42 : decode cJ6_bitCount_0f7a4 42 = .ok (.iload_n 0, 1) := by decide +kernel
theorem dJ6_bitCount_0f7a4_43 : decode cJ6_bitCount_0f7a4 43 = .ok (.bipush 16, 2) := by decide +kernel
theorem dJ6_bitCount_0f7a4_45 : decode cJ6_bitCount_0f7a4 45 = .ok (.iushr, 1) := by decide +kernel
theorem dJ6_bitCount_0f7a4_46 : decode cJ6_bitCount_0f7a4 46 = .ok (.iadd, 1) := by decide +kernel
theorem dJ6_bitCount_0f7a4_47 : decode cJ6_bitCount_0f7a4 47 = .ok (.istore_n 0, 1) := by decide +kernel
theorem dJ6_bitCount_0f7a4_48 : decode cJ6_bitCount_0f7a4 48 = .ok (.iload_n 0, 1) := by decide +kernel
theorem dJ6_bitCount_0f7a4_49 : decode cJ6_bitCount_0f7a4 49 = .ok (.bipush 63, 2) := by decide +kernel
theorem dJ6_bitCount_0f7a4_51 : decode cJ6_bitCount_0f7a4 51 = .ok (.iand, 1) := by decide +kernel
theorem dJ6_bitCount_0f7a4_52 : decode cJ6_bitCount_0f7a4 52 = .ok (.ireturn, 1) := by decide +kernel
theorem dJ13_bitCount_95d88_0 : decode cJ13_bitCount_95d88 0 = .ok (.lload_n 0, 1) := by decide +kernel
theorem dJ13_bitCount_95d88_1 : decode cJ13_bitCount_95d88 1 = .ok (.lload_n 0, 1) := by decide +kernel
theorem dJ13_bitCount_95d88_2 : decode cJ13_bitCount_95d88 2 = .ok (.iconst 1, 1) := by decide +kernel
theorem dJ13_bitCount_95d88_3 : decode cJ13_bitCount_95d88 3 = .ok (.lushr, 1) := by decide +kernel
theorem dJ13_bitCount_95d88_4 : decode cJ13_bitCount_95d88 4 = .ok (.ldc2_w 314, 3) := by decide +kernel
theorem dJ13_bitCount_95d88_7 : decode cJ13_bitCount_95d88 7 = .ok (.land, 1) := by decide +kernel
theorem dJ13_bitCount_95d88_8 : decode cJ13_bitCount_95d88 8 = .ok (.lsub, 1) := by decide +kernel
theorem dJ13_bitCount_95d88_9 : decode cJ13_bitCount_95d88 9 = .ok (.lstore_n 0, 1) := by decide +kernel
theorem dJ13_bitCount_95d88_10 : decode cJ13_bitCount_95d88 10 = .ok (.lload_n 0, 1) := by decide +kernel
theorem dJ13_bitCount_95d88_11 : decode cJ13_bitCount_95d88 11 = .ok (.ldc2_w 316, 3) := by decide +kernel
theorem dJ13_bitCount_95d88_14 : decode cJ13_bitCount_95d88 14 = .ok (.land, 1) := by decide +kernel
theorem dJ13_bitCount_95d88_15 : decode cJ13_bitCount_95d88 15 = .ok (.lload_n 0, 1) := by decide +kernel
theorem dJ13_bitCount_95d88_16 : decode cJ13_bitCount_95d88 16 = .ok (.iconst 2, 1) := by decide +kernel
theorem dJ13_bitCount_95d88_17 : decode cJ13_bitCount_95d88 17 = .ok (.lushr, 1) := by decide +kernel
theorem dJ13_bitCount_95d88_18 : decode cJ13_bitCount_95d88 18 = .ok (.ldc2_w 316, 3) := by decide +kernel
theorem dJ13_bitCount_95d88_21 : decode cJ13_bitCount_95d88 21 = .ok (.land, 1) := by decide +kernel
theorem dJ13_bitCount_95d88_22 : decode cJ13_bitCount_95d88 22 = .ok (.ladd, 1) := by decide +kernel
theorem dJ13_bitCount_95d88_23 : decode cJ13_bitCount_95d88 23 = .ok (.lstore_n 0, 1) := by decide +kernel
theorem dJ13_bitCount_95d88_24 : decode cJ13_bitCount_95d88 24 = .ok (.lload_n 0, 1) := by decide +kernel
theorem dJ13_bitCount_95d88_25 : decode cJ13_bitCount_95d88 25 = .ok (.lload_n 0, 1) := by decide +kernel
theorem dJ13_bitCount_95d88_26 : decode cJ13_bitCount_95d88 26 = .ok (.iconst 4, 1) := by decide +kernel
theorem dJ13_bitCount_95d88_27 : decode cJ13_bitCount_95d88 27 = .ok (.lushr, 1) := by decide +kernel
theorem dJ13_bitCount_95d88_28 : decode cJ13_bitCount_95d88 28 = .ok (.ladd, 1) := by decide +kernel
theorem dJ13_bitCount_95d88_29 : decode cJ13_bitCount_95d88 29 = .ok (.ldc2_w 318, 3) := by decide +kernel
theorem dJ13_bitCount_95d88_32 : decode cJ13_bitCount_95d88 32 = .ok (.land, 1) := by decide +kernel
theorem dJ13_bitCount_95d88_33 : decode cJ13_bitCount_95d88 33 = .ok (.lstore_n 0, 1) := by decide +kernel
theorem dJ13_bitCount_95d88_34 : decode cJ13_bitCount_95d88 34 = .ok (.lload_n 0, 1) := by decide +kernel
theorem dJ13_bitCount_95d88_35 : decode cJ13_bitCount_95d88 35 = .ok (.lload_n 0, 1) := by decide +kernel
theorem dJ13_bitCount_95d88_36 : decode cJ13_bitCount_95d88 36 = .ok (.bipush 8, 2) := by decide +kernel
theorem dJ13_bitCount_95d88_38 : decode cJ13_bitCount_95d88 38 = .ok (.lushr, 1) := by decide +kernel
theorem dJ13_bitCount_95d88_39 : decode cJ13_bitCount_95d88 39 = .ok (.ladd, 1) := by decide +kernel
theorem dJ13_bitCount_95d88_40 : decode cJ13_bitCount_95d88 40 = .ok (.lstore_n 0, 1) := by decide +kernel
theorem dJ13_bitCount_95d88_41 : decode cJ13_bitCount_95d88 41 = .ok (.lload_n 0, 1) := by decide +kernel
theorem dJ13_bitCount_95d88_42 : decode cJ13_bitCount_95d88 42 = .ok (.lload_n 0, 1) := by decide +kernel
theorem dJ13_bitCount_95d88_43 : decode cJ13_bitCount_95d88 43 = .ok (.bipush 16, 2) := by decide +kernel
theorem dJ13_bitCount_95d88_45 : decode cJ13_bitCount_95d88 45 = .ok (.lushr, 1) := by decide +kernel
theorem dJ13_bitCount_95d88_46 : decode cJ13_bitCount_95d88 46 = .ok (.ladd, 1) := by decide +kernel
theorem dJ13_bitCount_95d88_47 : decode cJ13_bitCount_95d88 47 = .ok (.lstore_n 0, 1) := by decide +kernel
theorem dJ13_bitCount_95d88_48 : decode cJ13_bitCount_95d88 48 = .ok (.lload_n 0, 1) := by decide +kernel
theorem dJ13_bitCount_95d88_49 : decode cJ13_bitCount_95d88 49 = .ok (.lload_n 0, 1) := by decide +kernel
theorem dJ13_bitCount_95d88_50 : decode cJ13_bitCount_95d88 50 = .ok (.bipush 32, 2) := by decide +kernel
theorem dJ13_bitCount_95d88_52 : decode cJ13_bitCount_95d88 52 = .ok (.lushr, 1) := by decide +kernel
theorem dJ13_bitCount_95d88_53 : decode cJ13_bitCount_95d88 53 = .ok (.ladd, 1) := by decide +kernel
theorem dJ13_bitCount_95d88_54 : decode cJ13_bitCount_95d88 54 = .ok (.lstore_n 0, 1) := by decide +kernel
theorem dJ13_bitCount_95d88_55 : decode cJ13_bitCount_95d88 55 = .ok (.lload_n 0, 1) := by decide +kernel
theorem dJ13_bitCount_95d88_56 : decode cJ13_bitCount_95d88 56 = .ok (.l2i, 1) := by decide +kernel
theorem dJ13_bitCount_95d88_57 : decode cJ13_bitCount_95d88 57 = .ok (.bipush 127, 2) := by decide +kernel
theorem dJ13_bitCount_95d88_59 : decode cJ13_bitCount_95d88 59 = .ok (.iand, 1) := by decide +kernel
theorem dJ13_bitCount_95d88_60 : decode cJ13_bitCount_95d88 60 = .ok (.ireturn, 1) := by decide +kernel
theorem dJ9_abs_0f7a4_0 : decode cJ9_abs_0f7a4 0 = .ok (.iload_n 0, 1) := by decide +kernel
theorem dJ9_abs_0f7a4_1 : decode cJ9_abs_0f7a4 1 = .ok (.ifCond .ge 8, 3) := by decide +kernel
theorem dJ9_abs_0f7a4_4 : decode cJ9_abs_0f7a4 4 = .ok (.iload_n 0, 1) := by decide +kernel
theorem dJ9_abs_0f7a4_5 : decode cJ9_abs_0f7a4 5 = .ok (.ineg, 1) := by decide +kernel
theorem dJ9_abs_0f7a4_6 : decode cJ9_abs_0f7a4 6 = .ok (.goto 4, 3) := by decide +kernel
theorem dJ9_abs_0f7a4_9 : decode cJ9_abs_0f7a4 9 = .ok (.iload_n 0, 1) := by decide +kernel
theorem dJ9_abs_0f7a4_10 : decode cJ9_abs_0f7a4 10 = .ok (.ireturn, 1) := by decide +kernel
