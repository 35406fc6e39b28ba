theorem dX5_pair_1 : decode cX5_pair 1 = .ok (.iload_n 1, 1) := by decide +kernel
theorem dX5_pair_2 : decode cX5_pair 2 = .ok (.ifCond .lt 7, 3) := by decide +kernel
theorem dX5_pair_5 : decode cX5_pair 5 = .ok (.iconst 1, 1) := by decide +kernel
theorem dX5_pair_6 : decode cX5_pair 6 = .ok (.goto 4, 3) := by decide +kernel
theorem dX5_pair_9 : decode cX5_pair 9 = .ok (.iconst 0, 1) := by decide +kernel
theorem dX5_pair_10 : decode cX5_pair 10 = .ok (.iconst 1, 1) := by decide +kernel
theorem dX5_pair_11 : decode cX5_pair 11 = .ok (.invokevirtual 62, 3) := by decide +kernel
theorem dX5_pair_14 : decode cX5_pair 14 = .ok (.ifCond .eq 5, 3) := by decide +kernel
theorem dX5_pair_17 : decode cX5_pair 17 = .ok (.iconst 0, 1) := by decide +kernel
theorem dX5_pair_18 : decode cX5_pair 18 = .ok (.ireturn, 1) := by decide +kernel
theorem dX5_pair_19 : decode cX5_pair 19 = .ok (.aload_n 0, 1) := by decide +kernel
theorem dX5_pair_20 : decode cX5_pair 20 = .ok (.invokevirtual 92, 3) := by decide +kernel
theorem dX5_pair_23 : decode cX5_pair 23 = .ok (.iload_n 1, 1) := by decide +kernel
theorem dX5_pair_24 : decode cX5_pair 24 = .ok (.istore_n 2, 1) := by decide +kernel
theorem dX5_pair_25 : decode cX5_pair 25 = .ok (.iconst 0, 1) := by decide +kernel
theorem dX5_pair_26 : decode cX5_pair 26 = .ok (.istore_n 3, 1) := by decide +kernel
theorem dX5_pair_27 : decode cX5_pair 27 = .ok (.iload_n 3, 1) := by decide +kernel
theorem dX5_pair_28 : decode cX5_pair 28 = .ok (.aload_n 0, 1) := by decide +kernel
theorem dX5_pair_29 : decode cX5_pair 29 = .ok (.getfield 51, 3) := by decide +kernel
theorem dX5_pair_32 : decode cX5_pair 32 = .ok (.if_icmp .ge 55, 3) := by decide +kernel
theorem dX5_pair_35 : decode cX5_pair 35 = .ok (.iload_n 3, 1) := by decide +kernel
theorem dX5_pair_36 : decode cX5_pair 36 = .ok (.iconst 1, 1) := by decide +kernel
theorem dX5_pair_37 : decode cX5_pair 37 = .ok (.iadd, 1) := by decide +kernel
theorem dX5_pair_38 : decode cX5_pair 38 = .ok (.istore 4, 2) := by decide +kernel
theorem dX5_pair_40 : decode cX5_pair 40 = .ok (.iload 4, 2) := by decide +kernel
theorem dX5_pair_42 : decode cX5_pair 42 = .ok (.aload_n 0, 1) := by decide +kernel
theorem dX5_pair_43 : decode cX5_pair 43 = .ok (.getfield 51, 3) := by decide +kernel
theorem dX5_pair_46 : decode cX5_pair 46 = .ok (.if_icmp .ge 35, 3) := by decide +kernel
theorem dX5_pair_49 : decode cX5_pair 49 = .ok (.aload_n 0, 1) := by decide +kernel
theorem dX5_pair_50 : decode cX5_pair 50 = .ok (.iload_n 3, 1) := by decide +kernel
theorem dX5_pair_51 : decode cX5_pair 51 = .ok (.iload 4, 2) := by decide +kernel
theorem dX5_pair_53 : decode cX5_pair 53 = .ok (.invokevirtual 150, 3) := by decide +kernel
theorem dX5_pair_56 : decode cX5_pair 56 = .ok (.ifCond .eq 19, 3) := by decide +kernel
theorem dX5_pair_59 : decode cX5_pair 59 = .ok (.iload_n 2, 1) := by decide +kernel
theorem dX5_pair_60 : decode cX5_pair 60 = .ok (.ifCond .ne 12, 3) := by decide +kernel
theorem dX5_pair_63 : decode cX5_pair 63 = .ok (.iconst 1, 1) := by decide +kernel
theorem dX5_pair_64 : decode cX5_pair 64 = .ok (.iload_n 3, 1) := by decide +kernel
theorem dX5_pair_65 : decode cX5_pair 65 = .ok (.ishl, 1) := by decide +kernel
theorem dX5_pair_66 : decode cX5_pair 66 = .ok (.iconst 1, 1) := by decide +kernel
theorem dX5_pair_67 : decode cX5_pair 67 = .ok (.iload 4, 2) := by decide +kernel
theorem dX5_pair_69 : decode cX5_pair 69 = .ok (.ishl, 1) := by decide +kernel
theorem dX5_pair_70 : decode cX5_pair 70 = .ok (.ior, 1) := by decide +kernel
theorem dX5_pair_71 : decode cX5_pair 71 = .ok (.ireturn, 1) := by decide +kernel
theorem dX5_pair_72 : decode cX5_pair 72 = .ok (.iinc 2 (-1), 3) := by decide +kernel
theorem dX5_pair_75 : decode cX5_pair 75 = .ok (.iinc 4 1, 3) := by decide +kernel
theorem dX5_pair_78 : decode cX5_pair 78 = .ok (.goto (-38), 3) := by decide +kernel
theorem dX5_pair_81 : decode cX5_pair 81 = .ok (.iinc 3 1, 3) := by decide +kernel
theorem dX5_pair_84 : decode cX5_pair 84 = .ok (.goto (-57), 3) := by decide +kernel
theorem dX5_pair_87 : decode cX5_pair 87 = .ok (.iconst (-1), 1) := by decide +kernel
theorem dX5_pair_88 : decode cX5_pair 88 = .ok (.ireturn, 1) := by decide +kernel
set_option maxRecDepth 20000 in
theorem ggX5_edge_X5_in : GoodIn wsX5_edge wsX5_in := goodIn_r _ [7] (by decide +kernel) (by decide +kernel)
set_option maxRecDepth 20000 in
theorem gX5_edge_X5_in : GoodIn wsX5_edge (va_wsS RX5 54 yX5_in wsX5_in) := goodIn_app (goodIn_of _ (by decide +kernel)) ggX5_edge_X5_in
set_option maxRecDepth 20000 in
theorem ggX5_edge_X5_fails : GoodIn wsX5_edge wsX5_fails := goodIn_r _ [11, 12, 13, 14, 15, 16, 17, 18, 19, 20, 21, 22, 23, 24, 25, 26, 27, 28, 29, 30, 31] (by decide +kernel) (by decide +kernel)
set_option maxRecDepth 20000 in
theorem gX5_edge_X5_fails : GoodIn wsX5_edge (wsV RX5 62 RX5 yX5_fails wsX5_fails) := goodIn_app (goodIn_of _ (by decide +kernel)) ggX5_edge_X5_fails
theorem dX5_edge_0 : decode cX5_edge 0 = .ok (.aload_n 0, 1) := by decide +kernel
theorem dX5_edge_1 : decode cX5_edge 1 = .ok (.iload_n 1, 1) := by decide +kernel
theorem dX5_edge_2 : decode cX5_edge 2 = .ok (.iconst 0, 1) := by decide +kernel
theorem dX5_edge_3 : decode cX5_edge 3 = .ok (.iconst 5, 1) := by decide +kernel
theorem dX5_edge_4 : decode cX5_edge 4 = .ok (.invokestatic 54, 3) := by decide +kernel
theorem dX5_edge_7 : decode cX5_edge 7 = .ok (.ifCond .eq 16, 3) := by decide +kernel
theorem dX5_edge_10 : decode cX5_edge 10 = .ok (.iload_n 2, 1) := by decide +kernel
theorem dX5_edge_11 : decode cX5_edge 11 = .ok (.iconst 0, 1) := by decide +kernel
theorem dX5_edge_12 : decode cX5_edge 12 = .ok (.iconst 5, 1) := by decide +kernel
theorem dX5_edge_13 : decode cX5_edge 13 = .ok (.invokestatic 54, 3) := by decide +kernel
theorem dX5_edge_16 : decode cX5_edge 16 = .ok (.ifCond .eq 7, 3) := by decide +kernel
theorem dX5_edge_19 : decode cX5_edge 19 = .ok (.iconst 1, 1) := by decide +kernel
theorem dX5_edge_20 : decode cX5_edge 20 = .ok (.goto 4, 3) := by decide +kernel
theorem dX5_edge_23 : decode cX5_edge 23 = .ok (.iconst 0, 1) := by decide +kernel
theorem dX5_edge_24 : decode cX5_edge 24 = .ok (.iconst 1, 1) := by decide +kernel
theorem dX5_edge_25 : decode cX5_edge 25 = .ok (.invokevirtual 62, 3) := by decide +kernel
theorem dX5_edge_28 : decode cX5_edge 28 = .ok (.ifCond .eq 5, 3) := by decide +kernel
theorem dX5_edge_31 : decode cX5_edge 31 = .ok (.iconst 0, 1) := by decide +kernel
theorem dX5_edge_32 : decode cX5_edge 32 = .ok (.ireturn, 1) := by decide +kernel
theorem dX5_edge_33 : decode cX5_edge 33 = .ok (.aload_n 0, 1) := by decide +kernel
theorem dX5_edge_34 : decode cX5_edge 34 = .ok (.iload_n 1, 1) := by decide +kernel
theorem dX5_edge_35 : decode cX5_edge 35 = .ok (.iload_n 2, 1) := by decide +kernel
theorem dX5_edge_36 : decode cX5_edge 36 = .ok (.if_icmp .eq 7, 3) := by decide +kernel
theorem dX5_edge_39 : decode cX5_edge 39 = .ok (.iconst 1, 1) := by decide +kernel
theorem dX5_edge_40 : decode cX5_edge 40 = .ok (.goto 4, 3) := by decide +kernel
theorem dX5_edge_43 : decode cX5_edge 43 = .ok (.iconst 0, 1) := by decide +kernel
theorem dX5_edge_44 : decode cX5_edge 44 = .ok (.iconst 2, 1) := by decide +kernel
theorem dX5_edge_45 : decode cX5_edge 45 = .ok (.invokevirtual 62, 3) := by decide +kernel
theorem dX5_edge_48 : decode cX5_edge 48 = .ok (.ifCond .eq 5, 3) := by decide +kernel
theorem dX5_edge_51 : decode cX5_edge 51 = .ok (.iconst 0, 1) := by decide +kernel
theorem dX5_edge_52 : decode cX5_edge 52 = .ok (.ireturn, 1) := by decide +kernel
theorem dX5_edge_53 : decode cX5_edge 53 = .ok (.iconst (-1), 1) := by decide +kernel
theorem dX5_edge_54 : decode cX5_edge 54 = .ok (.istore_n 3, 1) := by decide +kernel
theorem dX5_edge_55 : decode cX5_edge 55 = .ok (.iconst 0, 1) := by decide +kernel
theorem dX5_edge_56 : decode cX5_edge 56 = .ok (.istore 4, 2) := by decide +kernel
theorem dX5_edge_58 : decode cX5_edge 58 = .ok (.iload 4, 2) := by decide +kernel
theorem dX5_edge_60 : decode cX5_edge 60 = .ok (.aload_n 0, 1) := by decide +kernel
theorem dX5_edge_61 : decode cX5_edge 61 = .ok (.getfield 153, 3) := by decide +kernel
theorem dX5_edge_64 : decode cX5_edge 64 = .ok (.if_icmp .ge 60, 3) := by decide +kernel
theorem dX5_edge_67 : decode cX5_edge 67 = .ok (.aload_n 0, 1) := by decide +kernel
theorem dX5_edge_68 : decode cX5_edge 68 = .ok (.getfield 35, 3) := by decide +kernel
theorem dX5_edge_71 : decode cX5_edge 71 = .ok (.iload 4, 2) := by decide +kernel
theorem dX5_edge_73 : decode cX5_edge 73 = .ok (.iaload, 1) := by decide +kernel
theorem dX5_edge_74 : decode cX5_edge 74 = .ok (.iload_n 1, 1) := by decide +kernel
theorem dX5_edge_75 : decode cX5_edge 75 = .ok (.if_icmp .ne 14, 3) := by decide +kernel
theorem dX5_edge_78 : decode cX5_edge 78 = .ok (.aload_n 0, 1) := by decide +kernel
theorem dX5_edge_79 : decode cX5_edge 79 = .ok (.getfield 38, 3) := by decide +kernel
theorem dX5_edge_82 : decode cX5_edge 82 = .ok (.iload 4, 2) := by decide +kernel
theorem dX5_edge_84 : decode cX5_edge 84 = .ok (.iaload, 1) := by decide +kernel
theorem dX5_edge_85 : decode cX5_edge 85 = .ok (.iload_n 2, 1) := by decide +kernel
theorem dX5_edge_86 : decode cX5_edge 86 = .ok (.if_icmp .eq 25, 3) := by decide +kernel
theorem dX5_edge_89 : decode cX5_edge 89 = .ok (.aload_n 0, 1) := by decide +kernel
theorem dX5_edge_90 : decode cX5_edge 90 = .ok (.getfield 35, 3) := by decide +kernel
theorem dX5_edge_93 : decode cX5_edge 93 = .ok (.iload 4, 2) := by decide +kernel
theorem dX5_edge_95 : decode cX5_edge 95 = .ok (.iaload, 1) := by decide +kernel
theorem dX5_edge_96 : decode cX5_edge 96 = .ok (.iload_n 2, 1) := by decide +kernel
theorem dX5_edge_97 : decode cX5_edge 97 = .ok (.if_icmp .ne 19, 3) := by decide +kernel
theorem dX5_edge_100 : decode cX5_edge 100 = .ok (.aload_n 0, 1) := by decide +kernel
theorem dX5_edge_101 : decode cX5_edge 101 = .ok (.getfield 38, 3) := by decide +kernel
theorem dX5_edge_104 : decode cX5_edge 104 = .ok (.iload 4, 2) := by decide +kernel
theorem dX5_edge_106 : decode cX5_edge 106 = .ok (.iaload, 1) := by decide +kernel
theorem dX5_edge_107 : decode cX5_edge 107 = .ok (.iload_n 1, 1) := by decide +kernel
theorem dX5_edge_108 : decode cX5_edge 108 = .ok (.if_icmp .ne 8, 3) := by decide +kernel
theorem dX5_edge_111 : decode cX5_edge 111 = .ok (.iload 4, 2) := by decide +kernel
theorem dX5_edge_113 : decode cX5_edge 113 = .ok (.goto 4, 3) := by decide +kernel
theorem dX5_edge_116 : decode cX5_edge 116 = .ok (.iload_n 3, 1) := by decide +kernel
theorem dX5_edge_117 : decode cX5_edge 117 = .ok (.istore_n 3, 1) := by decide +kernel
theorem dX5_edge_118 : decode cX5_edge 118 = .ok (.iinc 4 1, 3) := by decide +kernel
theorem dX5_edge_121 : decode cX5_edge 121 = .ok (.goto (-63), 3) := by decide +kernel
theorem dX5_edge_124 : decode cX5_edge 124 = .ok (.iload_n 3, 1) := by decide +kernel
theorem dX5_edge_125 : decode cX5_edge 125 = .ok (.iconst (-1), 1) := by decide +kernel
theorem dX5_edge_126 : decode cX5_edge 126 = .ok (.if_icmp .ne 36, 3) := by decide +kernel
theorem dX5_edge_129 : decode cX5_edge 129 = .ok (.aload_n 0, 1) := by decide +kernel
theorem dX5_edge_130 : decode cX5_edge 130 = .ok (.getfield 35, 3) := by decide +kernel
theorem dX5_edge_133 : decode cX5_edge 133 = .ok (.aload_n 0, 1) := by decide +kernel
theorem dX5_edge_134 : decode cX5_edge 134 = .ok (.getfield 153, 3) := by decide +kernel
theorem dX5_edge_137 : decode cX5_edge 137 = .ok (.iload_n 1, 1) := by decide +kernel
theorem dX5_edge_138 : decode cX5_edge 138 = .ok (.iastore, 1) := by decide +kernel
theorem dX5_edge_139 : decode cX5_edge 139 = .ok (.aload_n 0, 1) := by decide +kernel
theorem dX5_edge_140 : decode cX5_edge 140 = .ok (.getfield 38, 3) := by decide +kernel
theorem dX5_edge_143 : decode cX5_edge 143 = .ok (.aload_n 0, 1) := by decide +kernel
theorem dX5_edge_144 : decode cX5_edge 144 = .ok (.getfield 153, 3) := by decide +kernel
theorem dX5_edge_147 : decode cX5_edge 147 = .ok (.iload_n 2, 1) := by decide +kernel
theorem dX5_edge_148 : decode cX5_edge 148 = .ok (.iastore, 1) := by decide +kernel
theorem dX5_edge_149 : decode cX5_edge 149 = .ok (.aload_n 0, 1) := by decide +kernel
theorem dX5_edge_150 : decode cX5_edge 150 = .ok (.dup, 1) := by decide +kernel
theorem dX5_edge_151 : decode cX5_edge 151 = .ok (.getfield 153, 3) := by decide +kernel
theorem dX5_edge_154 : decode cX5_edge 154 = .ok (.iconst 1, 1) := by decide +kernel
theorem dX5_edge_155 : decode cX5_edge 155 = .ok (.iadd, 1) := by decide +kernel
theorem dX5_edge_156 : decode cX5_edge 156 = .ok (.putfield 153, 3) := by decide +kernel
theorem dX5_edge_159 : decode cX5_edge 159 = .ok (.goto 43, 3) := by decide +kernel
theorem dX5_edge_162 : decode cX5_edge 162 = .ok (.aload_n 0, 1) := by decide +kernel
theorem dX5_edge_163 : decode cX5_edge 163 = .ok (.dup, 1) := by decide +kernel
theorem dX5_edge_164 : decode cX5_edge 164 = .ok (.getfield 153, 3) := by decide +kernel
theorem dX5_edge_167 : decode cX5_edge 167 = .ok (.iconst 1, 1) := by decide +kernel
theorem dX5_edge_168 : decode cX5_edge 168 = .ok (.isub, 1) := by decide +kernel
theorem dX5_edge_169 : decode cX5_edge 169 = .ok (.putfield 153, 3) := by decide +kernel
theorem dX5_edge_172 : decode cX5_edge 172 = .ok (.aload_n 0, 1) := by decide +kernel
theorem dX5_edge_173 : decode cX5_edge 173 = .ok (.getfield 35, 3) := by decide +kernel
theorem dX5_edge_176 : decode cX5_edge 176 = .ok (.iload_n 3, 1) := by decide +kernel
theorem dX5_edge_177 : decode cX5_edge 177 = .ok (.aload_n 0, 1) := by decide +kernel
theorem dX5_edge_178 : decode cX5_edge 178 = .ok (.getfield 35, 3) := by decide +kernel
theorem dX5_edge_181 : decode cX5_edge 181 = .ok (.aload_n 0, 1) := by decide +kernel
theorem dX5_edge_182 : decode cX5_edge 182 = .ok (.getfield 153, 3) := by decide +kernel
theorem dX5_edge_185 : decode cX5_edge 185 = .ok (.iaload, 1) := by decide +kernel
theorem dX5_edge_186 : decode cX5_edge 186 = .ok (.iastore, 1) := by decide +kernel
theorem dX5_edge_187 : decode cX5_edge 187 = .ok (.aload_n 0, 1) := by decide +kernel
theorem dX5_edge_188 : decode cX5_edge 188 = .ok (.getfield 38, 3) := by decide +kernel
theorem dX5_edge_191 : decode cX5_edge 191 = .ok (.iload_n 3, 1) := by decide +kernel
theorem dX5_edge_192 : decode cX5_edge 192 = .ok (.aload_n 0, 1) := by decide +kernel
theorem dX5_edge_193 : decode cX5_edge 193 = .ok (.getfield 38, 3) := by decide +kernel
theorem dX5_edge_196 : decode cX5_edge 196 = .ok (.aload_n 0, 1) := by decide +kernel
theorem dX5_edge_197 : decode cX5_edge 197 = .ok (.getfield 153, 3) := by decide +kernel
theorem dX5_edge_200 : decode cX5_edge 200 = .ok (.iaload, 1) := by decide +kernel
theorem dX5_edge_201 : decode cX5_edge 201 = .ok (.iastore, 1) := by decide +kernel
theorem dX5_edge_202 : decode cX5_edge 202 = .ok (.aload_n 0, 1) := by decide +kernel
theorem dX5_edge_203 : decode cX5_edge 203 = .ok (.getfield 153, 3) := by decide +kernel
theorem dX5_edge_206 : decode cX5_edge 206 = .ok (.ireturn, 1) := by decide +kernel
set_option maxRecDepth 20000 in
theorem ggX5_colourings_X5_in : GoodIn wsX5_colourings wsX5_in := goodIn_r _ [8] (by decide +kernel) (by decide +kernel)
set_option maxRecDepth 20000 in
theorem gX5_colourings_X5_in : GoodIn wsX5_colourings (va_wsS RX5 54 yX5_in wsX5_in) := goodIn_app (goodIn_of _ (by decide +kernel)) ggX5_colourings_X5_in
set_option maxRecDepth 20000 in
theorem ggX5_colourings_X5_fails : GoodIn wsX5_colourings wsX5_fails := goodIn_r _ [12, 13, 14, 15, 16, 17, 18, 19, 20, 21, 22, 23, 24, 25, 26, 27, 28, 29, 30, 31, 32] (by decide +kernel) (by decide +kernel)
set_option maxRecDepth 20000 in
theorem gX5_colourings_X5_fails : GoodIn wsX5_colourings (wsV RX5 62 RX5 yX5_fails wsX5_fails) := goodIn_app (goodIn_of _ (by decide +kernel)) ggX5_colourings_X5_fails
theorem dX5_colourings_0 : decode cX5_colourings 0 = .ok (.aload_n 0, 1) := by decide +kernel
theorem dX5_colourings_1 : decode cX5_colourings 1 = .ok (.iload_n 1, 1) := by decide +kernel
theorem dX5_colourings_2 : decode cX5_colourings 2 = .ok (.iconst 0, 1) := by decide +kernel
theorem dX5_colourings_3 : decode cX5_colourings 3 = .ok (.bipush 6, 2) := by decide +kernel
theorem dX5_colourings_5 : decode cX5_colourings 5 = .ok (.invokestatic 54, 3) := by decide +kernel
theorem dX5_colourings_8 : decode cX5_colourings 8 = .ok (.iconst 1, 1) := by decide +kernel
theorem dX5_colourings_9 : decode cX5_colourings 9 = .ok (.invokevirtual 62, 3) := by decide +kernel
theorem dX5_colourings_12 : decode cX5_colourings 12 = .ok (.ifCond .eq 5, 3) := by decide +kernel
theorem dX5_colourings_15 : decode cX5_colourings 15 = .ok (.iconst 0, 1) := by decide +kernel
theorem dX5_colourings_16 : decode cX5_colourings 16 = .ok (.ireturn, 1) := by decide +kernel
theorem dX5_colourings_17 : decode cX5_colourings 17 = .ok (.iconst 1, 1) := by decide +kernel
theorem dX5_colourings_18 : decode cX5_colourings 18 = .ok (.istore_n 2, 1) := by decide +kernel
theorem dX5_colourings_19 : decode cX5_colourings 19 = .ok (.iconst 0, 1) := by decide +kernel
theorem dX5_colourings_20 : decode cX5_colourings 20 = .ok (.istore_n 3, 1) := by decide +kernel
theorem dX5_colourings_21 : decode cX5_colourings 21 = .ok (.iload_n 3, 1) := by decide +kernel
theorem dX5_colourings_22 : decode cX5_colourings 22 = .ok (.bipush 6, 2) := by decide +kernel
theorem dX5_colourings_24 : decode cX5_colourings 24 = .ok (.if_icmp .ge 13, 3) := by decide +kernel
theorem dX5_colourings_27 : decode cX5_colourings 27 = .ok (.iload_n 2, 1) := by decide +kernel
theorem dX5_colourings_28 : decode cX5_colourings 28 = .ok (.iload_n 1, 1) := by decide +kernel
theorem dX5_colourings_29 : decode cX5_colourings 29 = .ok (.imul, 1) := by decide +kernel
theorem dX5_colourings_30 : decode cX5_colourings 30 = .ok (.istore_n 2, 1) := by decide +kernel
theorem dX5_colourings_31 : decode cX5_colourings 31 = .ok (.iinc 3 1, 3) := by decide +kernel
theorem dX5_colourings_34 : decode cX5_colourings 34 = .ok (.goto (-13), 3) := by decide +kernel
theorem dX5_colourings_37 : decode cX5_colourings 37 = .ok (.iconst 0, 1) := by decide +kernel
theorem dX5_colourings_38 : decode cX5_colourings 38 = .ok (.istore_n 3, 1) := by decide +kernel
theorem dX5_colourings_39 : decode cX5_colourings 39 = .ok (.iconst 0, 1) := by decide +kernel
theorem dX5_colourings_40 : decode cX5_colourings 40 = .ok (.istore 4, 2) := by decide +kernel
theorem dX5_colourings_42 : decode cX5_colourings 42 = .ok (.iload 4, 2) := by decide +kernel
theorem dX5_colourings_44 : decode cX5_colourings 44 = .ok (.iload_n 2, 1) := by decide +kernel
theorem dX5_colourings_45 : decode cX5_colourings 45 = .ok (.if_icmp .ge 117, 3) := by decide +kernel
theorem dX5_colourings_48 : decode cX5_colourings 48 = .ok (.iload 4, 2) := by decide +kernel
theorem dX5_colourings_50 : decode cX5_colourings 50 = .ok (.istore 5, 2) := by decide +kernel
theorem dX5_colourings_52 : decode cX5_colourings 52 = .ok (.iconst 0, 1) := by decide +kernel
theorem dX5_colourings_53 : decode cX5_colourings 53 = .ok (.istore 6, 2) := by decide +kernel
theorem dX5_colourings_55 : decode cX5_colourings 55 = .ok (.iload 6, 2) := by decide +kernel
theorem dX5_colourings_57 : decode cX5_colourings 57 = .ok (.bipush 6, 2) := by decide +kernel
theorem dX5_colourings_59 : decode cX5_colourings 59 = .ok (.if_icmp .ge 26, 3) := by decide +kernel
theorem dX5_colourings_62 : decode cX5_colourings 62 = .ok (.aload_n 0, 1) := by decide +kernel
theorem dX5_colourings_63 : decode cX5_colourings 63 = .ok (.getfield 41, 3) := by decide +kernel
theorem dX5_colourings_66 : decode cX5_colourings 66 = .ok (.iload 6, 2) := by decide +kernel
theorem dX5_colourings_68 : decode cX5_colourings 68 = .ok (.iload 5, 2) := by decide +kernel
theorem dX5_colourings_70 : decode cX5_colourings 70 = .ok (.iload_n 1, 1) := by decide +kernel
theorem dX5_colourings_71 : decode cX5_colourings 71 = .ok (.irem, 1) := by decide +kernel
theorem dX5_colourings_72 : decode cX5_colourings 72 = .ok (.iastore, 1) := by decide +kernel
theorem dX5_colourings_73 : decode cX5_colourings 73 = .ok (.iload 5, 2) := by decide +kernel
theorem dX5_colourings_75 : decode cX5_colourings 75 = .ok (.iload_n 1, 1) := by decide +kernel
theorem dX5_colourings_76 : decode cX5_colourings 76 = .ok (.idiv, 1) := by decide +kernel
theorem dX5_colourings_77 : decode cX5_colourings 77 = .ok (.istore 5, 2) := by decide +kernel
theorem dX5_colourings_79 : decode cX5_colourings 79 = .ok (.iinc 6 1, 3) := by decide +kernel
theorem dX5_colourings_82 : decode cX5_colourings 82 = .ok (.goto (-27), 3) := by decide +kernel
theorem dX5_colourings_85 : decode cX5_colourings 85 = .ok (.iconst 1, 1) := by decide +kernel
theorem dX5_colourings_86 : decode cX5_colourings 86 = .ok (.istore 6, 2) := by decide +kernel
theorem dX5_colourings_88 : decode cX5_colourings 88 = .ok (.iconst 0, 1) := by decide +kernel
theorem dX5_colourings_89 : decode cX5_colourings 89 = .ok (.istore 7, 2) := by decide +kernel
theorem dX5_colourings_91 : decode cX5_colourings 91 = .ok (.iload 7, 2) := by decide +kernel
theorem dX5_colourings_93 : decode cX5_colourings 93 = .ok (.aload_n 0, 1) := by decide +kernel
theorem dX5_colourings_94 : decode cX5_colourings 94 = .ok (.getfield 153, 3) := by decide +kernel
theorem dX5_colourings_97 : decode cX5_colourings 97 = .ok (.if_icmp .ge 46, 3) := by decide +kernel
theorem dX5_colourings_100 : decode cX5_colourings 100 = .ok (.iload 6, 2) := by decide +kernel
theorem dX5_colourings_102 : decode cX5_colourings 102 = .ok (.aload_n 0, 1) := by decide +kernel
theorem dX5_colourings_103 : decode cX5_colourings 103 = .ok (.getfield 41, 3) := by decide +kernel
theorem dX5_colourings_106 : decode cX5_colourings 106 = .ok (.aload_n 0, 1) := by decide +kernel
theorem dX5_colourings_107 : decode cX5_colourings 107 = .ok (.getfield 35, 3) := by decide +kernel
theorem dX5_colourings_110 : decode cX5_colourings 110 = .ok (.iload 7, 2) := by decide +kernel
theorem dX5_colourings_112 : decode cX5_colourings 112 = .ok (.iaload, 1) := by decide +kernel
theorem dX5_colourings_113 : decode cX5_colourings 113 = .ok (.iaload, 1) := by decide +kernel
theorem dX5_colourings_114 : decode cX5_colourings 114 = .ok (.aload_n 0, 1) := by decide +kernel
theorem dX5_colourings_115 : decode cX5_colourings 115 = .ok (.getfield 41, 3) := by decide +kernel
theorem dX5_colourings_118 : decode cX5_colourings 118 = .ok (.aload_n 0, 1) := by decide +kernel
theorem dX5_colourings_119 : decode cX5_colourings 119 = .ok (.getfield 38, 3) := by decide +kernel
theorem dX5_colourings_122 : decode cX5_colourings 122 = .ok (.iload 7, 2) := by decide +kernel
theorem dX5_colourings_124 : decode cX5_colourings 124 = .ok (.iaload, 1) := by decide +kernel
theorem dX5_colourings_125 : decode cX5_colourings 125 = .ok (.iaload, 1) := by decide +kernel
theorem dX5_colourings_126 : decode cX5_colourings 126 = .ok (.if_icmp .eq 7, 3) := by decide +kernel
theorem dX5_colourings_129 : decode cX5_colourings 129 = .ok (.iconst 1, 1) := by decide +kernel
theorem dX5_colourings_130 : decode cX5_colourings 130 = .ok (.goto 4, 3) := by decide +kernel
theorem dX5_colourings_133 : decode cX5_colourings 133 = .ok (.iconst 0, 1) := by decide +kernel
theorem dX5_colourings_134 : decode cX5_colourings 134 = .ok (.iand, 1) := by decide +kernel
theorem dX5_colourings_135 : decode cX5_colourings 135 = .ok (.istore 6, 2) := by decide +kernel
theorem dX5_colourings_137 : decode cX5_colourings 137 = .ok (.iinc 7 1, 3) := by decide +kernel
theorem dX5_colourings_140 : decode cX5_colourings 140 = .ok (.goto (-49), 3) := by decide +kernel
theorem dX5_colourings_143 : decode cX5_colourings 143 = .ok (.iload_n 3, 1) := by decide +kernel
theorem dX5_colourings_144 : decode cX5_colourings 144 = .ok (.iload 6, 2) := by decide +kernel
theorem dX5_colourings_146 : decode cX5_colourings 146 = .ok (.ifCond .eq 7, 3) := by decide +kernel
theorem dX5_colourings_149 : decode cX5_colourings 149 = .ok (.iconst 1, 1) := by decide +kernel
theorem dX5_colourings_150 : decode cX5_colourings 150 = .ok (.goto 4, 3) := by decide +kernel
theorem dX5_colourings_153 : decode cX5_colourings 153 = .ok (.iconst 0, 1) := by decide +kernel
theorem dX5_colourings_154 : decode cX5_colourings 154 = .ok (.iadd, 1) := by decide +kernel
theorem dX5_colourings_155 : decode cX5_colourings 155 = .ok (.istore_n 3, 1) := by decide +kernel
theorem dX5_colourings_156 : decode cX5_colourings 156 = .ok (.iinc 4 1, 3) := by decide +kernel
theorem dX5_colourings_159 : decode cX5_colourings 159 = .ok (.goto (-117), 3) := by decide +kernel
theorem dX5_colourings_162 : decode cX5_colourings 162 = .ok (.iload_n 3, 1) := by decide +kernel
theorem dX5_colourings_163 : decode cX5_colourings 163 = .ok (.ireturn, 1) := by decide +kernel
theorem dX5_sum_0 : decode cX5_sum 0 = .ok (.iconst 0, 1) := by decide +kernel
theorem dX5_sum_1 : decode cX5_sum 1 = .ok (.istore_n 2, 1) := by decide +kernel
theorem dX5_sum_2 : decode cX5_sum 2 = .ok (.iconst 0, 1) := by decide +kernel
theorem dX5_sum_3 : decode cX5_sum 3 = .ok (.istore_n 3, 1) := by decide +kernel
theorem dX5_sum_4 : decode cX5_sum 4 = .ok (.iload_n 3, 1) := by decide +kernel
theorem dX5_sum_5 : decode cX5_sum 5 = .ok (.iconst 1, 1) := by decide +kernel
theorem dX5_sum_6 : decode cX5_sum 6 = .ok (.aload_n 0, 1) := by decide +kernel
theorem dX5_sum_7 : decode cX5_sum 7 = .ok (.getfield 153, 3) := by decide +kernel
theorem dX5_sum_10 : decode cX5_sum 10 = .ok (.ishl, 1) := by decide +kernel
theorem dX5_sum_11 : decode cX5_sum 11 = .ok (.if_icmp .ge 193, 3) := by decide +kernel
theorem dX5_sum_14 : decode cX5_sum 14 = .ok (.iconst 0, 1) := by decide +kernel
theorem dX5_sum_15 : decode cX5_sum 15 = .ok (.istore 4, 2) := by decide +kernel
theorem dX5_sum_17 : decode cX5_sum 17 = .ok (.iload 4, 2) := by decide +kernel
theorem dX5_sum_19 : decode cX5_sum 19 = .ok (.bipush 6, 2) := by decide +kernel
theorem dX5_sum_21 : decode cX5_sum 21 = .ok (.if_icmp .ge 18, 3) := by decide +kernel
theorem dX5_sum_24 : decode cX5_sum 24 = .ok (.aload_n 0, 1) := by decide +kernel
theorem dX5_sum_25 : decode cX5_sum 25 = .ok (.getfield 44, 3) := by decide +kernel
theorem dX5_sum_28 : decode cX5_sum 28 = .ok (.iload 4, 2) := by decide +kernel
theorem dX5_sum_30 : decode cX5_sum 30 = .ok (.iload 4, 2) := by decide +kernel
theorem dX5_sum_32 : decode cX5_sum 32 = .ok (.iastore, 1) := by decide +kernel
theorem dX5_sum_33 : decode cX5_sum 33 = .ok (.iinc 4 1, 3) := by decide +kernel
theorem dX5_sum_36 : decode cX5_sum 36 = .ok (.goto (-19), 3) := by decide +kernel
theorem dX5_sum_39 : decode cX5_sum 39 = .ok (.iconst 1, 1) := by decide +kernel
theorem dX5_sum_40 : decode cX5_sum 40 = .ok (.istore 4, 2) := by decide +kernel
theorem dX5_sum_42 : decode cX5_sum 42 = .ok (.bipush 6, 2) := by decide +kernel
theorem dX5_sum_44 : decode cX5_sum 44 = .ok (.istore 5, 2) := by decide +kernel
theorem dX5_sum_46 : decode cX5_sum 46 = .ok (.iconst 0, 1) := by decide +kernel
theorem dX5_sum_47 : decode cX5_sum 47 = .ok (.istore 6, 2) := by decide +kernel
theorem dX5_sum_49 : decode cX5_sum 49 = .ok (.iload 6, 2) := by decide +kernel
theorem dX5_sum_51 : decode cX5_sum 51 = .ok (.aload_n 0, 1) := by decide +kernel
theorem dX5_sum_52 : decode cX5_sum 52 = .ok (.getfield 153, 3) := by decide +kernel
theorem dX5_sum_55 : decode cX5_sum 55 = .ok (.if_icmp .ge 116, 3) := by decide +kernel
theorem dX5_sum_58 : decode cX5_sum 58 = .ok (.iload_n 3, 1) := by decide +kernel
theorem dX5_sum_59 : decode cX5_sum 59 = .ok (.iload 6, 2) := by decide +kernel
theorem dX5_sum_61 : decode cX5_sum 61 = .ok (.ishr, 1) := by decide +kernel
theorem dX5_sum_62 : decode cX5_sum 62 = .ok (.iconst 1, 1) := by decide +kernel
theorem dX5_sum_63 : decode cX5_sum 63 = .ok (.iand, 1) := by decide +kernel
theorem dX5_sum_64 : decode cX5_sum 64 = .ok (.iconst 1, 1) := by decide +kernel
theorem dX5_sum_65 : decode cX5_sum 65 = .ok (.if_icmp .ne 100, 3) := by decide +kernel
theorem dX5_sum_68 : decode cX5_sum 68 = .ok (.aload_n 0, 1) := by decide +kernel
theorem dX5_sum_69 : decode cX5_sum 69 = .ok (.getfield 44, 3) := by decide +kernel
theorem dX5_sum_72 : decode cX5_sum 72 = .ok (.aload_n 0, 1) := by decide +kernel
theorem dX5_sum_73 : decode cX5_sum 73 = .ok (.getfield 35, 3) := by decide +kernel
theorem dX5_sum_76 : decode cX5_sum 76 = .ok (.iload 6, 2) := by decide +kernel
theorem dX5_sum_78 : decode cX5_sum 78 = .ok (.iaload, 1) := by decide +kernel
theorem dX5_sum_79 : decode cX5_sum 79 = .ok (.iaload, 1) := by decide +kernel
theorem dX5_sum_80 : decode cX5_sum 80 = .ok (.istore 7, 2) := by decide +kernel
theorem dX5_sum_82 : decode cX5_sum 82 = .ok (.aload_n 0, 1) := by decide +kernel
theorem dX5_sum_83 : decode cX5_sum 83 = .ok (.getfield 44, 3) := by decide +kernel
theorem dX5_sum_86 : decode cX5_sum 86 = .ok (.aload_n 0, 1) := by decide +kernel
theorem dX5_sum_87 : decode cX5_sum 87 = .ok (.getfield 38, 3) := by decide +kernel
theorem dX5_sum_90 : decode cX5_sum 90 = .ok (.iload 6, 2) := by decide +kernel
theorem dX5_sum_92 : decode cX5_sum 92 = .ok (.iaload, 1) := by decide +kernel
theorem dX5_sum_93 : decode cX5_sum 93 = .ok (.iaload, 1) := by decide +kernel
theorem dX5_sum_94 : decode cX5_sum 94 = .ok (.istore 8, 2) := by decide +kernel
theorem dX5_sum_96 : decode cX5_sum 96 = .ok (.iload 5, 2) := by decide +kernel
theorem dX5_sum_98 : decode cX5_sum 98 = .ok (.iload 7, 2) := by decide +kernel
theorem dX5_sum_100 : decode cX5_sum 100 = .ok (.iload 8, 2) := by decide +kernel
theorem dX5_sum_102 : decode cX5_sum 102 = .ok (.if_icmp .ne 7, 3) := by decide +kernel
theorem dX5_sum_105 : decode cX5_sum 105 = .ok (.iconst 0, 1) := by decide +kernel
theorem dX5_sum_106 : decode cX5_sum 106 = .ok (.goto 4, 3) := by decide +kernel
theorem dX5_sum_109 : decode cX5_sum 109 = .ok (.iconst 1, 1) := by decide +kernel
theorem dX5_sum_110 : decode cX5_sum 110 = .ok (.isub, 1) := by decide +kernel
theorem dX5_sum_111 : decode cX5_sum 111 = .ok (.istore 5, 2) := by decide +kernel
theorem dX5_sum_113 : decode cX5_sum 113 = .ok (.iload 4, 2) := by decide +kernel
theorem dX5_sum_115 : decode cX5_sum 115 = .ok (.ineg, 1) := by decide +kernel
theorem dX5_sum_116 : decode cX5_sum 116 = .ok (.istore 4, 2) := by decide +kernel
theorem dX5_sum_118 : decode cX5_sum 118 = .ok (.iconst 0, 1) := by decide +kernel
theorem dX5_sum_119 : decode cX5_sum 119 = .ok (.istore 9, 2) := by decide +kernel
theorem dX5_sum_121 : decode cX5_sum 121 = .ok (.iload 9, 2) := by decide +kernel
theorem dX5_sum_123 : decode cX5_sum 123 = .ok (.bipush 6, 2) := by decide +kernel
theorem dX5_sum_125 : decode cX5_sum 125 = .ok (.if_icmp .ge 40, 3) := by decide +kernel
theorem dX5_sum_128 : decode cX5_sum 128 = .ok (.aload_n 0, 1) := by decide +kernel
theorem dX5_sum_129 : decode cX5_sum 129 = .ok (.getfield 44, 3) := by decide +kernel
theorem dX5_sum_132 : decode cX5_sum 132 = .ok (.iload 9, 2) := by decide +kernel
theorem dX5_sum_134 : decode cX5_sum 134 = .ok (.aload_n 0, 1) := by decide +kernel
theorem dX5_sum_135 : decode cX5_sum 135 = .ok (.getfield 44, 3) := by decide +kernel
theorem dX5_sum_138 : decode cX5_sum 138 = .ok (.iload 9, 2) := by decide +kernel
theorem dX5_sum_140 : decode cX5_sum 140 = .ok (.iaload, 1) := by decide +kernel
theorem dX5_sum_141 : decode cX5_sum 141 = .ok (.iload 7, 2) := by decide +kernel
theorem dX5_sum_143 : decode cX5_sum 143 = .ok (.if_icmp .ne 8, 3) := by decide +kernel
theorem dX5_sum_146 : decode cX5_sum 146 = .ok (.iload 8, 2) := by decide +kernel
theorem dX5_sum_148 : decode cX5_sum 148 = .ok (.goto 10, 3) := by decide +kernel
theorem dX5_sum_151 : decode cX5_sum 151 = .ok (.aload_n 0, 1) := by decide +kernel
theorem dX5_sum_152 : decode cX5_sum 152 = .ok (.getfield 44, 3) := by decide +kernel
theorem dX5_sum_155 : decode cX5_sum 155 = .ok (.iload 9, 2) := by decide +kernel
theorem dX5_sum_157 : decode cX5_sum 157 = .ok (.iaload, 1) := by decide +kernel
theorem dX5_sum_158 : decode cX5_sum 158 = .ok (.iastore, 1) := by decide +kernel
theorem dX5_sum_159 : decode cX5_sum 159 = .ok (.iinc 9 1, 3) := by decide +kernel
theorem dX5_sum_162 : decode cX5_sum 162 = .ok (.goto (-41), 3) := by decide +kernel
theorem dX5_sum_165 : decode cX5_sum 165 = .ok (.iinc 6 1, 3) := by decide +kernel
theorem dX5_sum_168 : decode cX5_sum 168 = .ok (.goto (-119), 3) := by decide +kernel
theorem dX5_sum_171 : decode cX5_sum 171 = .ok (.iconst 0, 1) := by decide +kernel
theorem dX5_sum_172 : decode cX5_sum 172 = .ok (.istore 6, 2) := by decide +kernel
theorem dX5_sum_174 : decode cX5_sum 174 = .ok (.iload 6, 2) := by decide +kernel
theorem dX5_sum_176 : decode cX5_sum 176 = .ok (.iload 5, 2) := by decide +kernel
theorem dX5_sum_178 : decode cX5_sum 178 = .ok (.if_icmp .ge 15, 3) := by decide +kernel
theorem dX5_sum_181 : decode cX5_sum 181 = .ok (.iload 4, 2) := by decide +kernel
theorem dX5_sum_183 : decode cX5_sum 183 = .ok (.iload_n 1, 1) := by decide +kernel
theorem dX5_sum_184 : decode cX5_sum 184 = .ok (.imul, 1) := by decide +kernel
theorem dX5_sum_185 : decode cX5_sum 185 = .ok (.istore 4, 2) := by decide +kernel
theorem dX5_sum_187 : decode cX5_sum 187 = .ok (.iinc 6 1, 3) := by decide +kernel
theorem dX5_sum_190 : decode cX5_sum 190 = .ok (.goto (-16), 3) := by decide +kernel
theorem dX5_sum_193 : decode cX5_sum 193 = .ok (.iload_n 2, 1) := by decide +kernel
theorem dX5_sum_194 : decode cX5_sum 194 = .ok (.iload 4, 2) := by decide +kernel
theorem dX5_sum_196 : decode cX5_sum 196 = .ok (.iadd, 1) := by decide +kernel
theorem dX5_sum_197 : decode cX5_sum 197 = .ok (.istore_n 2, 1) := by decide +kernel
theorem dX5_sum_198 : decode cX5_sum 198 = .ok (.iinc 3 1, 3) := by decide +kernel
theorem dX5_sum_201 : decode cX5_sum 201 = .ok (.goto (-197), 3) := by decide +kernel
theorem dX5_sum_204 : decode cX5_sum 204 = .ok (.iload_n 2, 1) := by decide +kernel
theorem dX5_sum_205 : decode cX5_sum 205 = .ok (.ireturn, 1) := by decide +kernel
set_option maxRecDepth 20000 in
theorem ggX5_colouringsAnew_X5_in : GoodIn wsX5_colouringsAnew wsX5_in := goodIn_r _ [4] (by decide +kernel) (by decide +kernel)
set_option maxRecDepth 20000 in
theorem gX5_colouringsAnew_X5_in : GoodIn wsX5_colouringsAnew (va_wsS RX5 54 yX5_in wsX5_in) := goodIn_app (goodIn_of _ (by decide +kernel)) ggX5_colouringsAnew_X5_in
set_option maxRecDepth 20000 in
theorem ggX5_colouringsAnew_X5_fails : GoodIn wsX5_colouringsAnew wsX5_fails := goodIn_r _ [8, 9, 18, 19, 20, 21, 22, 23, 24, 25, 26, 27, 28, 29, 30, 31, 32, 33, 34, 35, 36] (by decide +kernel) (by decide +kernel)
set_option maxRecDepth 20000 in
theorem gX5_colouringsAnew_X5_fails : GoodIn wsX5_colouringsAnew (wsV RX5 62 RX5 yX5_fails wsX5_fails) := goodIn_app (goodIn_of _ (by decide +kernel)) ggX5_colouringsAnew_X5_fails
set_option maxRecDepth 20000 in
theorem ggX5_colouringsAnew_X5_sum : GoodIn wsX5_colouringsAnew wsX5_sum := goodIn_r _ [13, 14, 15, 16, 17, 18, 19, 20, 21, 22, 23, 24, 25, 26, 27, 28, 29, 30, 31, 32, 33, 34, 35, 36] (by decide +kernel) (by decide +kernel)
set_option maxRecDepth 20000 in
theorem gX5_colouringsAnew_X5_sum : GoodIn wsX5_colouringsAnew (wsV RX5 156 RX5 yX5_sum wsX5_sum) := goodIn_app (goodIn_of _ (by decide +kernel)) ggX5_colouringsAnew_X5_sum
theorem dX5_colouringsAnew_0 : decode cX5_colouringsAnew 0 = .ok (.aload_n 0, 1) := by decide +kernel
theorem dX5_colouringsAnew_1 : decode cX5_colouringsAnew 1 = .ok (.iload_n 1, 1) := by decide +kernel
theorem dX5_colouringsAnew_2 : decode cX5_colouringsAnew 2 = .ok (.iconst 0, 1) := by decide +kernel
theorem dX5_colouringsAnew_3 : decode cX5_colouringsAnew 3 = .ok (.bipush 6, 2) := by decide +kernel
theorem dX5_colouringsAnew_5 : decode cX5_colouringsAnew 5 = .ok (.invokestatic 54, 3) := by decide +kernel
theorem dX5_colouringsAnew_8 : decode cX5_colouringsAnew 8 = .ok (.iconst 1, 1) := by decide +kernel
theorem dX5_colouringsAnew_9 : decode cX5_colouringsAnew 9 = .ok (.invokevirtual 62, 3) := by decide +kernel
theorem dX5_colouringsAnew_12 : decode cX5_colouringsAnew 12 = .ok (.ifCond .eq 5, 3) := by decide +kernel
theorem dX5_colouringsAnew_15 : decode cX5_colouringsAnew 15 = .ok (.iconst 0, 1) := by decide +kernel
theorem dX5_colouringsAnew_16 : decode cX5_colouringsAnew 16 = .ok (.ireturn, 1) := by decide +kernel
theorem dX5_colouringsAnew_17 : decode cX5_colouringsAnew 17 = .ok (.aload_n 0, 1) := by decide +kernel
theorem dX5_colouringsAnew_18 : decode cX5_colouringsAnew 18 = .ok (.iload_n 1, 1) := by decide +kernel
theorem dX5_colouringsAnew_19 : decode cX5_colouringsAnew 19 = .ok (.invokevirtual 156, 3) := by decide +kernel
theorem dX5_colouringsAnew_22 : decode cX5_colouringsAnew 22 = .ok (.ireturn, 1) := by decide +kernel
theorem dX5_directions_0 : decode cX5_directions 0 = .ok (.aload_n 0, 1) := by decide +kernel
theorem dX5_directions_1 : decode cX5_directions 1 = .ok (.iconst 0, 1) := by decide +kernel
theorem dX5_directions_2 : decode cX5_directions 2 = .ok (.putfield 47, 3) := by decide +kernel
theorem dX5_directions_5 : decode cX5_directions 5 = .ok (.iconst 0, 1) := by decide +kernel
theorem dX5_directions_6 : decode cX5_directions 6 = .ok (.istore_n 1, 1) := by decide +kernel
theorem dX5_directions_7 : decode cX5_directions 7 = .ok (.iconst 0, 1) := by decide +kernel
theorem dX5_directions_8 : decode cX5_directions 8 = .ok (.istore_n 2, 1) := by decide +kernel
theorem dX5_directions_9 : decode cX5_directions 9 = .ok (.iload_n 2, 1) := by decide +kernel
theorem dX5_directions_10 : decode cX5_directions 10 = .ok (.iconst 1, 1) := by decide +kernel
theorem dX5_directions_11 : decode cX5_directions 11 = .ok (.aload_n 0, 1) := by decide +kernel
theorem dX5_directions_12 : decode cX5_directions 12 = .ok (.getfield 153, 3) := by decide +kernel
theorem dX5_directions_15 : decode cX5_directions 15 = .ok (.ishl, 1) := by decide +kernel
theorem dX5_directions_16 : decode cX5_directions 16 = .ok (.if_icmp .ge 150, 3) := by decide +kernel
theorem dX5_directions_19 : decode cX5_directions 19 = .ok (.bipush 63, 2) := by decide +kernel
theorem dX5_directions_21 : decode cX5_directions 21 = .ok (.istore_n 3, 1) := by decide +kernel
theorem dX5_directions_22 : decode cX5_directions 22 = .ok (.iconst 0, 1) := by decide +kernel
theorem dX5_directions_23 : decode cX5_directions 23 = .ok (.istore 4, 2) := by decide +kernel
theorem dX5_directions_25 : decode cX5_directions 25 = .ok (.iload 4, 2) := by decide +kernel
theorem dX5_directions_27 : decode cX5_directions 27 = .ok (.bipush 6, 2) := by decide +kernel
theorem dX5_directions_29 : decode cX5_directions 29 = .ok (.if_icmp .ge 119, 3) := by decide +kernel
theorem dX5_directions_32 : decode cX5_directions 32 = .ok (.iconst 0, 1) := by decide +kernel
theorem dX5_directions_33 : decode cX5_directions 33 = .ok (.istore 5, 2) := by decide +kernel
theorem dX5_directions_35 : decode cX5_directions 35 = .ok (.iconst 0, 1) := by decide +kernel
theorem dX5_directions_36 : decode cX5_directions 36 = .ok (.istore 6, 2) := by decide +kernel
theorem dX5_directions_38 : decode cX5_directions 38 = .ok (.iload 6, 2) := by decide +kernel
theorem dX5_directions_40 : decode cX5_directions 40 = .ok (.aload_n 0, 1) := by decide +kernel
theorem dX5_directions_41 : decode cX5_directions 41 = .ok (.getfield 153, 3) := by decide +kernel
theorem dX5_directions_44 : decode cX5_directions 44 = .ok (.if_icmp .ge 93, 3) := by decide +kernel
theorem dX5_directions_47 : decode cX5_directions 47 = .ok (.iload_n 2, 1) := by decide +kernel
theorem dX5_directions_48 : decode cX5_directions 48 = .ok (.iload 6, 2) := by decide +kernel
theorem dX5_directions_50 : decode cX5_directions 50 = .ok (.ishr, 1) := by decide +kernel
theorem dX5_directions_51 : decode cX5_directions 51 = .ok (.iconst 1, 1) := by decide +kernel
theorem dX5_directions_52 : decode cX5_directions 52 = .ok (.iand, 1) := by decide +kernel
theorem dX5_directions_53 : decode cX5_directions 53 = .ok (.iconst 1, 1) := by decide +kernel
theorem dX5_directions_54 : decode cX5_directions 54 = .ok (.if_icmp .ne 7, 3) := by decide +kernel
theorem dX5_directions_57 : decode cX5_directions 57 = .ok (.iconst 1, 1) := by decide +kernel
theorem dX5_directions_58 : decode cX5_directions 58 = .ok (.goto 4, 3) := by decide +kernel
theorem dX5_directions_61 : decode cX5_directions 61 = .ok (.iconst 0, 1) := by decide +kernel
theorem dX5_directions_62 : decode cX5_directions 62 = .ok (.istore 7, 2) := by decide +kernel
theorem dX5_directions_64 : decode cX5_directions 64 = .ok (.iload 7, 2) := by decide +kernel
theorem dX5_directions_66 : decode cX5_directions 66 = .ok (.ifCond .eq 13, 3) := by decide +kernel
theorem dX5_directions_69 : decode cX5_directions 69 = .ok (.aload_n 0, 1) := by decide +kernel
theorem dX5_directions_70 : decode cX5_directions 70 = .ok (.getfield 38, 3) := by decide +kernel
theorem dX5_directions_73 : decode cX5_directions 73 = .ok (.iload 6, 2) := by decide +kernel
theorem dX5_directions_75 : decode cX5_directions 75 = .ok (.iaload, 1) := by decide +kernel
theorem dX5_directions_76 : decode cX5_directions 76 = .ok (.goto 10, 3) := by decide +kernel
theorem dX5_directions_79 : decode cX5_directions 79 = .ok (.aload_n 0, 1) := by decide +kernel
theorem dX5_directions_80 : decode cX5_directions 80 = .ok (.getfield 35, 3) := by decide +kernel
theorem dX5_directions_83 : decode cX5_directions 83 = .ok (.iload 6, 2) := by decide +kernel
theorem dX5_directions_85 : decode cX5_directions 85 = .ok (.iaload, 1) := by decide +kernel
theorem dX5_directions_86 : decode cX5_directions 86 = .ok (.istore 8, 2) := by decide +kernel
theorem dX5_directions_88 : decode cX5_directions 88 = .ok (.iload 5, 2) := by decide +kernel
theorem dX5_directions_90 : decode cX5_directions 90 = .ok (.iload_n 3, 1) := by decide +kernel
theorem dX5_directions_91 : decode cX5_directions 91 = .ok (.iload 8, 2) := by decide +kernel
theorem dX5_directions_93 : decode cX5_directions 93 = .ok (.ishr, 1) := by decide +kernel
theorem dX5_directions_94 : decode cX5_directions 94 = .ok (.iconst 1, 1) := by decide +kernel
theorem dX5_directions_95 : decode cX5_directions 95 = .ok (.iand, 1) := by decide +kernel
theorem dX5_directions_96 : decode cX5_directions 96 = .ok (.iconst 1, 1) := by decide +kernel
theorem dX5_directions_97 : decode cX5_directions 97 = .ok (.if_icmp .ne 30, 3) := by decide +kernel
theorem dX5_directions_100 : decode cX5_directions 100 = .ok (.iconst 1, 1) := by decide +kernel
theorem dX5_directions_101 : decode cX5_directions 101 = .ok (.iload 7, 2) := by decide +kernel
theorem dX5_directions_103 : decode cX5_directions 103 = .ok (.ifCond .eq 13, 3) := by decide +kernel
theorem dX5_directions_106 : decode cX5_directions 106 = .ok (.aload_n 0, 1) := by decide +kernel
theorem dX5_directions_107 : decode cX5_directions 107 = .ok (.getfield 35, 3) := by decide +kernel
theorem dX5_directions_110 : decode cX5_directions 110 = .ok (.iload 6, 2) := by decide +kernel
theorem dX5_directions_112 : decode cX5_directions 112 = .ok (.iaload, 1) := by decide +kernel
theorem dX5_directions_113 : decode cX5_directions 113 = .ok (.goto 10, 3) := by decide +kernel
theorem dX5_directions_116 : decode cX5_directions 116 = .ok (.aload_n 0, 1) := by decide +kernel
theorem dX5_directions_117 : decode cX5_directions 117 = .ok (.getfield 38, 3) := by decide +kernel
theorem dX5_directions_120 : decode cX5_directions 120 = .ok (.iload 6, 2) := by decide +kernel
theorem dX5_directions_122 : decode cX5_directions 122 = .ok (.iaload, 1) := by decide +kernel
theorem dX5_directions_123 : decode cX5_directions 123 = .ok (.ishl, 1) := by decide +kernel
theorem dX5_directions_124 : decode cX5_directions 124 = .ok (.goto 4, 3) := by decide +kernel
theorem dX5_directions_127 : decode cX5_directions 127 = .ok (.iconst 0, 1) := by decide +kernel
theorem dX5_directions_128 : decode cX5_directions 128 = .ok (.ior, 1) := by decide +kernel
theorem dX5_directions_129 : decode cX5_directions 129 = .ok (.istore 5, 2) := by decide +kernel
theorem dX5_directions_131 : decode cX5_directions 131 = .ok (.iinc 6 1, 3) := by decide +kernel
theorem dX5_directions_134 : decode cX5_directions 134 = .ok (.goto (-96), 3) := by decide +kernel
theorem dX5_directions_137 : decode cX5_directions 137 = .ok (.iload_n 3, 1) := by decide +kernel
theorem dX5_directions_138 : decode cX5_directions 138 = .ok (.iload 5, 2) := by decide +kernel
theorem dX5_directions_140 : decode cX5_directions 140 = .ok (.iand, 1) := by decide +kernel
theorem dX5_directions_141 : decode cX5_directions 141 = .ok (.istore_n 3, 1) := by decide +kernel
theorem dX5_directions_142 : decode cX5_directions 142 = .ok (.iinc 4 1, 3) := by decide +kernel
theorem dX5_directions_145 : decode cX5_directions 145 = .ok (.goto (-120), 3) := by decide +kernel
theorem dX5_directions_148 : decode cX5_directions 148 = .ok (.iload_n 1, 1) := by decide +kernel
theorem dX5_directions_149 : decode cX5_directions 149 = .ok (.iload_n 3, 1) := by decide +kernel
theorem dX5_directions_150 : decode cX5_directions 150 = .ok (.ifCond .ne 7, 3) := by decide +kernel
theorem dX5_directions_153 : decode cX5_directions 153 = .ok (.iconst 1, 1) := by decide +kernel
theorem dX5_directions_154 : decode cX5_directions 154 = .ok (.goto 4, 3) := by decide +kernel
theorem dX5_directions_157 : decode cX5_directions 157 = .ok (.iconst 0, 1) := by decide +kernel
theorem dX5_directions_158 : decode cX5_directions 158 = .ok (.iadd, 1) := by decide +kernel
theorem dX5_directions_159 : decode cX5_directions 159 = .ok (.istore_n 1, 1) := by decide +kernel
theorem dX5_directions_160 : decode cX5_directions 160 = .ok (.iinc 2 1, 3) := by decide +kernel
theorem dX5_directions_163 : decode cX5_directions 163 = .ok (.goto (-154), 3) := by decide +kernel
theorem dX5_directions_166 : decode cX5_directions 166 = .ok (.iload_n 1, 1) := by decide +kernel
theorem dX5_directions_167 : decode cX5_directions 167 = .ok (.ireturn, 1) := by decide +kernel
set_option maxRecDepth 20000 in
theorem ggX5_directionsAnew_X5_sum : GoodIn wsX5_directionsAnew wsX5_sum := goodIn_r _ [6, 7, 8, 9, 10, 11, 12, 13, 14, 15, 16, 17, 18, 19, 20, 21, 22, 23, 24, 25, 26, 27, 28, 29] (by decide +kernel) (by decide +kernel)
set_option maxRecDepth 20000 in
theorem gX5_directionsAnew_X5_sum : GoodIn wsX5_directionsAnew (wsV RX5 156 RX5 yX5_sum wsX5_sum) := goodIn_app (goodIn_of _ (by decide +kernel)) ggX5_directionsAnew_X5_sum
theorem dX5_directionsAnew_0 : decode cX5_directionsAnew 0 = .ok (.aload_n 0, 1) := by decide +kernel
theorem dX5_directionsAnew_1 : decode cX5_directionsAnew 1 = .ok (.iconst 0, 1) := by decide +kernel
theorem dX5_directionsAnew_2 : decode cX5_directionsAnew 2 = .ok (.putfield 47, 3) := by decide +kernel
theorem dX5_directionsAnew_5 : decode cX5_directionsAnew 5 = .ok (.aload_n 0, 1) := by decide +kernel
theorem dX5_directionsAnew_6 : decode cX5_directionsAnew 6 = .ok (.iconst (-1), 1) := by decide +kernel
theorem dX5_directionsAnew_7 : decode cX5_directionsAnew 7 = .ok (.invokevirtual 156, 3) := by decide +kernel
theorem dX5_directionsAnew_10 : decode cX5_directionsAnew 10 = .ok (.ireturn, 1) := by decide +kernel
theorem dJ6_bitCount_0f7a4_0 : decode cJ6_bitCount_0f7a4 0 = .ok (.iload_n 0, 1) := by decide +kernel
theorem dJ6_bitCount_0f7a4_1 : decode cJ6_bitCount_0f7a4 1 = .ok (.iload_n 0, 1) := by decide +kernel
theorem dJ6_bitCount_0f7a4_2 : decode cJ6_bitCount_0f7a4 2 = .ok (.iconst 1, 1) := by decide +kernel
theorem dJ6_bitCount_0f7a4_3 : decode cJ6_bitCount_0f7a4 3 = .ok (.iushr, 1) := by decide +kernel
theorem dJ6_bitCount_0f7a4_4 : decode cJ6_bitCount_0f7a4 4 = .ok (.ldc_w 265, 3) := by decide +kernel
theorem dJ6_bitCount_0f7a4_7 : decode cJ6_bitCount_0f7a4 7 = .ok (.iand, 1) := by decide +kernel
theorem dJ6_bitCount_0f7a4_8 : decode cJ6_bitCount_0f7a4 8 = .ok (.isub, 1) := by decide +kernel
theorem dJ6_bitCount_0f7a4_9 : decode cJ6_bitCount_0f7a4 9 = .ok (.istore_n 0, 1) := by decide +kernel
theorem dJ6_bitCount_0f7a4_10 : decode cJ6_bitCount_0f7a4 10 = .ok (.iload_n 0, 1) := by decide +kernel
theorem dJ6_bitCount_0f7a4_11 : decode cJ6_bitCount_0f7a4 11 = .ok (.ldc_w 266, 3) := by decide +kernel
theorem dJ6_bitCount_0f7a4_14 : decode cJ6_bitCount_0f7a4 14 = .ok (.iand, 1) := by decide +kernel
theorem dJ6_bitCount_0f7a4_15 : decode cJ6_bitCount_0f7a4 15 = .ok (.iload_n 0, 1) := by decide +kernel
theorem dJ6_bitCount_0f7a4_16 : decode cJ6_bitCount_0f7a4 16 = .ok (.iconst 2, 1) := by decide +kernel
theorem dJ6_bitCount_0f7a4_17 : decode cJ6_bitCount_0f7a4 17 = .ok (.iushr, 1) := by decide +kernel
theorem dJ6_bitCount_0f7a4_18 : decode cJ6_bitCount_0f7a4 18 = .ok (.ldc_w 266, 3) := by decide +kernel
theorem dJ6_bitCount_0f7a4_21 : decode cJ6_bitCount_0f7a4 21 = .ok (.iand, 1) := by decide +kernel
theorem dJ6_bitCount_0f7a4_22 : decode cJ6_bitCount_0f7a4 22 = .ok (.iadd, 1) := by decide +kernel
theorem dJ6_bitCount_0f7a4_23 : decode cJ6_bitCount_0f7a4 23 = .ok (.istore_n 0, 1) := by decide +kernel
theorem dJ6_bitCount_0f7a4_24 : decode cJ6_bitCount_0f7a4 24 = .ok (.iload_n 0, 1) := by decide +kernel
theorem dJ6_bitCount_0f7a4_25 : decode cJ6_bitCount_0f7a4 25 = .ok (.iload_n 0, 1) := by decide +kernel
theorem dJ6_bitCount_0f7a4_26 : decode cJ6_bitCount_0f7a4 26 = .ok (.iconst 4, 1) := by decide +kernel
theorem dJ6_bitCount_0f7a4_27 : decode cJ6_bitCount_0f7a4 27 = .ok (.iushr, 1) := by decide +kernel
theorem dJ6_bitCount_0f7a4_28 : decode cJ6_bitCount_0f7a4 28 = .ok (.iadd, 1) := by decide +kernel
theorem dJ6_bitCount_0f7a4_29 : decode cJ6_bitCount_0f7a4 29 = .ok (.ldc_w 267, 3) := by decide +kernel
theorem dJ6_bitCount_0f7a4_32 : decode cJ6_bitCount_0f7a4 32 = .ok (.iand, 1) := by decide +kernel
theorem dJ6_bitCount_0f7a4_33 : decode cJ6_bitCount_0f7a4 33 = .ok (.istore_n 0, 1) := by decide +kernel
theorem dJ6_bitCount_0f7a4_34 : decode cJ6_bitCount_0f7a4 34 = .ok (.iload_n 0, 1) := by decide +kernel
theorem dJ6_bitCount_0f7a4_35 : decode cJ6_bitCount_0f7a4 35 = .ok (.iload_n 0, 1) := by decide +kernel
theorem dJ6_bitCount_0f7a4_36 : decode cJ6_bitCount_0f7a4 36 = .ok (.bipush 8, 2) := by decide +kernel
theorem dJ6_bitCount_0f7a4_38 : decode cJ6_bitCount_0f7a4 38 = .ok (.iushr, 1) := by decide +kernel
theorem dJ6_bitCount_0f7a4_39 : decode cJ6_bitCount_0f7a4 39 = .ok (.iadd, 1) := by decide +kernel
theorem dJ6_bitCount_0f7a4_40 : decode cJ6_bitCount_0f7a4 40 = .ok (.istore_n 0, 1) := by decide +kernel
theorem dJ6_bitCount_0f7a4_41 : decode cJ6_bitCount_0f7a4 41 = .ok (.iload_n 0, 1) := by decide +kernel
theorem dJ6_bitCount_0f7a4_42 : decode cJ6_bitCount_0f7a4 42 = .ok (.iload_n 0, 1) := by decide +kernel
theorem dJ6_bitCount_0f7a4_43 : decode cJ6_bitCount_0f7a4 43 = .ok (.bipush 16, 2) := by decide +kernel
theorem dJ6_bitCount_0f7a4_45 : decode cJ6_bitCount_0f7a4 45 = .ok (.iushr, 1) := by decide +kernel
theorem dJ6_bitCount_0f7a4_46 : decode cJ6_bitCount_0f7a4 46 = .ok (.iadd, 1) := by decide +kernel
theorem dJ6_bitCount_0f7a4_47 : decode cJ6_bitCount_0f7a4 47 = .ok (.istore_n 0, 1) := by decide +kernel
theorem dJ6_bitCount_0f7a4_48 : decode cJ6_bitCount_0f7a4 48 = .ok (.iload_n 0, 1) := by decide +kernel
theorem dJ6_bitCount_0f7a4_49 : decode cJ6_bitCount_0f7a4 49 = .ok (.bipush 63, 2) := by decide +kernel
theorem dJ6_bitCount_0f7a4_51 : decode cJ6_bitCount_0f7a4 51 = .ok (.iand, 1) := by decide +kernel
theorem dJ6_bitCount_0f7a4_52 : decode cJ6_bitCount_0f7a4 52 = .ok (.ireturn, 1) := by decide +kernel
theorem dJ13_bitCount_95d88_0 : decode cJ13_bitCount_95d88 0 = .ok (.lload_n 0, 1) := by decide +kernel
theorem dJ13_bitCount_95d88_1 : decode cJ13_bitCount_95d88 1 = .ok (.lload_n 0, 1) := by decide +kernel
theorem dJ13_bitCount_95d88_2 : decode cJ13_bitCount_95d88 2 = .ok (.iconst 1, 1) := by decide +kernel
theorem dJ13_bitCount_95d88_3 : decode cJ13_bitCount_95d88 3 = .ok (.lushr, 1) := by decide +kernel
theorem dJ13_bitCount_95d88_4 : decode cJ13_bitCount_95d88 4 = .ok (.ldc2_w 314, 3) := by decide +kernel
theorem dJ13_bitCount_95d88_7 : decode cJ13_bitCount_95d88 7 = .ok (.land, 1) := by decide +kernel
theorem dJ13_bitCount_95d88_8 : decode cJ13_bitCount_95d88 8 = .ok (.lsub, 1) := by decide +kernel
theorem dJ13_bitCount_95d88_9 : decode cJ13_bitCount_95d88 9 = .ok (.lstore_n 0, 1) := by decide +kernel
theorem dJ13_bitCount_95d88_10 : decode cJ13_bitCount_95d88 10 = .ok (.lload_n 0, 1) := by decide +kernel
theorem dJ13_bitCount_95d88_11 : decode cJ13_bitCount_95d88 11 = .ok (.ldc2_w 316, 3) := by decide +kernel
theorem dJ13_bitCount_95d88_14 : decode cJ13_bitCount_95d88 14 = .ok (.land, 1) := by decide +kernel
theorem dJ13_bitCount_95d88_15 : decode cJ13_bitCount_95d88 15 = .ok (.lload_n 0, 1) := by decide +kernel
theorem dJ13_bitCount_95d88_16 : decode cJ13_bitCount_95d88 16 = .ok (.iconst 2, 1) := by decide +kernel
theorem dJ13_bitCount_95d88_17 : decode cJ13_bitCount_95d88 17 = .ok (.lushr, 1) := by decide +kernel
theorem dJ13_bitCount_95d88_18 : decode cJ13_bitCount_95d88 18 = .ok (.ldc2_w 316, 3) := by decide +kernel
theorem dJ13_bitCount_95d88_21 : decode cJ13_bitCount_95d88 21 = .ok (.land, 1) := by decide +kernel
theorem dJ13_bitCount_95d88_22 : decode cJ13_bitCount_95d88 22 = .ok (.ladd, 1) := by decide +kernel
theorem dJ13_bitCount_95d88_23 : decode cJ13_bitCount_95d88 23 = .ok (.lstore_n 0, 1) := by decide +kernel
theorem dJ13_bitCount_95d88_24 : decode cJ13_bitCount_95d88 24 = .ok (.lload_n 0, 1) := by decide +kernel
theorem dJ13_bitCount_95d88_25 : decode cJ13_bitCount_95d88 25 = .ok (.lload_n 0, 1) := by decide +kernel
theorem dJ13_bitCount_95d88_26 : decode cJ13_bitCount_95d88 26 = .ok (.iconst 4, 1) := by decide +kernel
theorem dJ13_bitCount_95d88_27 : decode cJ13_bitCount_95d88 27 = .ok (.lushr, 1) := by decide +kernel
theorem dJ13_bitCount_95d88_28 : decode cJ13_bitCount_95d88 28 = .ok (.ladd, 1) := by decide +kernel
theorem dJ13_bitCount_95d88_29 : decode cJ13_bitCount_95d88 29 = .ok (.ldc2_w 318, 3) := by decide +kernel
theorem dJ13_bitCount_95d88_32 : decode cJ13_bitCount_95d88 32 = .ok (.land, 1) := by decide +kernel
theorem dJ13_bitCount_95d88_33 : decode cJ13_bitCount_95d88 33 = .ok (.lstore_n 0, 1) := by decide +kernel
theorem dJ13_bitCount_95d88_34 : decode cJ13_bitCount_95d88 34 = .ok (.lload_n 0, 1) := by decide +kernel
theorem dJ13_bitCount_95d88_35 : decode cJ13_bitCount_95d88 35 = .ok (.lload_n 0, 1) := by decide +kernel
theorem dJ13_bitCount_95d88_36 : decode cJ13_bitCount_95d88 36 = .ok (.bipush 8, 2) := by decide +kernel
theorem dJ13_bitCount_95d88_38 : decode cJ13_bitCount_95d88 38 = .ok (.lushr, 1) := by decide +kernel
theorem dJ13_bitCount_95d88_39 : decode cJ13_bitCount_95d88 39 = .ok (.ladd, 1) := by decide +kernel
theorem dJ13_bitCount_95d88_40 : decode cJ13_bitCount_95d88 40 = .ok (.lstore_n 0, 1) := by decide +kernel
theorem dJ13_bitCount_95d88_41 : decode cJ13_bitCount_95d88 41 = .ok (.lload_n 0, 1) := by decide +kernel
theorem dJ13_bitCount_95d88_42 : decode cJ13_bitCount_95d88 42 = .ok (.lload_n 0, 1) := by decide +kernel
theorem dJ13_bitCount_95d88_43 : decode cJ13_bitCount_95d88 43 = .ok (.bipush 16, 2) := by decide +kernel
theorem dJ13_bitCount_95d88_45 : decode cJ13_bitCount_95d88 45 = .ok (.lushr, 1) := by decide +kernel
theorem dJ13_bitCount_95d88_46 : decode cJ13_bitCount_95d88 46 = .ok (.ladd, 1) := by decide +kernel
theorem dJ13_bitCount_95d88_47 : decode cJ13_bitCount_95d88 47 = .ok (.lstore_n 0, 1) := by decide +kernel
theorem dJ13_bitCount_95d88_48 : decode cJ13_bitCount_95d88 48 = .ok (.lload_n 0, 1) := by decide +kernel
theorem dJ13_bitCount_95d88_49 : decode cJ13_bitCount_95d88 49 = .ok (.lload_n 0, 1) := by decide +kernel
theorem dJ13_bitCount_95d88_50 : decode cJ13_bitCount_95d88 50 = .ok (.bipush 32, 2) := by decide +kernel
theorem dJ13_bitCount_95d88_52 : decode cJ13_bitCount_95d88 52 = .ok (.lushr, 1) := by decide +kernel
theorem dJ13_bitCount_95d88_53 : decode cJ13_bitCount_95d88 53 = .ok (.ladd, 1) := by decide +kernel
theorem dJ13_bitCount_95d88_54 : decode cJ13_bitCount_95d88 54 = .ok (.lstore_n 0, 1) := by decide +kernel
theorem dJ13_bitCount_95d88_55 : decode cJ13_bitCount_95d88 55 = .ok (.lload_n 0, 1) := by decide +kernel
theorem dJ13_bitCount_95d88_56 : decode cJ13_bitCount_95d88 56 = .ok (.l2i, 1) := by decide +kernel
theorem dJ13_bitCount_95d88_57 : decode cJ13_bitCount_95d88 57 = .ok (.bipush 127, 2) := by decide +kernel
theorem dJ13_bitCount_95d88_59 : decode cJ13_bitCount_95d88 59 = .ok (.iand, 1) := by decide +kernel
theorem dJ13_bitCount_95d88_60 : decode cJ13_bitCount_95d88 60 = .ok (.ireturn, 1) := by decide +kernel
theorem dJ9_abs_0f7a4_0 : decode cJ9_abs_0f7a4 0 = .ok (.iload_n 0, 1) := by decide +kernel
theorem dJ9_abs_0f7a4_1 : decode cJ9_abs_0f7a4 1 = .ok (.ifCond .ge 8, 3) := by decide +kernel
theorem dJ9_abs_0f7a4_4 : decode cJ9_abs_0f7a4 4 = .ok (.iload_n 0, 1) := by decide +kernel
theorem dJ9_abs_0f7a4_5 : decode cJ9_abs_0f7a4 5 = .ok (.ineg, 1) := by decide +kernel
theorem dJ9_abs_0f7a4_6 : decode cJ9_abs_0f7a4 6 = .ok (.goto 4, 3) := by decide +kernel
theorem dJ9_abs_0f7a4_9 : decode cJ9_abs_0f7a4 9 = .ok (.iload_n 0, 1) := by decide +kernel
theorem dJ9_abs_0f7a4_10 : decode cJ9_abs_0f7a4 10 = .ok (.ireturn, 1) := by decide +kernel
set_option maxRecDepth 20000 in
theorem ggL_line_X4_line : GoodIn wsL_line wsX4_line := goodIn_ca (goodIn_ca (goodIn_r _ [7, 8, 9, 10, 11, 12, 13, 14, 6, 15, 16, 17, 18, 19, 20, 21, 22, 23, 24, 25, 26, 27, 28, 29, 30, 31, 32, 33, 34, 35, 36, 37, 38, 39, 40, 41, 42, 43, 44, 45, 46, 47, 48, 49, 50, 51, 52, 53, 54, 55, 56, 57, 58, 59, 60, 61, 62, 63, 64, 65, 66, 67, 68, 69, 70, 71, 72, 73, 74, 75, 76, 77, 78, 79, 80, 81, 82, 83, 84, 85, 86, 87, 88, 89, 90, 91, 92, 93, 94, 95, 96, 97, 98, 99, 100, 101, 102, 103, 104, 105, 106, 107, 108, 109, 110, 111, 112, 113, 114, 115, 116, 117, 118, 119, 120, 121, 122, 123, 124, 125, 126, 127, 128, 129, 130, 131, 132, 133, 134, 135, 136, 137, 138, 139, 140, 141, 142, 143, 144, 145, 146, 147, 148, 149, 150, 151, 152, 153, 154, 155, 156, 157, 158, 159, 160, 161, 162, 163, 164, 165, 166, 167, 168, 169, 170, 171, 172, 173, 174, 175, 176, 177, 178, 179, 180, 181, 182, 183] (by decide +kernel) (by decide +kernel)) (goodIn_sub (fun _ h => List.mem_cons_of_mem _ (List.mem_append_left _ (List.mem_append_right _ h))) (by decide +kernel))) (goodIn_sub (fun _ h => List.mem_cons_of_mem _ (List.mem_append_right _ h)) (by decide +kernel))
set_option maxRecDepth 20000 in
theorem gL_line_X4_line : GoodIn wsL_line (wsV RL 7 RX4 yX4_line wsX4_line) := goodIn_app (goodIn_of _ (by decide +kernel)) ggL_line_X4_line
theorem dL_line_0 : decode cL_line 0 = .ok (.aload 4, 2) := by decide +kernel
theorem dL_line_2 : decode cL_line 2 = .ok (.iconst 0, 1) := by decide +kernel
theorem dL_line_3 : decode cL_line 3 = .ok (.aload_n 0, 1) := by decide +kernel
theorem dL_line_4 : decode cL_line 4 = .ok (.iload_n 1, 1) := by decide +kernel
theorem dL_line_5 : decode cL_line 5 = .ok (.iload_n 2, 1) := by decide +kernel
theorem dL_line_6 : decode cL_line 6 = .ok (.iload_n 3, 1) := by decide +kernel
theorem dL_line_7 : decode cL_line 7 = .ok (.invokevirtual 7, 3) := by decide +kernel
theorem dL_line_10 : decode cL_line 10 = .ok (.i2l, 1) := by decide +kernel
theorem dL_line_11 : decode cL_line 11 = .ok (.lastore, 1) := by decide +kernel
theorem dL_line_12 : decode cL_line 12 = .ok (.goto 11, 3) := by decide +kernel
theorem dL_line_15 : decode cL_line 15 = .ok (.astore 5, 2) := by decide +kernel
theorem dL_line_17 : decode cL_line 17 = .ok (.iconst 1, 1) := by decide +kernel
theorem dL_line_18 : decode cL_line 18 = .ok (.ireturn, 1) := by decide +kernel
theorem dL_line_19 : decode cL_line 19 = .ok (.astore 5, 2) := by decide +kernel
theorem dL_line_21 : decode cL_line 21 = .ok (.iconst 2, 1) := by decide +kernel
theorem dL_line_22 : decode cL_line 22 = .ok (.ireturn, 1) := by decide +kernel
theorem dL_line_23 : decode cL_line 23 = .ok (.iconst 0, 1) := by decide +kernel
theorem dL_line_24 : decode cL_line 24 = .ok (.ireturn, 1) := by decide +kernel
set_option maxRecDepth 20000 in
theorem ggL_takeAway_X4_takeAway : GoodIn wsL_takeAway wsX4_takeAway := goodIn_ca (goodIn_r _ [6, 7, 8, 9, 10, 5, 11, 12, 13, 14, 15, 16, 17, 18, 19, 20, 21, 22, 23, 24, 25, 26, 27, 28, 29, 30, 31, 32, 33, 34, 35, 36, 37, 38, 39, 40, 41, 42, 43, 44, 45, 46, 47, 48, 49, 50, 51, 52, 53, 54, 55, 56, 57, 58, 59, 60, 61, 62, 63, 64, 65, 66, 67, 68, 69, 70, 71, 72, 73, 74, 75, 76, 77, 78, 79, 80, 81, 82, 83, 84, 85, 86, 87, 88, 89, 90, 91, 92, 93, 94, 95, 96, 97, 98, 99, 100, 101, 102, 103, 104, 105, 106, 107, 108, 109, 110, 111, 112, 113, 114, 115, 116, 117, 118, 119, 120, 121, 122, 123, 124, 125, 126, 127, 128, 129, 130, 131, 132, 133, 134, 135, 136, 137, 138, 139, 140, 141, 142, 143, 144, 145, 146, 147, 148, 149, 150, 151, 152, 153, 154, 155, 156, 157, 158, 159, 160, 161, 162, 163, 164, 165, 166, 167, 168, 169, 170, 171, 172] (by decide +kernel) (by decide +kernel)) (goodIn_sub (fun _ h => List.mem_cons_of_mem _ (List.mem_append_right _ h)) (by decide +kernel))
set_option maxRecDepth 20000 in
theorem gL_takeAway_X4_takeAway : GoodIn wsL_takeAway (wsV RL 17 RX4 yX4_takeAway wsX4_takeAway) := goodIn_app (goodIn_of _ (by decide +kernel)) ggL_takeAway_X4_takeAway
theorem dL_takeAway_0 : decode cL_takeAway 0 = .ok (.aload_n 2, 1) := by decide +kernel
theorem dL_takeAway_1 : decode cL_takeAway 1 = .ok (.iconst 0, 1) := by decide +kernel
theorem dL_takeAway_2 : decode cL_takeAway 2 = .ok (.aload_n 0, 1) := by decide +kernel
theorem dL_takeAway_3 : decode cL_takeAway 3 = .ok (.iload_n 1, 1) := by decide +kernel
theorem dL_takeAway_4 : decode cL_takeAway 4 = .ok (.invokevirtual 17, 3) := by decide +kernel
theorem dL_takeAway_7 : decode cL_takeAway 7 = .ok (.i2l, 1) := by decide +kernel
theorem dL_takeAway_8 : decode cL_takeAway 8 = .ok (.lastore, 1) := by decide +kernel
theorem dL_takeAway_9 : decode cL_takeAway 9 = .ok (.goto 6, 3) := by decide +kernel
theorem dL_takeAway_12 : decode cL_takeAway 12 = .ok (.astore_n 3, 1) := by decide +kernel
theorem dL_takeAway_13 : decode cL_takeAway 13 = .ok (.iconst 1, 1) := by decide +kernel
theorem dL_takeAway_14 : decode cL_takeAway 14 = .ok (.ireturn, 1) := by decide +kernel
theorem dL_takeAway_15 : decode cL_takeAway 15 = .ok (.iconst 0, 1) := by decide +kernel
theorem dL_takeAway_16 : decode cL_takeAway 16 = .ok (.ireturn, 1) := by decide +kernel
set_option maxRecDepth 20000 in
theorem ggL_meet_X4_meet : GoodIn wsL_meet wsX4_meet := goodIn_ca (goodIn_ca (goodIn_r _ [7, 8, 9, 10, 11, 12, 13, 6, 14, 15, 16, 17, 18, 19, 20, 21, 22, 23, 24, 25, 26, 27, 28, 29, 30, 31, 32, 33, 34, 35, 36, 37, 38, 39, 40, 41, 42, 43, 44, 45, 46, 47, 48, 49, 50, 51, 52] (by decide +kernel) (by decide +kernel)) (goodIn_sub (fun _ h => List.mem_cons_of_mem _ (List.mem_append_left _ (List.mem_append_right _ h))) (by decide +kernel))) (goodIn_sub (fun _ h => List.mem_cons_of_mem _ (List.mem_append_right _ h)) (by decide +kernel))
set_option maxRecDepth 20000 in
theorem gL_meet_X4_meet : GoodIn wsL_meet (wsV RL 23 RX4 yX4_meet wsX4_meet) := goodIn_app (goodIn_of _ (by decide +kernel)) ggL_meet_X4_meet
theorem dL_meet_0 : decode cL_meet 0 = .ok (.aload_n 3, 1) := by decide +kernel
theorem dL_meet_1 : decode cL_meet 1 = .ok (.iconst 0, 1) := by decide +kernel
theorem dL_meet_2 : decode cL_meet 2 = .ok (.aload_n 0, 1) := by decide +kernel
theorem dL_meet_3 : decode cL_meet 3 = .ok (.iload_n 1, 1) := by decide +kernel
theorem dL_meet_4 : decode cL_meet 4 = .ok (.iload_n 2, 1) := by decide +kernel
theorem dL_meet_5 : decode cL_meet 5 = .ok (.invokevirtual 23, 3) := by decide +kernel
theorem dL_meet_8 : decode cL_meet 8 = .ok (.i2l, 1) := by decide +kernel
theorem dL_meet_9 : decode cL_meet 9 = .ok (.lastore, 1) := by decide +kernel
theorem dL_meet_10 : decode cL_meet 10 = .ok (.goto 11, 3) := by decide +kernel
theorem dL_meet_13 : decode cL_meet 13 = .ok (.astore 4, 2) := by decide +kernel
theorem dL_meet_15 : decode cL_meet 15 = .ok (.iconst 1, 1) := by decide +kernel
theorem dL_meet_16 : decode cL_meet 16 = .ok (.ireturn, 1) := by decide +kernel
theorem dL_meet_17 : decode cL_meet 17 = .ok (.astore 4, 2) := by decide +kernel
theorem dL_meet_19 : decode cL_meet 19 = .ok (.iconst 2, 1) := by decide +kernel
theorem dL_meet_20 : decode cL_meet 20 = .ok (.ireturn, 1) := by decide +kernel
theorem dL_meet_21 : decode cL_meet 21 = .ok (.iconst 0, 1) := by decide +kernel
theorem dL_meet_22 : decode cL_meet 22 = .ok (.ireturn, 1) := by decide +kernel
set_option maxRecDepth 20000 in
theorem ggL_polynomial_X4_polynomial : GoodIn wsL_polynomial wsX4_polynomial := goodIn_ca (goodIn_r _ [6, 7, 8, 9, 5, 10, 11, 12, 13, 14, 15, 16, 17, 18, 19, 20, 21, 22, 23, 24, 25, 26, 27, 28, 29, 30, 31, 32, 33, 34, 35, 36, 37, 38, 39, 40, 41, 42, 43, 44, 45, 46, 47, 48, 49, 50, 51] (by decide +kernel) (by decide +kernel)) (goodIn_sub (fun _ h => List.mem_cons_of_mem _ (List.mem_append_right _ h)) (by decide +kernel))
set_option maxRecDepth 20000 in
theorem gL_polynomial_X4_polynomial : GoodIn wsL_polynomial (wsV RL 27 RX4 yX4_polynomial wsX4_polynomial) := goodIn_app (goodIn_of _ (by decide +kernel)) ggL_polynomial_X4_polynomial
theorem dL_polynomial_0 : decode cL_polynomial 0 = .ok (.aload_n 2, 1) := by decide +kernel
theorem dL_polynomial_1 : decode cL_polynomial 1 = .ok (.iconst 0, 1) := by decide +kernel
theorem dL_polynomial_2 : decode cL_polynomial 2 = .ok (.aload_n 0, 1) := by decide +kernel
theorem dL_polynomial_3 : decode cL_polynomial 3 = .ok (.iload_n 1, 1) := by decide +kernel
theorem dL_polynomial_4 : decode cL_polynomial 4 = .ok (.invokevirtual 27, 3) := by decide +kernel
theorem dL_polynomial_7 : decode cL_polynomial 7 = .ok (.i2l, 1) := by decide +kernel
theorem dL_polynomial_8 : decode cL_polynomial 8 = .ok (.lastore, 1) := by decide +kernel
theorem dL_polynomial_9 : decode cL_polynomial 9 = .ok (.goto 6, 3) := by decide +kernel
theorem dL_polynomial_12 : decode cL_polynomial 12 = .ok (.astore_n 3, 1) := by decide +kernel
theorem dL_polynomial_13 : decode cL_polynomial 13 = .ok (.iconst 1, 1) := by decide +kernel
theorem dL_polynomial_14 : decode cL_polynomial 14 = .ok (.ireturn, 1) := by decide +kernel
theorem dL_polynomial_15 : decode cL_polynomial 15 = .ok (.iconst 0, 1) := by decide +kernel
theorem dL_polynomial_16 : decode cL_polynomial 16 = .ok (.ireturn, 1) := by decide +kernel
set_option maxRecDepth 20000 in
theorem ggL_polynomialAnew_X4_polynomialAnew : GoodIn wsL_polynomialAnew wsX4_polynomialAnew := goodIn_ca (goodIn_r _ [6, 7, 8, 9, 5, 10, 11, 12, 13, 14, 15, 16, 17, 18, 19, 20, 21, 22, 23, 24, 25, 26, 27, 28, 29, 30, 31, 32, 33, 34, 35, 36, 37, 38, 39, 40, 41, 42, 43, 44, 45, 46, 47, 48, 49, 50, 51, 52, 53, 54, 55, 56, 57] (by decide +kernel) (by decide +kernel)) (goodIn_sub (fun _ h => List.mem_cons_of_mem _ (List.mem_append_right _ h)) (by decide +kernel))
set_option maxRecDepth 20000 in
theorem gL_polynomialAnew_X4_polynomialAnew : GoodIn wsL_polynomialAnew (wsV RL 30 RX4 yX4_polynomialAnew wsX4_polynomialAnew) := goodIn_app (goodIn_of _ (by decide +kernel)) ggL_polynomialAnew_X4_polynomialAnew
theorem dL_polynomialAnew_0 : decode cL_polynomialAnew 0 = .ok (.aload_n 2, 1) := by decide +kernel
theorem dL_polynomialAnew_1 : decode cL_polynomialAnew 1 = .ok (.iconst 0, 1) := by decide +kernel
theorem dL_polynomialAnew_2 : decode cL_polynomialAnew 2 = .ok (.aload_n 0, 1) := by decide +kernel
theorem dL_polynomialAnew_3 : decode cL_polynomialAnew 3 = .ok (.iload_n 1, 1) := by decide +kernel
theorem dL_polynomialAnew_4 : decode cL_polynomialAnew 4 = .ok (.invokevirtual 30, 3) := by decide +kernel
theorem dL_polynomialAnew_7 : decode cL_polynomialAnew 7 = .ok (.i2l, 1) := by decide +kernel
theorem dL_polynomialAnew_8 : decode cL_polynomialAnew 8 = .ok (.lastore, 1) := by decide +kernel
theorem dL_polynomialAnew_9 : decode cL_polynomialAnew 9 = .ok (.goto 6, 3) := by decide +kernel
theorem dL_polynomialAnew_12 : decode cL_polynomialAnew 12 = .ok (.astore_n 3, 1) := by decide +kernel
theorem dL_polynomialAnew_13 : decode cL_polynomialAnew 13 = .ok (.iconst 1, 1) := by decide +kernel
theorem dL_polynomialAnew_14 : decode cL_polynomialAnew 14 = .ok (.ireturn, 1) := by decide +kernel
theorem dL_polynomialAnew_15 : decode cL_polynomialAnew 15 = .ok (.iconst 0, 1) := by decide +kernel
theorem dL_polynomialAnew_16 : decode cL_polynomialAnew 16 = .ok (.ireturn, 1) := by decide +kernel
set_option maxRecDepth 20000 in
theorem ggL_points_X4_points : GoodIn wsL_points wsX4_points := goodIn_ca (goodIn_r _ [6, 7, 8, 9, 10, 11, 5, 12, 13, 14, 15, 16, 17, 18, 19, 20, 21, 22, 23, 24, 25, 26, 27, 28, 29, 30, 31, 32, 33, 34] (by decide +kernel) (by decide +kernel)) (goodIn_sub (fun _ h => List.mem_cons_of_mem _ (List.mem_append_right _ h)) (by decide +kernel))
set_option maxRecDepth 20000 in
theorem gL_points_X4_points : GoodIn wsL_points (wsV RL 33 RX4 yX4_points wsX4_points) := goodIn_app (goodIn_of _ (by decide +kernel)) ggL_points_X4_points
theorem dL_points_0 : decode cL_points 0 = .ok (.aload_n 2, 1) := by decide +kernel
theorem dL_points_1 : decode cL_points 1 = .ok (.iconst 0, 1) := by decide +kernel
theorem dL_points_2 : decode cL_points 2 = .ok (.aload_n 0, 1) := by decide +kernel
theorem dL_points_3 : decode cL_points 3 = .ok (.iload_n 1, 1) := by decide +kernel
theorem dL_points_4 : decode cL_points 4 = .ok (.invokevirtual 33, 3) := by decide +kernel
theorem dL_points_7 : decode cL_points 7 = .ok (.i2l, 1) := by decide +kernel
theorem dL_points_8 : decode cL_points 8 = .ok (.lastore, 1) := by decide +kernel
theorem dL_points_9 : decode cL_points 9 = .ok (.goto 6, 3) := by decide +kernel
theorem dL_points_12 : decode cL_points 12 = .ok (.astore_n 3, 1) := by decide +kernel
theorem dL_points_13 : decode cL_points 13 = .ok (.iconst 1, 1) := by decide +kernel
theorem dL_points_14 : decode cL_points 14 = .ok (.ireturn, 1) := by decide +kernel
theorem dL_points_15 : decode cL_points 15 = .ok (.iconst 0, 1) := by decide +kernel
theorem dL_points_16 : decode cL_points 16 = .ok (.ireturn, 1) := by decide +kernel
set_option maxRecDepth 20000 in
theorem ggL_room_X4_room : GoodIn wsL_room wsX4_room := goodIn_ca (goodIn_ca (goodIn_r _ [7, 8, 9, 10, 11, 12, 13, 14, 15, 6, 16, 17, 18, 19, 20, 21, 22, 23, 24, 25, 26, 27, 28, 29, 30, 31, 32, 33, 34, 35, 36, 37, 38, 39, 40, 41, 42, 43, 44, 45, 46, 47, 48, 49, 50, 51, 52, 53, 54, 55, 56, 57, 58, 59, 60, 61, 62, 63, 64, 65, 66, 67, 68, 69, 70, 71, 72, 73, 74, 75, 76, 77, 78, 79, 80, 81, 82, 83, 84, 85, 86, 87, 88, 89, 90, 91, 92, 93, 94, 95, 96, 97] (by decide +kernel) (by decide +kernel)) (goodIn_sub (fun _ h => List.mem_cons_of_mem _ (List.mem_append_left _ (List.mem_append_right _ h))) (by decide +kernel))) (goodIn_sub (fun _ h => List.mem_cons_of_mem _ (List.mem_append_right _ h)) (by decide +kernel))
set_option maxRecDepth 20000 in
theorem gL_room_X4_room : GoodIn wsL_room (wsV RL 36 RX4 yX4_room wsX4_room) := goodIn_app (goodIn_of _ (by decide +kernel)) ggL_room_X4_room
theorem dL_room_0 : decode cL_room 0 = .ok (.aload_n 3, 1) := by decide +kernel
theorem dL_room_1 : decode cL_room 1 = .ok (.iconst 0, 1) := by decide +kernel
theorem dL_room_2 : decode cL_room 2 = .ok (.aload_n 0, 1) := by decide +kernel
theorem dL_room_3 : decode cL_room 3 = .ok (.iload_n 1, 1) := by decide +kernel
theorem dL_room_4 : decode cL_room 4 = .ok (.iload_n 2, 1) := by decide +kernel
theorem dL_room_5 : decode cL_room 5 = .ok (.invokevirtual 36, 3) := by decide +kernel
theorem dL_room_8 : decode cL_room 8 = .ok (.i2l, 1) := by decide +kernel
theorem dL_room_9 : decode cL_room 9 = .ok (.lastore, 1) := by decide +kernel
theorem dL_room_10 : decode cL_room 10 = .ok (.goto 11, 3) := by decide +kernel
theorem dL_room_13 : decode cL_room 13 = .ok (.astore 4, 2) := by decide +kernel
theorem dL_room_15 : decode cL_room 15 = .ok (.iconst 1, 1) := by decide +kernel
theorem dL_room_16 : decode cL_room 16 = .ok (.ireturn, 1) := by decide +kernel
theorem dL_room_17 : decode cL_room 17 = .ok (.astore 4, 2) := by decide +kernel
theorem dL_room_19 : decode cL_room 19 = .ok (.iconst 2, 1) := by decide +kernel
theorem dL_room_20 : decode cL_room 20 = .ok (.ireturn, 1) := by decide +kernel
theorem dL_room_21 : decode cL_room 21 = .ok (.iconst 0, 1) := by decide +kernel
theorem dL_room_22 : decode cL_room 22 = .ok (.ireturn, 1) := by decide +kernel
set_option maxRecDepth 20000 in
theorem ggL_roomOf_X4_roomOf : GoodIn wsL_roomOf wsX4_roomOf := goodIn_ca (goodIn_r _ [6, 7, 8, 9, 10, 11, 12, 13, 14, 15, 16, 17, 18, 19, 20, 21, 22, 23] (by decide +kernel) (by decide +kernel)) (goodIn_sub (fun _ h => List.mem_cons_of_mem _ (List.mem_append_right _ h)) (by decide +kernel))
set_option maxRecDepth 20000 in
theorem gL_roomOf_X4_roomOf : GoodIn wsL_roomOf (wsV RL 39 RX4 yX4_roomOf wsX4_roomOf) := goodIn_app (goodIn_of _ (by decide +kernel)) ggL_roomOf_X4_roomOf
theorem dL_roomOf_0 : decode cL_roomOf 0 = .ok (.aload_n 2, 1) := by decide +kernel
theorem dL_roomOf_1 : decode cL_roomOf 1 = .ok (.iconst 0, 1) := by decide +kernel
theorem dL_roomOf_2 : decode cL_roomOf 2 = .ok (.aload_n 0, 1) := by decide +kernel
theorem dL_roomOf_3 : decode cL_roomOf 3 = .ok (.iload_n 1, 1) := by decide +kernel
theorem dL_roomOf_4 : decode cL_roomOf 4 = .ok (.invokevirtual 39, 3) := by decide +kernel
theorem dL_roomOf_7 : decode cL_roomOf 7 = .ok (.i2l, 1) := by decide +kernel
theorem dL_roomOf_8 : decode cL_roomOf 8 = .ok (.lastore, 1) := by decide +kernel
theorem dL_roomOf_9 : decode cL_roomOf 9 = .ok (.goto 6, 3) := by decide +kernel
theorem dL_roomOf_12 : decode cL_roomOf 12 = .ok (.astore_n 3, 1) := by decide +kernel
theorem dL_roomOf_13 : decode cL_roomOf 13 = .ok (.iconst 1, 1) := by decide +kernel
theorem dL_roomOf_14 : decode cL_roomOf 14 = .ok (.ireturn, 1) := by decide +kernel
theorem dL_roomOf_15 : decode cL_roomOf 15 = .ok (.iconst 0, 1) := by decide +kernel
theorem dL_roomOf_16 : decode cL_roomOf 16 = .ok (.ireturn, 1) := by decide +kernel
set_option maxRecDepth 20000 in
theorem ggL_corner_X4_corner : GoodIn wsL_corner wsX4_corner := goodIn_ca (goodIn_r _ [6, 7, 8, 9, 10, 11, 5, 12, 13, 14, 15, 16, 17, 18, 19, 20, 21, 22, 23, 24, 25, 26, 27, 28, 29, 30, 31, 32, 33, 34, 35, 36, 37, 38, 39, 40, 41, 42, 43, 44, 45, 46, 47, 48, 49, 50, 51, 52, 53, 54, 55, 56, 57, 58] (by decide +kernel) (by decide +kernel)) (goodIn_sub (fun _ h => List.mem_cons_of_mem _ (List.mem_append_right _ h)) (by decide +kernel))
set_option maxRecDepth 20000 in
theorem gL_corner_X4_corner : GoodIn wsL_corner (wsV RL 42 RX4 yX4_corner wsX4_corner) := goodIn_app (goodIn_of _ (by decide +kernel)) ggL_corner_X4_corner
theorem dL_corner_0 : decode cL_corner 0 = .ok (.aload_n 3, 1) := by decide +kernel
theorem dL_corner_1 : decode cL_corner 1 = .ok (.iconst 0, 1) := by decide +kernel
theorem dL_corner_2 : decode cL_corner 2 = .ok (.aload_n 0, 1) := by decide +kernel
theorem dL_corner_3 : decode cL_corner 3 = .ok (.iload_n 1, 1) := by decide +kernel
theorem dL_corner_4 : decode cL_corner 4 = .ok (.iload_n 2, 1) := by decide +kernel
theorem dL_corner_5 : decode cL_corner 5 = .ok (.invokevirtual 42, 3) := by decide +kernel
theorem dL_corner_8 : decode cL_corner 8 = .ok (.i2l, 1) := by decide +kernel
theorem dL_corner_9 : decode cL_corner 9 = .ok (.lastore, 1) := by decide +kernel
theorem dL_corner_10 : decode cL_corner 10 = .ok (.goto 7, 3) := by decide +kernel
theorem dL_corner_13 : decode cL_corner 13 = .ok (.astore 4, 2) := by decide +kernel
theorem dL_corner_15 : decode cL_corner 15 = .ok (.iconst 1, 1) := by decide +kernel
theorem dL_corner_16 : decode cL_corner 16 = .ok (.ireturn, 1) := by decide +kernel
theorem dL_corner_17 : decode cL_corner 17 = .ok (.iconst 0, 1) := by decide +kernel
theorem dL_corner_18 : decode cL_corner 18 = .ok (.ireturn, 1) := by decide +kernel
set_option maxRecDepth 20000 in
theorem ggL_galleries_X4_galleries : GoodIn wsL_galleries wsX4_galleries := goodIn_ca (goodIn_r _ [6, 7, 8, 9, 10, 5, 11, 12, 13, 14, 15, 16, 17, 18, 19, 20, 21, 22, 23, 24, 25, 26, 27, 28, 29, 30, 31, 32, 33, 34, 35, 36, 37, 38, 39, 40, 41, 42, 43] (by decide +kernel) (by decide +kernel)) (goodIn_sub (fun _ h => List.mem_cons_of_mem _ (List.mem_append_right _ h)) (by decide +kernel))
set_option maxRecDepth 20000 in
theorem gL_galleries_X4_galleries : GoodIn wsL_galleries (wsV RL 45 RX4 yX4_galleries wsX4_galleries) := goodIn_app (goodIn_of _ (by decide +kernel)) ggL_galleries_X4_galleries
theorem dL_galleries_0 : decode cL_galleries 0 = .ok (.aload_n 3, 1) := by decide +kernel
theorem dL_galleries_1 : decode cL_galleries 1 = .ok (.iconst 0, 1) := by decide +kernel
theorem dL_galleries_2 : decode cL_galleries 2 = .ok (.aload_n 0, 1) := by decide +kernel
theorem dL_galleries_3 : decode cL_galleries 3 = .ok (.iload_n 1, 1) := by decide +kernel
theorem dL_galleries_4 : decode cL_galleries 4 = .ok (.iload_n 2, 1) := by decide +kernel
theorem dL_galleries_5 : decode cL_galleries 5 = .ok (.invokevirtual 45, 3) := by decide +kernel
theorem dL_galleries_8 : decode cL_galleries 8 = .ok (.i2l, 1) := by decide +kernel
theorem dL_galleries_9 : decode cL_galleries 9 = .ok (.lastore, 1) := by decide +kernel
theorem dL_galleries_10 : decode cL_galleries 10 = .ok (.goto 7, 3) := by decide +kernel
theorem dL_galleries_13 : decode cL_galleries 13 = .ok (.astore 4, 2) := by decide +kernel
theorem dL_galleries_15 : decode cL_galleries 15 = .ok (.iconst 1, 1) := by decide +kernel
theorem dL_galleries_16 : decode cL_galleries 16 = .ok (.ireturn, 1) := by decide +kernel
theorem dL_galleries_17 : decode cL_galleries 17 = .ok (.iconst 0, 1) := by decide +kernel
theorem dL_galleries_18 : decode cL_galleries 18 = .ok (.ireturn, 1) := by decide +kernel
set_option maxRecDepth 20000 in
theorem ggL_gallery_X4_gallery : GoodIn wsL_gallery wsX4_gallery := goodIn_ca (goodIn_r _ [6, 7, 8, 9, 10, 5, 11, 12, 13, 14, 15, 16, 17, 18, 19, 20, 21, 22, 23, 24, 25, 26, 27, 28, 29, 30, 31, 32, 33, 34, 35, 36, 37, 38, 39, 40, 41, 42, 43, 44, 45, 46, 47, 48, 49, 50, 51, 52] (by decide +kernel) (by decide +kernel)) (goodIn_sub (fun _ h => List.mem_cons_of_mem _ (List.mem_append_right _ h)) (by decide +kernel))
set_option maxRecDepth 20000 in
theorem gL_gallery_X4_gallery : GoodIn wsL_gallery (wsV RL 48 RX4 yX4_gallery wsX4_gallery) := goodIn_app (goodIn_of _ (by decide +kernel)) ggL_gallery_X4_gallery
theorem dL_gallery_0 : decode cL_gallery 0 = .ok (.aload 4, 2) := by decide +kernel
theorem dL_gallery_2 : decode cL_gallery 2 = .ok (.iconst 0, 1) := by decide +kernel
theorem dL_gallery_3 : decode cL_gallery 3 = .ok (.aload_n 0, 1) := by decide +kernel
theorem dL_gallery_4 : decode cL_gallery 4 = .ok (.iload_n 1, 1) := by decide +kernel
theorem dL_gallery_5 : decode cL_gallery 5 = .ok (.iload_n 2, 1) := by decide +kernel
theorem dL_gallery_6 : decode cL_gallery 6 = .ok (.iload_n 3, 1) := by decide +kernel
theorem dL_gallery_7 : decode cL_gallery 7 = .ok (.invokevirtual 48, 3) := by decide +kernel
theorem dL_gallery_10 : decode cL_gallery 10 = .ok (.i2l, 1) := by decide +kernel
theorem dL_gallery_11 : decode cL_gallery 11 = .ok (.lastore, 1) := by decide +kernel
theorem dL_gallery_12 : decode cL_gallery 12 = .ok (.goto 7, 3) := by decide +kernel
theorem dL_gallery_15 : decode cL_gallery 15 = .ok (.astore 5, 2) := by decide +kernel
theorem dL_gallery_17 : decode cL_gallery 17 = .ok (.iconst 1, 1) := by decide +kernel
theorem dL_gallery_18 : decode cL_gallery 18 = .ok (.ireturn, 1) := by decide +kernel
theorem dL_gallery_19 : decode cL_gallery 19 = .ok (.iconst 0, 1) := by decide +kernel
theorem dL_gallery_20 : decode cL_gallery 20 = .ok (.ireturn, 1) := by decide +kernel
set_option maxRecDepth 20000 in
theorem ggL_project_X4_project : GoodIn wsL_project wsX4_project := goodIn_ca (goodIn_r _ [6, 7, 8, 9, 10, 11, 5, 12, 13, 14, 15, 16, 17, 18, 19, 20, 21, 22, 23, 24, 25, 26, 27, 28, 29, 30, 31, 32, 33, 34, 35, 36, 37, 38, 39, 40, 41, 42, 43, 44, 45, 46, 47, 48, 49, 50, 51, 52, 53, 54, 55, 56, 57, 58, 59, 60] (by decide +kernel) (by decide +kernel)) (goodIn_sub (fun _ h => List.mem_cons_of_mem _ (List.mem_append_right _ h)) (by decide +kernel))
set_option maxRecDepth 20000 in
theorem gL_project_X4_project : GoodIn wsL_project (wsV RL 51 RX4 yX4_project wsX4_project) := goodIn_app (goodIn_of _ (by decide +kernel)) ggL_project_X4_project
theorem dL_project_0 : decode cL_project 0 = .ok (.aload_n 3, 1) := by decide +kernel
theorem dL_project_1 : decode cL_project 1 = .ok (.iconst 0, 1) := by decide +kernel
theorem dL_project_2 : decode cL_project 2 = .ok (.aload_n 0, 1) := by decide +kernel
theorem dL_project_3 : decode cL_project 3 = .ok (.iload_n 1, 1) := by decide +kernel
theorem dL_project_4 : decode cL_project 4 = .ok (.iload_n 2, 1) := by decide +kernel
theorem dL_project_5 : decode cL_project 5 = .ok (.invokevirtual 51, 3) := by decide +kernel
theorem dL_project_8 : decode cL_project 8 = .ok (.i2l, 1) := by decide +kernel
theorem dL_project_9 : decode cL_project 9 = .ok (.lastore, 1) := by decide +kernel
theorem dL_project_10 : decode cL_project 10 = .ok (.goto 7, 3) := by decide +kernel
theorem dL_project_13 : decode cL_project 13 = .ok (.astore 4, 2) := by decide +kernel
theorem dL_project_15 : decode cL_project 15 = .ok (.iconst 1, 1) := by decide +kernel
theorem dL_project_16 : decode cL_project 16 = .ok (.ireturn, 1) := by decide +kernel
theorem dL_project_17 : decode cL_project 17 = .ok (.iconst 0, 1) := by decide +kernel
theorem dL_project_18 : decode cL_project 18 = .ok (.ireturn, 1) := by decide +kernel
set_option maxRecDepth 20000 in
theorem ggL_best_X4_best : GoodIn wsL_best wsX4_best := goodIn_ca (goodIn_ca (goodIn_r _ [7, 8, 9, 10, 11, 12, 13, 14, 15, 6, 16, 17, 18, 19, 20, 21, 22, 23, 24, 25, 26, 27, 28, 29, 30, 31, 32, 33, 34, 35, 36, 37, 38, 39, 40, 41, 42, 43, 44, 45, 46, 47, 48, 49, 50, 51, 52, 53, 54, 55, 56, 57, 58, 59, 60, 61, 62, 63, 64, 65, 66, 67, 68, 69, 70, 71, 72, 73, 74, 75, 76, 77, 78, 79, 80, 81, 82, 83, 84, 85, 86, 87, 88, 89, 90, 91, 92, 93, 94, 95, 96, 97, 98, 99, 100, 101, 102] (by decide +kernel) (by decide +kernel)) (goodIn_sub (fun _ h => List.mem_cons_of_mem _ (List.mem_append_left _ (List.mem_append_right _ h))) (by decide +kernel))) (goodIn_sub (fun _ h => List.mem_cons_of_mem _ (List.mem_append_right _ h)) (by decide +kernel))
set_option maxRecDepth 20000 in
theorem gL_best_X4_best : GoodIn wsL_best (wsV RL 54 RX4 yX4_best wsX4_best) := goodIn_app (goodIn_of _ (by decide +kernel)) ggL_best_X4_best
theorem dL_best_0 : decode cL_best 0 = .ok (.aload 4, 2) := by decide +kernel
theorem dL_best_2 : decode cL_best 2 = .ok (.iconst 0, 1) := by decide +kernel
theorem dL_best_3 : decode cL_best 3 = .ok (.aload_n 0, 1) := by decide +kernel
theorem dL_best_4 : decode cL_best 4 = .ok (.iload_n 1, 1) := by decide +kernel
theorem dL_best_5 : decode cL_best 5 = .ok (.iload_n 2, 1) := by decide +kernel
theorem dL_best_6 : decode cL_best 6 = .ok (.iload_n 3, 1) := by decide +kernel
theorem dL_best_7 : decode cL_best 7 = .ok (.invokevirtual 54, 3) := by decide +kernel
theorem dL_best_10 : decode cL_best 10 = .ok (.i2l, 1) := by decide +kernel
theorem dL_best_11 : decode cL_best 11 = .ok (.lastore, 1) := by decide +kernel
theorem dL_best_12 : decode cL_best 12 = .ok (.goto 11, 3) := by decide +kernel
theorem dL_best_15 : decode cL_best 15 = .ok (.astore 5, 2) := by decide +kernel
theorem dL_best_17 : decode cL_best 17 = .ok (.iconst 1, 1) := by decide +kernel
theorem dL_best_18 : decode cL_best 18 = .ok (.ireturn, 1) := by decide +kernel
theorem dL_best_19 : decode cL_best 19 = .ok (.astore 5, 2) := by decide +kernel
theorem dL_best_21 : decode cL_best 21 = .ok (.iconst 2, 1) := by decide +kernel
theorem dL_best_22 : decode cL_best 22 = .ok (.ireturn, 1) := by decide +kernel
theorem dL_best_23 : decode cL_best 23 = .ok (.iconst 0, 1) := by decide +kernel
theorem dL_best_24 : decode cL_best 24 = .ok (.ireturn, 1) := by decide +kernel
set_option maxRecDepth 20000 in
theorem ggL_reflected_X4_reflected : GoodIn wsL_reflected wsX4_reflected := goodIn_ca (goodIn_r _ [6, 7, 8, 9, 10, 5, 11, 12, 13, 14, 15, 16, 17, 18, 19, 20, 21, 22, 23, 24, 25, 26, 27, 28, 29, 30, 31, 32, 33, 34, 35, 36, 37, 38] (by decide +kernel) (by decide +kernel)) (goodIn_sub (fun _ h => List.mem_cons_of_mem _ (List.mem_append_right _ h)) (by decide +kernel))
set_option maxRecDepth 20000 in
theorem gL_reflected_X4_reflected : GoodIn wsL_reflected (wsV RL 57 RX4 yX4_reflected wsX4_reflected) := goodIn_app (goodIn_of _ (by decide +kernel)) ggL_reflected_X4_reflected
theorem dL_reflected_0 : decode cL_reflected 0 = .ok (.aload_n 3, 1) := by decide +kernel
theorem dL_reflected_1 : decode cL_reflected 1 = .ok (.iconst 0, 1) := by decide +kernel
theorem dL_reflected_2 : decode cL_reflected 2 = .ok (.aload_n 0, 1) := by decide +kernel
theorem dL_reflected_3 : decode cL_reflected 3 = .ok (.iload_n 1, 1) := by decide +kernel
theorem dL_reflected_4 : decode cL_reflected 4 = .ok (.iload_n 2, 1) := by decide +kernel
theorem dL_reflected_5 : decode cL_reflected 5 = .ok (.invokevirtual 57, 3) := by decide +kernel
theorem dL_reflected_8 : decode cL_reflected 8 = .ok (.i2l, 1) := by decide +kernel
theorem dL_reflected_9 : decode cL_reflected 9 = .ok (.lastore, 1) := by decide +kernel
theorem dL_reflected_10 : decode cL_reflected 10 = .ok (.goto 7, 3) := by decide +kernel
theorem dL_reflected_13 : decode cL_reflected 13 = .ok (.astore 4, 2) := by decide +kernel
theorem dL_reflected_15 : decode cL_reflected 15 = .ok (.iconst 1, 1) := by decide +kernel
theorem dL_reflected_16 : decode cL_reflected 16 = .ok (.ireturn, 1) := by decide +kernel
theorem dL_reflected_17 : decode cL_reflected 17 = .ok (.iconst 0, 1) := by decide +kernel
theorem dL_reflected_18 : decode cL_reflected 18 = .ok (.ireturn, 1) := by decide +kernel
set_option maxRecDepth 20000 in
theorem ggL_pair_X4_pair : GoodIn wsL_pair wsX4_pair := goodIn_ca (goodIn_r _ [6, 7, 8, 9, 10, 5, 11, 12, 13, 14, 15, 16, 17, 18, 19, 20, 21, 22, 23, 24, 25, 26, 27, 28, 29, 30, 31, 32, 33, 34, 35, 36, 37, 38, 39, 40, 41, 42, 43, 44, 45, 46, 47, 48, 49] (by decide +kernel) (by decide +kernel)) (goodIn_sub (fun _ h => List.mem_cons_of_mem _ (List.mem_append_right _ h)) (by decide +kernel))
set_option maxRecDepth 20000 in
theorem gL_pair_X4_pair : GoodIn wsL_pair (wsV RL 60 RX4 yX4_pair wsX4_pair) := goodIn_app (goodIn_of _ (by decide +kernel)) ggL_pair_X4_pair
theorem dL_pair_0 : decode cL_pair 0 = .ok (.aload_n 2, 1) := by decide +kernel
theorem dL_pair_1 : decode cL_pair 1 = .ok (.iconst 0, 1) := by decide +kernel
theorem dL_pair_2 : decode cL_pair 2 = .ok (.aload_n 0, 1) := by decide +kernel
theorem dL_pair_3 : decode cL_pair 3 = .ok (.iload_n 1, 1) := by decide +kernel
theorem dL_pair_4 : decode cL_pair 4 = .ok (.invokevirtual 60, 3) := by decide +kernel
theorem dL_pair_7 : decode cL_pair 7 = .ok (.i2l, 1) := by decide +kernel
theorem dL_pair_8 : decode cL_pair 8 = .ok (.lastore, 1) := by decide +kernel
theorem dL_pair_9 : decode cL_pair 9 = .ok (.goto 6, 3) := by decide +kernel
theorem dL_pair_12 : decode cL_pair 12 = .ok (.astore_n 3, 1) := by decide +kernel
theorem dL_pair_13 : decode cL_pair 13 = .ok (.iconst 1, 1) := by decide +kernel
theorem dL_pair_14 : decode cL_pair 14 = .ok (.ireturn, 1) := by decide +kernel
theorem dL_pair_15 : decode cL_pair 15 = .ok (.iconst 0, 1) := by decide +kernel
theorem dL_pair_16 : decode cL_pair 16 = .ok (.ireturn, 1) := by decide +kernel
set_option maxRecDepth 20000 in
theorem ggL_edge_X4_edge : GoodIn wsL_edge wsX4_edge := goodIn_ca (goodIn_ca (goodIn_r _ [7, 8, 9, 10, 11, 12, 13, 14, 6, 15, 16, 17, 18, 19, 20, 21, 22, 23, 24, 25, 26, 27, 28, 29, 30, 31, 32, 33, 34, 35, 36, 37, 38, 39, 40, 41, 42, 43] (by decide +kernel) (by decide +kernel)) (goodIn_sub (fun _ h => List.mem_cons_of_mem _ (List.mem_append_left _ (List.mem_append_right _ h))) (by decide +kernel))) (goodIn_sub (fun _ h => List.mem_cons_of_mem _ (List.mem_append_right _ h)) (by decide +kernel))
set_option maxRecDepth 20000 in
theorem gL_edge_X4_edge : GoodIn wsL_edge (wsV RL 63 RX4 yX4_edge wsX4_edge) := goodIn_app (goodIn_of _ (by decide +kernel)) ggL_edge_X4_edge
theorem dL_edge_0 : decode cL_edge 0 = .ok (.aload_n 3, 1) := by decide +kernel
theorem dL_edge_1 : decode cL_edge 1 = .ok (.iconst 0, 1) := by decide +kernel
theorem dL_edge_2 : decode cL_edge 2 = .ok (.aload_n 0, 1) := by decide +kernel
theorem dL_edge_3 : decode cL_edge 3 = .ok (.iload_n 1, 1) := by decide +kernel
theorem dL_edge_4 : decode cL_edge 4 = .ok (.iload_n 2, 1) := by decide +kernel
theorem dL_edge_5 : decode cL_edge 5 = .ok (.invokevirtual 63, 3) := by decide +kernel
theorem dL_edge_8 : decode cL_edge 8 = .ok (.i2l, 1) := by decide +kernel
theorem dL_edge_9 : decode cL_edge 9 = .ok (.lastore, 1) := by decide +kernel
theorem dL_edge_10 : decode cL_edge 10 = .ok (.goto 11, 3) := by decide +kernel
theorem dL_edge_13 : decode cL_edge 13 = .ok (.astore 4, 2) := by decide +kernel
theorem dL_edge_15 : decode cL_edge 15 = .ok (.iconst 1, 1) := by decide +kernel
theorem dL_edge_16 : decode cL_edge 16 = .ok (.ireturn, 1) := by decide +kernel
theorem dL_edge_17 : decode cL_edge 17 = .ok (.astore 4, 2) := by decide +kernel
theorem dL_edge_19 : decode cL_edge 19 = .ok (.iconst 2, 1) := by decide +kernel
theorem dL_edge_20 : decode cL_edge 20 = .ok (.ireturn, 1) := by decide +kernel
theorem dL_edge_21 : decode cL_edge 21 = .ok (.iconst 0, 1) := by decide +kernel
theorem dL_edge_22 : decode cL_edge 22 = .ok (.ireturn, 1) := by decide +kernel
set_option maxRecDepth 20000 in
theorem ggL_colourings_X4_colourings : GoodIn wsL_colourings wsX4_colourings := goodIn_ca (goodIn_r _ [6, 7, 8, 9, 5, 10, 11, 12, 13, 14, 15, 16, 17, 18, 19, 20, 21, 22, 23, 24, 25, 26, 27, 28, 29, 30, 31, 32] (by decide +kernel) (by decide +kernel)) (goodIn_sub (fun _ h => List.mem_cons_of_mem _ (List.mem_append_right _ h)) (by decide +kernel))
set_option maxRecDepth 20000 in
theorem gL_colourings_X4_colourings : GoodIn wsL_colourings (wsV RL 66 RX4 yX4_colourings wsX4_colourings) := goodIn_app (goodIn_of _ (by decide +kernel)) ggL_colourings_X4_colourings
theorem dL_colourings_0 : decode cL_colourings 0 = .ok (.aload_n 2, 1) := by decide +kernel
theorem dL_colourings_1 : decode cL_colourings 1 = .ok (.iconst 0, 1) := by decide +kernel
theorem dL_colourings_2 : decode cL_colourings 2 = .ok (.aload_n 0, 1) := by decide +kernel
theorem dL_colourings_3 : decode cL_colourings 3 = .ok (.iload_n 1, 1) := by decide +kernel
theorem dL_colourings_4 : decode cL_colourings 4 = .ok (.invokevirtual 66, 3) := by decide +kernel
theorem dL_colourings_7 : decode cL_colourings 7 = .ok (.i2l, 1) := by decide +kernel
theorem dL_colourings_8 : decode cL_colourings 8 = .ok (.lastore, 1) := by decide +kernel
theorem dL_colourings_9 : decode cL_colourings 9 = .ok (.goto 6, 3) := by decide +kernel
theorem dL_colourings_12 : decode cL_colourings 12 = .ok (.astore_n 3, 1) := by decide +kernel
theorem dL_colourings_13 : decode cL_colourings 13 = .ok (.iconst 1, 1) := by decide +kernel
theorem dL_colourings_14 : decode cL_colourings 14 = .ok (.ireturn, 1) := by decide +kernel
theorem dL_colourings_15 : decode cL_colourings 15 = .ok (.iconst 0, 1) := by decide +kernel
theorem dL_colourings_16 : decode cL_colourings 16 = .ok (.ireturn, 1) := by decide +kernel
set_option maxRecDepth 20000 in
theorem ggL_colouringsAnew_X4_colouringsAnew : GoodIn wsL_colouringsAnew wsX4_colouringsAnew := goodIn_ca (goodIn_r _ [6, 7, 8, 9, 5, 10, 11, 12, 13, 14, 15, 16, 17, 18, 19, 20, 21, 22, 23, 24, 25, 26, 27, 28, 29, 30, 31, 32, 33, 34, 35, 36, 37, 38, 39, 40, 41, 42, 43, 44, 45, 46, 47, 48, 49, 50, 51, 52, 53] (by decide +kernel) (by decide +kernel)) (goodIn_sub (fun _ h => List.mem_cons_of_mem _ (List.mem_append_right _ h)) (by decide +kernel))
set_option maxRecDepth 20000 in
theorem gL_colouringsAnew_X4_colouringsAnew : GoodIn wsL_colouringsAnew (wsV RL 69 RX4 yX4_colouringsAnew wsX4_colouringsAnew) := goodIn_app (goodIn_of _ (by decide +kernel)) ggL_colouringsAnew_X4_colouringsAnew
theorem dL_colouringsAnew_0 : decode cL_colouringsAnew 0 = .ok (.aload_n 2, 1) := by decide +kernel
theorem dL_colouringsAnew_1 : decode cL_colouringsAnew 1 = .ok (.iconst 0, 1) := by decide +kernel
theorem dL_colouringsAnew_2 : decode cL_colouringsAnew 2 = .ok (.aload_n 0, 1) := by decide +kernel
theorem dL_colouringsAnew_3 : decode cL_colouringsAnew 3 = .ok (.iload_n 1, 1) := by decide +kernel
theorem dL_colouringsAnew_4 : decode cL_colouringsAnew 4 = .ok (.invokevirtual 69, 3) := by decide +kernel
theorem dL_colouringsAnew_7 : decode cL_colouringsAnew 7 = .ok (.i2l, 1) := by decide +kernel
theorem dL_colouringsAnew_8 : decode cL_colouringsAnew 8 = .ok (.lastore, 1) := by decide +kernel
theorem dL_colouringsAnew_9 : decode cL_colouringsAnew 9 = .ok (.goto 6, 3) := by decide +kernel
theorem dL_colouringsAnew_12 : decode cL_colouringsAnew 12 = .ok (.astore_n 3, 1) := by decide +kernel
theorem dL_colouringsAnew_13 : decode cL_colouringsAnew 13 = .ok (.iconst 1, 1) := by decide +kernel
theorem dL_colouringsAnew_14 : decode cL_colouringsAnew 14 = .ok (.ireturn, 1) := by decide +kernel
theorem dL_colouringsAnew_15 : decode cL_colouringsAnew 15 = .ok (.iconst 0, 1) := by decide +kernel
theorem dL_colouringsAnew_16 : decode cL_colouringsAnew 16 = .ok (.ireturn, 1) := by decide +kernel
set_option maxRecDepth 20000 in
theorem ggL_law_X4_init : GoodIn wsL_law wsX4_init := goodIn_r _ [9, 10, 11, 12, 13, 14, 15, 16, 17, 18, 19, 20, 21, 22, 23, 24, 25, 26, 27, 28, 29, 30, 31, 32, 33, 34, 35, 36, 37, 38, 39, 40, 41, 42, 43, 44, 45, 46, 47, 48, 49, 50, 51, 52, 53, 54, 55, 56, 57, 58, 59, 60, 821, 822, 823, 824, 798, 799, 800, 801, 825, 826, 827, 828, 829, 830, 831, 832, 833, 834, 835] (by decide +kernel) (by decide +kernel)
set_option maxRecDepth 20000 in
theorem gL_law_X4_init : GoodIn wsL_law (wsX4_init) := ggL_law_X4_init
set_option maxRecDepth 20000 in
theorem ggL_law_X5_init : GoodIn wsL_law wsX5_init := goodIn_r _ [63, 64, 11, 12, 33, 65, 66, 67, 68, 69, 70, 71, 72, 73, 74, 75, 76, 77, 802, 803, 804, 805, 806, 807, 808, 809, 810, 811, 812, 813, 814, 815, 816, 817, 818, 819, 820] (by decide +kernel) (by decide +kernel)
set_option maxRecDepth 20000 in
theorem gL_law_X5_init : GoodIn wsL_law (wsX5_init) := ggL_law_X5_init
set_option maxRecDepth 20000 in
theorem ggL_law_L_line : GoodIn wsL_law wsL_line := goodIn_ca (goodIn_ca (goodIn_r _ [81, 82, 83, 84, 85, 86, 2, 87, 88, 89, 90, 91, 16, 92, 93, 94, 95, 96, 97, 15, 98, 37, 99, 100, 101, 102, 34, 35, 36, 103, 104, 105, 106, 107, 108, 109, 110, 111, 20, 24, 112, 113, 114, 19, 115, 47, 46, 42, 43, 44, 116, 117, 118, 119, 120, 121, 122, 123, 124, 125, 126, 127, 128, 129, 130, 131, 132, 133, 134, 135, 136, 137, 45, 138, 139, 140, 141, 142, 143, 144, 145, 146, 147, 148, 149, 150, 151, 152, 153, 154, 155, 156, 157, 158, 159, 160, 161, 162, 163, 23, 164, 53, 165, 166, 167, 168, 169, 170, 171, 172, 173, 174, 175, 176, 177, 178, 179, 180, 181, 182, 183, 184, 185, 186, 187, 188, 189, 190, 191, 192, 193, 194, 195, 196, 197, 198, 199, 200, 201, 202, 203, 204, 205, 206, 207, 208, 209, 210, 211, 212, 213, 214, 215, 216, 217, 218, 219, 220, 221, 222, 223, 224, 225, 55, 52, 226, 798, 799, 800, 801, 821, 822, 823, 824, 825, 826, 827, 828, 829, 830, 831, 832, 833, 834] (by decide +kernel) (by decide +kernel)) (goodIn_sub (fun _ h => List.mem_append_left _ (List.mem_append_left _ (List.mem_append_right _ h))) (by decide +kernel))) (goodIn_sub (fun _ h => List.mem_append_left _ (List.mem_append_right _ h)) (by decide +kernel))
set_option maxRecDepth 20000 in
theorem gL_law_L_line : GoodIn wsL_law (va_wsS RL 76 yL_line wsL_line) := goodIn_app (goodIn_of _ (by decide +kernel)) ggL_law_L_line
set_option maxRecDepth 20000 in
theorem ggL_law_X5_line : GoodIn wsL_law wsX5_line := goodIn_r _ [230, 231, 65, 66, 67, 232, 233, 5, 234, 235, 236, 237, 238, 239, 240, 241, 242, 243, 244, 245, 246, 247, 802, 803, 804, 805, 806, 807, 808, 809, 810, 811, 812, 813, 814, 815, 816, 817, 818, 819, 820] (by decide +kernel) (by decide +kernel)
set_option maxRecDepth 20000 in
theorem gL_law_X5_line : GoodIn wsL_law (wsV RL 81 RX5 yX5_line wsX5_line) := goodIn_app (goodIn_of _ (by decide +kernel)) ggL_law_X5_line
set_option maxRecDepth 20000 in
theorem ggL_law_X5_thrown : GoodIn wsL_law wsX5_thrown := goodIn_r _ [251, 239, 802, 803, 804, 805, 806, 807, 808, 809, 810, 811, 812, 813, 814, 815, 816, 817, 818, 819, 820] (by decide +kernel) (by decide +kernel)
set_option maxRecDepth 20000 in
theorem gL_law_X5_thrown : GoodIn wsL_law (wsV RL 82 RX5 yX5_thrown wsX5_thrown) := goodIn_app (goodIn_of _ (by decide +kernel)) ggL_law_X5_thrown
set_option maxRecDepth 20000 in
theorem ggL_law_L_takeAway : GoodIn wsL_law wsL_takeAway := goodIn_ca (goodIn_r _ [254, 255, 256, 257, 258, 2, 259, 16, 260, 261, 262, 263, 264, 265, 226, 117, 118, 15, 119, 37, 266, 267, 268, 269, 34, 35, 36, 108, 109, 110, 111, 20, 24, 112, 113, 114, 19, 115, 47, 46, 42, 43, 44, 116, 120, 121, 122, 123, 124, 125, 126, 127, 128, 129, 130, 131, 132, 133, 134, 135, 136, 137, 45, 138, 139, 140, 141, 142, 143, 144, 145, 146, 147, 148, 149, 150, 151, 152, 153, 154, 155, 156, 157, 158, 159, 160, 161, 162, 163, 23, 164, 53, 165, 166, 167, 168, 169, 170, 171, 172, 173, 174, 175, 176, 177, 178, 179, 180, 181, 182, 183, 184, 185, 186, 187, 188, 189, 190, 191, 192, 193, 194, 195, 196, 197, 198, 199, 200, 201, 202, 203, 204, 205, 206, 207, 208, 209, 210, 211, 212, 213, 214, 215, 216, 217, 218, 219, 220, 221, 222, 223, 224, 225, 55, 52, 798, 799, 800, 801, 821, 822, 823, 824, 825, 826, 827, 828, 829, 830, 831, 832, 833, 834] (by decide +kernel) (by decide +kernel)) (goodIn_sub (fun _ h => List.mem_append_right _ h) (by decide +kernel))
set_option maxRecDepth 20000 in
theorem gL_law_L_takeAway : GoodIn wsL_law (va_wsS RL 86 yL_takeAway wsL_takeAway) := goodIn_app (goodIn_of _ (by decide +kernel)) ggL_law_L_takeAway
set_option maxRecDepth 20000 in
theorem ggL_law_X5_takeAway : GoodIn wsL_law wsX5_takeAway := goodIn_r _ [273, 231, 65, 66, 67, 274, 275, 276, 5, 277, 232, 233, 234, 235, 236, 237, 238, 239, 802, 803, 804, 805, 806, 807, 808, 809, 810, 811, 812, 813, 814, 815, 816, 817, 818, 819, 820] (by decide +kernel) (by decide +kernel)
set_option maxRecDepth 20000 in
theorem gL_law_X5_takeAway : GoodIn wsL_law (wsV RL 89 RX5 yX5_takeAway wsX5_takeAway) := goodIn_app (goodIn_of _ (by decide +kernel)) ggL_law_X5_takeAway
set_option maxRecDepth 20000 in
theorem ggL_law_X4_meets : GoodIn wsL_law wsX4_meets := goodIn_r _ [281, 20, 282, 171, 172, 19, 173, 47, 798, 799, 800, 801, 825, 826, 827, 828, 829, 830] (by decide +kernel) (by decide +kernel)
set_option maxRecDepth 20000 in
theorem gL_law_X4_meets : GoodIn wsL_law (wsV RL 90 RX4 yX4_meets wsX4_meets) := goodIn_app (goodIn_of _ (by decide +kernel)) ggL_law_X4_meets
set_option maxRecDepth 20000 in
theorem ggL_law_X5_meets : GoodIn wsL_law wsX5_meets := goodIn_r _ [286, 239, 287, 288, 289, 290, 5, 291, 231, 65, 66, 67, 292, 293, 294, 295, 296, 297, 298, 299, 300, 301, 68, 70, 69, 802, 803, 804, 805, 806, 807, 808, 809, 810, 811, 812, 813, 814, 815, 816, 817, 818, 819, 820] (by decide +kernel) (by decide +kernel)
set_option maxRecDepth 20000 in
theorem gL_law_X5_meets : GoodIn wsL_law (wsV RL 93 RX5 yX5_meets wsX5_meets) := goodIn_app (goodIn_of _ (by decide +kernel)) ggL_law_X5_meets
set_option maxRecDepth 20000 in
theorem ggL_law_L_meet : GoodIn wsL_law wsL_meet := goodIn_ca (goodIn_ca (goodIn_r _ [304, 255, 82, 305, 306, 307, 2, 308, 88, 89, 20, 309, 310, 311, 312, 264, 265, 282, 171, 172, 19, 173, 47, 313, 198, 199, 200, 42, 314, 202, 203, 204, 43, 315, 194, 195, 196, 44, 316, 317, 318, 319, 45, 798, 799, 800, 801, 825, 826, 827, 828, 829, 830] (by decide +kernel) (by decide +kernel)) (goodIn_sub (fun _ h => List.mem_append_left _ (List.mem_append_left _ (List.mem_append_right _ h))) (by decide +kernel))) (goodIn_sub (fun _ h => List.mem_append_right _ h) (by decide +kernel))
set_option maxRecDepth 20000 in
theorem gL_law_L_meet : GoodIn wsL_law (va_wsS RL 94 yL_meet wsL_meet) := goodIn_app (goodIn_of _ (by decide +kernel)) ggL_law_L_meet
set_option maxRecDepth 20000 in
theorem ggL_law_X5_meet : GoodIn wsL_law wsX5_meet := goodIn_r _ [323, 287, 68, 69, 70, 288, 289, 290, 5, 291, 231, 65, 66, 67, 292, 293, 294, 295, 296, 297, 298, 299, 300, 301, 232, 233, 234, 235, 236, 237, 238, 239, 324, 325, 326, 327, 328, 329, 330, 331, 802, 803, 804, 805, 806, 807, 808, 809, 810, 811, 812, 813, 814, 815, 816, 817, 818, 819, 820] (by decide +kernel) (by decide +kernel)
set_option maxRecDepth 20000 in
theorem gL_law_X5_meet : GoodIn wsL_law (wsV RL 97 RX5 yX5_meet wsX5_meet) := goodIn_app (goodIn_of _ (by decide +kernel)) ggL_law_X5_meet
set_option maxRecDepth 20000 in
theorem ggL_law_L_polynomial : GoodIn wsL_law wsL_polynomial := goodIn_ca (goodIn_r _ [334, 82, 335, 336, 337, 2, 338, 20, 339, 340, 341, 88, 89, 342, 343, 344, 19, 345, 47, 45, 346, 347, 348, 349, 350, 351, 352, 353, 354, 355, 356, 16, 226, 117, 118, 15, 119, 37, 798, 799, 800, 801, 825, 826, 827, 828, 829, 830, 821, 822, 823, 824] (by decide +kernel) (by decide +kernel)) (goodIn_sub (fun _ h => List.mem_append_left _ (List.mem_append_left _ (List.mem_append_right _ h))) (by decide +kernel))
set_option maxRecDepth 20000 in
theorem gL_law_L_polynomial : GoodIn wsL_law (va_wsS RL 98 yL_polynomial wsL_polynomial) := goodIn_app (goodIn_of _ (by decide +kernel)) ggL_law_L_polynomial
set_option maxRecDepth 20000 in
theorem ggL_law_X5_polynomial : GoodIn wsL_law wsX5_polynomial := goodIn_r _ [360, 287, 231, 232, 233, 5, 234, 235, 236, 237, 238, 239, 288, 289, 290, 291, 65, 66, 67, 292, 293, 294, 295, 296, 297, 298, 299, 300, 301, 68, 70, 69, 324, 325, 326, 327, 328, 329, 330, 331, 361, 362, 363, 802, 803, 804, 805, 806, 807, 808, 809, 810, 811, 812, 813, 814, 815, 816, 817, 818, 819, 820] (by decide +kernel) (by decide +kernel)
set_option maxRecDepth 20000 in
theorem gL_law_X5_polynomial : GoodIn wsL_law (wsV RL 100 RX5 yX5_polynomial wsX5_polynomial) := goodIn_app (goodIn_of _ (by decide +kernel)) ggL_law_X5_polynomial
set_option maxRecDepth 20000 in
theorem ggL_law_L_polynomialAnew : GoodIn wsL_law wsL_polynomialAnew := goodIn_ca (goodIn_r _ [366, 82, 367, 368, 369, 2, 370, 16, 339, 340, 341, 88, 89, 226, 117, 118, 15, 119, 37, 371, 372, 373, 374, 375, 121, 122, 123, 34, 35, 376, 377, 378, 379, 380, 127, 128, 129, 36, 381, 131, 132, 133, 157, 158, 159, 160, 353, 354, 355, 356, 798, 799, 800, 801, 821, 822, 823, 824] (by decide +kernel) (by decide +kernel)) (goodIn_sub (fun _ h => List.mem_append_left _ (List.mem_append_left _ (List.mem_append_right _ h))) (by decide +kernel))
set_option maxRecDepth 20000 in
theorem gL_law_L_polynomialAnew : GoodIn wsL_law (va_wsS RL 101 yL_polynomialAnew wsL_polynomialAnew) := goodIn_app (goodIn_of _ (by decide +kernel)) ggL_law_L_polynomialAnew
set_option maxRecDepth 20000 in
theorem ggL_law_X5_polynomialAnew : GoodIn wsL_law wsX5_polynomialAnew := goodIn_r _ [385, 231, 287, 232, 233, 5, 234, 235, 236, 237, 238, 239, 288, 289, 290, 291, 65, 66, 67, 292, 293, 294, 295, 296, 297, 298, 299, 300, 301, 68, 70, 69, 324, 325, 326, 327, 328, 329, 330, 331, 802, 803, 804, 805, 806, 807, 808, 809, 810, 811, 812, 813, 814, 815, 816, 817, 818, 819, 820] (by decide +kernel) (by decide +kernel)
set_option maxRecDepth 20000 in
theorem gL_law_X5_polynomialAnew : GoodIn wsL_law (wsV RL 103 RX5 yX5_polynomialAnew wsX5_polynomialAnew) := goodIn_app (goodIn_of _ (by decide +kernel)) ggL_law_X5_polynomialAnew
set_option maxRecDepth 20000 in
theorem ggL_law_L_points : GoodIn wsL_law wsL_points := goodIn_ca (goodIn_r _ [388, 82, 389, 390, 391, 2, 392, 88, 89, 16, 393, 394, 395, 396, 397, 398, 399, 15, 400, 37, 157, 158, 159, 160, 34, 35, 36, 798, 799, 800, 801, 821, 822, 823, 824] (by decide +kernel) (by decide +kernel)) (goodIn_sub (fun _ h => List.mem_append_left _ (List.mem_append_left _ (List.mem_append_right _ h))) (by decide +kernel))
set_option maxRecDepth 20000 in
theorem gL_law_L_points : GoodIn wsL_law (va_wsS RL 104 yL_points wsL_points) := goodIn_app (goodIn_of _ (by decide +kernel)) ggL_law_L_points
set_option maxRecDepth 20000 in
theorem ggL_law_X5_points : GoodIn wsL_law wsX5_points := goodIn_r _ [404, 231, 65, 66, 67, 232, 233, 5, 234, 405, 406, 407, 235, 236, 237, 238, 239, 802, 803, 804, 805, 806, 807, 808, 809, 810, 811, 812, 813, 814, 815, 816, 817, 818, 819, 820] (by decide +kernel) (by decide +kernel)
set_option maxRecDepth 20000 in
theorem gL_law_X5_points : GoodIn wsL_law (wsV RL 106 RX5 yX5_points wsX5_points) := goodIn_app (goodIn_of _ (by decide +kernel)) ggL_law_X5_points
set_option maxRecDepth 20000 in
theorem ggL_law_X4_rooms : GoodIn wsL_law wsX4_rooms := goodIn_r _ [411, 24, 412, 413, 414, 23, 415, 55, 798, 799, 800, 801, 831, 832, 833, 834] (by decide +kernel) (by decide +kernel)
set_option maxRecDepth 20000 in
theorem gL_law_X4_rooms : GoodIn wsL_law (wsV RL 107 RX4 yX4_rooms wsX4_rooms) := goodIn_app (goodIn_of _ (by decide +kernel)) ggL_law_X4_rooms
set_option maxRecDepth 20000 in
theorem ggL_law_X5_rooms : GoodIn wsL_law wsX5_rooms := goodIn_r _ [419, 239, 420, 421, 422, 5, 423, 72, 231, 287, 65, 66, 67, 288, 289, 290, 291, 292, 293, 294, 295, 296, 297, 298, 299, 300, 301, 68, 70, 69, 328, 329, 330, 331, 424, 425, 426, 427, 428, 429, 430, 431, 802, 803, 804, 805, 806, 807, 808, 809, 810, 811, 812, 813, 814, 815, 816, 817, 818, 819, 820] (by decide +kernel) (by decide +kernel)
set_option maxRecDepth 20000 in
theorem gL_law_X5_rooms : GoodIn wsL_law (wsV RL 110 RX5 yX5_rooms wsX5_rooms) := goodIn_app (goodIn_of _ (by decide +kernel)) ggL_law_X5_rooms
set_option maxRecDepth 20000 in
theorem ggL_law_X4_bounded : GoodIn wsL_law wsX4_bounded := goodIn_r _ [435, 24, 16, 412, 413, 414, 23, 415, 55, 436, 437, 438, 439, 52, 165, 117, 118, 15, 119, 37, 185, 186, 187, 188, 35, 189, 190, 191, 192, 34, 440, 441, 442, 443, 178, 2, 179, 180, 124, 125, 798, 799, 800, 801, 831, 832, 833, 834, 821, 822, 823, 824] (by decide +kernel) (by decide +kernel)
set_option maxRecDepth 20000 in
theorem gL_law_X4_bounded : GoodIn wsL_law (wsV RL 111 RX4 yX4_bounded wsX4_bounded) := goodIn_app (goodIn_of _ (by decide +kernel)) ggL_law_X4_bounded
set_option maxRecDepth 20000 in
theorem ggL_law_X5_bounded : GoodIn wsL_law wsX5_bounded := goodIn_r _ [447, 239, 72, 420, 421, 422, 5, 423, 231, 287, 65, 66, 67, 288, 289, 290, 291, 292, 293, 294, 295, 296, 297, 298, 299, 300, 301, 68, 70, 69, 328, 329, 330, 331, 424, 425, 426, 427, 448, 449, 450, 451, 452, 453, 454, 455, 802, 803, 804, 805, 806, 807, 808, 809, 810, 811, 812, 813, 814, 815, 816, 817, 818, 819, 820] (by decide +kernel) (by decide +kernel)
set_option maxRecDepth 20000 in
theorem gL_law_X5_bounded : GoodIn wsL_law (wsV RL 114 RX5 yX5_bounded wsX5_bounded) := goodIn_app (goodIn_of _ (by decide +kernel)) ggL_law_X5_bounded
set_option maxRecDepth 20000 in
theorem ggL_law_L_room : GoodIn wsL_law wsL_room := goodIn_ca (goodIn_ca (goodIn_r _ [458, 255, 82, 459, 460, 461, 2, 462, 88, 89, 24, 16, 20, 463, 464, 465, 466, 264, 265, 412, 413, 414, 23, 415, 55, 467, 468, 469, 470, 52, 436, 437, 438, 439, 165, 117, 118, 15, 119, 37, 185, 186, 187, 188, 35, 189, 190, 191, 192, 34, 440, 441, 442, 443, 178, 179, 180, 124, 125, 471, 472, 473, 474, 53, 475, 476, 477, 19, 478, 47, 479, 480, 481, 482, 483, 484, 485, 486, 45, 46, 798, 799, 800, 801, 831, 832, 833, 834, 821, 822, 823, 824, 825, 826, 827, 828, 829, 830] (by decide +kernel) (by decide +kernel)) (goodIn_sub (fun _ h => List.mem_append_left _ (List.mem_append_left _ (List.mem_append_right _ h))) (by decide +kernel))) (goodIn_sub (fun _ h => List.mem_append_right _ h) (by decide +kernel))
set_option maxRecDepth 20000 in
theorem gL_law_L_room : GoodIn wsL_law (va_wsS RL 115 yL_room wsL_room) := goodIn_app (goodIn_of _ (by decide +kernel)) ggL_law_L_room
set_option maxRecDepth 20000 in
theorem ggL_law_X5_room : GoodIn wsL_law wsX5_room := goodIn_r _ [490, 231, 72, 287, 491, 492, 493, 5, 494, 420, 421, 422, 423, 65, 66, 67, 288, 289, 290, 291, 292, 293, 294, 295, 296, 297, 298, 299, 300, 301, 68, 70, 69, 328, 329, 330, 331, 424, 425, 426, 427, 428, 429, 430, 431, 232, 233, 234, 235, 236, 237, 238, 239, 495, 496, 497, 498, 448, 449, 450, 451, 452, 453, 454, 455, 499, 500, 501, 502, 802, 803, 804, 805, 806, 807, 808, 809, 810, 811, 812, 813, 814, 815, 816, 817, 818, 819, 820] (by decide +kernel) (by decide +kernel)
set_option maxRecDepth 20000 in
theorem gL_law_X5_room : GoodIn wsL_law (wsV RL 117 RX5 yX5_room wsX5_room) := goodIn_app (goodIn_of _ (by decide +kernel)) ggL_law_X5_room
set_option maxRecDepth 20000 in
theorem ggL_law_L_roomOf : GoodIn wsL_law wsL_roomOf := goodIn_ca (goodIn_r _ [505, 82, 506, 507, 508, 2, 509, 88, 89, 24, 510, 511, 512, 23, 513, 53, 798, 799, 800, 801, 831, 832, 833, 834] (by decide +kernel) (by decide +kernel)) (goodIn_sub (fun _ h => List.mem_append_left _ (List.mem_append_left _ (List.mem_append_right _ h))) (by decide +kernel))
set_option maxRecDepth 20000 in
theorem gL_law_L_roomOf : GoodIn wsL_law (va_wsS RL 118 yL_roomOf wsL_roomOf) := goodIn_app (goodIn_of _ (by decide +kernel)) ggL_law_L_roomOf
set_option maxRecDepth 20000 in
theorem ggL_law_X5_roomOf : GoodIn wsL_law wsX5_roomOf := goodIn_r _ [517, 72, 232, 233, 5, 234, 235, 236, 237, 238, 239, 420, 421, 422, 423, 231, 287, 65, 66, 67, 288, 289, 290, 291, 292, 293, 294, 295, 296, 297, 298, 299, 300, 301, 68, 70, 69, 328, 329, 330, 331, 424, 425, 426, 427, 518, 519, 520, 521, 802, 803, 804, 805, 806, 807, 808, 809, 810, 811, 812, 813, 814, 815, 816, 817, 818, 819, 820] (by decide +kernel) (by decide +kernel)
set_option maxRecDepth 20000 in
theorem gL_law_X5_roomOf : GoodIn wsL_law (wsV RL 120 RX5 yX5_roomOf wsX5_roomOf) := goodIn_app (goodIn_of _ (by decide +kernel)) ggL_law_X5_roomOf
set_option maxRecDepth 20000 in
theorem ggL_law_L_corner : GoodIn wsL_law wsL_corner := goodIn_ca (goodIn_r _ [524, 255, 525, 526, 527, 2, 528, 20, 24, 463, 464, 465, 466, 264, 265, 412, 413, 414, 23, 415, 55, 529, 530, 531, 467, 468, 469, 470, 52, 532, 533, 534, 19, 535, 47, 479, 480, 481, 482, 483, 484, 485, 486, 45, 46, 798, 799, 800, 801, 831, 832, 833, 834, 825, 826, 827, 828, 829, 830] (by decide +kernel) (by decide +kernel)) (goodIn_sub (fun _ h => List.mem_append_right _ h) (by decide +kernel))
set_option maxRecDepth 20000 in
theorem gL_law_L_corner : GoodIn wsL_law (va_wsS RL 121 yL_corner wsL_corner) := goodIn_app (goodIn_of _ (by decide +kernel)) ggL_law_L_corner
set_option maxRecDepth 20000 in
theorem ggL_law_X5_corner : GoodIn wsL_law wsX5_corner := goodIn_r _ [539, 287, 491, 492, 493, 5, 494, 420, 421, 422, 423, 72, 231, 65, 66, 67, 288, 289, 290, 291, 292, 293, 294, 295, 296, 297, 298, 299, 300, 301, 68, 70, 69, 328, 329, 330, 331, 424, 425, 426, 427, 428, 429, 430, 431, 232, 233, 234, 235, 236, 237, 238, 239, 495, 496, 497, 498, 499, 500, 501, 502, 802, 803, 804, 805, 806, 807, 808, 809, 810, 811, 812, 813, 814, 815, 816, 817, 818, 819, 820] (by decide +kernel) (by decide +kernel)
set_option maxRecDepth 20000 in
theorem gL_law_X5_corner : GoodIn wsL_law (wsV RL 123 RX5 yX5_corner wsX5_corner) := goodIn_app (goodIn_of _ (by decide +kernel)) ggL_law_X5_corner
set_option maxRecDepth 20000 in
theorem ggL_law_L_galleries : GoodIn wsL_law wsL_galleries := goodIn_ca (goodIn_r _ [542, 255, 543, 544, 545, 2, 546, 24, 463, 464, 465, 466, 264, 265, 412, 413, 414, 23, 415, 55, 547, 548, 549, 550, 52, 54, 551, 552, 553, 554, 53, 178, 179, 180, 124, 125, 798, 799, 800, 801, 831, 832, 833, 834] (by decide +kernel) (by decide +kernel)) (goodIn_sub (fun _ h => List.mem_append_right _ h) (by decide +kernel))
set_option maxRecDepth 20000 in
theorem gL_law_L_galleries : GoodIn wsL_law (va_wsS RL 124 yL_galleries wsL_galleries) := goodIn_app (goodIn_of _ (by decide +kernel)) ggL_law_L_galleries
set_option maxRecDepth 20000 in
theorem ggL_law_X5_galleries : GoodIn wsL_law wsX5_galleries := goodIn_r _ [558, 73, 491, 492, 493, 5, 494, 420, 421, 422, 423, 72, 231, 287, 65, 66, 67, 288, 289, 290, 291, 292, 293, 294, 295, 296, 297, 298, 299, 300, 301, 68, 70, 69, 328, 329, 330, 331, 424, 425, 426, 427, 428, 429, 430, 431, 232, 233, 234, 235, 236, 237, 238, 239, 495, 496, 497, 498, 559, 560, 561, 562, 802, 803, 804, 805, 806, 807, 808, 809, 810, 811, 812, 813, 814, 815, 816, 817, 818, 819, 820] (by decide +kernel) (by decide +kernel)
set_option maxRecDepth 20000 in
theorem gL_law_X5_galleries : GoodIn wsL_law (wsV RL 126 RX5 yX5_galleries wsX5_galleries) := goodIn_app (goodIn_of _ (by decide +kernel)) ggL_law_X5_galleries
set_option maxRecDepth 20000 in
theorem ggL_law_L_gallery : GoodIn wsL_law wsL_gallery := goodIn_ca (goodIn_r _ [565, 255, 566, 567, 568, 2, 569, 24, 463, 464, 465, 466, 264, 265, 412, 413, 414, 23, 415, 55, 529, 530, 531, 570, 571, 572, 573, 52, 53, 574, 575, 576, 577, 178, 179, 180, 124, 125, 578, 347, 348, 349, 350, 351, 352, 798, 799, 800, 801, 831, 832, 833, 834] (by decide +kernel) (by decide +kernel)) (goodIn_sub (fun _ h => List.mem_append_right _ h) (by decide +kernel))
set_option maxRecDepth 20000 in
theorem gL_law_L_gallery : GoodIn wsL_law (va_wsS RL 127 yL_gallery wsL_gallery) := goodIn_app (goodIn_of _ (by decide +kernel)) ggL_law_L_gallery
set_option maxRecDepth 20000 in
theorem ggL_law_X5_gallery : GoodIn wsL_law wsX5_gallery := goodIn_r _ [582, 231, 72, 73, 491, 492, 493, 5, 494, 420, 421, 422, 423, 287, 65, 66, 67, 288, 289, 290, 291, 292, 293, 294, 295, 296, 297, 298, 299, 300, 301, 68, 70, 69, 328, 329, 330, 331, 424, 425, 426, 427, 428, 429, 430, 431, 232, 233, 234, 235, 236, 237, 238, 239, 495, 496, 497, 498, 559, 560, 561, 562, 518, 519, 520, 521, 802, 803, 804, 805, 806, 807, 808, 809, 810, 811, 812, 813, 814, 815, 816, 817, 818, 819, 820] (by decide +kernel) (by decide +kernel)
set_option maxRecDepth 20000 in
theorem gL_law_X5_gallery : GoodIn wsL_law (wsV RL 129 RX5 yX5_gallery wsX5_gallery) := goodIn_app (goodIn_of _ (by decide +kernel)) ggL_law_X5_gallery
set_option maxRecDepth 20000 in
theorem ggL_law_L_project : GoodIn wsL_law wsL_project := goodIn_ca (goodIn_r _ [585, 255, 586, 587, 588, 2, 589, 24, 20, 463, 464, 465, 466, 264, 265, 412, 413, 414, 23, 415, 55, 309, 310, 311, 312, 282, 171, 172, 19, 173, 47, 467, 468, 469, 470, 52, 590, 484, 485, 486, 45, 46, 510, 511, 512, 513, 53, 798, 799, 800, 801, 831, 832, 833, 834, 825, 826, 827, 828, 829, 830] (by decide +kernel) (by decide +kernel)) (goodIn_sub (fun _ h => List.mem_append_right _ h) (by decide +kernel))
set_option maxRecDepth 20000 in
theorem gL_law_L_project : GoodIn wsL_law (va_wsS RL 130 yL_project wsL_project) := goodIn_app (goodIn_of _ (by decide +kernel)) ggL_law_L_project
set_option maxRecDepth 20000 in
theorem ggL_law_X5_project : GoodIn wsL_law wsX5_project := goodIn_r _ [594, 287, 231, 491, 492, 493, 5, 494, 420, 421, 422, 423, 72, 65, 66, 67, 288, 289, 290, 291, 292, 293, 294, 295, 296, 297, 298, 299, 300, 301, 68, 70, 69, 328, 329, 330, 331, 424, 425, 426, 427, 428, 429, 430, 431, 232, 233, 234, 235, 236, 237, 238, 239, 495, 496, 497, 498, 518, 519, 520, 521, 802, 803, 804, 805, 806, 807, 808, 809, 810, 811, 812, 813, 814, 815, 816, 817, 818, 819, 820] (by decide +kernel) (by decide +kernel)
set_option maxRecDepth 20000 in
theorem gL_law_X5_project : GoodIn wsL_law (wsV RL 132 RX5 yX5_project wsX5_project) := goodIn_app (goodIn_of _ (by decide +kernel)) ggL_law_X5_project
set_option maxRecDepth 20000 in
theorem ggL_law_L_best : GoodIn wsL_law wsL_best := goodIn_ca (goodIn_ca (goodIn_r _ [597, 255, 82, 598, 599, 600, 2, 601, 88, 89, 24, 16, 20, 463, 464, 465, 466, 264, 265, 412, 413, 414, 23, 415, 55, 92, 93, 94, 602, 603, 604, 605, 52, 165, 117, 118, 15, 119, 37, 185, 186, 187, 188, 35, 189, 190, 191, 192, 34, 440, 441, 442, 443, 178, 179, 180, 124, 125, 467, 468, 469, 470, 606, 607, 608, 19, 609, 47, 479, 480, 481, 482, 483, 484, 485, 486, 45, 46, 610, 611, 612, 613, 42, 43, 44, 798, 799, 800, 801, 831, 832, 833, 834, 821, 822, 823, 824, 825, 826, 827, 828, 829, 830] (by decide +kernel) (by decide +kernel)) (goodIn_sub (fun _ h => List.mem_append_left _ (List.mem_append_left _ (List.mem_append_right _ h))) (by decide +kernel))) (goodIn_sub (fun _ h => List.mem_append_right _ h) (by decide +kernel))
set_option maxRecDepth 20000 in
theorem gL_law_L_best : GoodIn wsL_law (va_wsS RL 133 yL_best wsL_best) := goodIn_app (goodIn_of _ (by decide +kernel)) ggL_law_L_best
set_option maxRecDepth 20000 in
theorem ggL_law_X5_best : GoodIn wsL_law wsX5_best := goodIn_r _ [617, 231, 66, 65, 287, 68, 69, 70, 491, 492, 493, 5, 494, 420, 421, 422, 423, 72, 67, 288, 289, 290, 291, 292, 293, 294, 295, 296, 297, 298, 299, 300, 301, 328, 329, 330, 331, 424, 425, 426, 427, 428, 429, 430, 431, 232, 233, 234, 235, 236, 237, 238, 239, 495, 496, 497, 498, 452, 453, 454, 455, 499, 500, 501, 502, 802, 803, 804, 805, 806, 807, 808, 809, 810, 811, 812, 813, 814, 815, 816, 817, 818, 819, 820] (by decide +kernel) (by decide +kernel)
set_option maxRecDepth 20000 in
theorem gL_law_X5_best : GoodIn wsL_law (wsV RL 135 RX5 yX5_best wsX5_best) := goodIn_app (goodIn_of _ (by decide +kernel)) ggL_law_X5_best
set_option maxRecDepth 20000 in
theorem ggL_law_L_reflected : GoodIn wsL_law wsL_reflected := goodIn_ca (goodIn_r _ [620, 255, 621, 622, 623, 2, 624, 16, 260, 261, 262, 263, 264, 265, 226, 117, 118, 15, 119, 37, 625, 626, 627, 628, 34, 35, 36, 629, 100, 101, 102, 798, 799, 800, 801, 821, 822, 823, 824] (by decide +kernel) (by decide +kernel)) (goodIn_sub (fun _ h => List.mem_append_right _ h) (by decide +kernel))
set_option maxRecDepth 20000 in
theorem gL_law_L_reflected : GoodIn wsL_law (va_wsS RL 136 yL_reflected wsL_reflected) := goodIn_app (goodIn_of _ (by decide +kernel)) ggL_law_L_reflected
set_option maxRecDepth 20000 in
theorem ggL_law_X5_reflected : GoodIn wsL_law wsX5_reflected := goodIn_r _ [633, 274, 275, 276, 5, 277, 231, 232, 233, 234, 235, 236, 237, 238, 239, 634, 635, 636, 637, 65, 66, 638, 639, 67, 640, 240, 241, 242, 243, 244, 245, 246, 247, 802, 803, 804, 805, 806, 807, 808, 809, 810, 811, 812, 813, 814, 815, 816, 817, 818, 819, 820] (by decide +kernel) (by decide +kernel)
set_option maxRecDepth 20000 in
theorem gL_law_X5_reflected : GoodIn wsL_law (wsV RL 138 RX5 yX5_reflected wsX5_reflected) := goodIn_app (goodIn_of _ (by decide +kernel)) ggL_law_X5_reflected
set_option maxRecDepth 20000 in
theorem ggL_law_X4_isKaleidoscope : GoodIn wsL_law wsX4_isKaleidoscope := goodIn_r _ [644, 16, 226, 117, 118, 15, 119, 37, 625, 626, 627, 628, 34, 35, 36, 629, 100, 101, 102, 798, 799, 800, 801, 821, 822, 823, 824] (by decide +kernel) (by decide +kernel)
set_option maxRecDepth 20000 in
theorem gL_law_X4_isKaleidoscope : GoodIn wsL_law (wsV RL 139 RX4 yX4_isKaleidoscope wsX4_isKaleidoscope) := goodIn_app (goodIn_of _ (by decide +kernel)) ggL_law_X4_isKaleidoscope
set_option maxRecDepth 20000 in
theorem ggL_law_X5_isKaleidoscope : GoodIn wsL_law wsX5_isKaleidoscope := goodIn_r _ [648, 239, 231, 634, 635, 636, 5, 637, 65, 66, 638, 639, 67, 640, 240, 241, 242, 243, 244, 245, 246, 247, 802, 803, 804, 805, 806, 807, 808, 809, 810, 811, 812, 813, 814, 815, 816, 817, 818, 819, 820] (by decide +kernel) (by decide +kernel)
set_option maxRecDepth 20000 in
theorem gL_law_X5_isKaleidoscope : GoodIn wsL_law (wsV RL 143 RX5 yX5_isKaleidoscope wsX5_isKaleidoscope) := goodIn_app (goodIn_of _ (by decide +kernel)) ggL_law_X5_isKaleidoscope
set_option maxRecDepth 20000 in
theorem ggL_law_X4_pairs : GoodIn wsL_law wsX4_pairs := goodIn_r _ [652, 16, 20, 226, 117, 118, 15, 119, 37, 653, 654, 655, 19, 656, 47, 45, 657, 175, 176, 177, 178, 2, 179, 180, 124, 125, 798, 799, 800, 801, 821, 822, 823, 824, 825, 826, 827, 828, 829, 830] (by decide +kernel) (by decide +kernel)
set_option maxRecDepth 20000 in
theorem gL_law_X4_pairs : GoodIn wsL_law (wsV RL 144 RX4 yX4_pairs wsX4_pairs) := goodIn_app (goodIn_of _ (by decide +kernel)) ggL_law_X4_pairs
set_option maxRecDepth 20000 in
theorem ggL_law_X5_pairs : GoodIn wsL_law wsX5_pairs := goodIn_r _ [661, 239, 231, 288, 289, 290, 5, 291, 287, 65, 66, 67, 292, 293, 294, 295, 296, 297, 298, 299, 300, 301, 68, 70, 69, 662, 663, 664, 665, 324, 325, 326, 327, 328, 329, 330, 331, 802, 803, 804, 805, 806, 807, 808, 809, 810, 811, 812, 813, 814, 815, 816, 817, 818, 819, 820] (by decide +kernel) (by decide +kernel)
set_option maxRecDepth 20000 in
theorem gL_law_X5_pairs : GoodIn wsL_law (wsV RL 147 RX5 yX5_pairs wsX5_pairs) := goodIn_app (goodIn_of _ (by decide +kernel)) ggL_law_X5_pairs
set_option maxRecDepth 20000 in
theorem ggL_law_L_pair : GoodIn wsL_law wsL_pair := goodIn_ca (goodIn_r _ [668, 255, 669, 670, 671, 2, 672, 16, 20, 529, 530, 531, 264, 265, 226, 117, 118, 15, 119, 37, 653, 654, 655, 19, 656, 47, 45, 657, 175, 176, 177, 178, 179, 180, 124, 125, 798, 799, 800, 801, 821, 822, 823, 824, 825, 826, 827, 828, 829, 830] (by decide +kernel) (by decide +kernel)) (goodIn_sub (fun _ h => List.mem_append_right _ h) (by decide +kernel))
set_option maxRecDepth 20000 in
theorem gL_law_L_pair : GoodIn wsL_law (va_wsS RL 148 yL_pair wsL_pair) := goodIn_app (goodIn_of _ (by decide +kernel)) ggL_law_L_pair
set_option maxRecDepth 20000 in
theorem ggL_law_X5_pair : GoodIn wsL_law wsX5_pair := goodIn_r _ [676, 231, 235, 236, 237, 5, 238, 239, 288, 289, 290, 291, 287, 65, 66, 67, 292, 293, 294, 295, 296, 297, 298, 299, 300, 301, 68, 70, 69, 662, 663, 664, 665, 324, 325, 326, 327, 328, 329, 330, 331, 802, 803, 804, 805, 806, 807, 808, 809, 810, 811, 812, 813, 814, 815, 816, 817, 818, 819, 820] (by decide +kernel) (by decide +kernel)
set_option maxRecDepth 20000 in
theorem gL_law_X5_pair : GoodIn wsL_law (wsV RL 150 RX5 yX5_pair wsX5_pair) := goodIn_app (goodIn_of _ (by decide +kernel)) ggL_law_X5_pair
set_option maxRecDepth 20000 in
theorem ggL_law_L_edge : GoodIn wsL_law wsL_edge := goodIn_ca (goodIn_ca (goodIn_r _ [679, 255, 82, 680, 681, 682, 2, 683, 264, 265, 88, 89, 28, 684, 685, 686, 687, 688, 689, 27, 690, 60, 691, 692, 693, 694, 695, 696, 697, 698, 699, 700, 701, 702, 703, 704, 705, 706, 707, 798, 799, 800, 801, 835] (by decide +kernel) (by decide +kernel)) (goodIn_sub (fun _ h => List.mem_append_right _ h) (by decide +kernel))) (goodIn_sub (fun _ h => List.mem_append_left _ (List.mem_append_left _ (List.mem_append_right _ h))) (by decide +kernel))
set_option maxRecDepth 20000 in
theorem gL_law_L_edge : GoodIn wsL_law (va_wsS RL 151 yL_edge wsL_edge) := goodIn_app (goodIn_of _ (by decide +kernel)) ggL_law_L_edge
set_option maxRecDepth 20000 in
theorem ggL_law_X5_edge : GoodIn wsL_law wsX5_edge := goodIn_r _ [711, 712, 74, 75, 232, 233, 5, 234, 235, 236, 237, 238, 239, 802, 803, 804, 805, 806, 807, 808, 809, 810, 811, 812, 813, 814, 815, 816, 817, 818, 819, 820] (by decide +kernel) (by decide +kernel)
set_option maxRecDepth 20000 in
theorem gL_law_X5_edge : GoodIn wsL_law (wsV RL 153 RX5 yX5_edge wsX5_edge) := goodIn_app (goodIn_of _ (by decide +kernel)) ggL_law_X5_edge
set_option maxRecDepth 20000 in
theorem ggL_law_L_colourings : GoodIn wsL_law wsL_colourings := goodIn_ca (goodIn_r _ [715, 82, 716, 717, 718, 2, 719, 28, 720, 721, 722, 88, 89, 723, 724, 725, 27, 726, 60, 727, 728, 729, 730, 731, 732, 694, 695, 696, 798, 799, 800, 801, 835] (by decide +kernel) (by decide +kernel)) (goodIn_sub (fun _ h => List.mem_append_left _ (List.mem_append_left _ (List.mem_append_right _ h))) (by decide +kernel))
set_option maxRecDepth 20000 in
theorem gL_law_L_colourings : GoodIn wsL_law (va_wsS RL 154 yL_colourings wsL_colourings) := goodIn_app (goodIn_of _ (by decide +kernel)) ggL_law_L_colourings
set_option maxRecDepth 20000 in
theorem ggL_law_X5_colourings : GoodIn wsL_law wsX5_colourings := goodIn_r _ [736, 76, 712, 74, 75, 232, 233, 5, 234, 235, 236, 237, 238, 239, 802, 803, 804, 805, 806, 807, 808, 809, 810, 811, 812, 813, 814, 815, 816, 817, 818, 819, 820] (by decide +kernel) (by decide +kernel)
set_option maxRecDepth 20000 in
theorem gL_law_X5_colourings : GoodIn wsL_law (wsV RL 156 RX5 yX5_colourings wsX5_colourings) := goodIn_app (goodIn_of _ (by decide +kernel)) ggL_law_X5_colourings
set_option maxRecDepth 20000 in
theorem ggL_law_L_colouringsAnew : GoodIn wsL_law wsL_colouringsAnew := goodIn_ca (goodIn_r _ [739, 82, 740, 741, 742, 2, 743, 28, 720, 721, 722, 88, 89, 744, 745, 746, 27, 747, 60, 748, 749, 750, 751, 752, 753, 754, 755, 756, 757, 730, 731, 732, 758, 759, 760, 178, 179, 180, 124, 125, 691, 692, 693, 694, 695, 696, 761, 762, 763, 798, 799, 800, 801, 835] (by decide +kernel) (by decide +kernel)) (goodIn_sub (fun _ h => List.mem_append_left _ (List.mem_append_left _ (List.mem_append_right _ h))) (by decide +kernel))
set_option maxRecDepth 20000 in
theorem gL_law_L_colouringsAnew : GoodIn wsL_law (va_wsS RL 157 yL_colouringsAnew wsL_colouringsAnew) := goodIn_app (goodIn_of _ (by decide +kernel)) ggL_law_L_colouringsAnew
set_option maxRecDepth 20000 in
theorem ggL_law_X5_colouringsAnew : GoodIn wsL_law wsX5_colouringsAnew := goodIn_r _ [767, 232, 233, 5, 234, 235, 236, 237, 238, 239, 768, 769, 770, 771, 712, 77, 74, 75, 802, 803, 804, 805, 806, 807, 808, 809, 810, 811, 812, 813, 814, 815, 816, 817, 818, 819, 820] (by decide +kernel) (by decide +kernel)
set_option maxRecDepth 20000 in
theorem gL_law_X5_colouringsAnew : GoodIn wsL_law (wsV RL 159 RX5 yX5_colouringsAnew wsX5_colouringsAnew) := goodIn_app (goodIn_of _ (by decide +kernel)) ggL_law_X5_colouringsAnew
set_option maxRecDepth 20000 in
theorem ggL_law_X4_directions : GoodIn wsL_law wsX4_directions := goodIn_r _ [775, 28, 776, 777, 778, 27, 779, 60, 780, 781, 782, 751, 755, 756, 757, 730, 731, 732, 758, 759, 760, 178, 2, 179, 180, 124, 125, 691, 692, 693, 694, 695, 696, 783, 784, 785, 798, 799, 800, 801, 835] (by decide +kernel) (by decide +kernel)
set_option maxRecDepth 20000 in
theorem gL_law_X4_directions : GoodIn wsL_law (wsV RL 160 RX4 yX4_directions wsX4_directions) := goodIn_app (goodIn_of _ (by decide +kernel)) ggL_law_X4_directions
set_option maxRecDepth 20000 in
theorem ggL_law_X5_directions : GoodIn wsL_law wsX5_directions := goodIn_r _ [789, 239, 712, 75, 74, 802, 803, 804, 805, 806, 807, 808, 809, 810, 811, 812, 813, 814, 815, 816, 817, 818, 819, 820] (by decide +kernel) (by decide +kernel)
set_option maxRecDepth 20000 in
theorem gL_law_X5_directions : GoodIn wsL_law (wsV RL 163 RX5 yX5_directions wsX5_directions) := goodIn_app (goodIn_of _ (by decide +kernel)) ggL_law_X5_directions
set_option maxRecDepth 20000 in
theorem ggL_law_X4_directionsAnew : GoodIn wsL_law wsX4_directionsAnew := goodIn_r _ [793, 28, 744, 745, 746, 27, 747, 60, 748, 749, 750, 751, 752, 753, 754, 755, 756, 757, 730, 731, 732, 758, 759, 760, 178, 2, 179, 180, 124, 125, 691, 692, 693, 694, 695, 696, 761, 762, 763, 798, 799, 800, 801, 835] (by decide +kernel) (by decide +kernel)
set_option maxRecDepth 20000 in
theorem gL_law_X4_directionsAnew : GoodIn wsL_law (wsV RL 164 RX4 yX4_directionsAnew wsX4_directionsAnew) := goodIn_app (goodIn_of _ (by decide +kernel)) ggL_law_X4_directionsAnew
set_option maxRecDepth 20000 in
theorem ggL_law_X5_directionsAnew : GoodIn wsL_law wsX5_directionsAnew := goodIn_r _ [797, 239, 768, 769, 770, 5, 771, 712, 77, 74, 75, 802, 803, 804, 805, 806, 807, 808, 809, 810, 811, 812, 813, 814, 815, 816, 817, 818, 819, 820] (by decide +kernel) (by decide +kernel)
set_option maxRecDepth 20000 in
theorem gL_law_X5_directionsAnew : GoodIn wsL_law (wsV RL 167 RX5 yX5_directionsAnew wsX5_directionsAnew) := goodIn_app (goodIn_of _ (by decide +kernel)) ggL_law_X5_directionsAnew
theorem dL_law_0 : decode cL_law 0 = .ok (.new 8, 3) := by decide +kernel
theorem dL_law_3 : decode cL_law 3 = .ok (.dup, 1) := by decide +kernel
theorem dL_law_4 : decode cL_law 4 = .ok (.invokespecial 72, 3) := by decide +kernel
theorem dL_law_7 : decode cL_law 7 = .ok (.astore_n 1, 1) := by decide +kernel
theorem dL_law_8 : decode cL_law 8 = .ok (.new 73, 3) := by decide +kernel
theorem dL_law_11 : decode cL_law 11 = .ok (.dup, 1) := by decide +kernel
theorem dL_law_12 : decode cL_law 12 = .ok (.invokespecial 75, 3) := by decide +kernel
theorem dL_law_15 : decode cL_law 15 = .ok (.astore_n 2, 1) := by decide +kernel
theorem dL_law_16 : decode cL_law 16 = .ok (.iconst 1, 1) := by decide +kernel
theorem dL_law_17 : decode cL_law 17 = .ok (.newarray .long, 2) := by decide +kernel
theorem dL_law_19 : decode cL_law 19 = .ok (.astore_n 3, 1) := by decide +kernel
theorem dL_law_20 : decode cL_law 20 = .ok (.iconst 0, 1) := by decide +kernel
theorem dL_law_21 : decode cL_law 21 = .ok (.istore 4, 2) := by decide +kernel
theorem dL_law_23 : decode cL_law 23 = .ok (.iload 4, 2) := by decide +kernel
theorem dL_law_25 : decode cL_law 25 = .ok (.aload_n 0, 1) := by decide +kernel
theorem dL_law_26 : decode cL_law 26 = .ok (.arraylength, 1) := by decide +kernel
theorem dL_law_27 : decode cL_law 27 = .ok (.iconst 4, 1) := by decide +kernel
theorem dL_law_28 : decode cL_law 28 = .ok (.isub, 1) := by decide +kernel
theorem dL_law_29 : decode cL_law 29 = .ok (.if_icmp .gt 1384, 3) := by decide +kernel
theorem dL_law_32 : decode cL_law 32 = .ok (.aload_n 0, 1) := by decide +kernel
theorem dL_law_33 : decode cL_law 33 = .ok (.iload 4, 2) := by decide +kernel
theorem dL_law_35 : decode cL_law 35 = .ok (.iaload, 1) := by decide +kernel
theorem dL_law_36 : decode cL_law 36 = .ok (.bipush 31, 2) := by decide +kernel
theorem dL_law_38 : decode cL_law 38 = .ok (.iand, 1) := by decide +kernel
theorem dL_law_39 : decode cL_law 39 = .ok (.tableswitch 1368 0 24 #[113, 193, 249, 262, 330, 386, 442, 498, 511, 524, 592, 648, 716, 784, 864, 932, 1012, 1080, 1093, 1106, 1162, 1230, 1286, 1342, 1355], 113) := by decide +kernel
theorem dL_law_152 : decode cL_law 152 = .ok (.aload_n 1, 1) := by decide +kernel
theorem dL_law_153 : decode cL_law 153 = .ok (.aload_n 0, 1) := by decide +kernel
theorem dL_law_154 : decode cL_law 154 = .ok (.iload 4, 2) := by decide +kernel
theorem dL_law_156 : decode cL_law 156 = .ok (.iconst 1, 1) := by decide +kernel
theorem dL_law_157 : decode cL_law 157 = .ok (.iadd, 1) := by decide +kernel
theorem dL_law_158 : decode cL_law 158 = .ok (.iaload, 1) := by decide +kernel
theorem dL_law_159 : decode cL_law 159 = .ok (.aload_n 0, 1) := by decide +kernel
theorem dL_law_160 : decode cL_law 160 = .ok (.iload 4, 2) := by decide +kernel
theorem dL_law_162 : decode cL_law 162 = .ok (.iconst 2, 1) := by decide +kernel
theorem dL_law_163 : decode cL_law 163 = .ok (.iadd, 1) := by decide +kernel
theorem dL_law_164 : decode cL_law 164 = .ok (.iaload, 1) := by decide +kernel
theorem dL_law_165 : decode cL_law 165 = .ok (.aload_n 0, 1) := by decide +kernel
theorem dL_law_166 : decode cL_law 166 = .ok (.iload 4, 2) := by decide +kernel
theorem dL_law_168 : decode cL_law 168 = .ok (.iconst 3, 1) := by decide +kernel
theorem dL_law_169 : decode cL_law 169 = .ok (.iadd, 1) := by decide +kernel
theorem dL_law_170 : decode cL_law 170 = .ok (.iaload, 1) := by decide +kernel
theorem dL_law_171 : decode cL_law 171 = .ok (.aload_n 3, 1) := by decide +kernel
theorem dL_law_172 : decode cL_law 172 = .ok (.invokestatic 76, 3) := by decide +kernel
theorem dL_law_175 : decode cL_law 175 = .ok (.istore 5, 2) := by decide +kernel
theorem dL_law_177 : decode cL_law 177 = .ok (.aload_n 2, 1) := by decide +kernel
theorem dL_law_178 : decode cL_law 178 = .ok (.aload_n 0, 1) := by decide +kernel
theorem dL_law_179 : decode cL_law 179 = .ok (.iload 4, 2) := by decide +kernel
theorem dL_law_181 : decode cL_law 181 = .ok (.iconst 1, 1) := by decide +kernel
theorem dL_law_182 : decode cL_law 182 = .ok (.iadd, 1) := by decide +kernel
theorem dL_law_183 : decode cL_law 183 = .ok (.iaload, 1) := by decide +kernel
theorem dL_law_184 : decode cL_law 184 = .ok (.aload_n 0, 1) := by decide +kernel
theorem dL_law_185 : decode cL_law 185 = .ok (.iload 4, 2) := by decide +kernel
theorem dL_law_187 : decode cL_law 187 = .ok (.iconst 2, 1) := by decide +kernel
theorem dL_law_188 : decode cL_law 188 = .ok (.iadd, 1) := by decide +kernel
theorem dL_law_189 : decode cL_law 189 = .ok (.iaload, 1) := by decide +kernel
theorem dL_law_190 : decode cL_law 190 = .ok (.aload_n 0, 1) := by decide +kernel
theorem dL_law_191 : decode cL_law 191 = .ok (.iload 4, 2) := by decide +kernel
theorem dL_law_193 : decode cL_law 193 = .ok (.iconst 3, 1) := by decide +kernel
theorem dL_law_194 : decode cL_law 194 = .ok (.iadd, 1) := by decide +kernel
theorem dL_law_195 : decode cL_law 195 = .ok (.iaload, 1) := by decide +kernel
theorem dL_law_196 : decode cL_law 196 = .ok (.invokevirtual 81, 3) := by decide +kernel
theorem dL_law_199 : decode cL_law 199 = .ok (.istore 6, 2) := by decide +kernel
theorem dL_law_201 : decode cL_law 201 = .ok (.aload_n 2, 1) := by decide +kernel
theorem dL_law_202 : decode cL_law 202 = .ok (.invokevirtual 82, 3) := by decide +kernel
theorem dL_law_205 : decode cL_law 205 = .ok (.iload 5, 2) := by decide +kernel
theorem dL_law_207 : decode cL_law 207 = .ok (.if_icmp .eq 5, 3) := by decide +kernel
theorem dL_law_210 : decode cL_law 210 = .ok (.iconst 0, 1) := by decide +kernel
theorem dL_law_211 : decode cL_law 211 = .ok (.ireturn, 1) := by decide +kernel
theorem dL_law_212 : decode cL_law 212 = .ok (.iload 5, 2) := by decide +kernel
theorem dL_law_214 : decode cL_law 214 = .ok (.ifCond .ne 15, 3) := by decide +kernel
theorem dL_law_217 : decode cL_law 217 = .ok (.aload_n 3, 1) := by decide +kernel
theorem dL_law_218 : decode cL_law 218 = .ok (.iconst 0, 1) := by decide +kernel
theorem dL_law_219 : decode cL_law 219 = .ok (.laload, 1) := by decide +kernel
theorem dL_law_220 : decode cL_law 220 = .ok (.iload 6, 2) := by decide +kernel
theorem dL_law_222 : decode cL_law 222 = .ok (.i2l, 1) := by decide +kernel
theorem dL_law_223 : decode cL_law 223 = .ok (.lcmp, 1) := by decide +kernel
theorem dL_law_224 : decode cL_law 224 = .ok (.ifCond .eq 5, 3) := by decide +kernel
theorem dL_law_227 : decode cL_law 227 = .ok (.iconst 0, 1) := by decide +kernel
theorem dL_law_228 : decode cL_law 228 = .ok (.ireturn, 1) := by decide +kernel
theorem dL_law_229 : decode cL_law 229 = .ok (.goto 1178, 3) := by decide +kernel
theorem dL_law_232 : decode cL_law 232 = .ok (.aload_n 1, 1) := by decide +kernel
theorem dL_law_233 : decode cL_law 233 = .ok (.aload_n 0, 1) := by decide +kernel
theorem dL_law_234 : decode cL_law 234 = .ok (.iload 4, 2) := by decide +kernel
theorem dL_law_236 : decode cL_law 236 = .ok (.iconst 1, 1) := by decide +kernel
theorem dL_law_237 : decode cL_law 237 = .ok (.iadd, 1) := by decide +kernel
theorem dL_law_238 : decode cL_law 238 = .ok (.iaload, 1) := by decide +kernel
theorem dL_law_239 : decode cL_law 239 = .ok (.aload_n 3, 1) := by decide +kernel
theorem dL_law_240 : decode cL_law 240 = .ok (.invokestatic 86, 3) := by decide +kernel
theorem dL_law_243 : decode cL_law 243 = .ok (.istore 5, 2) := by decide +kernel
theorem dL_law_245 : decode cL_law 245 = .ok (.aload_n 2, 1) := by decide +kernel
theorem dL_law_246 : decode cL_law 246 = .ok (.aload_n 0, 1) := by decide +kernel
theorem dL_law_247 : decode cL_law 247 = .ok (.iload 4, 2) := by decide +kernel
theorem dL_law_249 : decode cL_law 249 = .ok (.iconst 1, 1) := by decide +kernel
theorem dL_law_250 : decode cL_law 250 = .ok (.iadd, 1) := by decide +kernel
theorem dL_law_251 : decode cL_law 251 = .ok (.iaload, 1) := by decide +kernel
theorem dL_law_252 : decode cL_law 252 = .ok (.invokevirtual 89, 3) := by decide +kernel
theorem dL_law_255 : decode cL_law 255 = .ok (.istore 6, 2) := by decide +kernel
theorem dL_law_257 : decode cL_law 257 = .ok (.aload_n 2, 1) := by decide +kernel
theorem dL_law_258 : decode cL_law 258 = .ok (.invokevirtual 82, 3) := by decide +kernel
theorem dL_law_261 : decode cL_law 261 = .ok (.iload 5, 2) := by decide +kernel
theorem dL_law_263 : decode cL_law 263 = .ok (.if_icmp .eq 5, 3) := by decide +kernel
theorem dL_law_266 : decode cL_law 266 = .ok (.iconst 0, 1) := by decide +kernel
theorem dL_law_267 : decode cL_law 267 = .ok (.ireturn, 1) := by decide +kernel
theorem dL_law_268 : decode cL_law 268 = .ok (.iload 5, 2) := by decide +kernel
theorem dL_law_270 : decode cL_law 270 = .ok (.ifCond .ne 15, 3) := by decide +kernel
theorem dL_law_273 : decode cL_law 273 = .ok (.aload_n 3, 1) := by decide +kernel
theorem dL_law_274 : decode cL_law 274 = .ok (.iconst 0, 1) := by decide +kernel
theorem dL_law_275 : decode cL_law 275 = .ok (.laload, 1) := by decide +kernel
theorem dL_law_276 : decode cL_law 276 = .ok (.iload 6, 2) := by decide +kernel
theorem dL_law_278 : decode cL_law 278 = .ok (.i2l, 1) := by decide +kernel
theorem dL_law_279 : decode cL_law 279 = .ok (.lcmp, 1) := by decide +kernel
theorem dL_law_280 : decode cL_law 280 = .ok (.ifCond .eq 5, 3) := by decide +kernel
theorem dL_law_283 : decode cL_law 283 = .ok (.iconst 0, 1) := by decide +kernel
theorem dL_law_284 : decode cL_law 284 = .ok (.ireturn, 1) := by decide +kernel
theorem dL_law_285 : decode cL_law 285 = .ok (.goto 1122, 3) := by decide +kernel
theorem dL_law_288 : decode cL_law 288 = .ok (.aload_n 1, 1) := by decide +kernel
theorem dL_law_289 : decode cL_law 289 = .ok (.invokevirtual 90, 3) := by decide +kernel
theorem dL_law_292 : decode cL_law 292 = .ok (.aload_n 2, 1) := by decide +kernel
theorem dL_law_293 : decode cL_law 293 = .ok (.invokevirtual 93, 3) := by decide +kernel
theorem dL_law_296 : decode cL_law 296 = .ok (.if_icmp .eq 1111, 3) := by decide +kernel
theorem dL_law_299 : decode cL_law 299 = .ok (.iconst 0, 1) := by decide +kernel
theorem dL_law_300 : decode cL_law 300 = .ok (.ireturn, 1) := by decide +kernel
theorem dL_law_301 : decode cL_law 301 = .ok (.aload_n 1, 1) := by decide +kernel
theorem dL_law_302 : decode cL_law 302 = .ok (.aload_n 0, 1) := by decide +kernel
theorem dL_law_303 : decode cL_law 303 = .ok (.iload 4, 2) := by decide +kernel
theorem dL_law_305 : decode cL_law 305 = .ok (.iconst 1, 1) := by decide +kernel
theorem dL_law_306 : decode cL_law 306 = .ok (.iadd, 1) := by decide +kernel
theorem dL_law_307 : decode cL_law 307 = .ok (.iaload, 1) := by decide +kernel
theorem dL_law_308 : decode cL_law 308 = .ok (.aload_n 0, 1) := by decide +kernel
theorem dL_law_309 : decode cL_law 309 = .ok (.iload 4, 2) := by decide +kernel
theorem dL_law_311 : decode cL_law 311 = .ok (.iconst 2, 1) := by decide +kernel
theorem dL_law_312 : decode cL_law 312 = .ok (.iadd, 1) := by decide +kernel
theorem dL_law_313 : decode cL_law 313 = .ok (.iaload, 1) := by decide +kernel
theorem dL_law_314 : decode cL_law 314 = .ok (.aload_n 3, 1) := by decide +kernel
theorem dL_law_315 : decode cL_law 315 = .ok (.invokestatic 94, 3) := by decide +kernel
theorem dL_law_318 : decode cL_law 318 = .ok (.istore 5, 2) := by decide +kernel
theorem dL_law_320 : decode cL_law 320 = .ok (.aload_n 2, 1) := by decide +kernel
theorem dL_law_321 : decode cL_law 321 = .ok (.aload_n 0, 1) := by decide +kernel
theorem dL_law_322 : decode cL_law 322 = .ok (.iload 4, 2) := by decide +kernel
theorem dL_law_324 : decode cL_law 324 = .ok (.iconst 1, 1) := by decide +kernel
theorem dL_law_325 : decode cL_law 325 = .ok (.iadd, 1) := by decide +kernel
theorem dL_law_326 : decode cL_law 326 = .ok (.iaload, 1) := by decide +kernel
theorem dL_law_327 : decode cL_law 327 = .ok (.aload_n 0, 1) := by decide +kernel
theorem dL_law_328 : decode cL_law 328 = .ok (.iload 4, 2) := by decide +kernel
theorem dL_law_330 : decode cL_law 330 = .ok (.iconst 2, 1) := by decide +kernel
theorem dL_law_331 : decode cL_law 331 = .ok (.iadd, 1) := by decide +kernel
theorem dL_law_332 : decode cL_law 332 = .ok (.iaload, 1) := by decide +kernel
theorem dL_law_333 : decode cL_law 333 = .ok (.invokevirtual 97, 3) := by decide +kernel
theorem dL_law_336 : decode cL_law 336 = .ok (.istore 6, 2) := by decide +kernel
theorem dL_law_338 : decode cL_law 338 = .ok (.aload_n 2, 1) := by decide +kernel
theorem dL_law_339 : decode cL_law 339 = .ok (.invokevirtual 82, 3) := by decide +kernel
theorem dL_law_342 : decode cL_law 342 = .ok (.iload 5, 2) := by decide +kernel
theorem dL_law_344 : decode cL_law 344 = .ok (.if_icmp .eq 5, 3) := by decide +kernel
theorem dL_law_347 : decode cL_law 347 = .ok (.iconst 0, 1) := by decide +kernel
theorem dL_law_348 : decode cL_law 348 = .ok (.ireturn, 1) := by decide +kernel
theorem dL_law_349 : decode cL_law 349 = .ok (.iload 5, 2) := by decide +kernel
theorem dL_law_351 : decode cL_law 351 = .ok (.ifCond .ne 15, 3) := by decide +kernel
theorem dL_law_354 : decode cL_law 354 = .ok (.aload_n 3, 1) := by decide +kernel
theorem dL_law_355 : decode cL_law 355 = .ok (.iconst 0, 1) := by decide +kernel
theorem dL_law_356 : decode cL_law 356 = .ok (.laload, 1) := by decide +kernel
theorem dL_law_357 : decode cL_law 357 = .ok (.iload 6, 2) := by decide +kernel
theorem dL_law_359 : decode cL_law 359 = .ok (.i2l, 1) := by decide +kernel
theorem dL_law_360 : decode cL_law 360 = .ok (.lcmp, 1) := by decide +kernel
theorem dL_law_361 : decode cL_law 361 = .ok (.ifCond .eq 5, 3) := by decide +kernel
theorem dL_law_364 : decode cL_law 364 = .ok (.iconst 0, 1) := by decide +kernel
theorem dL_law_365 : decode cL_law 365 = .ok (.ireturn, 1) := by decide +kernel
theorem dL_law_366 : decode cL_law 366 = .ok (.goto 1041, 3) := by decide +kernel
theorem dL_law_369 : decode cL_law 369 = .ok (.aload_n 1, 1) := by decide +kernel
theorem dL_law_370 : decode cL_law 370 = .ok (.aload_n 0, 1) := by decide +kernel
theorem dL_law_371 : decode cL_law 371 = .ok (.iload 4, 2) := by decide +kernel
theorem dL_law_373 : decode cL_law 373 = .ok (.iconst 1, 1) := by decide +kernel
theorem dL_law_374 : decode cL_law 374 = .ok (.iadd, 1) := by decide +kernel
theorem dL_law_375 : decode cL_law 375 = .ok (.iaload, 1) := by decide +kernel
theorem dL_law_376 : decode cL_law 376 = .ok (.aload_n 3, 1) := by decide +kernel
theorem dL_law_377 : decode cL_law 377 = .ok (.invokestatic 98, 3) := by decide +kernel
theorem dL_law_380 : decode cL_law 380 = .ok (.istore 5, 2) := by decide +kernel
theorem dL_law_382 : decode cL_law 382 = .ok (.aload_n 2, 1) := by decide +kernel
theorem dL_law_383 : decode cL_law 383 = .ok (.aload_n 0, 1) := by decide +kernel
theorem dL_law_384 : decode cL_law 384 = .ok (.iload 4, 2) := by decide +kernel
theorem dL_law_386 : decode cL_law 386 = .ok (.iconst 1, 1) := by decide +kernel
theorem dL_law_387 : decode cL_law 387 = .ok (.iadd, 1) := by decide +kernel
theorem dL_law_388 : decode cL_law 388 = .ok (.iaload, 1) := by decide +kernel
theorem dL_law_389 : decode cL_law 389 = .ok (.invokevirtual 100, 3) := by decide +kernel
theorem dL_law_392 : decode cL_law 392 = .ok (.istore 6, 2) := by decide +kernel
theorem dL_law_394 : decode cL_law 394 = .ok (.aload_n 2, 1) := by decide +kernel
theorem dL_law_395 : decode cL_law 395 = .ok (.invokevirtual 82, 3) := by decide +kernel
theorem dL_law_398 : decode cL_law 398 = .ok (.iload 5, 2) := by decide +kernel
theorem dL_law_400 : decode cL_law 400 = .ok (.if_icmp .eq 5, 3) := by decide +kernel
theorem dL_law_403 : decode cL_law 403 = .ok (.iconst 0, 1) := by decide +kernel
theorem dL_law_404 : decode cL_law 404 = .ok (.ireturn, 1) := by decide +kernel
theorem dL_law_405 : decode cL_law 405 = .ok (.iload 5, 2) := by decide +kernel
theorem dL_law_407 : decode cL_law 407 = .ok (.ifCond .ne 15, 3) := by decide +kernel
theorem dL_law_410 : decode cL_law 410 = .ok (.aload_n 3, 1) := by decide +kernel
theorem dL_law_411 : decode cL_law 411 = .ok (.iconst 0, 1) := by decide +kernel
theorem dL_law_412 : decode cL_law 412 = .ok (.laload, 1) := by decide +kernel
theorem dL_law_413 : decode cL_law 413 = .ok (.iload 6, 2) := by decide +kernel
theorem dL_law_415 : decode cL_law 415 = .ok (.i2l, 1) := by decide +kernel
theorem dL_law_416 : decode cL_law 416 = .ok (.lcmp, 1) := by decide +kernel
theorem dL_law_417 : decode cL_law 417 = .ok (.ifCond .eq 5, 3) := by decide +kernel
theorem dL_law_420 : decode cL_law 420 = .ok (.iconst 0, 1) := by decide +kernel
theorem dL_law_421 : decode cL_law 421 = .ok (.ireturn, 1) := by decide +kernel
theorem dL_law_422 : decode cL_law 422 = .ok (.goto 985, 3) := by decide +kernel
theorem dL_law_425 : decode cL_law 425 = .ok (.aload_n 1, 1) := by decide +kernel
theorem dL_law_426 : decode cL_law 426 = .ok (.aload_n 0, 1) := by decide +kernel
theorem dL_law_427 : decode cL_law 427 = .ok (.iload 4, 2) := by decide +kernel
theorem dL_law_429 : decode cL_law 429 = .ok (.iconst 1, 1) := by decide +kernel
theorem dL_law_430 : decode cL_law 430 = .ok (.iadd, 1) := by decide +kernel
theorem dL_law_431 : decode cL_law 431 = .ok (.iaload, 1) := by decide +kernel
theorem dL_law_432 : decode cL_law 432 = .ok (.aload_n 3, 1) := by decide +kernel
theorem dL_law_433 : decode cL_law 433 = .ok (.invokestatic 101, 3) := by decide +kernel
theorem dL_law_436 : decode cL_law 436 = .ok (.istore 5, 2) := by decide +kernel
theorem dL_law_438 : decode cL_law 438 = .ok (.aload_n 2, 1) := by decide +kernel
theorem dL_law_439 : decode cL_law 439 = .ok (.aload_n 0, 1) := by decide +kernel
theorem dL_law_440 : decode cL_law 440 = .ok (.iload 4, 2) := by decide +kernel
theorem dL_law_442 : decode cL_law 442 = .ok (.iconst 1, 1) := by decide +kernel
theorem dL_law_443 : decode cL_law 443 = .ok (.iadd, 1) := by decide +kernel
theorem dL_law_444 : decode cL_law 444 = .ok (.iaload, 1) := by decide +kernel
theorem dL_law_445 : decode cL_law 445 = .ok (.invokevirtual 103, 3) := by decide +kernel
theorem dL_law_448 : decode cL_law 448 = .ok (.istore 6, 2) := by decide +kernel
theorem dL_law_450 : decode cL_law 450 = .ok (.aload_n 2, 1) := by decide +kernel
theorem dL_law_451 : decode cL_law 451 = .ok (.invokevirtual 82, 3) := by decide +kernel
theorem dL_law_454 : decode cL_law 454 = .ok (.iload 5, 2) := by decide +kernel
theorem dL_law_456 : decode cL_law 456 = .ok (.if_icmp .eq 5, 3) := by decide +kernel
theorem dL_law_459 : decode cL_law 459 = .ok (.iconst 0, 1) := by decide +kernel
theorem dL_law_460 : decode cL_law 460 = .ok (.ireturn, 1) := by decide +kernel
theorem dL_law_461 : decode cL_law 461 = .ok (.iload 5, 2) := by decide +kernel
theorem dL_law_463 : decode cL_law 463 = .ok (.ifCond .ne 15, 3) := by decide +kernel
theorem dL_law_466 : decode cL_law 466 = .ok (.aload_n 3, 1) := by decide +kernel
theorem dL_law_467 : decode cL_law 467 = .ok (.iconst 0, 1) := by decide +kernel
theorem dL_law_468 : decode cL_law 468 = .ok (.laload, 1) := by decide +kernel
theorem dL_law_469 : decode cL_law 469 = .ok (.iload 6, 2) := by decide +kernel
theorem dL_law_471 : decode cL_law 471 = .ok (.i2l, 1) := by decide +kernel
theorem dL_law_472 : decode cL_law 472 = .ok (.lcmp, 1) := by decide +kernel
theorem dL_law_473 : decode cL_law 473 = .ok (.ifCond .eq 5, 3) := by decide +kernel
theorem dL_law_476 : decode cL_law 476 = .ok (.iconst 0, 1) := by decide +kernel
theorem dL_law_477 : decode cL_law 477 = .ok (.ireturn, 1) := by decide +kernel
theorem dL_law_478 : decode cL_law 478 = .ok (.goto 929, 3) := by decide +kernel
theorem dL_law_481 : decode cL_law 481 = .ok (.aload_n 1, 1) := by decide +kernel
theorem dL_law_482 : decode cL_law 482 = .ok (.aload_n 0, 1) := by decide +kernel
theorem dL_law_483 : decode cL_law 483 = .ok (.iload 4, 2) := by decide +kernel
theorem dL_law_485 : decode cL_law 485 = .ok (.iconst 1, 1) := by decide +kernel
theorem dL_law_486 : decode cL_law 486 = .ok (.iadd, 1) := by decide +kernel
theorem dL_law_487 : decode cL_law 487 = .ok (.iaload, 1) := by decide +kernel
theorem dL_law_488 : decode cL_law 488 = .ok (.aload_n 3, 1) := by decide +kernel
theorem dL_law_489 : decode cL_law 489 = .ok (.invokestatic 104, 3) := by decide +kernel
theorem dL_law_492 : decode cL_law 492 = .ok (.istore 5, 2) := by decide +kernel
theorem dL_law_494 : decode cL_law 494 = .ok (.aload_n 2, 1) := by decide +kernel
theorem dL_law_495 : decode cL_law 495 = .ok (.aload_n 0, 1) := by decide +kernel
theorem dL_law_496 : decode cL_law 496 = .ok (.iload 4, 2) := by decide +kernel
theorem dL_law_498 : decode cL_law 498 = .ok (.iconst 1, 1) := by decide +kernel
theorem dL_law_499 : decode cL_law 499 = .ok (.iadd, 1) := by decide +kernel
theorem dL_law_500 : decode cL_law 500 = .ok (.iaload, 1) := by decide +kernel
theorem dL_law_501 : decode cL_law 501 = .ok (.invokevirtual 106, 3) := by decide +kernel
theorem dL_law_504 : decode cL_law 504 = .ok (.istore 6, 2) := by decide +kernel
theorem dL_law_506 : decode cL_law 506 = .ok (.aload_n 2, 1) := by decide +kernel
theorem dL_law_507 : decode cL_law 507 = .ok (.invokevirtual 82, 3) := by decide +kernel
theorem dL_law_510 : decode cL_law 510 = .ok (.iload 5, 2) := by decide +kernel
theorem dL_law_512 : decode cL_law 512 = .ok (.if_icmp .eq 5, 3) := by decide +kernel
theorem dL_law_515 : decode cL_law 515 = .ok (.iconst 0, 1) := by decide +kernel
theorem dL_law_516 : decode cL_law 516 = .ok (.ireturn, 1) := by decide +kernel
theorem dL_law_517 : decode cL_law 517 = .ok (.iload 5, 2) := by decide +kernel
theorem dL_law_519 : decode cL_law 519 = .ok (.ifCond .ne 15, 3) := by decide +kernel
theorem dL_law_522 : decode cL_law 522 = .ok (.aload_n 3, 1) := by decide +kernel
theorem dL_law_523 : decode cL_law 523 = .ok (.iconst 0, 1) := by decide +kernel
theorem dL_law_524 : decode cL_law 524 = .ok (.laload, 1) := by decide +kernel
theorem dL_law_525 : decode cL_law 525 = .ok (.iload 6, 2) := by decide +kernel
theorem dL_law_527 : decode cL_law 527 = .ok (.i2l, 1) := by decide +kernel
theorem dL_law_528 : decode cL_law 528 = .ok (.lcmp, 1) := by decide +kernel
theorem dL_law_529 : decode cL_law 529 = .ok (.ifCond .eq 5, 3) := by decide +kernel
theorem dL_law_532 : decode cL_law 532 = .ok (.iconst 0, 1) := by decide +kernel
theorem dL_law_533 : decode cL_law 533 = .ok (.ireturn, 1) := by decide +kernel
theorem dL_law_534 : decode cL_law 534 = .ok (.goto 873, 3) := by decide +kernel
theorem dL_law_537 : decode cL_law 537 = .ok (.aload_n 1, 1) := by decide +kernel
theorem dL_law_538 : decode cL_law 538 = .ok (.invokevirtual 107, 3) := by decide +kernel
theorem dL_law_541 : decode cL_law 541 = .ok (.aload_n 2, 1) := by decide +kernel
theorem dL_law_542 : decode cL_law 542 = .ok (.invokevirtual 110, 3) := by decide +kernel
theorem dL_law_545 : decode cL_law 545 = .ok (.if_icmp .eq 862, 3) := by decide +kernel
theorem dL_law_548 : decode cL_law 548 = .ok (.iconst 0, 1) := by decide +kernel
theorem dL_law_549 : decode cL_law 549 = .ok (.ireturn, 1) := by decide +kernel
theorem dL_law_550 : decode cL_law 550 = .ok (.aload_n 1, 1) := by decide +kernel
theorem dL_law_551 : decode cL_law 551 = .ok (.invokevirtual 111, 3) := by decide +kernel
theorem dL_law_554 : decode cL_law 554 = .ok (.aload_n 2, 1) := by decide +kernel
theorem dL_law_555 : decode cL_law 555 = .ok (.invokevirtual 114, 3) := by decide +kernel
theorem dL_law_558 : decode cL_law 558 = .ok (.if_icmp .eq 849, 3) := by decide +kernel
theorem dL_law_561 : decode cL_law 561 = .ok (.iconst 0, 1) := by decide +kernel
theorem dL_law_562 : decode cL_law 562 = .ok (.ireturn, 1) := by decide +kernel
theorem dL_law_563 : decode cL_law 563 = .ok (.aload_n 1, 1) := by decide +kernel
theorem dL_law_564 : decode cL_law 564 = .ok (.aload_n 0, 1) := by decide +kernel
theorem dL_law_565 : decode cL_law 565 = .ok (.iload 4, 2) := by decide +kernel
theorem dL_law_567 : decode cL_law 567 = .ok (.iconst 1, 1) := by decide +kernel
theorem dL_law_568 : decode cL_law 568 = .ok (.iadd, 1) := by decide +kernel
theorem dL_law_569 : decode cL_law 569 = .ok (.iaload, 1) := by decide +kernel
theorem dL_law_570 : decode cL_law 570 = .ok (.aload_n 0, 1) := by decide +kernel
theorem dL_law_571 : decode cL_law 571 = .ok (.iload 4, 2) := by decide +kernel
theorem dL_law_573 : decode cL_law 573 = .ok (.iconst 2, 1) := by decide +kernel
theorem dL_law_574 : decode cL_law 574 = .ok (.iadd, 1) := by decide +kernel
theorem dL_law_575 : decode cL_law 575 = .ok (.iaload, 1) := by decide +kernel
theorem dL_law_576 : decode cL_law 576 = .ok (.aload_n 3, 1) := by decide +kernel
theorem dL_law_577 : decode cL_law 577 = .ok (.invokestatic 115, 3) := by decide +kernel
theorem dL_law_580 : decode cL_law 580 = .ok (.istore 5, 2) := by decide +kernel
theorem dL_law_582 : decode cL_law 582 = .ok (.aload_n 2, 1) := by decide +kernel
theorem dL_law_583 : decode cL_law 583 = .ok (.aload_n 0, 1) := by decide +kernel
theorem dL_law_584 : decode cL_law 584 = .ok (.iload 4, 2) := by decide +kernel
theorem dL_law_586 : decode cL_law 586 = .ok (.iconst 1, 1) := by decide +kernel
theorem dL_law_587 : decode cL_law 587 = .ok (.iadd, 1) := by decide +kernel
theorem dL_law_588 : decode cL_law 588 = .ok (.iaload, 1) := by decide +kernel
theorem dL_law_589 : decode cL_law 589 = .ok (.aload_n 0, 1) := by decide +kernel
theorem dL_law_590 : decode cL_law 590 = .ok (.iload 4, 2) := by decide +kernel
theorem dL_law_592 : decode cL_law 592 = .ok (.iconst 2, 1) := by decide +kernel
theorem dL_law_593 : decode cL_law 593 = .ok (.iadd, 1) := by decide +kernel
theorem dL_law_594 : decode cL_law 594 = .ok (.iaload, 1) := by decide +kernel
theorem dL_law_595 : decode cL_law 595 = .ok (.invokevirtual 117, 3) := by decide +kernel
theorem dL_law_598 : decode cL_law 598 = .ok (.istore 6, 2) := by decide +kernel
theorem dL_law_600 : decode cL_law 600 = .ok (.aload_n 2, 1) := by decide +kernel
theorem dL_law_601 : decode cL_law 601 = .ok (.invokevirtual 82, 3) := by decide +kernel
theorem dL_law_604 : decode cL_law 604 = .ok (.iload 5, 2) := by decide +kernel
theorem dL_law_606 : decode cL_law 606 = .ok (.if_icmp .eq 5, 3) := by decide +kernel
theorem dL_law_609 : decode cL_law 609 = .ok (.iconst 0, 1) := by decide +kernel
theorem dL_law_610 : decode cL_law 610 = .ok (.ireturn, 1) := by decide +kernel
theorem dL_law_611 : decode cL_law 611 = .ok (.iload 5, 2) := by decide +kernel
theorem dL_law_613 : decode cL_law 613 = .ok (.ifCond .ne 15, 3) := by decide +kernel
theorem dL_law_616 : decode cL_law 616 = .ok (.aload_n 3, 1) := by decide +kernel
theorem dL_law_617 : decode cL_law 617 = .ok (.iconst 0, 1) := by decide +kernel
theorem dL_law_618 : decode cL_law 618 = .ok (.laload, 1) := by decide +kernel
theorem dL_law_619 : decode cL_law 619 = .ok (.iload 6, 2) := by decide +kernel
theorem dL_law_621 : decode cL_law 621 = .ok (.i2l, 1) := by decide +kernel
theorem dL_law_622 : decode cL_law 622 = .ok (.lcmp, 1) := by decide +kernel
theorem dL_law_623 : decode cL_law 623 = .ok (.ifCond .eq 5, 3) := by decide +kernel
theorem dL_law_626 : decode cL_law 626 = .ok (.iconst 0, 1) := by decide +kernel
theorem dL_law_627 : decode cL_law 627 = .ok (.ireturn, 1) := by decide +kernel
theorem dL_law_628 : decode cL_law 628 = .ok (.goto 779, 3) := by decide +kernel
theorem dL_law_631 : decode cL_law 631 = .ok (.aload_n 1, 1) := by decide +kernel
theorem dL_law_632 : decode cL_law 632 = .ok (.aload_n 0, 1) := by decide +kernel
theorem dL_law_633 : decode cL_law 633 = .ok (.iload 4, 2) := by decide +kernel
theorem dL_law_635 : decode cL_law 635 = .ok (.iconst 1, 1) := by decide +kernel
