theorem dX7_beyond_40 : decode cX7_beyond 40 = .ok (.if_icmp .ge 30, 3) := by decide +kernel
theorem dX7_beyond_43 : decode cX7_beyond 43 = .ok (.aload_n 0, 1) := by decide +kernel
theorem dX7_beyond_44 : decode cX7_beyond 44 = .ok (.getfield 7, 3) := by decide +kernel
theorem dX7_beyond_47 : decode cX7_beyond 47 = .ok (.iload 4, 2) := by decide +kernel
theorem dX7_beyond_49 : decode cX7_beyond 49 = .ok (.iaload, 1) := by decide +kernel
theorem dX7_beyond_50 : decode cX7_beyond 50 = .ok (.iload_n 1, 1) := by decide +kernel
theorem dX7_beyond_51 : decode cX7_beyond 51 = .ok (.if_icmp .ne 13, 3) := by decide +kernel
theorem dX7_beyond_54 : decode cX7_beyond 54 = .ok (.iload_n 3, 1) := by decide +kernel
theorem dX7_beyond_55 : decode cX7_beyond 55 = .ok (.ifCond .ne 6, 3) := by decide +kernel
theorem dX7_beyond_58 : decode cX7_beyond 58 = .ok (.iload 4, 2) := by decide +kernel
theorem dX7_beyond_60 : decode cX7_beyond 60 = .ok (.ireturn, 1) := by decide +kernel
theorem dX7_beyond_61 : decode cX7_beyond 61 = .ok (.iinc 3 (-1), 3) := by decide +kernel
theorem dX7_beyond_64 : decode cX7_beyond 64 = .ok (.iinc 4 1, 3) := by decide +kernel
theorem dX7_beyond_67 : decode cX7_beyond 67 = .ok (.goto (-33), 3) := by decide +kernel
theorem dX7_beyond_70 : decode cX7_beyond 70 = .ok (.iconst 0, 1) := by decide +kernel
theorem dX7_beyond_71 : decode cX7_beyond 71 = .ok (.istore 4, 2) := by decide +kernel
theorem dX7_beyond_73 : decode cX7_beyond 73 = .ok (.iload 4, 2) := by decide +kernel
theorem dX7_beyond_75 : decode cX7_beyond 75 = .ok (.aload_n 0, 1) := by decide +kernel
theorem dX7_beyond_76 : decode cX7_beyond 76 = .ok (.getfield 56, 3) := by decide +kernel
theorem dX7_beyond_79 : decode cX7_beyond 79 = .ok (.if_icmp .ge 34, 3) := by decide +kernel
theorem dX7_beyond_82 : decode cX7_beyond 82 = .ok (.aload_n 0, 1) := by decide +kernel
theorem dX7_beyond_83 : decode cX7_beyond 83 = .ok (.getfield 35, 3) := by decide +kernel
theorem dX7_beyond_86 : decode cX7_beyond 86 = .ok (.bipush 12, 2) := by decide +kernel
theorem dX7_beyond_88 : decode cX7_beyond 88 = .ok (.iload_n 1, 1) := by decide +kernel
theorem dX7_beyond_89 : decode cX7_beyond 89 = .ok (.imul, 1) := by decide +kernel
theorem dX7_beyond_90 : decode cX7_beyond 90 = .ok (.iload 4, 2) := by decide +kernel
theorem dX7_beyond_92 : decode cX7_beyond 92 = .ok (.iadd, 1) := by decide +kernel
theorem dX7_beyond_93 : decode cX7_beyond 93 = .ok (.baload, 1) := by decide +kernel
theorem dX7_beyond_94 : decode cX7_beyond 94 = .ok (.ifCond .eq 13, 3) := by decide +kernel
theorem dX7_beyond_97 : decode cX7_beyond 97 = .ok (.iload_n 3, 1) := by decide +kernel
theorem dX7_beyond_98 : decode cX7_beyond 98 = .ok (.ifCond .ne 6, 3) := by decide +kernel
theorem dX7_beyond_101 : decode cX7_beyond 101 = .ok (.iload 4, 2) := by decide +kernel
theorem dX7_beyond_103 : decode cX7_beyond 103 = .ok (.ireturn, 1) := by decide +kernel
theorem dX7_beyond_104 : decode cX7_beyond 104 = .ok (.iinc 3 (-1), 3) := by decide +kernel
theorem dX7_beyond_107 : decode cX7_beyond 107 = .ok (.iinc 4 1, 3) := by decide +kernel
theorem dX7_beyond_110 : decode cX7_beyond 110 = .ok (.goto (-37), 3) := by decide +kernel
theorem dX7_beyond_113 : decode cX7_beyond 113 = .ok (.iconst (-1), 1) := by decide +kernel
theorem dX7_beyond_114 : decode cX7_beyond 114 = .ok (.ireturn, 1) := by decide +kernel
theorem dX7_doors_0 : decode cX7_doors 0 = .ok (.iload_n 1, 1) := by decide +kernel
theorem dX7_doors_1 : decode cX7_doors 1 = .ok (.ifCond .le 7, 3) := by decide +kernel
theorem dX7_doors_4 : decode cX7_doors 4 = .ok (.iconst 1, 1) := by decide +kernel
theorem dX7_doors_5 : decode cX7_doors 5 = .ok (.goto 4, 3) := by decide +kernel
theorem dX7_doors_8 : decode cX7_doors 8 = .ok (.iconst 0, 1) := by decide +kernel
theorem dX7_doors_9 : decode cX7_doors 9 = .ok (.istore_n 2, 1) := by decide +kernel
theorem dX7_doors_10 : decode cX7_doors 10 = .ok (.iconst 0, 1) := by decide +kernel
theorem dX7_doors_11 : decode cX7_doors 11 = .ok (.istore_n 3, 1) := by decide +kernel
theorem dX7_doors_12 : decode cX7_doors 12 = .ok (.iload_n 3, 1) := by decide +kernel
theorem dX7_doors_13 : decode cX7_doors 13 = .ok (.aload_n 0, 1) := by decide +kernel
theorem dX7_doors_14 : decode cX7_doors 14 = .ok (.getfield 56, 3) := by decide +kernel
theorem dX7_doors_17 : decode cX7_doors 17 = .ok (.if_icmp .ge 49, 3) := by decide +kernel
theorem dX7_doors_20 : decode cX7_doors 20 = .ok (.aload_n 0, 1) := by decide +kernel
theorem dX7_doors_21 : decode cX7_doors 21 = .ok (.getfield 7, 3) := by decide +kernel
theorem dX7_doors_24 : decode cX7_doors 24 = .ok (.iload_n 3, 1) := by decide +kernel
theorem dX7_doors_25 : decode cX7_doors 25 = .ok (.iaload, 1) := by decide +kernel
theorem dX7_doors_26 : decode cX7_doors 26 = .ok (.iload_n 1, 1) := by decide +kernel
theorem dX7_doors_27 : decode cX7_doors 27 = .ok (.if_icmp .ne 9, 3) := by decide +kernel
theorem dX7_doors_30 : decode cX7_doors 30 = .ok (.iload_n 2, 1) := by decide +kernel
theorem dX7_doors_31 : decode cX7_doors 31 = .ok (.iconst 1, 1) := by decide +kernel
theorem dX7_doors_32 : decode cX7_doors 32 = .ok (.iadd, 1) := by decide +kernel
theorem dX7_doors_33 : decode cX7_doors 33 = .ok (.goto 4, 3) := by decide +kernel
theorem dX7_doors_36 : decode cX7_doors 36 = .ok (.iload_n 2, 1) := by decide +kernel
theorem dX7_doors_37 : decode cX7_doors 37 = .ok (.istore_n 2, 1) := by decide +kernel
theorem dX7_doors_38 : decode cX7_doors 38 = .ok (.aload_n 0, 1) := by decide +kernel
theorem dX7_doors_39 : decode cX7_doors 39 = .ok (.getfield 35, 3) := by decide +kernel
theorem dX7_doors_42 : decode cX7_doors 42 = .ok (.bipush 12, 2) := by decide +kernel
theorem dX7_doors_44 : decode cX7_doors 44 = .ok (.iload_n 1, 1) := by decide +kernel
theorem dX7_doors_45 : decode cX7_doors 45 = .ok (.imul, 1) := by decide +kernel
theorem dX7_doors_46 : decode cX7_doors 46 = .ok (.iload_n 3, 1) := by decide +kernel
theorem dX7_doors_47 : decode cX7_doors 47 = .ok (.iadd, 1) := by decide +kernel
theorem dX7_doors_48 : decode cX7_doors 48 = .ok (.baload, 1) := by decide +kernel
theorem dX7_doors_49 : decode cX7_doors 49 = .ok (.ifCond .eq 9, 3) := by decide +kernel
theorem dX7_doors_52 : decode cX7_doors 52 = .ok (.iload_n 2, 1) := by decide +kernel
theorem dX7_doors_53 : decode cX7_doors 53 = .ok (.iconst 1, 1) := by decide +kernel
theorem dX7_doors_54 : decode cX7_doors 54 = .ok (.iadd, 1) := by decide +kernel
theorem dX7_doors_55 : decode cX7_doors 55 = .ok (.goto 4, 3) := by decide +kernel
theorem dX7_doors_58 : decode cX7_doors 58 = .ok (.iload_n 2, 1) := by decide +kernel
theorem dX7_doors_59 : decode cX7_doors 59 = .ok (.istore_n 2, 1) := by decide +kernel
theorem dX7_doors_60 : decode cX7_doors 60 = .ok (.iinc 3 1, 3) := by decide +kernel
theorem dX7_doors_63 : decode cX7_doors 63 = .ok (.goto (-51), 3) := by decide +kernel
theorem dX7_doors_66 : decode cX7_doors 66 = .ok (.iload_n 2, 1) := by decide +kernel
theorem dX7_doors_67 : decode cX7_doors 67 = .ok (.ireturn, 1) := by decide +kernel
theorem dX7_ones_0 : decode cX7_ones 0 = .ok (.iload_n 0, 1) := by decide +kernel
theorem dX7_ones_1 : decode cX7_ones 1 = .ok (.iconst 1, 1) := by decide +kernel
theorem dX7_ones_2 : decode cX7_ones 2 = .ok (.iand, 1) := by decide +kernel
theorem dX7_ones_3 : decode cX7_ones 3 = .ok (.iload_n 0, 1) := by decide +kernel
theorem dX7_ones_4 : decode cX7_ones 4 = .ok (.iconst 1, 1) := by decide +kernel
theorem dX7_ones_5 : decode cX7_ones 5 = .ok (.ishr, 1) := by decide +kernel
theorem dX7_ones_6 : decode cX7_ones 6 = .ok (.iconst 1, 1) := by decide +kernel
theorem dX7_ones_7 : decode cX7_ones 7 = .ok (.iand, 1) := by decide +kernel
theorem dX7_ones_8 : decode cX7_ones 8 = .ok (.iadd, 1) := by decide +kernel
theorem dX7_ones_9 : decode cX7_ones 9 = .ok (.iload_n 0, 1) := by decide +kernel
theorem dX7_ones_10 : decode cX7_ones 10 = .ok (.iconst 2, 1) := by decide +kernel
theorem dX7_ones_11 : decode cX7_ones 11 = .ok (.ishr, 1) := by decide +kernel
theorem dX7_ones_12 : decode cX7_ones 12 = .ok (.iconst 1, 1) := by decide +kernel
theorem dX7_ones_13 : decode cX7_ones 13 = .ok (.iand, 1) := by decide +kernel
theorem dX7_ones_14 : decode cX7_ones 14 = .ok (.iadd, 1) := by decide +kernel
theorem dX7_ones_15 : decode cX7_ones 15 = .ok (.ireturn, 1) := by decide +kernel
set_option maxRecDepth 20000 in
theorem ggX7_walked_X7_beyond : GoodIn wsX7_walked wsX7_beyond := goodIn_r _ [9, 1, 10, 11, 15, 16, 17, 18, 19, 20, 21, 22, 23, 24, 25, 26, 27, 28, 29, 30, 31, 32] (by decide +kernel) (by decide +kernel)
set_option maxRecDepth 20000 in
theorem gX7_walked_X7_beyond : GoodIn wsX7_walked (wsV RX7 109 RX7 yX7_beyond wsX7_beyond) := goodIn_app (goodIn_of _ (by decide +kernel)) ggX7_walked_X7_beyond
set_option maxRecDepth 20000 in
theorem ggX7_walked_X7_ones : GoodIn wsX7_walked wsX7_ones := goodIn_r _ [14] (by decide +kernel) (by decide +kernel)
set_option maxRecDepth 20000 in
theorem gX7_walked_X7_ones : GoodIn wsX7_walked (va_wsS RX7 113 yX7_ones wsX7_ones) := goodIn_app (goodIn_of _ (by decide +kernel)) ggX7_walked_X7_ones
theorem dX7_walked_0 : decode cX7_walked 0 = .ok (.iload_n 1, 1) := by decide +kernel
theorem dX7_walked_1 : decode cX7_walked 1 = .ok (.sipush 1024, 3) := by decide +kernel
theorem dX7_walked_4 : decode cX7_walked 4 = .ok (.idiv, 1) := by decide +kernel
theorem dX7_walked_5 : decode cX7_walked 5 = .ok (.istore_n 3, 1) := by decide +kernel
theorem dX7_walked_6 : decode cX7_walked 6 = .ok (.aload_n 0, 1) := by decide +kernel
theorem dX7_walked_7 : decode cX7_walked 7 = .ok (.iload_n 3, 1) := by decide +kernel
theorem dX7_walked_8 : decode cX7_walked 8 = .ok (.iload_n 2, 1) := by decide +kernel
theorem dX7_walked_9 : decode cX7_walked 9 = .ok (.invokevirtual 109, 3) := by decide +kernel
theorem dX7_walked_12 : decode cX7_walked 12 = .ok (.istore 4, 2) := by decide +kernel
theorem dX7_walked_14 : decode cX7_walked 14 = .ok (.aload_n 0, 1) := by decide +kernel
theorem dX7_walked_15 : decode cX7_walked 15 = .ok (.getfield 7, 3) := by decide +kernel
theorem dX7_walked_18 : decode cX7_walked 18 = .ok (.iload_n 3, 1) := by decide +kernel
theorem dX7_walked_19 : decode cX7_walked 19 = .ok (.iaload, 1) := by decide +kernel
theorem dX7_walked_20 : decode cX7_walked 20 = .ok (.iload 4, 2) := by decide +kernel
theorem dX7_walked_22 : decode cX7_walked 22 = .ok (.if_icmp .ne 7, 3) := by decide +kernel
theorem dX7_walked_25 : decode cX7_walked 25 = .ok (.iload_n 3, 1) := by decide +kernel
theorem dX7_walked_26 : decode cX7_walked 26 = .ok (.goto 20, 3) := by decide +kernel
theorem dX7_walked_29 : decode cX7_walked 29 = .ok (.aload_n 0, 1) := by decide +kernel
theorem dX7_walked_30 : decode cX7_walked 30 = .ok (.getfield 7, 3) := by decide +kernel
theorem dX7_walked_33 : decode cX7_walked 33 = .ok (.iload 4, 2) := by decide +kernel
theorem dX7_walked_35 : decode cX7_walked 35 = .ok (.iaload, 1) := by decide +kernel
theorem dX7_walked_36 : decode cX7_walked 36 = .ok (.iload_n 3, 1) := by decide +kernel
theorem dX7_walked_37 : decode cX7_walked 37 = .ok (.if_icmp .ne 8, 3) := by decide +kernel
theorem dX7_walked_40 : decode cX7_walked 40 = .ok (.iload 4, 2) := by decide +kernel
theorem dX7_walked_42 : decode cX7_walked 42 = .ok (.goto 4, 3) := by decide +kernel
theorem dX7_walked_45 : decode cX7_walked 45 = .ok (.iconst (-1), 1) := by decide +kernel
theorem dX7_walked_46 : decode cX7_walked 46 = .ok (.istore 5, 2) := by decide +kernel
theorem dX7_walked_48 : decode cX7_walked 48 = .ok (.sipush 1024, 3) := by decide +kernel
theorem dX7_walked_51 : decode cX7_walked 51 = .ok (.iload 4, 2) := by decide +kernel
theorem dX7_walked_53 : decode cX7_walked 53 = .ok (.imul, 1) := by decide +kernel
theorem dX7_walked_54 : decode cX7_walked 54 = .ok (.iload_n 1, 1) := by decide +kernel
theorem dX7_walked_55 : decode cX7_walked 55 = .ok (.sipush 1024, 3) := by decide +kernel
theorem dX7_walked_58 : decode cX7_walked 58 = .ok (.irem, 1) := by decide +kernel
theorem dX7_walked_59 : decode cX7_walked 59 = .ok (.iadd, 1) := by decide +kernel
theorem dX7_walked_60 : decode cX7_walked 60 = .ok (.istore 6, 2) := by decide +kernel
theorem dX7_walked_62 : decode cX7_walked 62 = .ok (.iload 5, 2) := by decide +kernel
theorem dX7_walked_64 : decode cX7_walked 64 = .ok (.ifCond .lt 13, 3) := by decide +kernel
theorem dX7_walked_67 : decode cX7_walked 67 = .ok (.aload_n 0, 1) := by decide +kernel
theorem dX7_walked_68 : decode cX7_walked 68 = .ok (.getfield 16, 3) := by decide +kernel
theorem dX7_walked_71 : decode cX7_walked 71 = .ok (.iload 5, 2) := by decide +kernel
theorem dX7_walked_73 : decode cX7_walked 73 = .ok (.iaload, 1) := by decide +kernel
theorem dX7_walked_74 : decode cX7_walked 74 = .ok (.ifCond .ne 6, 3) := by decide +kernel
theorem dX7_walked_77 : decode cX7_walked 77 = .ok (.iload 6, 2) := by decide +kernel
theorem dX7_walked_79 : decode cX7_walked 79 = .ok (.ireturn, 1) := by decide +kernel
theorem dX7_walked_80 : decode cX7_walked 80 = .ok (.aload_n 0, 1) := by decide +kernel
theorem dX7_walked_81 : decode cX7_walked 81 = .ok (.getfield 16, 3) := by decide +kernel
theorem dX7_walked_84 : decode cX7_walked 84 = .ok (.iload 5, 2) := by decide +kernel
theorem dX7_walked_86 : decode cX7_walked 86 = .ok (.iaload, 1) := by decide +kernel
theorem dX7_walked_87 : decode cX7_walked 87 = .ok (.iconst 1, 1) := by decide +kernel
theorem dX7_walked_88 : decode cX7_walked 88 = .ok (.if_icmp .ne 31, 3) := by decide +kernel
theorem dX7_walked_91 : decode cX7_walked 91 = .ok (.iload_n 1, 1) := by decide +kernel
theorem dX7_walked_92 : decode cX7_walked 92 = .ok (.sipush 128, 3) := by decide +kernel
theorem dX7_walked_95 : decode cX7_walked 95 = .ok (.idiv, 1) := by decide +kernel
theorem dX7_walked_96 : decode cX7_walked 96 = .ok (.aload_n 0, 1) := by decide +kernel
theorem dX7_walked_97 : decode cX7_walked 97 = .ok (.getfield 13, 3) := by decide +kernel
theorem dX7_walked_100 : decode cX7_walked 100 = .ok (.iload 5, 2) := by decide +kernel
theorem dX7_walked_102 : decode cX7_walked 102 = .ok (.iaload, 1) := by decide +kernel
theorem dX7_walked_103 : decode cX7_walked 103 = .ok (.iconst 1, 1) := by decide +kernel
theorem dX7_walked_104 : decode cX7_walked 104 = .ok (.isub, 1) := by decide +kernel
theorem dX7_walked_105 : decode cX7_walked 105 = .ok (.ishr, 1) := by decide +kernel
theorem dX7_walked_106 : decode cX7_walked 106 = .ok (.iconst 1, 1) := by decide +kernel
theorem dX7_walked_107 : decode cX7_walked 107 = .ok (.iand, 1) := by decide +kernel
theorem dX7_walked_108 : decode cX7_walked 108 = .ok (.iconst 1, 1) := by decide +kernel
theorem dX7_walked_109 : decode cX7_walked 109 = .ok (.if_icmp .ne 8, 3) := by decide +kernel
theorem dX7_walked_112 : decode cX7_walked 112 = .ok (.iload 6, 2) := by decide +kernel
theorem dX7_walked_114 : decode cX7_walked 114 = .ok (.goto 4, 3) := by decide +kernel
theorem dX7_walked_117 : decode cX7_walked 117 = .ok (.iconst (-1), 1) := by decide +kernel
theorem dX7_walked_118 : decode cX7_walked 118 = .ok (.ireturn, 1) := by decide +kernel
theorem dX7_walked_119 : decode cX7_walked 119 = .ok (.aload_n 0, 1) := by decide +kernel
theorem dX7_walked_120 : decode cX7_walked 120 = .ok (.getfield 16, 3) := by decide +kernel
theorem dX7_walked_123 : decode cX7_walked 123 = .ok (.iload 5, 2) := by decide +kernel
theorem dX7_walked_125 : decode cX7_walked 125 = .ok (.iaload, 1) := by decide +kernel
theorem dX7_walked_126 : decode cX7_walked 126 = .ok (.iconst 2, 1) := by decide +kernel
theorem dX7_walked_127 : decode cX7_walked 127 = .ok (.if_icmp .eq 32, 3) := by decide +kernel
theorem dX7_walked_130 : decode cX7_walked 130 = .ok (.iload_n 1, 1) := by decide +kernel
theorem dX7_walked_131 : decode cX7_walked 131 = .ok (.iconst 2, 1) := by decide +kernel
theorem dX7_walked_132 : decode cX7_walked 132 = .ok (.irem, 1) := by decide +kernel
theorem dX7_walked_133 : decode cX7_walked 133 = .ok (.aload_n 0, 1) := by decide +kernel
theorem dX7_walked_134 : decode cX7_walked 134 = .ok (.getfield 16, 3) := by decide +kernel
theorem dX7_walked_137 : decode cX7_walked 137 = .ok (.iload 5, 2) := by decide +kernel
theorem dX7_walked_139 : decode cX7_walked 139 = .ok (.iaload, 1) := by decide +kernel
theorem dX7_walked_140 : decode cX7_walked 140 = .ok (.iconst 3, 1) := by decide +kernel
theorem dX7_walked_141 : decode cX7_walked 141 = .ok (.if_icmp .ne 7, 3) := by decide +kernel
theorem dX7_walked_144 : decode cX7_walked 144 = .ok (.iconst 0, 1) := by decide +kernel
theorem dX7_walked_145 : decode cX7_walked 145 = .ok (.goto 4, 3) := by decide +kernel
theorem dX7_walked_148 : decode cX7_walked 148 = .ok (.iconst 1, 1) := by decide +kernel
theorem dX7_walked_149 : decode cX7_walked 149 = .ok (.if_icmp .ne 8, 3) := by decide +kernel
theorem dX7_walked_152 : decode cX7_walked 152 = .ok (.iload 6, 2) := by decide +kernel
theorem dX7_walked_154 : decode cX7_walked 154 = .ok (.goto 4, 3) := by decide +kernel
theorem dX7_walked_157 : decode cX7_walked 157 = .ok (.iconst (-1), 1) := by decide +kernel
theorem dX7_walked_158 : decode cX7_walked 158 = .ok (.ireturn, 1) := by decide +kernel
theorem dX7_walked_159 : decode cX7_walked 159 = .ok (.iload_n 1, 1) := by decide +kernel
theorem dX7_walked_160 : decode cX7_walked 160 = .ok (.iconst 2, 1) := by decide +kernel
theorem dX7_walked_161 : decode cX7_walked 161 = .ok (.idiv, 1) := by decide +kernel
theorem dX7_walked_162 : decode cX7_walked 162 = .ok (.aload_n 0, 1) := by decide +kernel
theorem dX7_walked_163 : decode cX7_walked 163 = .ok (.getfield 19, 3) := by decide +kernel
theorem dX7_walked_166 : decode cX7_walked 166 = .ok (.iload 5, 2) := by decide +kernel
theorem dX7_walked_168 : decode cX7_walked 168 = .ok (.iaload, 1) := by decide +kernel
theorem dX7_walked_169 : decode cX7_walked 169 = .ok (.ishr, 1) := by decide +kernel
theorem dX7_walked_170 : decode cX7_walked 170 = .ok (.iconst 1, 1) := by decide +kernel
theorem dX7_walked_171 : decode cX7_walked 171 = .ok (.iand, 1) := by decide +kernel
theorem dX7_walked_172 : decode cX7_walked 172 = .ok (.iconst 1, 1) := by decide +kernel
theorem dX7_walked_173 : decode cX7_walked 173 = .ok (.if_icmp .ne 6, 3) := by decide +kernel
theorem dX7_walked_176 : decode cX7_walked 176 = .ok (.iload 6, 2) := by decide +kernel
theorem dX7_walked_178 : decode cX7_walked 178 = .ok (.ireturn, 1) := by decide +kernel
theorem dX7_walked_179 : decode cX7_walked 179 = .ok (.iload_n 1, 1) := by decide +kernel
theorem dX7_walked_180 : decode cX7_walked 180 = .ok (.bipush 16, 2) := by decide +kernel
theorem dX7_walked_182 : decode cX7_walked 182 = .ok (.idiv, 1) := by decide +kernel
theorem dX7_walked_183 : decode cX7_walked 183 = .ok (.bipush 8, 2) := by decide +kernel
theorem dX7_walked_185 : decode cX7_walked 185 = .ok (.irem, 1) := by decide +kernel
theorem dX7_walked_186 : decode cX7_walked 186 = .ok (.invokestatic 113, 3) := by decide +kernel
theorem dX7_walked_189 : decode cX7_walked 189 = .ok (.iload_n 1, 1) := by decide +kernel
theorem dX7_walked_190 : decode cX7_walked 190 = .ok (.iconst 2, 1) := by decide +kernel
theorem dX7_walked_191 : decode cX7_walked 191 = .ok (.idiv, 1) := by decide +kernel
theorem dX7_walked_192 : decode cX7_walked 192 = .ok (.bipush 8, 2) := by decide +kernel
theorem dX7_walked_194 : decode cX7_walked 194 = .ok (.irem, 1) := by decide +kernel
theorem dX7_walked_195 : decode cX7_walked 195 = .ok (.invokestatic 113, 3) := by decide +kernel
theorem dX7_walked_198 : decode cX7_walked 198 = .ok (.if_icmp .le 18, 3) := by decide +kernel
theorem dX7_walked_201 : decode cX7_walked 201 = .ok (.iload 6, 2) := by decide +kernel
theorem dX7_walked_203 : decode cX7_walked 203 = .ok (.iconst 2, 1) := by decide +kernel
theorem dX7_walked_204 : decode cX7_walked 204 = .ok (.aload_n 0, 1) := by decide +kernel
theorem dX7_walked_205 : decode cX7_walked 205 = .ok (.getfield 19, 3) := by decide +kernel
theorem dX7_walked_208 : decode cX7_walked 208 = .ok (.iload 5, 2) := by decide +kernel
theorem dX7_walked_210 : decode cX7_walked 210 = .ok (.iaload, 1) := by decide +kernel
theorem dX7_walked_211 : decode cX7_walked 211 = .ok (.ishl, 1) := by decide +kernel
theorem dX7_walked_212 : decode cX7_walked 212 = .ok (.iadd, 1) := by decide +kernel
theorem dX7_walked_213 : decode cX7_walked 213 = .ok (.goto 4, 3) := by decide +kernel
theorem dX7_walked_216 : decode cX7_walked 216 = .ok (.iconst (-1), 1) := by decide +kernel
theorem dX7_walked_217 : decode cX7_walked 217 = .ok (.ireturn, 1) := by decide +kernel
theorem dX7_takeable_0 : decode cX7_takeable 0 = .ok (.iload_n 1, 1) := by decide +kernel
theorem dX7_takeable_1 : decode cX7_takeable 1 = .ok (.sipush 128, 3) := by decide +kernel
theorem dX7_takeable_4 : decode cX7_takeable 4 = .ok (.idiv, 1) := by decide +kernel
theorem dX7_takeable_5 : decode cX7_takeable 5 = .ok (.bipush 8, 2) := by decide +kernel
theorem dX7_takeable_7 : decode cX7_takeable 7 = .ok (.irem, 1) := by decide +kernel
theorem dX7_takeable_8 : decode cX7_takeable 8 = .ok (.bipush 8, 2) := by decide +kernel
theorem dX7_takeable_10 : decode cX7_takeable 10 = .ok (.iload_n 1, 1) := by decide +kernel
theorem dX7_takeable_11 : decode cX7_takeable 11 = .ok (.bipush 16, 2) := by decide +kernel
theorem dX7_takeable_13 : decode cX7_takeable 13 = .ok (.idiv, 1) := by decide +kernel
theorem dX7_takeable_14 : decode cX7_takeable 14 = .ok (.bipush 8, 2) := by decide +kernel
theorem dX7_takeable_16 : decode cX7_takeable 16 = .ok (.irem, 1) := by decide +kernel
theorem dX7_takeable_17 : decode cX7_takeable 17 = .ok (.imul, 1) := by decide +kernel
theorem dX7_takeable_18 : decode cX7_takeable 18 = .ok (.iadd, 1) := by decide +kernel
theorem dX7_takeable_19 : decode cX7_takeable 19 = .ok (.istore_n 2, 1) := by decide +kernel
theorem dX7_takeable_20 : decode cX7_takeable 20 = .ok (.aload_n 0, 1) := by decide +kernel
theorem dX7_takeable_21 : decode cX7_takeable 21 = .ok (.getfield 28, 3) := by decide +kernel
theorem dX7_takeable_24 : decode cX7_takeable 24 = .ok (.iload_n 1, 1) := by decide +kernel
theorem dX7_takeable_25 : decode cX7_takeable 25 = .ok (.sipush 1024, 3) := by decide +kernel
theorem dX7_takeable_28 : decode cX7_takeable 28 = .ok (.idiv, 1) := by decide +kernel
theorem dX7_takeable_29 : decode cX7_takeable 29 = .ok (.iaload, 1) := by decide +kernel
theorem dX7_takeable_30 : decode cX7_takeable 30 = .ok (.iload_n 2, 1) := by decide +kernel
theorem dX7_takeable_31 : decode cX7_takeable 31 = .ok (.iconst (-1), 1) := by decide +kernel
theorem dX7_takeable_32 : decode cX7_takeable 32 = .ok (.ixor, 1) := by decide +kernel
theorem dX7_takeable_33 : decode cX7_takeable 33 = .ok (.iand, 1) := by decide +kernel
theorem dX7_takeable_34 : decode cX7_takeable 34 = .ok (.ireturn, 1) := by decide +kernel
set_option maxRecDepth 20000 in
theorem ggX7_after_X7_takeable : GoodIn wsX7_after wsX7_takeable := goodIn_r _ [6, 7, 29, 30, 31, 32, 33, 34, 35, 36, 37, 38, 39, 40, 41, 42, 43, 44, 45, 46] (by decide +kernel) (by decide +kernel)
set_option maxRecDepth 20000 in
theorem gX7_after_X7_takeable : GoodIn wsX7_after (wsV RX7 116 RX7 yX7_takeable wsX7_takeable) := goodIn_app (goodIn_of _ (by decide +kernel)) ggX7_after_X7_takeable
set_option maxRecDepth 20000 in
theorem ggX7_after_X7_doors : GoodIn wsX7_after wsX7_doors := goodIn_r _ [11, 12, 13, 14, 29, 30, 31, 32, 33, 34, 35, 36, 37, 38, 39, 40, 41, 42, 43, 44, 45, 46] (by decide +kernel) (by decide +kernel)
set_option maxRecDepth 20000 in
theorem gX7_after_X7_doors : GoodIn wsX7_after (wsV RX7 119 RX7 yX7_doors wsX7_doors) := goodIn_app (goodIn_of _ (by decide +kernel)) ggX7_after_X7_doors
set_option maxRecDepth 20000 in
theorem ggX7_after_X7_walked : GoodIn wsX7_after wsX7_walked := goodIn_r _ [18, 13, 19, 20, 21, 22, 23, 24, 5, 25, 12, 14, 26, 27, 28, 29, 30, 31, 32, 33, 34, 35, 36, 37, 38, 39, 40, 41, 42, 43, 44, 45, 46] (by decide +kernel) (by decide +kernel)
set_option maxRecDepth 20000 in
theorem gX7_after_X7_walked : GoodIn wsX7_after (wsV RX7 122 RX7 yX7_walked wsX7_walked) := goodIn_app (goodIn_of _ (by decide +kernel)) ggX7_after_X7_walked
theorem dX7_after_0 : decode cX7_after 0 = .ok (.iload_n 1, 1) := by decide +kernel
theorem dX7_after_1 : decode cX7_after 1 = .ok (.sipush 1024, 3) := by decide +kernel
theorem dX7_after_4 : decode cX7_after 4 = .ok (.idiv, 1) := by decide +kernel
theorem dX7_after_5 : decode cX7_after 5 = .ok (.istore_n 3, 1) := by decide +kernel
theorem dX7_after_6 : decode cX7_after 6 = .ok (.iload_n 2, 1) := by decide +kernel
theorem dX7_after_7 : decode cX7_after 7 = .ok (.bipush 100, 2) := by decide +kernel
theorem dX7_after_9 : decode cX7_after 9 = .ok (.if_icmp .ne 31, 3) := by decide +kernel
theorem dX7_after_12 : decode cX7_after 12 = .ok (.aload_n 0, 1) := by decide +kernel
theorem dX7_after_13 : decode cX7_after 13 = .ok (.iload_n 1, 1) := by decide +kernel
theorem dX7_after_14 : decode cX7_after 14 = .ok (.invokevirtual 116, 3) := by decide +kernel
theorem dX7_after_17 : decode cX7_after 17 = .ok (.istore 4, 2) := by decide +kernel
theorem dX7_after_19 : decode cX7_after 19 = .ok (.iload_n 1, 1) := by decide +kernel
theorem dX7_after_20 : decode cX7_after 20 = .ok (.sipush 128, 3) := by decide +kernel
theorem dX7_after_23 : decode cX7_after 23 = .ok (.iload 4, 2) := by decide +kernel
theorem dX7_after_25 : decode cX7_after 25 = .ok (.bipush 8, 2) := by decide +kernel
theorem dX7_after_27 : decode cX7_after 27 = .ok (.irem, 1) := by decide +kernel
theorem dX7_after_28 : decode cX7_after 28 = .ok (.imul, 1) := by decide +kernel
theorem dX7_after_29 : decode cX7_after 29 = .ok (.iadd, 1) := by decide +kernel
theorem dX7_after_30 : decode cX7_after 30 = .ok (.bipush 16, 2) := by decide +kernel
theorem dX7_after_32 : decode cX7_after 32 = .ok (.iload 4, 2) := by decide +kernel
theorem dX7_after_34 : decode cX7_after 34 = .ok (.bipush 8, 2) := by decide +kernel
theorem dX7_after_36 : decode cX7_after 36 = .ok (.idiv, 1) := by decide +kernel
theorem dX7_after_37 : decode cX7_after 37 = .ok (.imul, 1) := by decide +kernel
theorem dX7_after_38 : decode cX7_after 38 = .ok (.iadd, 1) := by decide +kernel
theorem dX7_after_39 : decode cX7_after 39 = .ok (.ireturn, 1) := by decide +kernel
theorem dX7_after_40 : decode cX7_after 40 = .ok (.iload_n 2, 1) := by decide +kernel
theorem dX7_after_41 : decode cX7_after 41 = .ok (.sipush 200, 3) := by decide +kernel
theorem dX7_after_44 : decode cX7_after 44 = .ok (.if_icmp .ne 32, 3) := by decide +kernel
theorem dX7_after_47 : decode cX7_after 47 = .ok (.aload_n 0, 1) := by decide +kernel
theorem dX7_after_48 : decode cX7_after 48 = .ok (.getfield 31, 3) := by decide +kernel
theorem dX7_after_51 : decode cX7_after 51 = .ok (.iload_n 3, 1) := by decide +kernel
theorem dX7_after_52 : decode cX7_after 52 = .ok (.baload, 1) := by decide +kernel
theorem dX7_after_53 : decode cX7_after 53 = .ok (.ifCond .ne 7, 3) := by decide +kernel
theorem dX7_after_56 : decode cX7_after 56 = .ok (.iconst (-1), 1) := by decide +kernel
theorem dX7_after_57 : decode cX7_after 57 = .ok (.goto 18, 3) := by decide +kernel
theorem dX7_after_60 : decode cX7_after 60 = .ok (.iload_n 1, 1) := by decide +kernel
theorem dX7_after_61 : decode cX7_after 61 = .ok (.iconst 2, 1) := by decide +kernel
theorem dX7_after_62 : decode cX7_after 62 = .ok (.irem, 1) := by decide +kernel
theorem dX7_after_63 : decode cX7_after 63 = .ok (.ifCond .ne 9, 3) := by decide +kernel
theorem dX7_after_66 : decode cX7_after 66 = .ok (.iload_n 1, 1) := by decide +kernel
theorem dX7_after_67 : decode cX7_after 67 = .ok (.iconst 1, 1) := by decide +kernel
theorem dX7_after_68 : decode cX7_after 68 = .ok (.iadd, 1) := by decide +kernel
theorem dX7_after_69 : decode cX7_after 69 = .ok (.goto 6, 3) := by decide +kernel
theorem dX7_after_72 : decode cX7_after 72 = .ok (.iload_n 1, 1) := by decide +kernel
theorem dX7_after_73 : decode cX7_after 73 = .ok (.iconst 1, 1) := by decide +kernel
theorem dX7_after_74 : decode cX7_after 74 = .ok (.isub, 1) := by decide +kernel
theorem dX7_after_75 : decode cX7_after 75 = .ok (.ireturn, 1) := by decide +kernel
theorem dX7_after_76 : decode cX7_after 76 = .ok (.iload_n 2, 1) := by decide +kernel
theorem dX7_after_77 : decode cX7_after 77 = .ok (.aload_n 0, 1) := by decide +kernel
theorem dX7_after_78 : decode cX7_after 78 = .ok (.iload_n 3, 1) := by decide +kernel
theorem dX7_after_79 : decode cX7_after 79 = .ok (.invokevirtual 119, 3) := by decide +kernel
theorem dX7_after_82 : decode cX7_after 82 = .ok (.if_icmp .ge 12, 3) := by decide +kernel
theorem dX7_after_85 : decode cX7_after 85 = .ok (.aload_n 0, 1) := by decide +kernel
theorem dX7_after_86 : decode cX7_after 86 = .ok (.iload_n 1, 1) := by decide +kernel
theorem dX7_after_87 : decode cX7_after 87 = .ok (.iload_n 2, 1) := by decide +kernel
theorem dX7_after_88 : decode cX7_after 88 = .ok (.invokevirtual 122, 3) := by decide +kernel
theorem dX7_after_91 : decode cX7_after 91 = .ok (.goto 4, 3) := by decide +kernel
theorem dX7_after_94 : decode cX7_after 94 = .ok (.iconst (-1), 1) := by decide +kernel
theorem dX7_after_95 : decode cX7_after 95 = .ok (.ireturn, 1) := by decide +kernel
set_option maxRecDepth 20000 in
theorem ggX7_nextAction_X7_doors : GoodIn wsX7_nextAction wsX7_doors := goodIn_r _ [5, 6, 7, 8, 9, 10, 11, 12, 13, 14, 15, 16, 17, 18, 19, 20, 21, 22, 23, 24, 25, 26] (by decide +kernel) (by decide +kernel)
set_option maxRecDepth 20000 in
theorem gX7_nextAction_X7_doors : GoodIn wsX7_nextAction (wsV RX7 119 RX7 yX7_doors wsX7_doors) := goodIn_app (goodIn_of _ (by decide +kernel)) ggX7_nextAction_X7_doors
theorem dX7_nextAction_0 : decode cX7_nextAction 0 = .ok (.iload_n 2, 1) := by decide +kernel
theorem dX7_nextAction_1 : decode cX7_nextAction 1 = .ok (.sipush 200, 3) := by decide +kernel
theorem dX7_nextAction_4 : decode cX7_nextAction 4 = .ok (.if_icmp .ne 7, 3) := by decide +kernel
theorem dX7_nextAction_7 : decode cX7_nextAction 7 = .ok (.iconst (-1), 1) := by decide +kernel
theorem dX7_nextAction_8 : decode cX7_nextAction 8 = .ok (.goto 38, 3) := by decide +kernel
theorem dX7_nextAction_11 : decode cX7_nextAction 11 = .ok (.iload_n 2, 1) := by decide +kernel
theorem dX7_nextAction_12 : decode cX7_nextAction 12 = .ok (.bipush 100, 2) := by decide +kernel
theorem dX7_nextAction_14 : decode cX7_nextAction 14 = .ok (.if_icmp .ne 9, 3) := by decide +kernel
theorem dX7_nextAction_17 : decode cX7_nextAction 17 = .ok (.sipush 200, 3) := by decide +kernel
theorem dX7_nextAction_20 : decode cX7_nextAction 20 = .ok (.goto 26, 3) := by decide +kernel
theorem dX7_nextAction_23 : decode cX7_nextAction 23 = .ok (.iload_n 2, 1) := by decide +kernel
theorem dX7_nextAction_24 : decode cX7_nextAction 24 = .ok (.iconst 1, 1) := by decide +kernel
theorem dX7_nextAction_25 : decode cX7_nextAction 25 = .ok (.iadd, 1) := by decide +kernel
theorem dX7_nextAction_26 : decode cX7_nextAction 26 = .ok (.aload_n 0, 1) := by decide +kernel
theorem dX7_nextAction_27 : decode cX7_nextAction 27 = .ok (.iload_n 1, 1) := by decide +kernel
theorem dX7_nextAction_28 : decode cX7_nextAction 28 = .ok (.sipush 1024, 3) := by decide +kernel
theorem dX7_nextAction_31 : decode cX7_nextAction 31 = .ok (.idiv, 1) := by decide +kernel
theorem dX7_nextAction_32 : decode cX7_nextAction 32 = .ok (.invokevirtual 119, 3) := by decide +kernel
theorem dX7_nextAction_35 : decode cX7_nextAction 35 = .ok (.if_icmp .ge 9, 3) := by decide +kernel
theorem dX7_nextAction_38 : decode cX7_nextAction 38 = .ok (.iload_n 2, 1) := by decide +kernel
theorem dX7_nextAction_39 : decode cX7_nextAction 39 = .ok (.iconst 1, 1) := by decide +kernel
theorem dX7_nextAction_40 : decode cX7_nextAction 40 = .ok (.iadd, 1) := by decide +kernel
theorem dX7_nextAction_41 : decode cX7_nextAction 41 = .ok (.goto 5, 3) := by decide +kernel
theorem dX7_nextAction_44 : decode cX7_nextAction 44 = .ok (.bipush 100, 2) := by decide +kernel
theorem dX7_nextAction_46 : decode cX7_nextAction 46 = .ok (.ireturn, 1) := by decide +kernel
theorem dX7_meet_0 : decode cX7_meet 0 = .ok (.iload_n 1, 1) := by decide +kernel
theorem dX7_meet_1 : decode cX7_meet 1 = .ok (.ifCond .lt 69, 3) := by decide +kernel
theorem dX7_meet_4 : decode cX7_meet 4 = .ok (.aload_n 0, 1) := by decide +kernel
theorem dX7_meet_5 : decode cX7_meet 5 = .ok (.getfield 41, 3) := by decide +kernel
theorem dX7_meet_8 : decode cX7_meet 8 = .ok (.iload_n 1, 1) := by decide +kernel
theorem dX7_meet_9 : decode cX7_meet 9 = .ok (.iaload, 1) := by decide +kernel
theorem dX7_meet_10 : decode cX7_meet 10 = .ok (.ifCond .ne 60, 3) := by decide +kernel
theorem dX7_meet_13 : decode cX7_meet 13 = .ok (.aload_n 0, 1) := by decide +kernel
theorem dX7_meet_14 : decode cX7_meet 14 = .ok (.getfield 41, 3) := by decide +kernel
theorem dX7_meet_17 : decode cX7_meet 17 = .ok (.iload_n 1, 1) := by decide +kernel
theorem dX7_meet_18 : decode cX7_meet 18 = .ok (.iload_n 2, 1) := by decide +kernel
theorem dX7_meet_19 : decode cX7_meet 19 = .ok (.iconst 1, 1) := by decide +kernel
theorem dX7_meet_20 : decode cX7_meet 20 = .ok (.iadd, 1) := by decide +kernel
theorem dX7_meet_21 : decode cX7_meet 21 = .ok (.iastore, 1) := by decide +kernel
theorem dX7_meet_22 : decode cX7_meet 22 = .ok (.aload_n 0, 1) := by decide +kernel
theorem dX7_meet_23 : decode cX7_meet 23 = .ok (.getfield 125, 3) := by decide +kernel
theorem dX7_meet_26 : decode cX7_meet 26 = .ok (.ifCond .lt 29, 3) := by decide +kernel
theorem dX7_meet_29 : decode cX7_meet 29 = .ok (.aload_n 0, 1) := by decide +kernel
theorem dX7_meet_30 : decode cX7_meet 30 = .ok (.getfield 41, 3) := by decide +kernel
theorem dX7_meet_33 : decode cX7_meet 33 = .ok (.aload_n 0, 1) := by decide +kernel
theorem dX7_meet_34 : decode cX7_meet 34 = .ok (.getfield 125, 3) := by decide +kernel
theorem dX7_meet_37 : decode cX7_meet 37 = .ok (.aload_n 0, 1) := by decide +kernel
theorem dX7_meet_38 : decode cX7_meet 38 = .ok (.getfield 41, 3) := by decide +kernel
theorem dX7_meet_41 : decode cX7_meet 41 = .ok (.aload_n 0, 1) := by decide +kernel
theorem dX7_meet_42 : decode cX7_meet 42 = .ok (.getfield 125, 3) := by decide +kernel
theorem dX7_meet_45 : decode cX7_meet 45 = .ok (.iaload, 1) := by decide +kernel
theorem dX7_meet_46 : decode cX7_meet 46 = .ok (.sipush 16384, 3) := by decide +kernel
theorem dX7_meet_49 : decode cX7_meet 49 = .ok (.iload_n 1, 1) := by decide +kernel
theorem dX7_meet_50 : decode cX7_meet 50 = .ok (.iconst 1, 1) := by decide +kernel
theorem dX7_meet_51 : decode cX7_meet 51 = .ok (.iadd, 1) := by decide +kernel
theorem dX7_meet_52 : decode cX7_meet 52 = .ok (.imul, 1) := by decide +kernel
theorem dX7_meet_53 : decode cX7_meet 53 = .ok (.iadd, 1) := by decide +kernel
theorem dX7_meet_54 : decode cX7_meet 54 = .ok (.iastore, 1) := by decide +kernel
theorem dX7_meet_55 : decode cX7_meet 55 = .ok (.aload_n 0, 1) := by decide +kernel
theorem dX7_meet_56 : decode cX7_meet 56 = .ok (.iload_n 1, 1) := by decide +kernel
theorem dX7_meet_57 : decode cX7_meet 57 = .ok (.putfield 125, 3) := by decide +kernel
theorem dX7_meet_60 : decode cX7_meet 60 = .ok (.aload_n 0, 1) := by decide +kernel
theorem dX7_meet_61 : decode cX7_meet 61 = .ok (.dup, 1) := by decide +kernel
theorem dX7_meet_62 : decode cX7_meet 62 = .ok (.getfield 128, 3) := by decide +kernel
theorem dX7_meet_65 : decode cX7_meet 65 = .ok (.iconst 1, 1) := by decide +kernel
theorem dX7_meet_66 : decode cX7_meet 66 = .ok (.iadd, 1) := by decide +kernel
theorem dX7_meet_67 : decode cX7_meet 67 = .ok (.putfield 128, 3) := by decide +kernel
theorem dX7_meet_70 : decode cX7_meet 70 = .ok (.return_, 1) := by decide +kernel
set_option maxRecDepth 20000 in
theorem ggX7_spread_X7_meet : GoodIn wsX7_spread wsX7_meet := goodIn_r _ [9, 1, 2, 3, 45, 46, 47, 48, 49, 50, 51, 52, 53, 54, 55, 56, 57, 58, 59, 60, 61, 62] (by decide +kernel) (by decide +kernel)
set_option maxRecDepth 20000 in
theorem gX7_spread_X7_meet : GoodIn wsX7_spread (wsV RX7 131 RX7 yX7_meet wsX7_meet) := goodIn_app (goodIn_of _ (by decide +kernel)) ggX7_spread_X7_meet
set_option maxRecDepth 20000 in
theorem ggX7_spread_X7_doors : GoodIn wsX7_spread wsX7_doors := goodIn_r _ [13, 14, 15, 16, 45, 46, 47, 48, 49, 50, 51, 52, 53, 54, 55, 56, 57, 58, 59, 60, 61, 62] (by decide +kernel) (by decide +kernel)
set_option maxRecDepth 20000 in
theorem gX7_spread_X7_doors : GoodIn wsX7_spread (wsV RX7 119 RX7 yX7_doors wsX7_doors) := goodIn_app (goodIn_of _ (by decide +kernel)) ggX7_spread_X7_doors
set_option maxRecDepth 20000 in
theorem ggX7_spread_X7_after : GoodIn wsX7_spread wsX7_after := goodIn_r _ [20, 21, 22, 23, 24, 8, 25, 26, 10, 11, 12, 13, 14, 15, 16, 27, 28, 29, 30, 31, 32, 33, 34, 35, 36, 37, 38, 39, 40, 45, 46, 47, 48, 49, 50, 51, 52, 53, 54, 55, 56, 57, 58, 59, 60, 61, 62] (by decide +kernel) (by decide +kernel)
set_option maxRecDepth 20000 in
theorem gX7_spread_X7_after : GoodIn wsX7_spread (wsV RX7 134 RX7 yX7_after wsX7_after) := goodIn_app (goodIn_of _ (by decide +kernel)) ggX7_spread_X7_after
set_option maxRecDepth 20000 in
theorem ggX7_spread_X7_nextAction : GoodIn wsX7_spread wsX7_nextAction := goodIn_r _ [44, 10, 11, 12, 8, 13, 14, 15, 16, 45, 46, 47, 48, 49, 50, 51, 52, 53, 54, 55, 56, 57, 58, 59, 60, 61, 62] (by decide +kernel) (by decide +kernel)
set_option maxRecDepth 20000 in
theorem gX7_spread_X7_nextAction : GoodIn wsX7_spread (wsV RX7 137 RX7 yX7_nextAction wsX7_nextAction) := goodIn_app (goodIn_of _ (by decide +kernel)) ggX7_spread_X7_nextAction
theorem dX7_spread_0 : decode cX7_spread 0 = .ok (.iconst 0, 1) := by decide +kernel
theorem dX7_spread_1 : decode cX7_spread 1 = .ok (.istore_n 2, 1) := by decide +kernel
theorem dX7_spread_2 : decode cX7_spread 2 = .ok (.iload_n 2, 1) := by decide +kernel
theorem dX7_spread_3 : decode cX7_spread 3 = .ok (.sipush 12288, 3) := by decide +kernel
theorem dX7_spread_6 : decode cX7_spread 6 = .ok (.if_icmp .ge 16, 3) := by decide +kernel
theorem dX7_spread_9 : decode cX7_spread 9 = .ok (.aload_n 0, 1) := by decide +kernel
theorem dX7_spread_10 : decode cX7_spread 10 = .ok (.getfield 41, 3) := by decide +kernel
theorem dX7_spread_13 : decode cX7_spread 13 = .ok (.iload_n 2, 1) := by decide +kernel
theorem dX7_spread_14 : decode cX7_spread 14 = .ok (.iconst 0, 1) := by decide +kernel
theorem dX7_spread_15 : decode cX7_spread 15 = .ok (.iastore, 1) := by decide +kernel
theorem dX7_spread_16 : decode cX7_spread 16 = .ok (.iinc 2 1, 3) := by decide +kernel
theorem dX7_spread_19 : decode cX7_spread 19 = .ok (.goto (-17), 3) := by decide +kernel
theorem dX7_spread_22 : decode cX7_spread 22 = .ok (.aload_n 0, 1) := by decide +kernel
theorem dX7_spread_23 : decode cX7_spread 23 = .ok (.iconst (-1), 1) := by decide +kernel
theorem dX7_spread_24 : decode cX7_spread 24 = .ok (.putfield 125, 3) := by decide +kernel
theorem dX7_spread_27 : decode cX7_spread 27 = .ok (.aload_n 0, 1) := by decide +kernel
theorem dX7_spread_28 : decode cX7_spread 28 = .ok (.iconst 0, 1) := by decide +kernel
theorem dX7_spread_29 : decode cX7_spread 29 = .ok (.putfield 128, 3) := by decide +kernel
theorem dX7_spread_32 : decode cX7_spread 32 = .ok (.bipush (-3), 2) := by decide +kernel
theorem dX7_spread_34 : decode cX7_spread 34 = .ok (.istore_n 2, 1) := by decide +kernel
theorem dX7_spread_35 : decode cX7_spread 35 = .ok (.aload_n 0, 1) := by decide +kernel
theorem dX7_spread_36 : decode cX7_spread 36 = .ok (.iload_n 1, 1) := by decide +kernel
theorem dX7_spread_37 : decode cX7_spread 37 = .ok (.iconst 0, 1) := by decide +kernel
theorem dX7_spread_38 : decode cX7_spread 38 = .ok (.invokevirtual 131, 3) := by decide +kernel
theorem dX7_spread_41 : decode cX7_spread 41 = .ok (.iload_n 1, 1) := by decide +kernel
theorem dX7_spread_42 : decode cX7_spread 42 = .ok (.istore_n 3, 1) := by decide +kernel
theorem dX7_spread_43 : decode cX7_spread 43 = .ok (.iload_n 3, 1) := by decide +kernel
theorem dX7_spread_44 : decode cX7_spread 44 = .ok (.ifCond .lt 108, 3) := by decide +kernel
theorem dX7_spread_47 : decode cX7_spread 47 = .ok (.aload_n 0, 1) := by decide +kernel
theorem dX7_spread_48 : decode cX7_spread 48 = .ok (.getfield 41, 3) := by decide +kernel
theorem dX7_spread_51 : decode cX7_spread 51 = .ok (.iload_n 3, 1) := by decide +kernel
theorem dX7_spread_52 : decode cX7_spread 52 = .ok (.iaload, 1) := by decide +kernel
theorem dX7_spread_53 : decode cX7_spread 53 = .ok (.sipush 16384, 3) := by decide +kernel
theorem dX7_spread_56 : decode cX7_spread 56 = .ok (.irem, 1) := by decide +kernel
theorem dX7_spread_57 : decode cX7_spread 57 = .ok (.iconst 1, 1) := by decide +kernel
theorem dX7_spread_58 : decode cX7_spread 58 = .ok (.isub, 1) := by decide +kernel
theorem dX7_spread_59 : decode cX7_spread 59 = .ok (.istore 4, 2) := by decide +kernel
theorem dX7_spread_61 : decode cX7_spread 61 = .ok (.iload_n 2, 1) := by decide +kernel
theorem dX7_spread_62 : decode cX7_spread 62 = .ok (.ifCond .ge 20, 3) := by decide +kernel
theorem dX7_spread_65 : decode cX7_spread 65 = .ok (.iload_n 3, 1) := by decide +kernel
theorem dX7_spread_66 : decode cX7_spread 66 = .ok (.sipush 1024, 3) := by decide +kernel
theorem dX7_spread_69 : decode cX7_spread 69 = .ok (.idiv, 1) := by decide +kernel
theorem dX7_spread_70 : decode cX7_spread 70 = .ok (.aload_n 0, 1) := by decide +kernel
theorem dX7_spread_71 : decode cX7_spread 71 = .ok (.getfield 100, 3) := by decide +kernel
theorem dX7_spread_74 : decode cX7_spread 74 = .ok (.if_icmp .ne 8, 3) := by decide +kernel
theorem dX7_spread_77 : decode cX7_spread 77 = .ok (.iload 4, 2) := by decide +kernel
theorem dX7_spread_79 : decode cX7_spread 79 = .ok (.goto 4, 3) := by decide +kernel
theorem dX7_spread_82 : decode cX7_spread 82 = .ok (.iload_n 2, 1) := by decide +kernel
theorem dX7_spread_83 : decode cX7_spread 83 = .ok (.istore_n 2, 1) := by decide +kernel
theorem dX7_spread_84 : decode cX7_spread 84 = .ok (.aload_n 0, 1) := by decide +kernel
theorem dX7_spread_85 : decode cX7_spread 85 = .ok (.iload_n 3, 1) := by decide +kernel
theorem dX7_spread_86 : decode cX7_spread 86 = .ok (.sipush 1024, 3) := by decide +kernel
theorem dX7_spread_89 : decode cX7_spread 89 = .ok (.idiv, 1) := by decide +kernel
theorem dX7_spread_90 : decode cX7_spread 90 = .ok (.invokevirtual 119, 3) := by decide +kernel
theorem dX7_spread_93 : decode cX7_spread 93 = .ok (.ifCond .le 7, 3) := by decide +kernel
theorem dX7_spread_96 : decode cX7_spread 96 = .ok (.iconst 0, 1) := by decide +kernel
theorem dX7_spread_97 : decode cX7_spread 97 = .ok (.goto 5, 3) := by decide +kernel
theorem dX7_spread_100 : decode cX7_spread 100 = .ok (.bipush 100, 2) := by decide +kernel
theorem dX7_spread_102 : decode cX7_spread 102 = .ok (.istore 5, 2) := by decide +kernel
theorem dX7_spread_104 : decode cX7_spread 104 = .ok (.iload 5, 2) := by decide +kernel
theorem dX7_spread_106 : decode cX7_spread 106 = .ok (.ifCond .lt 30, 3) := by decide +kernel
theorem dX7_spread_109 : decode cX7_spread 109 = .ok (.aload_n 0, 1) := by decide +kernel
theorem dX7_spread_110 : decode cX7_spread 110 = .ok (.aload_n 0, 1) := by decide +kernel
theorem dX7_spread_111 : decode cX7_spread 111 = .ok (.iload_n 3, 1) := by decide +kernel
theorem dX7_spread_112 : decode cX7_spread 112 = .ok (.iload 5, 2) := by decide +kernel
theorem dX7_spread_114 : decode cX7_spread 114 = .ok (.invokevirtual 134, 3) := by decide +kernel
theorem dX7_spread_117 : decode cX7_spread 117 = .ok (.iload 4, 2) := by decide +kernel
theorem dX7_spread_119 : decode cX7_spread 119 = .ok (.iconst 1, 1) := by decide +kernel
theorem dX7_spread_120 : decode cX7_spread 120 = .ok (.iadd, 1) := by decide +kernel
theorem dX7_spread_121 : decode cX7_spread 121 = .ok (.invokevirtual 131, 3) := by decide +kernel
theorem dX7_spread_124 : decode cX7_spread 124 = .ok (.aload_n 0, 1) := by decide +kernel
theorem dX7_spread_125 : decode cX7_spread 125 = .ok (.iload_n 3, 1) := by decide +kernel
theorem dX7_spread_126 : decode cX7_spread 126 = .ok (.iload 5, 2) := by decide +kernel
theorem dX7_spread_128 : decode cX7_spread 128 = .ok (.invokevirtual 137, 3) := by decide +kernel
theorem dX7_spread_131 : decode cX7_spread 131 = .ok (.istore 5, 2) := by decide +kernel
theorem dX7_spread_133 : decode cX7_spread 133 = .ok (.goto (-29), 3) := by decide +kernel
theorem dX7_spread_136 : decode cX7_spread 136 = .ok (.aload_n 0, 1) := by decide +kernel
theorem dX7_spread_137 : decode cX7_spread 137 = .ok (.getfield 41, 3) := by decide +kernel
theorem dX7_spread_140 : decode cX7_spread 140 = .ok (.iload_n 3, 1) := by decide +kernel
theorem dX7_spread_141 : decode cX7_spread 141 = .ok (.iaload, 1) := by decide +kernel
theorem dX7_spread_142 : decode cX7_spread 142 = .ok (.sipush 16384, 3) := by decide +kernel
theorem dX7_spread_145 : decode cX7_spread 145 = .ok (.idiv, 1) := by decide +kernel
theorem dX7_spread_146 : decode cX7_spread 146 = .ok (.iconst 1, 1) := by decide +kernel
theorem dX7_spread_147 : decode cX7_spread 147 = .ok (.isub, 1) := by decide +kernel
theorem dX7_spread_148 : decode cX7_spread 148 = .ok (.istore_n 3, 1) := by decide +kernel
theorem dX7_spread_149 : decode cX7_spread 149 = .ok (.goto (-106), 3) := by decide +kernel
theorem dX7_spread_152 : decode cX7_spread 152 = .ok (.iload_n 2, 1) := by decide +kernel
theorem dX7_spread_153 : decode cX7_spread 153 = .ok (.ireturn, 1) := by decide +kernel
set_option maxRecDepth 20000 in
theorem ggX7_steps_X7_spread : GoodIn wsX7_steps wsX7_spread := goodIn_r _ [6, 7, 8, 9, 10, 11, 12, 13, 5, 14, 15, 16, 17, 18, 19, 20, 21, 22, 23, 24, 25, 26, 27, 28, 29, 30, 31, 32, 33, 34, 35, 36, 37, 38, 39, 40, 41, 42, 43, 44, 45, 46, 47, 48, 49, 50, 51, 52, 53, 54, 55, 56, 57, 58, 59, 60, 61, 62, 63, 64, 65, 66, 67] (by decide +kernel) (by decide +kernel)
set_option maxRecDepth 20000 in
theorem gX7_steps_X7_spread : GoodIn wsX7_steps (wsV RX7 140 RX7 yX7_spread wsX7_spread) := goodIn_app (goodIn_of _ (by decide +kernel)) ggX7_steps_X7_spread
theorem dX7_steps_0 : decode cX7_steps 0 = .ok (.aload_n 0, 1) := by decide +kernel
theorem dX7_steps_1 : decode cX7_steps 1 = .ok (.aload_n 0, 1) := by decide +kernel
theorem dX7_steps_2 : decode cX7_steps 2 = .ok (.getfield 83, 3) := by decide +kernel
theorem dX7_steps_5 : decode cX7_steps 5 = .ok (.invokevirtual 140, 3) := by decide +kernel
theorem dX7_steps_8 : decode cX7_steps 8 = .ok (.ireturn, 1) := by decide +kernel
set_option maxRecDepth 20000 in
theorem ggX7_hint_X7_spread : GoodIn wsX7_hint wsX7_spread := goodIn_r _ [6, 7, 8, 9, 10, 11, 12, 13, 5, 14, 15, 16, 17, 18, 19, 20, 21, 22, 23, 24, 25, 26, 27, 28, 29, 30, 31, 32, 33, 34, 35, 36, 37, 38, 39, 40, 41, 42, 43, 44, 45, 46, 47, 48, 49, 50, 51, 52, 53, 54, 55, 56, 57, 58, 59, 60, 61, 62, 63, 64, 65, 66, 67] (by decide +kernel) (by decide +kernel)
set_option maxRecDepth 20000 in
theorem gX7_hint_X7_spread : GoodIn wsX7_hint (wsV RX7 140 RX7 yX7_spread wsX7_spread) := goodIn_app (goodIn_of _ (by decide +kernel)) ggX7_hint_X7_spread
set_option maxRecDepth 20000 in
theorem ggX7_hint_X7_after : GoodIn wsX7_hint wsX7_after := goodIn_r _ [25, 26, 27, 28, 29, 5, 30, 31, 15, 16, 17, 18, 19, 20, 21, 32, 33, 34, 35, 36, 37, 38, 39, 40, 41, 42, 43, 44, 45, 50, 51, 52, 53, 54, 55, 56, 57, 58, 59, 60, 61, 62, 63, 64, 65, 66, 67] (by decide +kernel) (by decide +kernel)
set_option maxRecDepth 20000 in
theorem gX7_hint_X7_after : GoodIn wsX7_hint (wsV RX7 134 RX7 yX7_after wsX7_after) := goodIn_app (goodIn_of _ (by decide +kernel)) ggX7_hint_X7_after
set_option maxRecDepth 20000 in
theorem ggX7_hint_X7_nextAction : GoodIn wsX7_hint wsX7_nextAction := goodIn_r _ [49, 15, 16, 17, 5, 18, 19, 20, 21, 50, 51, 52, 53, 54, 55, 56, 57, 58, 59, 60, 61, 62, 63, 64, 65, 66, 67] (by decide +kernel) (by decide +kernel)
set_option maxRecDepth 20000 in
theorem gX7_hint_X7_nextAction : GoodIn wsX7_hint (wsV RX7 137 RX7 yX7_nextAction wsX7_nextAction) := goodIn_app (goodIn_of _ (by decide +kernel)) ggX7_hint_X7_nextAction
theorem dX7_hint_0 : decode cX7_hint 0 = .ok (.aload_n 0, 1) := by decide +kernel
theorem dX7_hint_1 : decode cX7_hint 1 = .ok (.aload_n 0, 1) := by decide +kernel
theorem dX7_hint_2 : decode cX7_hint 2 = .ok (.getfield 83, 3) := by decide +kernel
theorem dX7_hint_5 : decode cX7_hint 5 = .ok (.invokevirtual 140, 3) := by decide +kernel
theorem dX7_hint_8 : decode cX7_hint 8 = .ok (.istore_n 1, 1) := by decide +kernel
theorem dX7_hint_9 : decode cX7_hint 9 = .ok (.iload_n 1, 1) := by decide +kernel
theorem dX7_hint_10 : decode cX7_hint 10 = .ok (.ifCond .gt 14, 3) := by decide +kernel
theorem dX7_hint_13 : decode cX7_hint 13 = .ok (.iload_n 1, 1) := by decide +kernel
theorem dX7_hint_14 : decode cX7_hint 14 = .ok (.ifCond .ne 7, 3) := by decide +kernel
theorem dX7_hint_17 : decode cX7_hint 17 = .ok (.iconst (-1), 1) := by decide +kernel
theorem dX7_hint_18 : decode cX7_hint 18 = .ok (.goto 5, 3) := by decide +kernel
theorem dX7_hint_21 : decode cX7_hint 21 = .ok (.bipush (-3), 2) := by decide +kernel
theorem dX7_hint_23 : decode cX7_hint 23 = .ok (.ireturn, 1) := by decide +kernel
theorem dX7_hint_24 : decode cX7_hint 24 = .ok (.iconst 0, 1) := by decide +kernel
theorem dX7_hint_25 : decode cX7_hint 25 = .ok (.istore_n 2, 1) := by decide +kernel
theorem dX7_hint_26 : decode cX7_hint 26 = .ok (.iload_n 2, 1) := by decide +kernel
theorem dX7_hint_27 : decode cX7_hint 27 = .ok (.ifCond .lt 43, 3) := by decide +kernel
theorem dX7_hint_30 : decode cX7_hint 30 = .ok (.aload_n 0, 1) := by decide +kernel
theorem dX7_hint_31 : decode cX7_hint 31 = .ok (.aload_n 0, 1) := by decide +kernel
theorem dX7_hint_32 : decode cX7_hint 32 = .ok (.getfield 83, 3) := by decide +kernel
theorem dX7_hint_35 : decode cX7_hint 35 = .ok (.iload_n 2, 1) := by decide +kernel
theorem dX7_hint_36 : decode cX7_hint 36 = .ok (.invokevirtual 134, 3) := by decide +kernel
theorem dX7_hint_39 : decode cX7_hint 39 = .ok (.istore_n 3, 1) := by decide +kernel
theorem dX7_hint_40 : decode cX7_hint 40 = .ok (.iload_n 3, 1) := by decide +kernel
theorem dX7_hint_41 : decode cX7_hint 41 = .ok (.ifCond .lt 16, 3) := by decide +kernel
theorem dX7_hint_44 : decode cX7_hint 44 = .ok (.aload_n 0, 1) := by decide +kernel
theorem dX7_hint_45 : decode cX7_hint 45 = .ok (.iload_n 3, 1) := by decide +kernel
theorem dX7_hint_46 : decode cX7_hint 46 = .ok (.invokevirtual 140, 3) := by decide +kernel
theorem dX7_hint_49 : decode cX7_hint 49 = .ok (.iload_n 1, 1) := by decide +kernel
theorem dX7_hint_50 : decode cX7_hint 50 = .ok (.iconst 1, 1) := by decide +kernel
theorem dX7_hint_51 : decode cX7_hint 51 = .ok (.isub, 1) := by decide +kernel
theorem dX7_hint_52 : decode cX7_hint 52 = .ok (.if_icmp .ne 5, 3) := by decide +kernel
theorem dX7_hint_55 : decode cX7_hint 55 = .ok (.iload_n 2, 1) := by decide +kernel
theorem dX7_hint_56 : decode cX7_hint 56 = .ok (.ireturn, 1) := by decide +kernel
theorem dX7_hint_57 : decode cX7_hint 57 = .ok (.aload_n 0, 1) := by decide +kernel
theorem dX7_hint_58 : decode cX7_hint 58 = .ok (.aload_n 0, 1) := by decide +kernel
theorem dX7_hint_59 : decode cX7_hint 59 = .ok (.getfield 83, 3) := by decide +kernel
theorem dX7_hint_62 : decode cX7_hint 62 = .ok (.iload_n 2, 1) := by decide +kernel
theorem dX7_hint_63 : decode cX7_hint 63 = .ok (.invokevirtual 137, 3) := by decide +kernel
theorem dX7_hint_66 : decode cX7_hint 66 = .ok (.istore_n 2, 1) := by decide +kernel
theorem dX7_hint_67 : decode cX7_hint 67 = .ok (.goto (-41), 3) := by decide +kernel
theorem dX7_hint_70 : decode cX7_hint 70 = .ok (.bipush (-3), 2) := by decide +kernel
theorem dX7_hint_72 : decode cX7_hint 72 = .ok (.ireturn, 1) := by decide +kernel
set_option maxRecDepth 20000 in
theorem ggX7_situations_X7_spread : GoodIn wsX7_situations wsX7_spread := goodIn_r _ [7, 8, 9, 2, 10, 11, 12, 13, 6, 14, 15, 16, 17, 18, 19, 20, 21, 22, 23, 24, 25, 26, 27, 28, 29, 30, 31, 32, 33, 34, 35, 36, 37, 38, 39, 40, 41, 42, 43, 44, 45, 46, 47, 48, 49, 50, 51, 52, 53, 54, 55, 56, 57, 58, 59, 60, 61, 62, 63, 64, 65, 66, 67] (by decide +kernel) (by decide +kernel)
set_option maxRecDepth 20000 in
theorem gX7_situations_X7_spread : GoodIn wsX7_situations (wsV RX7 140 RX7 yX7_spread wsX7_spread) := goodIn_app (goodIn_of _ (by decide +kernel)) ggX7_situations_X7_spread
theorem dX7_situations_0 : decode cX7_situations 0 = .ok (.aload_n 0, 1) := by decide +kernel
theorem dX7_situations_1 : decode cX7_situations 1 = .ok (.aload_n 0, 1) := by decide +kernel
theorem dX7_situations_2 : decode cX7_situations 2 = .ok (.getfield 83, 3) := by decide +kernel
theorem dX7_situations_5 : decode cX7_situations 5 = .ok (.invokevirtual 140, 3) := by decide +kernel
theorem dX7_situations_8 : decode cX7_situations 8 = .ok (.istore_n 1, 1) := by decide +kernel
theorem dX7_situations_9 : decode cX7_situations 9 = .ok (.aload_n 0, 1) := by decide +kernel
theorem dX7_situations_10 : decode cX7_situations 10 = .ok (.getfield 128, 3) := by decide +kernel
theorem dX7_situations_13 : decode cX7_situations 13 = .ok (.ireturn, 1) := by decide +kernel
set_option maxRecDepth 20000 in
theorem ggX7_leads_X7_doors : GoodIn wsX7_leads wsX7_doors := goodIn_r _ [7, 8, 9, 10, 39, 40, 41, 42, 43, 44, 45, 46, 47, 48, 49, 50, 51, 52, 53, 54, 55, 56] (by decide +kernel) (by decide +kernel)
set_option maxRecDepth 20000 in
theorem gX7_leads_X7_doors : GoodIn wsX7_leads (wsV RX7 119 RX7 yX7_doors wsX7_doors) := goodIn_app (goodIn_of _ (by decide +kernel)) ggX7_leads_X7_doors
set_option maxRecDepth 20000 in
theorem ggX7_leads_X7_after : GoodIn wsX7_leads wsX7_after := goodIn_r _ [14, 15, 16, 17, 18, 6, 19, 20, 3, 4, 5, 7, 8, 9, 10, 21, 22, 23, 24, 25, 26, 27, 28, 29, 30, 31, 32, 33, 34, 39, 40, 41, 42, 43, 44, 45, 46, 47, 48, 49, 50, 51, 52, 53, 54, 55, 56] (by decide +kernel) (by decide +kernel)
set_option maxRecDepth 20000 in
theorem gX7_leads_X7_after : GoodIn wsX7_leads (wsV RX7 134 RX7 yX7_after wsX7_after) := goodIn_app (goodIn_of _ (by decide +kernel)) ggX7_leads_X7_after
set_option maxRecDepth 20000 in
theorem ggX7_leads_X7_nextAction : GoodIn wsX7_leads wsX7_nextAction := goodIn_r _ [38, 3, 4, 5, 6, 7, 8, 9, 10, 39, 40, 41, 42, 43, 44, 45, 46, 47, 48, 49, 50, 51, 52, 53, 54, 55, 56] (by decide +kernel) (by decide +kernel)
set_option maxRecDepth 20000 in
theorem gX7_leads_X7_nextAction : GoodIn wsX7_leads (wsV RX7 137 RX7 yX7_nextAction wsX7_nextAction) := goodIn_app (goodIn_of _ (by decide +kernel)) ggX7_leads_X7_nextAction
theorem dX7_leads_0 : decode cX7_leads 0 = .ok (.aload_n 0, 1) := by decide +kernel
theorem dX7_leads_1 : decode cX7_leads 1 = .ok (.iload_n 1, 1) := by decide +kernel
theorem dX7_leads_2 : decode cX7_leads 2 = .ok (.sipush 1024, 3) := by decide +kernel
theorem dX7_leads_5 : decode cX7_leads 5 = .ok (.idiv, 1) := by decide +kernel
theorem dX7_leads_6 : decode cX7_leads 6 = .ok (.invokevirtual 119, 3) := by decide +kernel
theorem dX7_leads_9 : decode cX7_leads 9 = .ok (.ifCond .le 7, 3) := by decide +kernel
theorem dX7_leads_12 : decode cX7_leads 12 = .ok (.iconst 0, 1) := by decide +kernel
theorem dX7_leads_13 : decode cX7_leads 13 = .ok (.goto 5, 3) := by decide +kernel
theorem dX7_leads_16 : decode cX7_leads 16 = .ok (.bipush 100, 2) := by decide +kernel
theorem dX7_leads_18 : decode cX7_leads 18 = .ok (.istore_n 2, 1) := by decide +kernel
theorem dX7_leads_19 : decode cX7_leads 19 = .ok (.iload_n 2, 1) := by decide +kernel
theorem dX7_leads_20 : decode cX7_leads 20 = .ok (.ifCond .lt 37, 3) := by decide +kernel
theorem dX7_leads_23 : decode cX7_leads 23 = .ok (.aload_n 0, 1) := by decide +kernel
theorem dX7_leads_24 : decode cX7_leads 24 = .ok (.iload_n 1, 1) := by decide +kernel
theorem dX7_leads_25 : decode cX7_leads 25 = .ok (.iload_n 2, 1) := by decide +kernel
theorem dX7_leads_26 : decode cX7_leads 26 = .ok (.invokevirtual 134, 3) := by decide +kernel
theorem dX7_leads_29 : decode cX7_leads 29 = .ok (.istore_n 3, 1) := by decide +kernel
theorem dX7_leads_30 : decode cX7_leads 30 = .ok (.iload_n 3, 1) := by decide +kernel
theorem dX7_leads_31 : decode cX7_leads 31 = .ok (.ifCond .lt 16, 3) := by decide +kernel
theorem dX7_leads_34 : decode cX7_leads 34 = .ok (.aload_n 0, 1) := by decide +kernel
theorem dX7_leads_35 : decode cX7_leads 35 = .ok (.getfield 41, 3) := by decide +kernel
theorem dX7_leads_38 : decode cX7_leads 38 = .ok (.iload_n 3, 1) := by decide +kernel
theorem dX7_leads_39 : decode cX7_leads 39 = .ok (.iaload, 1) := by decide +kernel
theorem dX7_leads_40 : decode cX7_leads 40 = .ok (.ldc 143, 2) := by decide +kernel
theorem dX7_leads_42 : decode cX7_leads 42 = .ok (.if_icmp .lt 5, 3) := by decide +kernel
theorem dX7_leads_45 : decode cX7_leads 45 = .ok (.iconst 1, 1) := by decide +kernel
theorem dX7_leads_46 : decode cX7_leads 46 = .ok (.ireturn, 1) := by decide +kernel
theorem dX7_leads_47 : decode cX7_leads 47 = .ok (.aload_n 0, 1) := by decide +kernel
theorem dX7_leads_48 : decode cX7_leads 48 = .ok (.iload_n 1, 1) := by decide +kernel
theorem dX7_leads_49 : decode cX7_leads 49 = .ok (.iload_n 2, 1) := by decide +kernel
theorem dX7_leads_50 : decode cX7_leads 50 = .ok (.invokevirtual 137, 3) := by decide +kernel
theorem dX7_leads_53 : decode cX7_leads 53 = .ok (.istore_n 2, 1) := by decide +kernel
theorem dX7_leads_54 : decode cX7_leads 54 = .ok (.goto (-35), 3) := by decide +kernel
theorem dX7_leads_57 : decode cX7_leads 57 = .ok (.iconst 0, 1) := by decide +kernel
theorem dX7_leads_58 : decode cX7_leads 58 = .ok (.ireturn, 1) := by decide +kernel
set_option maxRecDepth 20000 in
theorem ggX7_safe_X7_spread : GoodIn wsX7_safe wsX7_spread := goodIn_r _ [10, 2, 11, 5, 4, 12, 13, 14, 9, 15, 16, 17, 18, 19, 20, 21, 22, 23, 24, 25, 26, 27, 28, 29, 30, 31, 32, 33, 34, 35, 36, 37, 38, 39, 40, 41, 42, 43, 44, 45, 46, 47, 48, 49, 50, 55, 56, 57, 58, 59, 60, 61, 62, 63, 64, 65, 66, 67, 68, 69, 70, 71, 72] (by decide +kernel) (by decide +kernel)
set_option maxRecDepth 20000 in
theorem gX7_safe_X7_spread : GoodIn wsX7_safe (wsV RX7 140 RX7 yX7_spread wsX7_spread) := goodIn_app (goodIn_of _ (by decide +kernel)) ggX7_safe_X7_spread
set_option maxRecDepth 20000 in
theorem ggX7_safe_X7_leads : GoodIn wsX7_safe wsX7_leads := goodIn_r _ [54, 2, 3, 16, 17, 18, 9, 19, 20, 21, 22, 23, 24, 25, 26, 27, 28, 29, 30, 31, 32, 33, 34, 35, 36, 37, 38, 39, 40, 41, 42, 43, 44, 45, 46, 47, 48, 49, 50, 55, 56, 57, 58, 59, 60, 61, 62, 63, 64, 65, 66, 67, 68, 69, 70, 71, 72] (by decide +kernel) (by decide +kernel)
set_option maxRecDepth 20000 in
theorem gX7_safe_X7_leads : GoodIn wsX7_safe (wsV RX7 144 RX7 yX7_leads wsX7_leads) := goodIn_app (goodIn_of _ (by decide +kernel)) ggX7_safe_X7_leads
theorem dX7_safe_0 : decode cX7_safe 0 = .ok (.aload_n 0, 1) := by decide +kernel
theorem dX7_safe_1 : decode cX7_safe 1 = .ok (.aload_n 0, 1) := by decide +kernel
theorem dX7_safe_2 : decode cX7_safe 2 = .ok (.getfield 83, 3) := by decide +kernel
theorem dX7_safe_5 : decode cX7_safe 5 = .ok (.invokevirtual 140, 3) := by decide +kernel
theorem dX7_safe_8 : decode cX7_safe 8 = .ok (.istore_n 1, 1) := by decide +kernel
theorem dX7_safe_9 : decode cX7_safe 9 = .ok (.iconst 1, 1) := by decide +kernel
theorem dX7_safe_10 : decode cX7_safe 10 = .ok (.istore_n 2, 1) := by decide +kernel
theorem dX7_safe_11 : decode cX7_safe 11 = .ok (.iconst 0, 1) := by decide +kernel
theorem dX7_safe_12 : decode cX7_safe 12 = .ok (.istore_n 3, 1) := by decide +kernel
theorem dX7_safe_13 : decode cX7_safe 13 = .ok (.iload_n 2, 1) := by decide +kernel
theorem dX7_safe_14 : decode cX7_safe 14 = .ok (.ifCond .eq 108, 3) := by decide +kernel
theorem dX7_safe_17 : decode cX7_safe 17 = .ok (.iconst 0, 1) := by decide +kernel
theorem dX7_safe_18 : decode cX7_safe 18 = .ok (.istore_n 2, 1) := by decide +kernel
theorem dX7_safe_19 : decode cX7_safe 19 = .ok (.aload_n 0, 1) := by decide +kernel
theorem dX7_safe_20 : decode cX7_safe 20 = .ok (.getfield 83, 3) := by decide +kernel
theorem dX7_safe_23 : decode cX7_safe 23 = .ok (.istore 4, 2) := by decide +kernel
theorem dX7_safe_25 : decode cX7_safe 25 = .ok (.iload 4, 2) := by decide +kernel
theorem dX7_safe_27 : decode cX7_safe 27 = .ok (.ifCond .lt 92, 3) := by decide +kernel
theorem dX7_safe_30 : decode cX7_safe 30 = .ok (.aload_n 0, 1) := by decide +kernel
theorem dX7_safe_31 : decode cX7_safe 31 = .ok (.getfield 41, 3) := by decide +kernel
theorem dX7_safe_34 : decode cX7_safe 34 = .ok (.iload 4, 2) := by decide +kernel
theorem dX7_safe_36 : decode cX7_safe 36 = .ok (.iaload, 1) := by decide +kernel
theorem dX7_safe_37 : decode cX7_safe 37 = .ok (.ldc 143, 2) := by decide +kernel
theorem dX7_safe_39 : decode cX7_safe 39 = .ok (.if_icmp .ge 29, 3) := by decide +kernel
theorem dX7_safe_42 : decode cX7_safe 42 = .ok (.iload 4, 2) := by decide +kernel
theorem dX7_safe_44 : decode cX7_safe 44 = .ok (.sipush 1024, 3) := by decide +kernel
theorem dX7_safe_47 : decode cX7_safe 47 = .ok (.idiv, 1) := by decide +kernel
theorem dX7_safe_48 : decode cX7_safe 48 = .ok (.aload_n 0, 1) := by decide +kernel
theorem dX7_safe_49 : decode cX7_safe 49 = .ok (.getfield 100, 3) := by decide +kernel
theorem dX7_safe_52 : decode cX7_safe 52 = .ok (.if_icmp .eq 12, 3) := by decide +kernel
theorem dX7_safe_55 : decode cX7_safe 55 = .ok (.aload_n 0, 1) := by decide +kernel
theorem dX7_safe_56 : decode cX7_safe 56 = .ok (.iload 4, 2) := by decide +kernel
theorem dX7_safe_58 : decode cX7_safe 58 = .ok (.invokevirtual 144, 3) := by decide +kernel
theorem dX7_safe_61 : decode cX7_safe 61 = .ok (.ifCond .eq 7, 3) := by decide +kernel
theorem dX7_safe_64 : decode cX7_safe 64 = .ok (.iconst 1, 1) := by decide +kernel
theorem dX7_safe_65 : decode cX7_safe 65 = .ok (.goto 4, 3) := by decide +kernel
theorem dX7_safe_68 : decode cX7_safe 68 = .ok (.iconst 0, 1) := by decide +kernel
theorem dX7_safe_69 : decode cX7_safe 69 = .ok (.istore 5, 2) := by decide +kernel
theorem dX7_safe_71 : decode cX7_safe 71 = .ok (.iload 5, 2) := by decide +kernel
theorem dX7_safe_73 : decode cX7_safe 73 = .ok (.ifCond .eq 25, 3) := by decide +kernel
theorem dX7_safe_76 : decode cX7_safe 76 = .ok (.aload_n 0, 1) := by decide +kernel
theorem dX7_safe_77 : decode cX7_safe 77 = .ok (.getfield 41, 3) := by decide +kernel
theorem dX7_safe_80 : decode cX7_safe 80 = .ok (.iload 4, 2) := by decide +kernel
theorem dX7_safe_82 : decode cX7_safe 82 = .ok (.aload_n 0, 1) := by decide +kernel
theorem dX7_safe_83 : decode cX7_safe 83 = .ok (.getfield 41, 3) := by decide +kernel
theorem dX7_safe_86 : decode cX7_safe 86 = .ok (.iload 4, 2) := by decide +kernel
theorem dX7_safe_88 : decode cX7_safe 88 = .ok (.iaload, 1) := by decide +kernel
theorem dX7_safe_89 : decode cX7_safe 89 = .ok (.ldc 143, 2) := by decide +kernel
theorem dX7_safe_91 : decode cX7_safe 91 = .ok (.iadd, 1) := by decide +kernel
theorem dX7_safe_92 : decode cX7_safe 92 = .ok (.iastore, 1) := by decide +kernel
theorem dX7_safe_93 : decode cX7_safe 93 = .ok (.iinc 3 1, 3) := by decide +kernel
theorem dX7_safe_96 : decode cX7_safe 96 = .ok (.iconst 1, 1) := by decide +kernel
theorem dX7_safe_97 : decode cX7_safe 97 = .ok (.istore_n 2, 1) := by decide +kernel
theorem dX7_safe_98 : decode cX7_safe 98 = .ok (.aload_n 0, 1) := by decide +kernel
theorem dX7_safe_99 : decode cX7_safe 99 = .ok (.getfield 41, 3) := by decide +kernel
theorem dX7_safe_102 : decode cX7_safe 102 = .ok (.iload 4, 2) := by decide +kernel
theorem dX7_safe_104 : decode cX7_safe 104 = .ok (.iaload, 1) := by decide +kernel
theorem dX7_safe_105 : decode cX7_safe 105 = .ok (.ldc 143, 2) := by decide +kernel
theorem dX7_safe_107 : decode cX7_safe 107 = .ok (.irem, 1) := by decide +kernel
theorem dX7_safe_108 : decode cX7_safe 108 = .ok (.sipush 16384, 3) := by decide +kernel
theorem dX7_safe_111 : decode cX7_safe 111 = .ok (.idiv, 1) := by decide +kernel
theorem dX7_safe_112 : decode cX7_safe 112 = .ok (.iconst 1, 1) := by decide +kernel
theorem dX7_safe_113 : decode cX7_safe 113 = .ok (.isub, 1) := by decide +kernel
theorem dX7_safe_114 : decode cX7_safe 114 = .ok (.istore 4, 2) := by decide +kernel
theorem dX7_safe_116 : decode cX7_safe 116 = .ok (.goto (-91), 3) := by decide +kernel
theorem dX7_safe_119 : decode cX7_safe 119 = .ok (.goto (-106), 3) := by decide +kernel
theorem dX7_safe_122 : decode cX7_safe 122 = .ok (.iload_n 3, 1) := by decide +kernel
theorem dX7_safe_123 : decode cX7_safe 123 = .ok (.aload_n 0, 1) := by decide +kernel
theorem dX7_safe_124 : decode cX7_safe 124 = .ok (.getfield 128, 3) := by decide +kernel
theorem dX7_safe_127 : decode cX7_safe 127 = .ok (.if_icmp .ne 7, 3) := by decide +kernel
theorem dX7_safe_130 : decode cX7_safe 130 = .ok (.iconst 1, 1) := by decide +kernel
theorem dX7_safe_131 : decode cX7_safe 131 = .ok (.goto 4, 3) := by decide +kernel
theorem dX7_safe_134 : decode cX7_safe 134 = .ok (.iconst 0, 1) := by decide +kernel
theorem dX7_safe_135 : decode cX7_safe 135 = .ok (.ireturn, 1) := by decide +kernel
set_option maxRecDepth 20000 in
theorem ggX7_room_X7_doors : GoodIn wsX7_room wsX7_doors := goodIn_r _ [13, 1, 2, 14, 15, 16, 17, 18, 19, 20, 21, 22, 23, 24, 25, 26, 27, 28, 29, 30, 31, 32] (by decide +kernel) (by decide +kernel)
set_option maxRecDepth 20000 in
theorem gX7_room_X7_doors : GoodIn wsX7_room (wsV RX7 119 RX7 yX7_doors wsX7_doors) := goodIn_app (goodIn_of _ (by decide +kernel)) ggX7_room_X7_doors
theorem dX7_room_0 : decode cX7_room 0 = .ok (.iload_n 1, 1) := by decide +kernel
theorem dX7_room_1 : decode cX7_room 1 = .ok (.ifCond .lt 21, 3) := by decide +kernel
theorem dX7_room_4 : decode cX7_room 4 = .ok (.iload_n 1, 1) := by decide +kernel
theorem dX7_room_5 : decode cX7_room 5 = .ok (.aload_n 0, 1) := by decide +kernel
theorem dX7_room_6 : decode cX7_room 6 = .ok (.getfield 56, 3) := by decide +kernel
theorem dX7_room_9 : decode cX7_room 9 = .ok (.if_icmp .ge 13, 3) := by decide +kernel
theorem dX7_room_12 : decode cX7_room 12 = .ok (.iload_n 2, 1) := by decide +kernel
theorem dX7_room_13 : decode cX7_room 13 = .ok (.ifCond .lt 9, 3) := by decide +kernel
theorem dX7_room_16 : decode cX7_room 16 = .ok (.iload_n 2, 1) := by decide +kernel
theorem dX7_room_17 : decode cX7_room 17 = .ok (.bipush 7, 2) := by decide +kernel
theorem dX7_room_19 : decode cX7_room 19 = .ok (.if_icmp .le 6, 3) := by decide +kernel
theorem dX7_room_22 : decode cX7_room 22 = .ok (.bipush (-100), 2) := by decide +kernel
theorem dX7_room_24 : decode cX7_room 24 = .ok (.ireturn, 1) := by decide +kernel
theorem dX7_room_25 : decode cX7_room 25 = .ok (.iload_n 2, 1) := by decide +kernel
theorem dX7_room_26 : decode cX7_room 26 = .ok (.tableswitch 99 0 6 #[42, 49, 56, 63, 70, 77, 84], 42) := by decide +kernel
theorem dX7_room_68 : decode cX7_room 68 = .ok (.aload_n 0, 1) := by decide +kernel
theorem dX7_room_69 : decode cX7_room 69 = .ok (.getfield 7, 3) := by decide +kernel
theorem dX7_room_72 : decode cX7_room 72 = .ok (.iload_n 1, 1) := by decide +kernel
theorem dX7_room_73 : decode cX7_room 73 = .ok (.iaload, 1) := by decide +kernel
theorem dX7_room_74 : decode cX7_room 74 = .ok (.ireturn, 1) := by decide +kernel
theorem dX7_room_75 : decode cX7_room 75 = .ok (.aload_n 0, 1) := by decide +kernel
theorem dX7_room_76 : decode cX7_room 76 = .ok (.getfield 13, 3) := by decide +kernel
theorem dX7_room_79 : decode cX7_room 79 = .ok (.iload_n 1, 1) := by decide +kernel
theorem dX7_room_80 : decode cX7_room 80 = .ok (.iaload, 1) := by decide +kernel
theorem dX7_room_81 : decode cX7_room 81 = .ok (.ireturn, 1) := by decide +kernel
theorem dX7_room_82 : decode cX7_room 82 = .ok (.aload_n 0, 1) := by decide +kernel
theorem dX7_room_83 : decode cX7_room 83 = .ok (.getfield 16, 3) := by decide +kernel
theorem dX7_room_86 : decode cX7_room 86 = .ok (.iload_n 1, 1) := by decide +kernel
theorem dX7_room_87 : decode cX7_room 87 = .ok (.iaload, 1) := by decide +kernel
theorem dX7_room_88 : decode cX7_room 88 = .ok (.ireturn, 1) := by decide +kernel
theorem dX7_room_89 : decode cX7_room 89 = .ok (.aload_n 0, 1) := by decide +kernel
theorem dX7_room_90 : decode cX7_room 90 = .ok (.getfield 22, 3) := by decide +kernel
theorem dX7_room_93 : decode cX7_room 93 = .ok (.iload_n 1, 1) := by decide +kernel
theorem dX7_room_94 : decode cX7_room 94 = .ok (.iaload, 1) := by decide +kernel
theorem dX7_room_95 : decode cX7_room 95 = .ok (.ireturn, 1) := by decide +kernel
theorem dX7_room_96 : decode cX7_room 96 = .ok (.aload_n 0, 1) := by decide +kernel
theorem dX7_room_97 : decode cX7_room 97 = .ok (.getfield 25, 3) := by decide +kernel
theorem dX7_room_100 : decode cX7_room 100 = .ok (.iload_n 1, 1) := by decide +kernel
theorem dX7_room_101 : decode cX7_room 101 = .ok (.iaload, 1) := by decide +kernel
theorem dX7_room_102 : decode cX7_room 102 = .ok (.ireturn, 1) := by decide +kernel
theorem dX7_room_103 : decode cX7_room 103 = .ok (.aload_n 0, 1) := by decide +kernel
theorem dX7_room_104 : decode cX7_room 104 = .ok (.getfield 28, 3) := by decide +kernel
theorem dX7_room_107 : decode cX7_room 107 = .ok (.iload_n 1, 1) := by decide +kernel
theorem dX7_room_108 : decode cX7_room 108 = .ok (.iaload, 1) := by decide +kernel
theorem dX7_room_109 : decode cX7_room 109 = .ok (.ireturn, 1) := by decide +kernel
theorem dX7_room_110 : decode cX7_room 110 = .ok (.aload_n 0, 1) := by decide +kernel
theorem dX7_room_111 : decode cX7_room 111 = .ok (.getfield 31, 3) := by decide +kernel
theorem dX7_room_114 : decode cX7_room 114 = .ok (.iload_n 1, 1) := by decide +kernel
theorem dX7_room_115 : decode cX7_room 115 = .ok (.baload, 1) := by decide +kernel
theorem dX7_room_116 : decode cX7_room 116 = .ok (.ifCond .eq 7, 3) := by decide +kernel
theorem dX7_room_119 : decode cX7_room 119 = .ok (.iconst 1, 1) := by decide +kernel
theorem dX7_room_120 : decode cX7_room 120 = .ok (.goto 4, 3) := by decide +kernel
theorem dX7_room_123 : decode cX7_room 123 = .ok (.iconst 0, 1) := by decide +kernel
theorem dX7_room_124 : decode cX7_room 124 = .ok (.ireturn, 1) := by decide +kernel
theorem dX7_room_125 : decode cX7_room 125 = .ok (.aload_n 0, 1) := by decide +kernel
theorem dX7_room_126 : decode cX7_room 126 = .ok (.iload_n 1, 1) := by decide +kernel
theorem dX7_room_127 : decode cX7_room 127 = .ok (.invokevirtual 119, 3) := by decide +kernel
theorem dX7_room_130 : decode cX7_room 130 = .ok (.ireturn, 1) := by decide +kernel
set_option maxRecDepth 20000 in
theorem ggX7_behind_X7_doors : GoodIn wsX7_behind wsX7_doors := goodIn_r _ [6, 1, 7, 8, 13, 14, 15, 16, 17, 18, 19, 20, 21, 22, 23, 24, 25, 26, 27, 28, 29, 30] (by decide +kernel) (by decide +kernel)
set_option maxRecDepth 20000 in
theorem gX7_behind_X7_doors : GoodIn wsX7_behind (wsV RX7 119 RX7 yX7_doors wsX7_doors) := goodIn_app (goodIn_of _ (by decide +kernel)) ggX7_behind_X7_doors
set_option maxRecDepth 20000 in
theorem ggX7_behind_X7_beyond : GoodIn wsX7_behind wsX7_beyond := goodIn_r _ [12, 7, 1, 8, 13, 14, 15, 16, 17, 18, 19, 20, 21, 22, 23, 24, 25, 26, 27, 28, 29, 30] (by decide +kernel) (by decide +kernel)
set_option maxRecDepth 20000 in
theorem gX7_behind_X7_beyond : GoodIn wsX7_behind (wsV RX7 109 RX7 yX7_beyond wsX7_beyond) := goodIn_app (goodIn_of _ (by decide +kernel)) ggX7_behind_X7_beyond
theorem dX7_behind_0 : decode cX7_behind 0 = .ok (.iload_n 1, 1) := by decide +kernel
theorem dX7_behind_1 : decode cX7_behind 1 = .ok (.ifCond .lt 24, 3) := by decide +kernel
theorem dX7_behind_4 : decode cX7_behind 4 = .ok (.iload_n 1, 1) := by decide +kernel
theorem dX7_behind_5 : decode cX7_behind 5 = .ok (.aload_n 0, 1) := by decide +kernel
theorem dX7_behind_6 : decode cX7_behind 6 = .ok (.getfield 56, 3) := by decide +kernel
theorem dX7_behind_9 : decode cX7_behind 9 = .ok (.if_icmp .ge 16, 3) := by decide +kernel
theorem dX7_behind_12 : decode cX7_behind 12 = .ok (.iload_n 2, 1) := by decide +kernel
theorem dX7_behind_13 : decode cX7_behind 13 = .ok (.ifCond .lt 12, 3) := by decide +kernel
theorem dX7_behind_16 : decode cX7_behind 16 = .ok (.iload_n 2, 1) := by decide +kernel
theorem dX7_behind_17 : decode cX7_behind 17 = .ok (.aload_n 0, 1) := by decide +kernel
theorem dX7_behind_18 : decode cX7_behind 18 = .ok (.iload_n 1, 1) := by decide +kernel
theorem dX7_behind_19 : decode cX7_behind 19 = .ok (.invokevirtual 119, 3) := by decide +kernel
theorem dX7_behind_22 : decode cX7_behind 22 = .ok (.if_icmp .lt 7, 3) := by decide +kernel
theorem dX7_behind_25 : decode cX7_behind 25 = .ok (.iconst (-1), 1) := by decide +kernel
theorem dX7_behind_26 : decode cX7_behind 26 = .ok (.goto 9, 3) := by decide +kernel
theorem dX7_behind_29 : decode cX7_behind 29 = .ok (.aload_n 0, 1) := by decide +kernel
theorem dX7_behind_30 : decode cX7_behind 30 = .ok (.iload_n 1, 1) := by decide +kernel
theorem dX7_behind_31 : decode cX7_behind 31 = .ok (.iload_n 2, 1) := by decide +kernel
theorem dX7_behind_32 : decode cX7_behind 32 = .ok (.invokevirtual 109, 3) := by decide +kernel
theorem dX7_behind_35 : decode cX7_behind 35 = .ok (.ireturn, 1) := by decide +kernel
theorem dX7_goal_0 : decode cX7_goal 0 = .ok (.aload_n 0, 1) := by decide +kernel
theorem dX7_goal_1 : decode cX7_goal 1 = .ok (.getfield 100, 3) := by decide +kernel
theorem dX7_goal_4 : decode cX7_goal 4 = .ok (.ireturn, 1) := by decide +kernel
theorem dX7_restart_0 : decode cX7_restart 0 = .ok (.aload_n 0, 1) := by decide +kernel
theorem dX7_restart_1 : decode cX7_restart 1 = .ok (.iconst 0, 1) := by decide +kernel
theorem dX7_restart_2 : decode cX7_restart 2 = .ok (.putfield 83, 3) := by decide +kernel
theorem dX7_restart_5 : decode cX7_restart 5 = .ok (.return_, 1) := by decide +kernel
set_option maxRecDepth 20000 in
theorem ggX7_walk_X7_doors : GoodIn wsX7_walk wsX7_doors := goodIn_r _ [6, 7, 8, 9, 24, 25, 26, 27, 28, 29, 30, 31, 32, 33, 34, 35, 36, 37, 38, 39, 40, 41] (by decide +kernel) (by decide +kernel)
set_option maxRecDepth 20000 in
theorem gX7_walk_X7_doors : GoodIn wsX7_walk (wsV RX7 119 RX7 yX7_doors wsX7_doors) := goodIn_app (goodIn_of _ (by decide +kernel)) ggX7_walk_X7_doors
set_option maxRecDepth 20000 in
theorem ggX7_walk_X7_walked : GoodIn wsX7_walk wsX7_walked := goodIn_r _ [13, 8, 14, 15, 16, 17, 18, 19, 5, 20, 7, 9, 21, 22, 23, 24, 25, 26, 27, 28, 29, 30, 31, 32, 33, 34, 35, 36, 37, 38, 39, 40, 41] (by decide +kernel) (by decide +kernel)
set_option maxRecDepth 20000 in
theorem gX7_walk_X7_walked : GoodIn wsX7_walk (wsV RX7 122 RX7 yX7_walked wsX7_walked) := goodIn_app (goodIn_of _ (by decide +kernel)) ggX7_walk_X7_walked
theorem dX7_walk_0 : decode cX7_walk 0 = .ok (.iload_n 1, 1) := by decide +kernel
theorem dX7_walk_1 : decode cX7_walk 1 = .ok (.ifCond .lt 19, 3) := by decide +kernel
theorem dX7_walk_4 : decode cX7_walk 4 = .ok (.iload_n 1, 1) := by decide +kernel
theorem dX7_walk_5 : decode cX7_walk 5 = .ok (.aload_n 0, 1) := by decide +kernel
theorem dX7_walk_6 : decode cX7_walk 6 = .ok (.aload_n 0, 1) := by decide +kernel
theorem dX7_walk_7 : decode cX7_walk 7 = .ok (.getfield 83, 3) := by decide +kernel
theorem dX7_walk_10 : decode cX7_walk 10 = .ok (.sipush 1024, 3) := by decide +kernel
theorem dX7_walk_13 : decode cX7_walk 13 = .ok (.idiv, 1) := by decide +kernel
theorem dX7_walk_14 : decode cX7_walk 14 = .ok (.invokevirtual 119, 3) := by decide +kernel
theorem dX7_walk_17 : decode cX7_walk 17 = .ok (.if_icmp .lt 5, 3) := by decide +kernel
theorem dX7_walk_20 : decode cX7_walk 20 = .ok (.iconst (-1), 1) := by decide +kernel
theorem dX7_walk_21 : decode cX7_walk 21 = .ok (.ireturn, 1) := by decide +kernel
theorem dX7_walk_22 : decode cX7_walk 22 = .ok (.aload_n 0, 1) := by decide +kernel
theorem dX7_walk_23 : decode cX7_walk 23 = .ok (.aload_n 0, 1) := by decide +kernel
theorem dX7_walk_24 : decode cX7_walk 24 = .ok (.getfield 83, 3) := by decide +kernel
theorem dX7_walk_27 : decode cX7_walk 27 = .ok (.iload_n 1, 1) := by decide +kernel
theorem dX7_walk_28 : decode cX7_walk 28 = .ok (.invokevirtual 122, 3) := by decide +kernel
theorem dX7_walk_31 : decode cX7_walk 31 = .ok (.istore_n 2, 1) := by decide +kernel
theorem dX7_walk_32 : decode cX7_walk 32 = .ok (.iload_n 2, 1) := by decide +kernel
theorem dX7_walk_33 : decode cX7_walk 33 = .ok (.ifCond .ge 6, 3) := by decide +kernel
theorem dX7_walk_36 : decode cX7_walk 36 = .ok (.bipush (-2), 2) := by decide +kernel
theorem dX7_walk_38 : decode cX7_walk 38 = .ok (.ireturn, 1) := by decide +kernel
theorem dX7_walk_39 : decode cX7_walk 39 = .ok (.aload_n 0, 1) := by decide +kernel
theorem dX7_walk_40 : decode cX7_walk 40 = .ok (.iload_n 2, 1) := by decide +kernel
theorem dX7_walk_41 : decode cX7_walk 41 = .ok (.putfield 83, 3) := by decide +kernel
theorem dX7_walk_44 : decode cX7_walk 44 = .ok (.aload_n 0, 1) := by decide +kernel
theorem dX7_walk_45 : decode cX7_walk 45 = .ok (.getfield 83, 3) := by decide +kernel
theorem dX7_walk_48 : decode cX7_walk 48 = .ok (.sipush 1024, 3) := by decide +kernel
theorem dX7_walk_51 : decode cX7_walk 51 = .ok (.idiv, 1) := by decide +kernel
theorem dX7_walk_52 : decode cX7_walk 52 = .ok (.ireturn, 1) := by decide +kernel
set_option maxRecDepth 20000 in
theorem ggX7_take_X7_takeable : GoodIn wsX7_take wsX7_takeable := goodIn_r _ [6, 7, 34, 35, 36, 37, 38, 39, 40, 41, 42, 43, 44, 45, 46, 47, 48, 49, 50, 51] (by decide +kernel) (by decide +kernel)
set_option maxRecDepth 20000 in
theorem gX7_take_X7_takeable : GoodIn wsX7_take (wsV RX7 116 RX7 yX7_takeable wsX7_takeable) := goodIn_app (goodIn_of _ (by decide +kernel)) ggX7_take_X7_takeable
set_option maxRecDepth 20000 in
theorem ggX7_take_X7_after : GoodIn wsX7_take wsX7_after := goodIn_r _ [11, 12, 2, 3, 4, 5, 6, 7, 13, 14, 15, 16, 17, 18, 19, 20, 21, 22, 23, 24, 25, 26, 27, 28, 29, 30, 31, 32, 33, 34, 35, 36, 37, 38, 39, 40, 41, 42, 43, 44, 45, 46, 47, 48, 49, 50, 51] (by decide +kernel) (by decide +kernel)
set_option maxRecDepth 20000 in
theorem gX7_take_X7_after : GoodIn wsX7_take (wsV RX7 134 RX7 yX7_after wsX7_after) := goodIn_app (goodIn_of _ (by decide +kernel)) ggX7_take_X7_after
set_option maxRecDepth 20000 in
theorem ggX7_take_X7_ones : GoodIn wsX7_take wsX7_ones := goodIn_r _ [33] (by decide +kernel) (by decide +kernel)
set_option maxRecDepth 20000 in
theorem gX7_take_X7_ones : GoodIn wsX7_take (va_wsS RX7 113 yX7_ones wsX7_ones) := goodIn_app (goodIn_of _ (by decide +kernel)) ggX7_take_X7_ones
theorem dX7_take_0 : decode cX7_take 0 = .ok (.aload_n 0, 1) := by decide +kernel
theorem dX7_take_1 : decode cX7_take 1 = .ok (.aload_n 0, 1) := by decide +kernel
theorem dX7_take_2 : decode cX7_take 2 = .ok (.getfield 83, 3) := by decide +kernel
theorem dX7_take_5 : decode cX7_take 5 = .ok (.invokevirtual 116, 3) := by decide +kernel
theorem dX7_take_8 : decode cX7_take 8 = .ok (.istore_n 1, 1) := by decide +kernel
theorem dX7_take_9 : decode cX7_take 9 = .ok (.aload_n 0, 1) := by decide +kernel
theorem dX7_take_10 : decode cX7_take 10 = .ok (.aload_n 0, 1) := by decide +kernel
theorem dX7_take_11 : decode cX7_take 11 = .ok (.aload_n 0, 1) := by decide +kernel
theorem dX7_take_12 : decode cX7_take 12 = .ok (.getfield 83, 3) := by decide +kernel
theorem dX7_take_15 : decode cX7_take 15 = .ok (.bipush 100, 2) := by decide +kernel
theorem dX7_take_17 : decode cX7_take 17 = .ok (.invokevirtual 134, 3) := by decide +kernel
theorem dX7_take_20 : decode cX7_take 20 = .ok (.putfield 83, 3) := by decide +kernel
theorem dX7_take_23 : decode cX7_take 23 = .ok (.iload_n 1, 1) := by decide +kernel
theorem dX7_take_24 : decode cX7_take 24 = .ok (.bipush 8, 2) := by decide +kernel
theorem dX7_take_26 : decode cX7_take 26 = .ok (.irem, 1) := by decide +kernel
theorem dX7_take_27 : decode cX7_take 27 = .ok (.invokestatic 113, 3) := by decide +kernel
theorem dX7_take_30 : decode cX7_take 30 = .ok (.iload_n 1, 1) := by decide +kernel
theorem dX7_take_31 : decode cX7_take 31 = .ok (.bipush 8, 2) := by decide +kernel
theorem dX7_take_33 : decode cX7_take 33 = .ok (.idiv, 1) := by decide +kernel
theorem dX7_take_34 : decode cX7_take 34 = .ok (.invokestatic 113, 3) := by decide +kernel
theorem dX7_take_37 : decode cX7_take 37 = .ok (.iadd, 1) := by decide +kernel
theorem dX7_take_38 : decode cX7_take 38 = .ok (.ireturn, 1) := by decide +kernel
set_option maxRecDepth 20000 in
theorem ggX7_toggle_X7_after : GoodIn wsX7_toggle wsX7_after := goodIn_r _ [6, 7, 8, 9, 10, 5, 11, 12, 13, 14, 15, 16, 17, 18, 19, 20, 21, 22, 23, 24, 25, 26, 27, 28, 29, 30, 31, 32, 33, 34, 35, 36, 37, 38, 39, 40, 41, 42, 43, 44, 45, 46, 47, 48, 49, 50, 51] (by decide +kernel) (by decide +kernel)
set_option maxRecDepth 20000 in
theorem gX7_toggle_X7_after : GoodIn wsX7_toggle (wsV RX7 134 RX7 yX7_after wsX7_after) := goodIn_app (goodIn_of _ (by decide +kernel)) ggX7_toggle_X7_after
theorem dX7_toggle_0 : decode cX7_toggle 0 = .ok (.aload_n 0, 1) := by decide +kernel
theorem dX7_toggle_1 : decode cX7_toggle 1 = .ok (.aload_n 0, 1) := by decide +kernel
theorem dX7_toggle_2 : decode cX7_toggle 2 = .ok (.getfield 83, 3) := by decide +kernel
theorem dX7_toggle_5 : decode cX7_toggle 5 = .ok (.sipush 200, 3) := by decide +kernel
theorem dX7_toggle_8 : decode cX7_toggle 8 = .ok (.invokevirtual 134, 3) := by decide +kernel
theorem dX7_toggle_11 : decode cX7_toggle 11 = .ok (.istore_n 1, 1) := by decide +kernel
theorem dX7_toggle_12 : decode cX7_toggle 12 = .ok (.iload_n 1, 1) := by decide +kernel
theorem dX7_toggle_13 : decode cX7_toggle 13 = .ok (.ifCond .ge 5, 3) := by decide +kernel
theorem dX7_toggle_16 : decode cX7_toggle 16 = .ok (.iconst (-1), 1) := by decide +kernel
theorem dX7_toggle_17 : decode cX7_toggle 17 = .ok (.ireturn, 1) := by decide +kernel
theorem dX7_toggle_18 : decode cX7_toggle 18 = .ok (.aload_n 0, 1) := by decide +kernel
theorem dX7_toggle_19 : decode cX7_toggle 19 = .ok (.iload_n 1, 1) := by decide +kernel
theorem dX7_toggle_20 : decode cX7_toggle 20 = .ok (.putfield 83, 3) := by decide +kernel
theorem dX7_toggle_23 : decode cX7_toggle 23 = .ok (.aload_n 0, 1) := by decide +kernel
theorem dX7_toggle_24 : decode cX7_toggle 24 = .ok (.getfield 83, 3) := by decide +kernel
theorem dX7_toggle_27 : decode cX7_toggle 27 = .ok (.iconst 2, 1) := by decide +kernel
theorem dX7_toggle_28 : decode cX7_toggle 28 = .ok (.irem, 1) := by decide +kernel
theorem dX7_toggle_29 : decode cX7_toggle 29 = .ok (.ireturn, 1) := by decide +kernel
theorem dX7_here_0 : decode cX7_here 0 = .ok (.aload_n 0, 1) := by decide +kernel
theorem dX7_here_1 : decode cX7_here 1 = .ok (.getfield 83, 3) := by decide +kernel
theorem dX7_here_4 : decode cX7_here 4 = .ok (.sipush 1024, 3) := by decide +kernel
theorem dX7_here_7 : decode cX7_here 7 = .ok (.idiv, 1) := by decide +kernel
theorem dX7_here_8 : decode cX7_here 8 = .ok (.ireturn, 1) := by decide +kernel
set_option maxRecDepth 20000 in
theorem ggX7_having_X7_ones : GoodIn wsX7_having wsX7_ones := goodIn_r _ [5] (by decide +kernel) (by decide +kernel)
set_option maxRecDepth 20000 in
theorem gX7_having_X7_ones : GoodIn wsX7_having (va_wsS RX7 113 yX7_ones wsX7_ones) := goodIn_app (goodIn_of _ (by decide +kernel)) ggX7_having_X7_ones
theorem dX7_having_0 : decode cX7_having 0 = .ok (.aload_n 0, 1) := by decide +kernel
theorem dX7_having_1 : decode cX7_having 1 = .ok (.getfield 83, 3) := by decide +kernel
theorem dX7_having_4 : decode cX7_having 4 = .ok (.sipush 128, 3) := by decide +kernel
theorem dX7_having_7 : decode cX7_having 7 = .ok (.idiv, 1) := by decide +kernel
theorem dX7_having_8 : decode cX7_having 8 = .ok (.bipush 8, 2) := by decide +kernel
theorem dX7_having_10 : decode cX7_having 10 = .ok (.irem, 1) := by decide +kernel
theorem dX7_having_11 : decode cX7_having 11 = .ok (.bipush 8, 2) := by decide +kernel
theorem dX7_having_13 : decode cX7_having 13 = .ok (.aload_n 0, 1) := by decide +kernel
theorem dX7_having_14 : decode cX7_having 14 = .ok (.getfield 83, 3) := by decide +kernel
theorem dX7_having_17 : decode cX7_having 17 = .ok (.bipush 16, 2) := by decide +kernel
theorem dX7_having_19 : decode cX7_having 19 = .ok (.idiv, 1) := by decide +kernel
theorem dX7_having_20 : decode cX7_having 20 = .ok (.bipush 8, 2) := by decide +kernel
theorem dX7_having_22 : decode cX7_having 22 = .ok (.irem, 1) := by decide +kernel
theorem dX7_having_23 : decode cX7_having 23 = .ok (.invokestatic 113, 3) := by decide +kernel
theorem dX7_having_26 : decode cX7_having 26 = .ok (.aload_n 0, 1) := by decide +kernel
theorem dX7_having_27 : decode cX7_having 27 = .ok (.getfield 83, 3) := by decide +kernel
theorem dX7_having_30 : decode cX7_having 30 = .ok (.iconst 2, 1) := by decide +kernel
theorem dX7_having_31 : decode cX7_having 31 = .ok (.idiv, 1) := by decide +kernel
theorem dX7_having_32 : decode cX7_having 32 = .ok (.bipush 8, 2) := by decide +kernel
theorem dX7_having_34 : decode cX7_having 34 = .ok (.irem, 1) := by decide +kernel
theorem dX7_having_35 : decode cX7_having 35 = .ok (.invokestatic 113, 3) := by decide +kernel
theorem dX7_having_38 : decode cX7_having 38 = .ok (.isub, 1) := by decide +kernel
theorem dX7_having_39 : decode cX7_having 39 = .ok (.imul, 1) := by decide +kernel
theorem dX7_having_40 : decode cX7_having 40 = .ok (.iadd, 1) := by decide +kernel
theorem dX7_having_41 : decode cX7_having 41 = .ok (.bipush 64, 2) := by decide +kernel
theorem dX7_having_43 : decode cX7_having 43 = .ok (.aload_n 0, 1) := by decide +kernel
theorem dX7_having_44 : decode cX7_having 44 = .ok (.getfield 83, 3) := by decide +kernel
theorem dX7_having_47 : decode cX7_having 47 = .ok (.iconst 2, 1) := by decide +kernel
theorem dX7_having_48 : decode cX7_having 48 = .ok (.irem, 1) := by decide +kernel
theorem dX7_having_49 : decode cX7_having 49 = .ok (.imul, 1) := by decide +kernel
theorem dX7_having_50 : decode cX7_having 50 = .ok (.iadd, 1) := by decide +kernel
theorem dX7_having_51 : decode cX7_having 51 = .ok (.ireturn, 1) := by decide +kernel
theorem dJ6_bitCount_0f7a4_0 : decode cJ6_bitCount_0f7a4 0 = .ok (.iload_n 0, 1) := by decide +kernel
theorem dJ6_bitCount_0f7a4_1 : decode cJ6_bitCount_0f7a4 1 = .ok (.iload_n 0, 1) := by decide +kernel
theorem dJ6_bitCount_0f7a4_2 : decode cJ6_bitCount_0f7a4 2 = .ok (.iconst 1, 1) := by decide +kernel
theorem dJ6_bitCount_0f7a4_3 : decode cJ6_bitCount_0f7a4 3 = .ok (.iushr, 1) := by decide +kernel
theorem dJ6_bitCount_0f7a4_4 : decode cJ6_bitCount_0f7a4 4 = .ok (.ldc_w 265, 3) := by decide +kernel
theorem dJ6_bitCount_0f7a4_7 : decode cJ6_bitCount_0f7a4 7 = .ok (.iand, 1) := by decide +kernel
theorem dJ6_bitCount_0f7a4_8 : decode cJ6_bitCount_0f7a4 8 = .ok (.isub, 1) := by decide +kernel
theorem dJ6_bitCount_0f7a4_9 : decode cJ6_bitCount_0f7a4 9 = .ok (.istore_n 0, 1) := by decide +kernel
theorem dJ6_bitCount_0f7a4_10 : decode cJ6_bitCount_0f7a4 10 = .ok (.iload_n 0, 1) := by decide +kernel
theorem dJ6_bitCount_0f7a4_11 : decode cJ6_bitCount_0f7a4 11 = .ok (.ldc_w 266, 3) := by decide +kernel
theorem dJ6_bitCount_0f7a4_14 : decode cJ6_bitCount_0f7a4 14 = .ok (.iand, 1) := by decide +kernel
theorem dJ6_bitCount_0f7a4_15 : decode cJ6_bitCount_0f7a4 15 = .ok (.iload_n 0, 1) := by decide +kernel
theorem dJ6_bitCount_0f7a4_16 : decode cJ6_bitCount_0f7a4 16 = .ok (.iconst 2, 1) := by decide +kernel
theorem dJ6_bitCount_0f7a4_17 : decode cJ6_bitCount_0f7a4 17 = .ok (.iushr, 1) := by decide +kernel
theorem dJ6_bitCount_0f7a4_18 : decode cJ6_bitCount_0f7a4 18 = .ok (.ldc_w 266, 3) := by decide +kernel
theorem dJ6_bitCount_0f7a4_21 : decode cJ6_bitCount_0f7a4 21 = .ok (.iand, 1) := by decide +kernel
theorem dJ6_bitCount_0f7a4_22 : decode cJ6_bitCount_0f7a4 22 = .ok (.iadd, 1) := by decide +kernel
theorem dJ6_bitCount_0f7a4_23 : decode cJ6_bitCount_0f7a4 23 = .ok (.istore_n 0, 1) := by decide +kernel
theorem dJ6_bitCount_0f7a4_24 : decode cJ6_bitCount_0f7a4 24 = .ok (.iload_n 0, 1) := by decide +kernel
theorem dJ6_bitCount_0f7a4_25 : decode cJ6_bitCount_0f7a4 25 = .ok (.iload_n 0, 1) := by decide +kernel
theorem dJ6_bitCount_0f7a4_26 : decode cJ6_bitCount_0f7a4 26 = .ok (.iconst 4, 1) := by decide +kernel
theorem dJ6_bitCount_0f7a4_27 : decode cJ6_bitCount_0f7a4 27 = .ok (.iushr, 1) := by decide +kernel
theorem dJ6_bitCount_0f7a4_28 : decode cJ6_bitCount_0f7a4 28 = .ok (.iadd, 1) := by decide +kernel
theorem dJ6_bitCount_0f7a4_29 : decode cJ6_bitCount_0f7a4 29 = .ok (.ldc_w 267, 3) := by decide +kernel
theorem dJ6_bitCount_0f7a4_32 : decode cJ6_bitCount_0f7a4 32 = .ok (.iand, 1) := by decide +kernel
theorem dJ6_bitCount_0f7a4_33 : decode cJ6_bitCount_0f7a4 33 = .ok (.istore_n 0, 1) := by decide +kernel
theorem dJ6_bitCount_0f7a4_34 : decode cJ6_bitCount_0f7a4 34 = .ok (.iload_n 0, 1) := by decide +kernel
theorem dJ6_bitCount_0f7a4_35 : decode cJ6_bitCount_0f7a4 35 = .ok (.iload_n 0, 1) := by decide +kernel
theorem dJ6_bitCount_0f7a4_36 : decode cJ6_bitCount_0f7a4 36 = .ok (.bipush 8, 2) := by decide +kernel
theorem dJ6_bitCount_0f7a4_38 : decode cJ6_bitCount_0f7a4 38 = .ok (.iushr, 1) := by decide +kernel
theorem dJ6_bitCount_0f7a4_39 : decode cJ6_bitCount_0f7a4 39 = .ok (.iadd, 1) := by decide +kernel
theorem dJ6_bitCount_0f7a4_40 : decode cJ6_bitCount_0f7a4 40 = .ok (.istore_n 0, 1) := by decide +kernel
theorem dJ6_bitCount_0f7a4_41 : decode cJ6_bitCount_0f7a4 41 = .ok (.iload_n 0, 1) := by decide +kernel
theorem dJ6_bitCount_0f7a4_42 : decode cJ6_bitCount_0f7a4 42 = .ok (.iload_n 0, 1) := by decide +kernel
theorem dJ6_bitCount_0f7a4_43 : decode cJ6_bitCount_0f7a4 43 = .ok (.bipush 16, 2) := by decide +kernel
theorem dJ6_bitCount_0f7a4_45 : decode cJ6_bitCount_0f7a4 45 = .ok (.iushr, 1) := by decide +kernel
theorem dJ6_bitCount_0f7a4_46 : decode cJ6_bitCount_0f7a4 46 = .ok (.iadd, 1) := by decide +kernel
theorem dJ6_bitCount_0f7a4_47 : decode cJ6_bitCount_0f7a4 47 = .ok (.istore_n 0, 1) := by decide +kernel
theorem dJ6_bitCount_0f7a4_48 : decode cJ6_bitCount_0f7a4 48 = .ok (.iload_n 0, 1) := by decide +kernel
theorem dJ6_bitCount_0f7a4_49 : decode cJ6_bitCount_0f7a4 49 = .ok (.bipush 63, 2) := by decide +kernel
theorem dJ6_bitCount_0f7a4_51 : decode cJ6_bitCount_0f7a4 51 = .ok (.iand, 1) := by decide +kernel
theorem dJ6_bitCount_0f7a4_52 : decode cJ6_bitCount_0f7a4 52 = .ok (.ireturn, 1) := by decide +kernel
theorem dJ9_abs_0f7a4_0 : decode cJ9_abs_0f7a4 0 = .ok (.iload_n 0, 1) := by decide +kernel
theorem dJ9_abs_0f7a4_1 : decode cJ9_abs_0f7a4 1 = .ok (.ifCond .ge 8, 3) := by decide +kernel
theorem dJ9_abs_0f7a4_4 : decode cJ9_abs_0f7a4 4 = .ok (.iload_n 0, 1) := by decide +kernel
theorem dJ9_abs_0f7a4_5 : decode cJ9_abs_0f7a4 5 = .ok (.ineg, 1) := by decide +kernel
theorem dJ9_abs_0f7a4_6 : decode cJ9_abs_0f7a4 6 = .ok (.goto 4, 3) := by decide +kernel
theorem dJ9_abs_0f7a4_9 : decode cJ9_abs_0f7a4 9 = .ok (.iload_n 0, 1) := by decide +kernel
theorem dJ9_abs_0f7a4_10 : decode cJ9_abs_0f7a4 10 = .ok (.ireturn, 1) := by decide +kernel
theorem dJ7_fill_d0a16_0 : decode cJ7_fill_d0a16 0 = .ok (.iconst 0, 1) := by decide +kernel
theorem dJ7_fill_d0a16_1 : decode cJ7_fill_d0a16 1 = .ok (.istore_n 3, 1) := by decide +kernel
theorem dJ7_fill_d0a16_2 : decode cJ7_fill_d0a16 2 = .ok (.aload_n 0, 1) := by decide +kernel
theorem dJ7_fill_d0a16_3 : decode cJ7_fill_d0a16 3 = .ok (.arraylength, 1) := by decide +kernel
theorem dJ7_fill_d0a16_4 : decode cJ7_fill_d0a16 4 = .ok (.istore 4, 2) := by decide +kernel
theorem dJ7_fill_d0a16_6 : decode cJ7_fill_d0a16 6 = .ok (.iload_n 3, 1) := by decide +kernel
theorem dJ7_fill_d0a16_7 : decode cJ7_fill_d0a16 7 = .ok (.iload 4, 2) := by decide +kernel
theorem dJ7_fill_d0a16_9 : decode cJ7_fill_d0a16 9 = .ok (.if_icmp .ge 13, 3) := by decide +kernel
theorem dJ7_fill_d0a16_12 : decode cJ7_fill_d0a16 12 = .ok (.aload_n 0, 1) := by decide +kernel
theorem dJ7_fill_d0a16_13 : decode cJ7_fill_d0a16 13 = .ok (.iload_n 3, 1) := by decide +kernel
theorem dJ7_fill_d0a16_14 : decode cJ7_fill_d0a16 14 = .ok (.lload_n 1, 1) := by decide +kernel
theorem dJ7_fill_d0a16_15 : decode cJ7_fill_d0a16 15 = .ok (.lastore, 1) := by decide +kernel
theorem dJ7_fill_d0a16_16 : decode cJ7_fill_d0a16 16 = .ok (.iinc 3 1, 3) := by decide +kernel
theorem dJ7_fill_d0a16_19 : decode cJ7_fill_d0a16 19 = .ok (.goto (-13), 3) := by decide +kernel
theorem dJ7_fill_d0a16_22 : decode cJ7_fill_d0a16 22 = .ok (.return_, 1) := by decide +kernel
theorem dJ7_fill_53178_0 : decode cJ7_fill_53178 0 = .ok (.iconst 0, 1) := by decide +kernel
theorem dJ7_fill_53178_1 : decode cJ7_fill_53178 1 = .ok (.istore_n 2, 1) := by decide +kernel
theorem dJ7_fill_53178_2 : decode cJ7_fill_53178 2 = .ok (.aload_n 0, 1) := by decide +kernel
theorem dJ7_fill_53178_3 : decode cJ7_fill_53178 3 = .ok (.arraylength, 1) := by decide +kernel
theorem dJ7_fill_53178_4 : decode cJ7_fill_53178 4 = .ok (.istore_n 3, 1) := by decide +kernel
theorem dJ7_fill_53178_5 : decode cJ7_fill_53178 5 = .ok (.iload_n 2, 1) := by decide +kernel
theorem dJ7_fill_53178_6 : decode cJ7_fill_53178 6 = .ok (.iload_n 3, 1) := by decide +kernel
theorem dJ7_fill_53178_7 : decode cJ7_fill_53178 7 = .ok (.if_icmp .ge 13, 3) := by decide +kernel
theorem dJ7_fill_53178_10 : decode cJ7_fill_53178 10 = .ok (.aload_n 0, 1) := by decide +kernel
theorem dJ7_fill_53178_11 : decode cJ7_fill_53178 11 = .ok (.iload_n 2, 1) := by decide +kernel
theorem dJ7_fill_53178_12 : decode cJ7_fill_53178 12 = .ok (.iload_n 1, 1) := by decide +kernel
theorem dJ7_fill_53178_13 : decode cJ7_fill_53178 13 = .ok (.iastore, 1) := by decide +kernel
theorem dJ7_fill_53178_14 : decode cJ7_fill_53178 14 = .ok (.iinc 2 1, 3) := by decide +kernel
theorem dJ7_fill_53178_17 : decode cJ7_fill_53178 17 = .ok (.goto (-12), 3) := by decide +kernel
theorem dJ7_fill_53178_20 : decode cJ7_fill_53178 20 = .ok (.return_, 1) := by decide +kernel
