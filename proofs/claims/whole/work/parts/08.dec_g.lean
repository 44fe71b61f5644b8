theorem dX8_storm_32 : decode cX8_storm 32 = .ok (.baload, 1) := by decide +kernel
theorem dX8_storm_33 : decode cX8_storm 33 = .ok (.ifCond .ne 77, 3) := by decide +kernel
theorem dX8_storm_36 : decode cX8_storm 36 = .ok (.aload_n 0, 1) := by decide +kernel
theorem dX8_storm_37 : decode cX8_storm 37 = .ok (.iload_n 3, 1) := by decide +kernel
theorem dX8_storm_38 : decode cX8_storm 38 = .ok (.invokevirtual 327, 3) := by decide +kernel
theorem dX8_storm_41 : decode cX8_storm 41 = .ok (.ifCond .ge 69, 3) := by decide +kernel
theorem dX8_storm_44 : decode cX8_storm 44 = .ok (.aload_n 0, 1) := by decide +kernel
theorem dX8_storm_45 : decode cX8_storm 45 = .ok (.bipush 100, 2) := by decide +kernel
theorem dX8_storm_47 : decode cX8_storm 47 = .ok (.invokevirtual 385, 3) := by decide +kernel
theorem dX8_storm_50 : decode cX8_storm 50 = .ok (.iload_n 1, 1) := by decide +kernel
theorem dX8_storm_51 : decode cX8_storm 51 = .ok (.if_icmp .ge 59, 3) := by decide +kernel
theorem dX8_storm_54 : decode cX8_storm 54 = .ok (.aload_n 0, 1) := by decide +kernel
theorem dX8_storm_55 : decode cX8_storm 55 = .ok (.getfield 55, 3) := by decide +kernel
theorem dX8_storm_58 : decode cX8_storm 58 = .ok (.iload_n 3, 1) := by decide +kernel
theorem dX8_storm_59 : decode cX8_storm 59 = .ok (.dup2, 1) := by decide +kernel
theorem dX8_storm_60 : decode cX8_storm 60 = .ok (.iaload, 1) := by decide +kernel
theorem dX8_storm_61 : decode cX8_storm 61 = .ok (.aload_n 0, 1) := by decide +kernel
theorem dX8_storm_62 : decode cX8_storm 62 = .ok (.bipush 40, 2) := by decide +kernel
theorem dX8_storm_64 : decode cX8_storm 64 = .ok (.invokevirtual 385, 3) := by decide +kernel
theorem dX8_storm_67 : decode cX8_storm 67 = .ok (.iadd, 1) := by decide +kernel
theorem dX8_storm_68 : decode cX8_storm 68 = .ok (.iastore, 1) := by decide +kernel
theorem dX8_storm_69 : decode cX8_storm 69 = .ok (.aload_n 0, 1) := by decide +kernel
theorem dX8_storm_70 : decode cX8_storm 70 = .ok (.getfield 62, 3) := by decide +kernel
theorem dX8_storm_73 : decode cX8_storm 73 = .ok (.iload_n 3, 1) := by decide +kernel
theorem dX8_storm_74 : decode cX8_storm 74 = .ok (.aload_n 0, 1) := by decide +kernel
theorem dX8_storm_75 : decode cX8_storm 75 = .ok (.getfield 55, 3) := by decide +kernel
theorem dX8_storm_78 : decode cX8_storm 78 = .ok (.iload_n 3, 1) := by decide +kernel
theorem dX8_storm_79 : decode cX8_storm 79 = .ok (.iaload, 1) := by decide +kernel
theorem dX8_storm_80 : decode cX8_storm 80 = .ok (.bipush 100, 2) := by decide +kernel
theorem dX8_storm_82 : decode cX8_storm 82 = .ok (.if_icmp .lt 7, 3) := by decide +kernel
theorem dX8_storm_85 : decode cX8_storm 85 = .ok (.iconst 1, 1) := by decide +kernel
theorem dX8_storm_86 : decode cX8_storm 86 = .ok (.goto 4, 3) := by decide +kernel
theorem dX8_storm_89 : decode cX8_storm 89 = .ok (.iconst 0, 1) := by decide +kernel
theorem dX8_storm_90 : decode cX8_storm 90 = .ok (.bastore, 1) := by decide +kernel
theorem dX8_storm_91 : decode cX8_storm 91 = .ok (.iload_n 2, 1) := by decide +kernel
theorem dX8_storm_92 : decode cX8_storm 92 = .ok (.aload_n 0, 1) := by decide +kernel
theorem dX8_storm_93 : decode cX8_storm 93 = .ok (.getfield 62, 3) := by decide +kernel
theorem dX8_storm_96 : decode cX8_storm 96 = .ok (.iload_n 3, 1) := by decide +kernel
theorem dX8_storm_97 : decode cX8_storm 97 = .ok (.baload, 1) := by decide +kernel
theorem dX8_storm_98 : decode cX8_storm 98 = .ok (.ifCond .eq 9, 3) := by decide +kernel
theorem dX8_storm_101 : decode cX8_storm 101 = .ok (.iconst 1, 1) := by decide +kernel
theorem dX8_storm_102 : decode cX8_storm 102 = .ok (.iload_n 3, 1) := by decide +kernel
theorem dX8_storm_103 : decode cX8_storm 103 = .ok (.ishl, 1) := by decide +kernel
theorem dX8_storm_104 : decode cX8_storm 104 = .ok (.goto 4, 3) := by decide +kernel
theorem dX8_storm_107 : decode cX8_storm 107 = .ok (.iconst 0, 1) := by decide +kernel
theorem dX8_storm_108 : decode cX8_storm 108 = .ok (.ior, 1) := by decide +kernel
theorem dX8_storm_109 : decode cX8_storm 109 = .ok (.istore_n 2, 1) := by decide +kernel
theorem dX8_storm_110 : decode cX8_storm 110 = .ok (.iinc 3 1, 3) := by decide +kernel
theorem dX8_storm_113 : decode cX8_storm 113 = .ok (.goto (-94), 3) := by decide +kernel
theorem dX8_storm_116 : decode cX8_storm 116 = .ok (.iconst 0, 1) := by decide +kernel
theorem dX8_storm_117 : decode cX8_storm 117 = .ok (.istore_n 3, 1) := by decide +kernel
theorem dX8_storm_118 : decode cX8_storm 118 = .ok (.iload_n 3, 1) := by decide +kernel
theorem dX8_storm_119 : decode cX8_storm 119 = .ok (.aload_n 0, 1) := by decide +kernel
theorem dX8_storm_120 : decode cX8_storm 120 = .ok (.getfield 184, 3) := by decide +kernel
theorem dX8_storm_123 : decode cX8_storm 123 = .ok (.if_icmp .ge 29, 3) := by decide +kernel
theorem dX8_storm_126 : decode cX8_storm 126 = .ok (.aload_n 0, 1) := by decide +kernel
theorem dX8_storm_127 : decode cX8_storm 127 = .ok (.getfield 58, 3) := by decide +kernel
theorem dX8_storm_130 : decode cX8_storm 130 = .ok (.iload_n 3, 1) := by decide +kernel
theorem dX8_storm_131 : decode cX8_storm 131 = .ok (.aload_n 0, 1) := by decide +kernel
theorem dX8_storm_132 : decode cX8_storm 132 = .ok (.iconst 2, 1) := by decide +kernel
theorem dX8_storm_133 : decode cX8_storm 133 = .ok (.invokevirtual 385, 3) := by decide +kernel
theorem dX8_storm_136 : decode cX8_storm 136 = .ok (.iconst 1, 1) := by decide +kernel
theorem dX8_storm_137 : decode cX8_storm 137 = .ok (.if_icmp .ne 7, 3) := by decide +kernel
theorem dX8_storm_140 : decode cX8_storm 140 = .ok (.iconst 1, 1) := by decide +kernel
theorem dX8_storm_141 : decode cX8_storm 141 = .ok (.goto 4, 3) := by decide +kernel
theorem dX8_storm_144 : decode cX8_storm 144 = .ok (.iconst 0, 1) := by decide +kernel
theorem dX8_storm_145 : decode cX8_storm 145 = .ok (.bastore, 1) := by decide +kernel
theorem dX8_storm_146 : decode cX8_storm 146 = .ok (.iinc 3 1, 3) := by decide +kernel
theorem dX8_storm_149 : decode cX8_storm 149 = .ok (.goto (-31), 3) := by decide +kernel
theorem dX8_storm_152 : decode cX8_storm 152 = .ok (.iload_n 2, 1) := by decide +kernel
theorem dX8_storm_153 : decode cX8_storm 153 = .ok (.ireturn, 1) := by decide +kernel
theorem dX8_ring_0 : decode cX8_ring 0 = .ok (.iload_n 2, 1) := by decide +kernel
theorem dX8_ring_1 : decode cX8_ring 1 = .ok (.i2l, 1) := by decide +kernel
theorem dX8_ring_2 : decode cX8_ring 2 = .ok (.lconst 0, 1) := by decide +kernel
theorem dX8_ring_3 : decode cX8_ring 3 = .ok (.lconst 1, 1) := by decide +kernel
theorem dX8_ring_4 : decode cX8_ring 4 = .ok (.invokestatic 180, 3) := by decide +kernel
theorem dX8_ring_7 : decode cX8_ring 7 = .ok (.ifCond .ne 6, 3) := by decide +kernel
theorem dX8_ring_10 : decode cX8_ring 10 = .ok (.ldc 204, 2) := by decide +kernel
theorem dX8_ring_12 : decode cX8_ring 12 = .ok (.ireturn, 1) := by decide +kernel
theorem dX8_ring_13 : decode cX8_ring 13 = .ok (.iload_n 1, 1) := by decide +kernel
theorem dX8_ring_14 : decode cX8_ring 14 = .ok (.i2l, 1) := by decide +kernel
theorem dX8_ring_15 : decode cX8_ring 15 = .ok (.lconst 0, 1) := by decide +kernel
theorem dX8_ring_16 : decode cX8_ring 16 = .ok (.aload_n 0, 1) := by decide +kernel
theorem dX8_ring_17 : decode cX8_ring 17 = .ok (.getfield 199, 3) := by decide +kernel
theorem dX8_ring_20 : decode cX8_ring 20 = .ok (.iconst 1, 1) := by decide +kernel
theorem dX8_ring_21 : decode cX8_ring 21 = .ok (.isub, 1) := by decide +kernel
theorem dX8_ring_22 : decode cX8_ring 22 = .ok (.i2l, 1) := by decide +kernel
theorem dX8_ring_23 : decode cX8_ring 23 = .ok (.invokestatic 180, 3) := by decide +kernel
theorem dX8_ring_26 : decode cX8_ring 26 = .ok (.ifCond .ne 7, 3) := by decide +kernel
theorem dX8_ring_29 : decode cX8_ring 29 = .ok (.iconst (-1), 1) := by decide +kernel
theorem dX8_ring_30 : decode cX8_ring 30 = .ok (.goto 22, 3) := by decide +kernel
theorem dX8_ring_33 : decode cX8_ring 33 = .ok (.iload_n 2, 1) := by decide +kernel
theorem dX8_ring_34 : decode cX8_ring 34 = .ok (.ifCond .ne 12, 3) := by decide +kernel
theorem dX8_ring_37 : decode cX8_ring 37 = .ok (.aload_n 0, 1) := by decide +kernel
theorem dX8_ring_38 : decode cX8_ring 38 = .ok (.getfield 86, 3) := by decide +kernel
theorem dX8_ring_41 : decode cX8_ring 41 = .ok (.iload_n 1, 1) := by decide +kernel
theorem dX8_ring_42 : decode cX8_ring 42 = .ok (.iaload, 1) := by decide +kernel
theorem dX8_ring_43 : decode cX8_ring 43 = .ok (.goto 9, 3) := by decide +kernel
theorem dX8_ring_46 : decode cX8_ring 46 = .ok (.aload_n 0, 1) := by decide +kernel
theorem dX8_ring_47 : decode cX8_ring 47 = .ok (.getfield 89, 3) := by decide +kernel
theorem dX8_ring_50 : decode cX8_ring 50 = .ok (.iload_n 1, 1) := by decide +kernel
theorem dX8_ring_51 : decode cX8_ring 51 = .ok (.iaload, 1) := by decide +kernel
theorem dX8_ring_52 : decode cX8_ring 52 = .ok (.ireturn, 1) := by decide +kernel
theorem dX8_findReach_0 : decode cX8_findReach 0 = .ok (.iconst 0, 1) := by decide +kernel
theorem dX8_findReach_1 : decode cX8_findReach 1 = .ok (.istore 4, 2) := by decide +kernel
theorem dX8_findReach_3 : decode cX8_findReach 3 = .ok (.iload 4, 2) := by decide +kernel
theorem dX8_findReach_5 : decode cX8_findReach 5 = .ok (.bipush 8, 2) := by decide +kernel
theorem dX8_findReach_7 : decode cX8_findReach 7 = .ok (.if_icmp .ge 29, 3) := by decide +kernel
theorem dX8_findReach_10 : decode cX8_findReach 10 = .ok (.aload_n 0, 1) := by decide +kernel
theorem dX8_findReach_11 : decode cX8_findReach 11 = .ok (.getfield 144, 3) := by decide +kernel
theorem dX8_findReach_14 : decode cX8_findReach 14 = .ok (.iload 4, 2) := by decide +kernel
theorem dX8_findReach_16 : decode cX8_findReach 16 = .ok (.iload 4, 2) := by decide +kernel
theorem dX8_findReach_18 : decode cX8_findReach 18 = .ok (.iload_n 2, 1) := by decide +kernel
theorem dX8_findReach_19 : decode cX8_findReach 19 = .ok (.if_icmp .ne 7, 3) := by decide +kernel
theorem dX8_findReach_22 : decode cX8_findReach 22 = .ok (.iconst 0, 1) := by decide +kernel
theorem dX8_findReach_23 : decode cX8_findReach 23 = .ok (.goto 6, 3) := by decide +kernel
theorem dX8_findReach_26 : decode cX8_findReach 26 = .ok (.ldc_w 388, 3) := by decide +kernel
theorem dX8_findReach_29 : decode cX8_findReach 29 = .ok (.iastore, 1) := by decide +kernel
theorem dX8_findReach_30 : decode cX8_findReach 30 = .ok (.iinc 4 1, 3) := by decide +kernel
theorem dX8_findReach_33 : decode cX8_findReach 33 = .ok (.goto (-30), 3) := by decide +kernel
theorem dX8_findReach_36 : decode cX8_findReach 36 = .ok (.iconst 1, 1) := by decide +kernel
theorem dX8_findReach_37 : decode cX8_findReach 37 = .ok (.istore 4, 2) := by decide +kernel
theorem dX8_findReach_39 : decode cX8_findReach 39 = .ok (.iload 4, 2) := by decide +kernel
theorem dX8_findReach_41 : decode cX8_findReach 41 = .ok (.ifCond .eq 221, 3) := by decide +kernel
theorem dX8_findReach_44 : decode cX8_findReach 44 = .ok (.iconst 0, 1) := by decide +kernel
theorem dX8_findReach_45 : decode cX8_findReach 45 = .ok (.istore 4, 2) := by decide +kernel
theorem dX8_findReach_47 : decode cX8_findReach 47 = .ok (.iconst 0, 1) := by decide +kernel
theorem dX8_findReach_48 : decode cX8_findReach 48 = .ok (.istore 5, 2) := by decide +kernel
theorem dX8_findReach_50 : decode cX8_findReach 50 = .ok (.iload 5, 2) := by decide +kernel
theorem dX8_findReach_52 : decode cX8_findReach 52 = .ok (.aload_n 0, 1) := by decide +kernel
theorem dX8_findReach_53 : decode cX8_findReach 53 = .ok (.getfield 184, 3) := by decide +kernel
theorem dX8_findReach_56 : decode cX8_findReach 56 = .ok (.if_icmp .ge 203, 3) := by decide +kernel
theorem dX8_findReach_59 : decode cX8_findReach 59 = .ok (.aload_n 0, 1) := by decide +kernel
theorem dX8_findReach_60 : decode cX8_findReach 60 = .ok (.iload_n 1, 1) := by decide +kernel
theorem dX8_findReach_61 : decode cX8_findReach 61 = .ok (.iload 5, 2) := by decide +kernel
theorem dX8_findReach_63 : decode cX8_findReach 63 = .ok (.iconst 0, 1) := by decide +kernel
theorem dX8_findReach_64 : decode cX8_findReach 64 = .ok (.invokevirtual 352, 3) := by decide +kernel
theorem dX8_findReach_67 : decode cX8_findReach 67 = .ok (.ifCond .eq 186, 3) := by decide +kernel
theorem dX8_findReach_70 : decode cX8_findReach 70 = .ok (.aload_n 0, 1) := by decide +kernel
theorem dX8_findReach_71 : decode cX8_findReach 71 = .ok (.iload_n 1, 1) := by decide +kernel
theorem dX8_findReach_72 : decode cX8_findReach 72 = .ok (.iload 5, 2) := by decide +kernel
theorem dX8_findReach_74 : decode cX8_findReach 74 = .ok (.iconst 0, 1) := by decide +kernel
theorem dX8_findReach_75 : decode cX8_findReach 75 = .ok (.iload_n 3, 1) := by decide +kernel
theorem dX8_findReach_76 : decode cX8_findReach 76 = .ok (.invokevirtual 357, 3) := by decide +kernel
theorem dX8_findReach_79 : decode cX8_findReach 79 = .ok (.istore 6, 2) := by decide +kernel
theorem dX8_findReach_81 : decode cX8_findReach 81 = .ok (.aload_n 0, 1) := by decide +kernel
theorem dX8_findReach_82 : decode cX8_findReach 82 = .ok (.getfield 144, 3) := by decide +kernel
theorem dX8_findReach_85 : decode cX8_findReach 85 = .ok (.aload_n 0, 1) := by decide +kernel
theorem dX8_findReach_86 : decode cX8_findReach 86 = .ok (.getfield 22, 3) := by decide +kernel
theorem dX8_findReach_89 : decode cX8_findReach 89 = .ok (.iload 5, 2) := by decide +kernel
theorem dX8_findReach_91 : decode cX8_findReach 91 = .ok (.iaload, 1) := by decide +kernel
theorem dX8_findReach_92 : decode cX8_findReach 92 = .ok (.iaload, 1) := by decide +kernel
theorem dX8_findReach_93 : decode cX8_findReach 93 = .ok (.iload 6, 2) := by decide +kernel
theorem dX8_findReach_95 : decode cX8_findReach 95 = .ok (.iadd, 1) := by decide +kernel
theorem dX8_findReach_96 : decode cX8_findReach 96 = .ok (.istore 7, 2) := by decide +kernel
theorem dX8_findReach_98 : decode cX8_findReach 98 = .ok (.aload_n 0, 1) := by decide +kernel
theorem dX8_findReach_99 : decode cX8_findReach 99 = .ok (.getfield 144, 3) := by decide +kernel
theorem dX8_findReach_102 : decode cX8_findReach 102 = .ok (.aload_n 0, 1) := by decide +kernel
theorem dX8_findReach_103 : decode cX8_findReach 103 = .ok (.getfield 19, 3) := by decide +kernel
theorem dX8_findReach_106 : decode cX8_findReach 106 = .ok (.iload 5, 2) := by decide +kernel
theorem dX8_findReach_108 : decode cX8_findReach 108 = .ok (.iaload, 1) := by decide +kernel
theorem dX8_findReach_109 : decode cX8_findReach 109 = .ok (.iaload, 1) := by decide +kernel
theorem dX8_findReach_110 : decode cX8_findReach 110 = .ok (.iload 6, 2) := by decide +kernel
theorem dX8_findReach_112 : decode cX8_findReach 112 = .ok (.iadd, 1) := by decide +kernel
theorem dX8_findReach_113 : decode cX8_findReach 113 = .ok (.istore 8, 2) := by decide +kernel
theorem dX8_findReach_115 : decode cX8_findReach 115 = .ok (.iload 4, 2) := by decide +kernel
theorem dX8_findReach_117 : decode cX8_findReach 117 = .ok (.ifCond .ne 37, 3) := by decide +kernel
theorem dX8_findReach_120 : decode cX8_findReach 120 = .ok (.iload 7, 2) := by decide +kernel
theorem dX8_findReach_122 : decode cX8_findReach 122 = .ok (.aload_n 0, 1) := by decide +kernel
theorem dX8_findReach_123 : decode cX8_findReach 123 = .ok (.getfield 144, 3) := by decide +kernel
theorem dX8_findReach_126 : decode cX8_findReach 126 = .ok (.aload_n 0, 1) := by decide +kernel
theorem dX8_findReach_127 : decode cX8_findReach 127 = .ok (.getfield 19, 3) := by decide +kernel
theorem dX8_findReach_130 : decode cX8_findReach 130 = .ok (.iload 5, 2) := by decide +kernel
theorem dX8_findReach_132 : decode cX8_findReach 132 = .ok (.iaload, 1) := by decide +kernel
theorem dX8_findReach_133 : decode cX8_findReach 133 = .ok (.iaload, 1) := by decide +kernel
theorem dX8_findReach_134 : decode cX8_findReach 134 = .ok (.if_icmp .lt 20, 3) := by decide +kernel
theorem dX8_findReach_137 : decode cX8_findReach 137 = .ok (.iload 8, 2) := by decide +kernel
theorem dX8_findReach_139 : decode cX8_findReach 139 = .ok (.aload_n 0, 1) := by decide +kernel
theorem dX8_findReach_140 : decode cX8_findReach 140 = .ok (.getfield 144, 3) := by decide +kernel
theorem dX8_findReach_143 : decode cX8_findReach 143 = .ok (.aload_n 0, 1) := by decide +kernel
theorem dX8_findReach_144 : decode cX8_findReach 144 = .ok (.getfield 22, 3) := by decide +kernel
theorem dX8_findReach_147 : decode cX8_findReach 147 = .ok (.iload 5, 2) := by decide +kernel
theorem dX8_findReach_149 : decode cX8_findReach 149 = .ok (.iaload, 1) := by decide +kernel
theorem dX8_findReach_150 : decode cX8_findReach 150 = .ok (.iaload, 1) := by decide +kernel
theorem dX8_findReach_151 : decode cX8_findReach 151 = .ok (.if_icmp .ge 7, 3) := by decide +kernel
theorem dX8_findReach_154 : decode cX8_findReach 154 = .ok (.iconst 1, 1) := by decide +kernel
theorem dX8_findReach_155 : decode cX8_findReach 155 = .ok (.goto 4, 3) := by decide +kernel
theorem dX8_findReach_158 : decode cX8_findReach 158 = .ok (.iconst 0, 1) := by decide +kernel
theorem dX8_findReach_159 : decode cX8_findReach 159 = .ok (.istore 4, 2) := by decide +kernel
theorem dX8_findReach_161 : decode cX8_findReach 161 = .ok (.aload_n 0, 1) := by decide +kernel
theorem dX8_findReach_162 : decode cX8_findReach 162 = .ok (.getfield 144, 3) := by decide +kernel
theorem dX8_findReach_165 : decode cX8_findReach 165 = .ok (.aload_n 0, 1) := by decide +kernel
theorem dX8_findReach_166 : decode cX8_findReach 166 = .ok (.getfield 19, 3) := by decide +kernel
theorem dX8_findReach_169 : decode cX8_findReach 169 = .ok (.iload 5, 2) := by decide +kernel
theorem dX8_findReach_171 : decode cX8_findReach 171 = .ok (.iaload, 1) := by decide +kernel
theorem dX8_findReach_172 : decode cX8_findReach 172 = .ok (.iload 7, 2) := by decide +kernel
theorem dX8_findReach_174 : decode cX8_findReach 174 = .ok (.aload_n 0, 1) := by decide +kernel
theorem dX8_findReach_175 : decode cX8_findReach 175 = .ok (.getfield 144, 3) := by decide +kernel
theorem dX8_findReach_178 : decode cX8_findReach 178 = .ok (.aload_n 0, 1) := by decide +kernel
theorem dX8_findReach_179 : decode cX8_findReach 179 = .ok (.getfield 19, 3) := by decide +kernel
theorem dX8_findReach_182 : decode cX8_findReach 182 = .ok (.iload 5, 2) := by decide +kernel
theorem dX8_findReach_184 : decode cX8_findReach 184 = .ok (.iaload, 1) := by decide +kernel
theorem dX8_findReach_185 : decode cX8_findReach 185 = .ok (.iaload, 1) := by decide +kernel
theorem dX8_findReach_186 : decode cX8_findReach 186 = .ok (.if_icmp .ge 8, 3) := by decide +kernel
theorem dX8_findReach_189 : decode cX8_findReach 189 = .ok (.iload 7, 2) := by decide +kernel
theorem dX8_findReach_191 : decode cX8_findReach 191 = .ok (.goto 15, 3) := by decide +kernel
theorem dX8_findReach_194 : decode cX8_findReach 194 = .ok (.aload_n 0, 1) := by decide +kernel
theorem dX8_findReach_195 : decode cX8_findReach 195 = .ok (.getfield 144, 3) := by decide +kernel
theorem dX8_findReach_198 : decode cX8_findReach 198 = .ok (.aload_n 0, 1) := by decide +kernel
theorem dX8_findReach_199 : decode cX8_findReach 199 = .ok (.getfield 19, 3) := by decide +kernel
theorem dX8_findReach_202 : decode cX8_findReach 202 = .ok (.iload 5, 2) := by decide +kernel
theorem dX8_findReach_204 : decode cX8_findReach 204 = .ok (.iaload, 1) := by decide +kernel
theorem dX8_findReach_205 : decode cX8_findReach 205 = .ok (.iaload, 1) := by decide +kernel
theorem dX8_findReach_206 : decode cX8_findReach 206 = .ok (.iastore, 1) := by decide +kernel
theorem dX8_findReach_207 : decode cX8_findReach 207 = .ok (.aload_n 0, 1) := by decide +kernel
theorem dX8_findReach_208 : decode cX8_findReach 208 = .ok (.getfield 144, 3) := by decide +kernel
theorem dX8_findReach_211 : decode cX8_findReach 211 = .ok (.aload_n 0, 1) := by decide +kernel
theorem dX8_findReach_212 : decode cX8_findReach 212 = .ok (.getfield 22, 3) := by decide +kernel
theorem dX8_findReach_215 : decode cX8_findReach 215 = .ok (.iload 5, 2) := by decide +kernel
theorem dX8_findReach_217 : decode cX8_findReach 217 = .ok (.iaload, 1) := by decide +kernel
theorem dX8_findReach_218 : decode cX8_findReach 218 = .ok (.iload 8, 2) := by decide +kernel
theorem dX8_findReach_220 : decode cX8_findReach 220 = .ok (.aload_n 0, 1) := by decide +kernel
theorem dX8_findReach_221 : decode cX8_findReach 221 = .ok (.getfield 144, 3) := by decide +kernel
theorem dX8_findReach_224 : decode cX8_findReach 224 = .ok (.aload_n 0, 1) := by decide +kernel
theorem dX8_findReach_225 : decode cX8_findReach 225 = .ok (.getfield 22, 3) := by decide +kernel
theorem dX8_findReach_228 : decode cX8_findReach 228 = .ok (.iload 5, 2) := by decide +kernel
theorem dX8_findReach_230 : decode cX8_findReach 230 = .ok (.iaload, 1) := by decide +kernel
theorem dX8_findReach_231 : decode cX8_findReach 231 = .ok (.iaload, 1) := by decide +kernel
theorem dX8_findReach_232 : decode cX8_findReach 232 = .ok (.if_icmp .ge 8, 3) := by decide +kernel
theorem dX8_findReach_235 : decode cX8_findReach 235 = .ok (.iload 8, 2) := by decide +kernel
theorem dX8_findReach_237 : decode cX8_findReach 237 = .ok (.goto 15, 3) := by decide +kernel
theorem dX8_findReach_240 : decode cX8_findReach 240 = .ok (.aload_n 0, 1) := by decide +kernel
theorem dX8_findReach_241 : decode cX8_findReach 241 = .ok (.getfield 144, 3) := by decide +kernel
theorem dX8_findReach_244 : decode cX8_findReach 244 = .ok (.aload_n 0, 1) := by decide +kernel
theorem dX8_findReach_245 : decode cX8_findReach 245 = .ok (.getfield 22, 3) := by decide +kernel
theorem dX8_findReach_248 : decode cX8_findReach 248 = .ok (.iload 5, 2) := by decide +kernel
theorem dX8_findReach_250 : decode cX8_findReach 250 = .ok (.iaload, 1) := by decide +kernel
theorem dX8_findReach_251 : decode cX8_findReach 251 = .ok (.iaload, 1) := by decide +kernel
theorem dX8_findReach_252 : decode cX8_findReach 252 = .ok (.iastore, 1) := by decide +kernel
theorem dX8_findReach_253 : decode cX8_findReach 253 = .ok (.iinc 5 1, 3) := by decide +kernel
theorem dX8_findReach_256 : decode cX8_findReach 256 = .ok (.goto (-206), 3) := by decide +kernel
theorem dX8_findReach_259 : decode cX8_findReach 259 = .ok (.goto (-220), 3) := by decide +kernel
theorem dX8_findReach_262 : decode cX8_findReach 262 = .ok (.return_, 1) := by decide +kernel
theorem dX8_farOf_0 : decode cX8_farOf 0 = .ok (.aload_n 0, 1) := by decide +kernel
theorem dX8_farOf_1 : decode cX8_farOf 1 = .ok (.iload_n 1, 1) := by decide +kernel
theorem dX8_farOf_2 : decode cX8_farOf 2 = .ok (.iload_n 2, 1) := by decide +kernel
theorem dX8_farOf_3 : decode cX8_farOf 3 = .ok (.iload 4, 2) := by decide +kernel
theorem dX8_farOf_5 : decode cX8_farOf 5 = .ok (.invokevirtual 389, 3) := by decide +kernel
theorem dX8_farOf_8 : decode cX8_farOf 8 = .ok (.aload_n 0, 1) := by decide +kernel
theorem dX8_farOf_9 : decode cX8_farOf 9 = .ok (.getfield 144, 3) := by decide +kernel
theorem dX8_farOf_12 : decode cX8_farOf 12 = .ok (.iload_n 3, 1) := by decide +kernel
theorem dX8_farOf_13 : decode cX8_farOf 13 = .ok (.iaload, 1) := by decide +kernel
theorem dX8_farOf_14 : decode cX8_farOf 14 = .ok (.ldc_w 388, 3) := by decide +kernel
theorem dX8_farOf_17 : decode cX8_farOf 17 = .ok (.if_icmp .lt 7, 3) := by decide +kernel
theorem dX8_farOf_20 : decode cX8_farOf 20 = .ok (.iconst (-1), 1) := by decide +kernel
theorem dX8_farOf_21 : decode cX8_farOf 21 = .ok (.goto 9, 3) := by decide +kernel
theorem dX8_farOf_24 : decode cX8_farOf 24 = .ok (.aload_n 0, 1) := by decide +kernel
theorem dX8_farOf_25 : decode cX8_farOf 25 = .ok (.getfield 144, 3) := by decide +kernel
theorem dX8_farOf_28 : decode cX8_farOf 28 = .ok (.iload_n 3, 1) := by decide +kernel
theorem dX8_farOf_29 : decode cX8_farOf 29 = .ok (.iaload, 1) := by decide +kernel
theorem dX8_farOf_30 : decode cX8_farOf 30 = .ok (.ireturn, 1) := by decide +kernel
theorem dX8_far_0 : decode cX8_far 0 = .ok (.aload_n 0, 1) := by decide +kernel
theorem dX8_far_1 : decode cX8_far 1 = .ok (.iload_n 1, 1) := by decide +kernel
theorem dX8_far_2 : decode cX8_far 2 = .ok (.invokevirtual 330, 3) := by decide +kernel
theorem dX8_far_5 : decode cX8_far 5 = .ok (.ifCond .eq 30, 3) := by decide +kernel
theorem dX8_far_8 : decode cX8_far 8 = .ok (.aload_n 0, 1) := by decide +kernel
theorem dX8_far_9 : decode cX8_far 9 = .ok (.iload_n 2, 1) := by decide +kernel
theorem dX8_far_10 : decode cX8_far 10 = .ok (.invokevirtual 312, 3) := by decide +kernel
theorem dX8_far_13 : decode cX8_far 13 = .ok (.ifCond .eq 22, 3) := by decide +kernel
theorem dX8_far_16 : decode cX8_far 16 = .ok (.aload_n 0, 1) := by decide +kernel
theorem dX8_far_17 : decode cX8_far 17 = .ok (.iload_n 3, 1) := by decide +kernel
theorem dX8_far_18 : decode cX8_far 18 = .ok (.invokevirtual 312, 3) := by decide +kernel
theorem dX8_far_21 : decode cX8_far 21 = .ok (.ifCond .eq 14, 3) := by decide +kernel
theorem dX8_far_24 : decode cX8_far 24 = .ok (.aload_n 0, 1) := by decide +kernel
theorem dX8_far_25 : decode cX8_far 25 = .ok (.iload_n 1, 1) := by decide +kernel
theorem dX8_far_26 : decode cX8_far 26 = .ok (.iload_n 2, 1) := by decide +kernel
theorem dX8_far_27 : decode cX8_far 27 = .ok (.iload_n 3, 1) := by decide +kernel
theorem dX8_far_28 : decode cX8_far 28 = .ok (.iconst 0, 1) := by decide +kernel
theorem dX8_far_29 : decode cX8_far 29 = .ok (.invokevirtual 393, 3) := by decide +kernel
theorem dX8_far_32 : decode cX8_far 32 = .ok (.goto 6, 3) := by decide +kernel
theorem dX8_far_35 : decode cX8_far 35 = .ok (.ldc_w 316, 3) := by decide +kernel
theorem dX8_far_38 : decode cX8_far 38 = .ok (.ireturn, 1) := by decide +kernel
theorem dX8_figure_0 : decode cX8_figure 0 = .ok (.iload_n 0, 1) := by decide +kernel
theorem dX8_figure_1 : decode cX8_figure 1 = .ok (.iload_n 1, 1) := by decide +kernel
theorem dX8_figure_2 : decode cX8_figure 2 = .ok (.ifCond .ne 7, 3) := by decide +kernel
theorem dX8_figure_5 : decode cX8_figure 5 = .ok (.iconst 1, 1) := by decide +kernel
theorem dX8_figure_6 : decode cX8_figure 6 = .ok (.goto 24, 3) := by decide +kernel
theorem dX8_figure_9 : decode cX8_figure 9 = .ok (.iload_n 1, 1) := by decide +kernel
theorem dX8_figure_10 : decode cX8_figure 10 = .ok (.iconst 1, 1) := by decide +kernel
theorem dX8_figure_11 : decode cX8_figure 11 = .ok (.if_icmp .ne 7, 3) := by decide +kernel
theorem dX8_figure_14 : decode cX8_figure 14 = .ok (.iconst 3, 1) := by decide +kernel
theorem dX8_figure_15 : decode cX8_figure 15 = .ok (.goto 15, 3) := by decide +kernel
theorem dX8_figure_18 : decode cX8_figure 18 = .ok (.iload_n 1, 1) := by decide +kernel
theorem dX8_figure_19 : decode cX8_figure 19 = .ok (.iconst 2, 1) := by decide +kernel
theorem dX8_figure_20 : decode cX8_figure 20 = .ok (.if_icmp .ne 8, 3) := by decide +kernel
theorem dX8_figure_23 : decode cX8_figure 23 = .ok (.bipush 9, 2) := by decide +kernel
theorem dX8_figure_25 : decode cX8_figure 25 = .ok (.goto 5, 3) := by decide +kernel
theorem dX8_figure_28 : decode cX8_figure 28 = .ok (.bipush 27, 2) := by decide +kernel
theorem dX8_figure_30 : decode cX8_figure 30 = .ok (.idiv, 1) := by decide +kernel
theorem dX8_figure_31 : decode cX8_figure 31 = .ok (.iconst 3, 1) := by decide +kernel
theorem dX8_figure_32 : decode cX8_figure 32 = .ok (.irem, 1) := by decide +kernel
theorem dX8_figure_33 : decode cX8_figure 33 = .ok (.ireturn, 1) := by decide +kernel
theorem dX8_unit_0 : decode cX8_unit 0 = .ok (.iload_n 0, 1) := by decide +kernel
theorem dX8_unit_1 : decode cX8_unit 1 = .ok (.ifCond .ne 7, 3) := by decide +kernel
theorem dX8_unit_4 : decode cX8_unit 4 = .ok (.iconst 1, 1) := by decide +kernel
theorem dX8_unit_5 : decode cX8_unit 5 = .ok (.goto 24, 3) := by decide +kernel
theorem dX8_unit_8 : decode cX8_unit 8 = .ok (.iload_n 0, 1) := by decide +kernel
theorem dX8_unit_9 : decode cX8_unit 9 = .ok (.iconst 1, 1) := by decide +kernel
theorem dX8_unit_10 : decode cX8_unit 10 = .ok (.if_icmp .ne 7, 3) := by decide +kernel
theorem dX8_unit_13 : decode cX8_unit 13 = .ok (.iconst 3, 1) := by decide +kernel
theorem dX8_unit_14 : decode cX8_unit 14 = .ok (.goto 15, 3) := by decide +kernel
theorem dX8_unit_17 : decode cX8_unit 17 = .ok (.iload_n 0, 1) := by decide +kernel
theorem dX8_unit_18 : decode cX8_unit 18 = .ok (.iconst 2, 1) := by decide +kernel
theorem dX8_unit_19 : decode cX8_unit 19 = .ok (.if_icmp .ne 8, 3) := by decide +kernel
theorem dX8_unit_22 : decode cX8_unit 22 = .ok (.bipush 9, 2) := by decide +kernel
theorem dX8_unit_24 : decode cX8_unit 24 = .ok (.goto 5, 3) := by decide +kernel
theorem dX8_unit_27 : decode cX8_unit 27 = .ok (.bipush 27, 2) := by decide +kernel
theorem dX8_unit_29 : decode cX8_unit 29 = .ok (.ireturn, 1) := by decide +kernel
theorem dX8_carriedIn_0 : decode cX8_carriedIn 0 = .ok (.iconst 0, 1) := by decide +kernel
theorem dX8_carriedIn_1 : decode cX8_carriedIn 1 = .ok (.istore_n 2, 1) := by decide +kernel
theorem dX8_carriedIn_2 : decode cX8_carriedIn 2 = .ok (.iconst 0, 1) := by decide +kernel
theorem dX8_carriedIn_3 : decode cX8_carriedIn 3 = .ok (.istore_n 3, 1) := by decide +kernel
theorem dX8_carriedIn_4 : decode cX8_carriedIn 4 = .ok (.iload_n 3, 1) := by decide +kernel
theorem dX8_carriedIn_5 : decode cX8_carriedIn 5 = .ok (.iconst 4, 1) := by decide +kernel
theorem dX8_carriedIn_6 : decode cX8_carriedIn 6 = .ok (.if_icmp .ge 28, 3) := by decide +kernel
theorem dX8_carriedIn_9 : decode cX8_carriedIn 9 = .ok (.iload_n 2, 1) := by decide +kernel
theorem dX8_carriedIn_10 : decode cX8_carriedIn 10 = .ok (.iload_n 1, 1) := by decide +kernel
theorem dX8_carriedIn_11 : decode cX8_carriedIn 11 = .ok (.iload_n 3, 1) := by decide +kernel
theorem dX8_carriedIn_12 : decode cX8_carriedIn 12 = .ok (.invokestatic 396, 3) := by decide +kernel
theorem dX8_carriedIn_15 : decode cX8_carriedIn 15 = .ok (.iconst 1, 1) := by decide +kernel
theorem dX8_carriedIn_16 : decode cX8_carriedIn 16 = .ok (.if_icmp .ne 9, 3) := by decide +kernel
theorem dX8_carriedIn_19 : decode cX8_carriedIn 19 = .ok (.iconst 1, 1) := by decide +kernel
theorem dX8_carriedIn_20 : decode cX8_carriedIn 20 = .ok (.iload_n 3, 1) := by decide +kernel
theorem dX8_carriedIn_21 : decode cX8_carriedIn 21 = .ok (.ishl, 1) := by decide +kernel
theorem dX8_carriedIn_22 : decode cX8_carriedIn 22 = .ok (.goto 4, 3) := by decide +kernel
theorem dX8_carriedIn_25 : decode cX8_carriedIn 25 = .ok (.iconst 0, 1) := by decide +kernel
theorem dX8_carriedIn_26 : decode cX8_carriedIn 26 = .ok (.ior, 1) := by decide +kernel
theorem dX8_carriedIn_27 : decode cX8_carriedIn 27 = .ok (.istore_n 2, 1) := by decide +kernel
theorem dX8_carriedIn_28 : decode cX8_carriedIn 28 = .ok (.iinc 3 1, 3) := by decide +kernel
theorem dX8_carriedIn_31 : decode cX8_carriedIn 31 = .ok (.goto (-27), 3) := by decide +kernel
theorem dX8_carriedIn_34 : decode cX8_carriedIn 34 = .ok (.iload_n 2, 1) := by decide +kernel
theorem dX8_carriedIn_35 : decode cX8_carriedIn 35 = .ok (.ireturn, 1) := by decide +kernel
theorem dX8_laidAt_0 : decode cX8_laidAt 0 = .ok (.iload_n 1, 1) := by decide +kernel
theorem dX8_laidAt_1 : decode cX8_laidAt 1 = .ok (.istore_n 3, 1) := by decide +kernel
theorem dX8_laidAt_2 : decode cX8_laidAt 2 = .ok (.iconst 0, 1) := by decide +kernel
theorem dX8_laidAt_3 : decode cX8_laidAt 3 = .ok (.istore 4, 2) := by decide +kernel
theorem dX8_laidAt_5 : decode cX8_laidAt 5 = .ok (.iload 4, 2) := by decide +kernel
theorem dX8_laidAt_7 : decode cX8_laidAt 7 = .ok (.aload_n 0, 1) := by decide +kernel
theorem dX8_laidAt_8 : decode cX8_laidAt 8 = .ok (.getfield 190, 3) := by decide +kernel
theorem dX8_laidAt_11 : decode cX8_laidAt 11 = .ok (.if_icmp .ge 42, 3) := by decide +kernel
theorem dX8_laidAt_14 : decode cX8_laidAt 14 = .ok (.iload_n 3, 1) := by decide +kernel
theorem dX8_laidAt_15 : decode cX8_laidAt 15 = .ok (.iload_n 1, 1) := by decide +kernel
theorem dX8_laidAt_16 : decode cX8_laidAt 16 = .ok (.iload 4, 2) := by decide +kernel
theorem dX8_laidAt_18 : decode cX8_laidAt 18 = .ok (.invokestatic 396, 3) := by decide +kernel
theorem dX8_laidAt_21 : decode cX8_laidAt 21 = .ok (.iconst 1, 1) := by decide +kernel
theorem dX8_laidAt_22 : decode cX8_laidAt 22 = .ok (.if_icmp .ne 22, 3) := by decide +kernel
theorem dX8_laidAt_25 : decode cX8_laidAt 25 = .ok (.aload_n 0, 1) := by decide +kernel
theorem dX8_laidAt_26 : decode cX8_laidAt 26 = .ok (.getfield 43, 3) := by decide +kernel
theorem dX8_laidAt_29 : decode cX8_laidAt 29 = .ok (.iload 4, 2) := by decide +kernel
theorem dX8_laidAt_31 : decode cX8_laidAt 31 = .ok (.iaload, 1) := by decide +kernel
theorem dX8_laidAt_32 : decode cX8_laidAt 32 = .ok (.iload_n 2, 1) := by decide +kernel
theorem dX8_laidAt_33 : decode cX8_laidAt 33 = .ok (.if_icmp .ne 11, 3) := by decide +kernel
theorem dX8_laidAt_36 : decode cX8_laidAt 36 = .ok (.iload 4, 2) := by decide +kernel
theorem dX8_laidAt_38 : decode cX8_laidAt 38 = .ok (.invokestatic 399, 3) := by decide +kernel
theorem dX8_laidAt_41 : decode cX8_laidAt 41 = .ok (.goto 4, 3) := by decide +kernel
theorem dX8_laidAt_44 : decode cX8_laidAt 44 = .ok (.iconst 0, 1) := by decide +kernel
theorem dX8_laidAt_45 : decode cX8_laidAt 45 = .ok (.iadd, 1) := by decide +kernel
theorem dX8_laidAt_46 : decode cX8_laidAt 46 = .ok (.istore_n 3, 1) := by decide +kernel
theorem dX8_laidAt_47 : decode cX8_laidAt 47 = .ok (.iinc 4 1, 3) := by decide +kernel
theorem dX8_laidAt_50 : decode cX8_laidAt 50 = .ok (.goto (-45), 3) := by decide +kernel
theorem dX8_laidAt_53 : decode cX8_laidAt 53 = .ok (.iload_n 3, 1) := by decide +kernel
theorem dX8_laidAt_54 : decode cX8_laidAt 54 = .ok (.ireturn, 1) := by decide +kernel
theorem dX8_better_0 : decode cX8_better 0 = .ok (.iload_n 2, 1) := by decide +kernel
theorem dX8_better_1 : decode cX8_better 1 = .ok (.aload_n 0, 1) := by decide +kernel
theorem dX8_better_2 : decode cX8_better 2 = .ok (.getfield 147, 3) := by decide +kernel
theorem dX8_better_5 : decode cX8_better 5 = .ok (.iload_n 1, 1) := by decide +kernel
theorem dX8_better_6 : decode cX8_better 6 = .ok (.iaload, 1) := by decide +kernel
theorem dX8_better_7 : decode cX8_better 7 = .ok (.if_icmp .ge 7, 3) := by decide +kernel
theorem dX8_better_10 : decode cX8_better 10 = .ok (.iconst 1, 1) := by decide +kernel
theorem dX8_better_11 : decode cX8_better 11 = .ok (.goto 4, 3) := by decide +kernel
theorem dX8_better_14 : decode cX8_better 14 = .ok (.iconst 0, 1) := by decide +kernel
theorem dX8_better_15 : decode cX8_better 15 = .ok (.istore_n 3, 1) := by decide +kernel
theorem dX8_better_16 : decode cX8_better 16 = .ok (.aload_n 0, 1) := by decide +kernel
theorem dX8_better_17 : decode cX8_better 17 = .ok (.getfield 147, 3) := by decide +kernel
theorem dX8_better_20 : decode cX8_better 20 = .ok (.iload_n 1, 1) := by decide +kernel
theorem dX8_better_21 : decode cX8_better 21 = .ok (.iload_n 3, 1) := by decide +kernel
theorem dX8_better_22 : decode cX8_better 22 = .ok (.ifCond .eq 7, 3) := by decide +kernel
theorem dX8_better_25 : decode cX8_better 25 = .ok (.iload_n 2, 1) := by decide +kernel
theorem dX8_better_26 : decode cX8_better 26 = .ok (.goto 9, 3) := by decide +kernel
theorem dX8_better_29 : decode cX8_better 29 = .ok (.aload_n 0, 1) := by decide +kernel
theorem dX8_better_30 : decode cX8_better 30 = .ok (.getfield 147, 3) := by decide +kernel
theorem dX8_better_33 : decode cX8_better 33 = .ok (.iload_n 1, 1) := by decide +kernel
theorem dX8_better_34 : decode cX8_better 34 = .ok (.iaload, 1) := by decide +kernel
theorem dX8_better_35 : decode cX8_better 35 = .ok (.iastore, 1) := by decide +kernel
theorem dX8_better_36 : decode cX8_better 36 = .ok (.iload_n 3, 1) := by decide +kernel
theorem dX8_better_37 : decode cX8_better 37 = .ok (.ireturn, 1) := by decide +kernel
theorem dX8_goOn_0 : decode cX8_goOn 0 = .ok (.aload_n 0, 1) := by decide +kernel
theorem dX8_goOn_1 : decode cX8_goOn 1 = .ok (.getfield 147, 3) := by decide +kernel
theorem dX8_goOn_4 : decode cX8_goOn 4 = .ok (.bipush 81, 2) := by decide +kernel
theorem dX8_goOn_6 : decode cX8_goOn 6 = .ok (.iload_n 2, 1) := by decide +kernel
theorem dX8_goOn_7 : decode cX8_goOn 7 = .ok (.imul, 1) := by decide +kernel
theorem dX8_goOn_8 : decode cX8_goOn 8 = .ok (.iload_n 3, 1) := by decide +kernel
theorem dX8_goOn_9 : decode cX8_goOn 9 = .ok (.iadd, 1) := by decide +kernel
theorem dX8_goOn_10 : decode cX8_goOn 10 = .ok (.iaload, 1) := by decide +kernel
theorem dX8_goOn_11 : decode cX8_goOn 11 = .ok (.istore 4, 2) := by decide +kernel
theorem dX8_goOn_13 : decode cX8_goOn 13 = .ok (.aload_n 0, 1) := by decide +kernel
theorem dX8_goOn_14 : decode cX8_goOn 14 = .ok (.iload_n 3, 1) := by decide +kernel
theorem dX8_goOn_15 : decode cX8_goOn 15 = .ok (.invokevirtual 402, 3) := by decide +kernel
theorem dX8_goOn_18 : decode cX8_goOn 18 = .ok (.istore 5, 2) := by decide +kernel
theorem dX8_goOn_20 : decode cX8_goOn 20 = .ok (.iconst 0, 1) := by decide +kernel
theorem dX8_goOn_21 : decode cX8_goOn 21 = .ok (.istore 6, 2) := by decide +kernel
theorem dX8_goOn_23 : decode cX8_goOn 23 = .ok (.iconst 0, 1) := by decide +kernel
theorem dX8_goOn_24 : decode cX8_goOn 24 = .ok (.istore 7, 2) := by decide +kernel
theorem dX8_goOn_26 : decode cX8_goOn 26 = .ok (.iload 7, 2) := by decide +kernel
theorem dX8_goOn_28 : decode cX8_goOn 28 = .ok (.aload_n 0, 1) := by decide +kernel
theorem dX8_goOn_29 : decode cX8_goOn 29 = .ok (.getfield 190, 3) := by decide +kernel
theorem dX8_goOn_32 : decode cX8_goOn 32 = .ok (.if_icmp .ge 95, 3) := by decide +kernel
theorem dX8_goOn_35 : decode cX8_goOn 35 = .ok (.iload 5, 2) := by decide +kernel
theorem dX8_goOn_37 : decode cX8_goOn 37 = .ok (.invokestatic 361, 3) := by decide +kernel
theorem dX8_goOn_40 : decode cX8_goOn 40 = .ok (.iconst 2, 1) := by decide +kernel
theorem dX8_goOn_41 : decode cX8_goOn 41 = .ok (.if_icmp .ge 86, 3) := by decide +kernel
theorem dX8_goOn_44 : decode cX8_goOn 44 = .ok (.aload_n 0, 1) := by decide +kernel
theorem dX8_goOn_45 : decode cX8_goOn 45 = .ok (.getfield 77, 3) := by decide +kernel
theorem dX8_goOn_48 : decode cX8_goOn 48 = .ok (.iload 7, 2) := by decide +kernel
theorem dX8_goOn_50 : decode cX8_goOn 50 = .ok (.iaload, 1) := by decide +kernel
theorem dX8_goOn_51 : decode cX8_goOn 51 = .ok (.ifCond .ge 13, 3) := by decide +kernel
theorem dX8_goOn_54 : decode cX8_goOn 54 = .ok (.aload_n 0, 1) := by decide +kernel
theorem dX8_goOn_55 : decode cX8_goOn 55 = .ok (.getfield 40, 3) := by decide +kernel
theorem dX8_goOn_58 : decode cX8_goOn 58 = .ok (.iload 7, 2) := by decide +kernel
theorem dX8_goOn_60 : decode cX8_goOn 60 = .ok (.iaload, 1) := by decide +kernel
theorem dX8_goOn_61 : decode cX8_goOn 61 = .ok (.goto 10, 3) := by decide +kernel
theorem dX8_goOn_64 : decode cX8_goOn 64 = .ok (.aload_n 0, 1) := by decide +kernel
theorem dX8_goOn_65 : decode cX8_goOn 65 = .ok (.getfield 77, 3) := by decide +kernel
theorem dX8_goOn_68 : decode cX8_goOn 68 = .ok (.iload 7, 2) := by decide +kernel
theorem dX8_goOn_70 : decode cX8_goOn 70 = .ok (.iaload, 1) := by decide +kernel
theorem dX8_goOn_71 : decode cX8_goOn 71 = .ok (.istore 8, 2) := by decide +kernel
theorem dX8_goOn_73 : decode cX8_goOn 73 = .ok (.iload_n 3, 1) := by decide +kernel
theorem dX8_goOn_74 : decode cX8_goOn 74 = .ok (.iload 7, 2) := by decide +kernel
theorem dX8_goOn_76 : decode cX8_goOn 76 = .ok (.invokestatic 396, 3) := by decide +kernel
theorem dX8_goOn_79 : decode cX8_goOn 79 = .ok (.ifCond .ne 30, 3) := by decide +kernel
theorem dX8_goOn_82 : decode cX8_goOn 82 = .ok (.iload 8, 2) := by decide +kernel
theorem dX8_goOn_84 : decode cX8_goOn 84 = .ok (.iload_n 2, 1) := by decide +kernel
theorem dX8_goOn_85 : decode cX8_goOn 85 = .ok (.if_icmp .ne 24, 3) := by decide +kernel
theorem dX8_goOn_88 : decode cX8_goOn 88 = .ok (.aload_n 0, 1) := by decide +kernel
theorem dX8_goOn_89 : decode cX8_goOn 89 = .ok (.bipush 81, 2) := by decide +kernel
theorem dX8_goOn_91 : decode cX8_goOn 91 = .ok (.iload_n 2, 1) := by decide +kernel
theorem dX8_goOn_92 : decode cX8_goOn 92 = .ok (.imul, 1) := by decide +kernel
theorem dX8_goOn_93 : decode cX8_goOn 93 = .ok (.iload_n 3, 1) := by decide +kernel
theorem dX8_goOn_94 : decode cX8_goOn 94 = .ok (.iadd, 1) := by decide +kernel
theorem dX8_goOn_95 : decode cX8_goOn 95 = .ok (.iload 7, 2) := by decide +kernel
theorem dX8_goOn_97 : decode cX8_goOn 97 = .ok (.invokestatic 399, 3) := by decide +kernel
theorem dX8_goOn_100 : decode cX8_goOn 100 = .ok (.iadd, 1) := by decide +kernel
theorem dX8_goOn_101 : decode cX8_goOn 101 = .ok (.iload 4, 2) := by decide +kernel
theorem dX8_goOn_103 : decode cX8_goOn 103 = .ok (.invokevirtual 405, 3) := by decide +kernel
theorem dX8_goOn_106 : decode cX8_goOn 106 = .ok (.ifCond .ne 8, 3) := by decide +kernel
theorem dX8_goOn_109 : decode cX8_goOn 109 = .ok (.iload 6, 2) := by decide +kernel
theorem dX8_goOn_111 : decode cX8_goOn 111 = .ok (.ifCond .eq 7, 3) := by decide +kernel
theorem dX8_goOn_114 : decode cX8_goOn 114 = .ok (.iconst 1, 1) := by decide +kernel
theorem dX8_goOn_115 : decode cX8_goOn 115 = .ok (.goto 4, 3) := by decide +kernel
theorem dX8_goOn_118 : decode cX8_goOn 118 = .ok (.iconst 0, 1) := by decide +kernel
theorem dX8_goOn_119 : decode cX8_goOn 119 = .ok (.istore 6, 2) := by decide +kernel
theorem dX8_goOn_121 : decode cX8_goOn 121 = .ok (.iinc 7 1, 3) := by decide +kernel
theorem dX8_goOn_124 : decode cX8_goOn 124 = .ok (.goto (-98), 3) := by decide +kernel
theorem dX8_goOn_127 : decode cX8_goOn 127 = .ok (.iconst 0, 1) := by decide +kernel
theorem dX8_goOn_128 : decode cX8_goOn 128 = .ok (.istore 7, 2) := by decide +kernel
theorem dX8_goOn_130 : decode cX8_goOn 130 = .ok (.iload 7, 2) := by decide +kernel
theorem dX8_goOn_132 : decode cX8_goOn 132 = .ok (.aload_n 0, 1) := by decide +kernel
theorem dX8_goOn_133 : decode cX8_goOn 133 = .ok (.getfield 184, 3) := by decide +kernel
theorem dX8_goOn_136 : decode cX8_goOn 136 = .ok (.if_icmp .ge 80, 3) := by decide +kernel
theorem dX8_goOn_139 : decode cX8_goOn 139 = .ok (.aload_n 0, 1) := by decide +kernel
theorem dX8_goOn_140 : decode cX8_goOn 140 = .ok (.iload 7, 2) := by decide +kernel
theorem dX8_goOn_142 : decode cX8_goOn 142 = .ok (.iload_n 2, 1) := by decide +kernel
theorem dX8_goOn_143 : decode cX8_goOn 143 = .ok (.invokevirtual 349, 3) := by decide +kernel
theorem dX8_goOn_146 : decode cX8_goOn 146 = .ok (.istore 8, 2) := by decide +kernel
theorem dX8_goOn_148 : decode cX8_goOn 148 = .ok (.iload 8, 2) := by decide +kernel
theorem dX8_goOn_150 : decode cX8_goOn 150 = .ok (.ifCond .lt 60, 3) := by decide +kernel
theorem dX8_goOn_153 : decode cX8_goOn 153 = .ok (.aload_n 0, 1) := by decide +kernel
theorem dX8_goOn_154 : decode cX8_goOn 154 = .ok (.iload_n 1, 1) := by decide +kernel
theorem dX8_goOn_155 : decode cX8_goOn 155 = .ok (.iload 7, 2) := by decide +kernel
theorem dX8_goOn_157 : decode cX8_goOn 157 = .ok (.iload 5, 2) := by decide +kernel
theorem dX8_goOn_159 : decode cX8_goOn 159 = .ok (.invokevirtual 352, 3) := by decide +kernel
theorem dX8_goOn_162 : decode cX8_goOn 162 = .ok (.ifCond .eq 48, 3) := by decide +kernel
theorem dX8_goOn_165 : decode cX8_goOn 165 = .ok (.aload_n 0, 1) := by decide +kernel
theorem dX8_goOn_166 : decode cX8_goOn 166 = .ok (.bipush 81, 2) := by decide +kernel
theorem dX8_goOn_168 : decode cX8_goOn 168 = .ok (.iload 8, 2) := by decide +kernel
theorem dX8_goOn_170 : decode cX8_goOn 170 = .ok (.imul, 1) := by decide +kernel
theorem dX8_goOn_171 : decode cX8_goOn 171 = .ok (.aload_n 0, 1) := by decide +kernel
theorem dX8_goOn_172 : decode cX8_goOn 172 = .ok (.iload_n 3, 1) := by decide +kernel
theorem dX8_goOn_173 : decode cX8_goOn 173 = .ok (.iload 8, 2) := by decide +kernel
theorem dX8_goOn_175 : decode cX8_goOn 175 = .ok (.invokevirtual 408, 3) := by decide +kernel
theorem dX8_goOn_178 : decode cX8_goOn 178 = .ok (.iadd, 1) := by decide +kernel
theorem dX8_goOn_179 : decode cX8_goOn 179 = .ok (.iload 4, 2) := by decide +kernel
theorem dX8_goOn_181 : decode cX8_goOn 181 = .ok (.aload_n 0, 1) := by decide +kernel
theorem dX8_goOn_182 : decode cX8_goOn 182 = .ok (.iload_n 1, 1) := by decide +kernel
theorem dX8_goOn_183 : decode cX8_goOn 183 = .ok (.iload 7, 2) := by decide +kernel
theorem dX8_goOn_185 : decode cX8_goOn 185 = .ok (.iload 5, 2) := by decide +kernel
theorem dX8_goOn_187 : decode cX8_goOn 187 = .ok (.iconst 0, 1) := by decide +kernel
theorem dX8_goOn_188 : decode cX8_goOn 188 = .ok (.invokevirtual 357, 3) := by decide +kernel
theorem dX8_goOn_191 : decode cX8_goOn 191 = .ok (.iadd, 1) := by decide +kernel
theorem dX8_goOn_192 : decode cX8_goOn 192 = .ok (.invokevirtual 405, 3) := by decide +kernel
theorem dX8_goOn_195 : decode cX8_goOn 195 = .ok (.ifCond .ne 8, 3) := by decide +kernel
theorem dX8_goOn_198 : decode cX8_goOn 198 = .ok (.iload 6, 2) := by decide +kernel
theorem dX8_goOn_200 : decode cX8_goOn 200 = .ok (.ifCond .eq 7, 3) := by decide +kernel
theorem dX8_goOn_203 : decode cX8_goOn 203 = .ok (.iconst 1, 1) := by decide +kernel
theorem dX8_goOn_204 : decode cX8_goOn 204 = .ok (.goto 4, 3) := by decide +kernel
theorem dX8_goOn_207 : decode cX8_goOn 207 = .ok (.iconst 0, 1) := by decide +kernel
theorem dX8_goOn_208 : decode cX8_goOn 208 = .ok (.istore 6, 2) := by decide +kernel
theorem dX8_goOn_210 : decode cX8_goOn 210 = .ok (.iinc 7 1, 3) := by decide +kernel
theorem dX8_goOn_213 : decode cX8_goOn 213 = .ok (.goto (-83), 3) := by decide +kernel
theorem dX8_goOn_216 : decode cX8_goOn 216 = .ok (.iload 6, 2) := by decide +kernel
theorem dX8_goOn_218 : decode cX8_goOn 218 = .ok (.ireturn, 1) := by decide +kernel
theorem dX8_roundOf_0 : decode cX8_roundOf 0 = .ok (.bipush 80, 2) := by decide +kernel
theorem dX8_roundOf_2 : decode cX8_roundOf 2 = .ok (.istore_n 3, 1) := by decide +kernel
theorem dX8_roundOf_3 : decode cX8_roundOf 3 = .ok (.iconst 0, 1) := by decide +kernel
theorem dX8_roundOf_4 : decode cX8_roundOf 4 = .ok (.istore 4, 2) := by decide +kernel
theorem dX8_roundOf_6 : decode cX8_roundOf 6 = .ok (.iload 4, 2) := by decide +kernel
theorem dX8_roundOf_8 : decode cX8_roundOf 8 = .ok (.aload_n 0, 1) := by decide +kernel
theorem dX8_roundOf_9 : decode cX8_roundOf 9 = .ok (.getfield 190, 3) := by decide +kernel
theorem dX8_roundOf_12 : decode cX8_roundOf 12 = .ok (.if_icmp .ge 42, 3) := by decide +kernel
theorem dX8_roundOf_15 : decode cX8_roundOf 15 = .ok (.iload_n 3, 1) := by decide +kernel
theorem dX8_roundOf_16 : decode cX8_roundOf 16 = .ok (.iload_n 2, 1) := by decide +kernel
theorem dX8_roundOf_17 : decode cX8_roundOf 17 = .ok (.iload 4, 2) := by decide +kernel
theorem dX8_roundOf_19 : decode cX8_roundOf 19 = .ok (.invokestatic 339, 3) := by decide +kernel
theorem dX8_roundOf_22 : decode cX8_roundOf 22 = .ok (.ifCond .eq 23, 3) := by decide +kernel
theorem dX8_roundOf_25 : decode cX8_roundOf 25 = .ok (.aload_n 0, 1) := by decide +kernel
theorem dX8_roundOf_26 : decode cX8_roundOf 26 = .ok (.getfield 83, 3) := by decide +kernel
theorem dX8_roundOf_29 : decode cX8_roundOf 29 = .ok (.iload 4, 2) := by decide +kernel
theorem dX8_roundOf_31 : decode cX8_roundOf 31 = .ok (.baload, 1) := by decide +kernel
theorem dX8_roundOf_32 : decode cX8_roundOf 32 = .ok (.ifCond .ne 13, 3) := by decide +kernel
theorem dX8_roundOf_35 : decode cX8_roundOf 35 = .ok (.iconst 2, 1) := by decide +kernel
theorem dX8_roundOf_36 : decode cX8_roundOf 36 = .ok (.iload 4, 2) := by decide +kernel
theorem dX8_roundOf_38 : decode cX8_roundOf 38 = .ok (.invokestatic 399, 3) := by decide +kernel
theorem dX8_roundOf_41 : decode cX8_roundOf 41 = .ok (.imul, 1) := by decide +kernel
theorem dX8_roundOf_42 : decode cX8_roundOf 42 = .ok (.goto 4, 3) := by decide +kernel
theorem dX8_roundOf_45 : decode cX8_roundOf 45 = .ok (.iconst 0, 1) := by decide +kernel
theorem dX8_roundOf_46 : decode cX8_roundOf 46 = .ok (.isub, 1) := by decide +kernel
theorem dX8_roundOf_47 : decode cX8_roundOf 47 = .ok (.istore_n 3, 1) := by decide +kernel
theorem dX8_roundOf_48 : decode cX8_roundOf 48 = .ok (.iinc 4 1, 3) := by decide +kernel
theorem dX8_roundOf_51 : decode cX8_roundOf 51 = .ok (.goto (-45), 3) := by decide +kernel
theorem dX8_roundOf_54 : decode cX8_roundOf 54 = .ok (.iload_n 3, 1) := by decide +kernel
theorem dX8_roundOf_55 : decode cX8_roundOf 55 = .ok (.bipush 80, 2) := by decide +kernel
theorem dX8_roundOf_57 : decode cX8_roundOf 57 = .ok (.if_icmp .ne 5, 3) := by decide +kernel
theorem dX8_roundOf_60 : decode cX8_roundOf 60 = .ok (.iconst 0, 1) := by decide +kernel
theorem dX8_roundOf_61 : decode cX8_roundOf 61 = .ok (.ireturn, 1) := by decide +kernel
theorem dX8_roundOf_62 : decode cX8_roundOf 62 = .ok (.iconst 0, 1) := by decide +kernel
theorem dX8_roundOf_63 : decode cX8_roundOf 63 = .ok (.istore 4, 2) := by decide +kernel
theorem dX8_roundOf_65 : decode cX8_roundOf 65 = .ok (.iload 4, 2) := by decide +kernel
theorem dX8_roundOf_67 : decode cX8_roundOf 67 = .ok (.sipush 648, 3) := by decide +kernel
theorem dX8_roundOf_70 : decode cX8_roundOf 70 = .ok (.if_icmp .ge 19, 3) := by decide +kernel
theorem dX8_roundOf_73 : decode cX8_roundOf 73 = .ok (.aload_n 0, 1) := by decide +kernel
theorem dX8_roundOf_74 : decode cX8_roundOf 74 = .ok (.getfield 147, 3) := by decide +kernel
theorem dX8_roundOf_77 : decode cX8_roundOf 77 = .ok (.iload 4, 2) := by decide +kernel
theorem dX8_roundOf_79 : decode cX8_roundOf 79 = .ok (.ldc_w 388, 3) := by decide +kernel
theorem dX8_roundOf_82 : decode cX8_roundOf 82 = .ok (.iastore, 1) := by decide +kernel
theorem dX8_roundOf_83 : decode cX8_roundOf 83 = .ok (.iinc 4 1, 3) := by decide +kernel
theorem dX8_roundOf_86 : decode cX8_roundOf 86 = .ok (.goto (-21), 3) := by decide +kernel
theorem dX8_roundOf_89 : decode cX8_roundOf 89 = .ok (.aload_n 0, 1) := by decide +kernel
theorem dX8_roundOf_90 : decode cX8_roundOf 90 = .ok (.getfield 147, 3) := by decide +kernel
theorem dX8_roundOf_93 : decode cX8_roundOf 93 = .ok (.bipush 81, 2) := by decide +kernel
theorem dX8_roundOf_95 : decode cX8_roundOf 95 = .ok (.aload_n 0, 1) := by decide +kernel
theorem dX8_roundOf_96 : decode cX8_roundOf 96 = .ok (.getfield 65, 3) := by decide +kernel
theorem dX8_roundOf_99 : decode cX8_roundOf 99 = .ok (.iload_n 1, 1) := by decide +kernel
theorem dX8_roundOf_100 : decode cX8_roundOf 100 = .ok (.iaload, 1) := by decide +kernel
theorem dX8_roundOf_101 : decode cX8_roundOf 101 = .ok (.ifCond .ge 12, 3) := by decide +kernel
theorem dX8_roundOf_104 : decode cX8_roundOf 104 = .ok (.aload_n 0, 1) := by decide +kernel
theorem dX8_roundOf_105 : decode cX8_roundOf 105 = .ok (.getfield 71, 3) := by decide +kernel
theorem dX8_roundOf_108 : decode cX8_roundOf 108 = .ok (.iload_n 1, 1) := by decide +kernel
theorem dX8_roundOf_109 : decode cX8_roundOf 109 = .ok (.iaload, 1) := by decide +kernel
theorem dX8_roundOf_110 : decode cX8_roundOf 110 = .ok (.goto 9, 3) := by decide +kernel
theorem dX8_roundOf_113 : decode cX8_roundOf 113 = .ok (.aload_n 0, 1) := by decide +kernel
theorem dX8_roundOf_114 : decode cX8_roundOf 114 = .ok (.getfield 65, 3) := by decide +kernel
theorem dX8_roundOf_117 : decode cX8_roundOf 117 = .ok (.iload_n 1, 1) := by decide +kernel
theorem dX8_roundOf_118 : decode cX8_roundOf 118 = .ok (.iaload, 1) := by decide +kernel
theorem dX8_roundOf_119 : decode cX8_roundOf 119 = .ok (.imul, 1) := by decide +kernel
theorem dX8_roundOf_120 : decode cX8_roundOf 120 = .ok (.iload_n 3, 1) := by decide +kernel
theorem dX8_roundOf_121 : decode cX8_roundOf 121 = .ok (.iadd, 1) := by decide +kernel
theorem dX8_roundOf_122 : decode cX8_roundOf 122 = .ok (.aload_n 0, 1) := by decide +kernel
theorem dX8_roundOf_123 : decode cX8_roundOf 123 = .ok (.getfield 74, 3) := by decide +kernel
theorem dX8_roundOf_126 : decode cX8_roundOf 126 = .ok (.iload_n 1, 1) := by decide +kernel
theorem dX8_roundOf_127 : decode cX8_roundOf 127 = .ok (.iaload, 1) := by decide +kernel
theorem dX8_roundOf_128 : decode cX8_roundOf 128 = .ok (.iastore, 1) := by decide +kernel
theorem dX8_roundOf_129 : decode cX8_roundOf 129 = .ok (.iconst 1, 1) := by decide +kernel
theorem dX8_roundOf_130 : decode cX8_roundOf 130 = .ok (.istore 4, 2) := by decide +kernel
theorem dX8_roundOf_132 : decode cX8_roundOf 132 = .ok (.iload 4, 2) := by decide +kernel
theorem dX8_roundOf_134 : decode cX8_roundOf 134 = .ok (.ifCond .eq 73, 3) := by decide +kernel
theorem dX8_roundOf_137 : decode cX8_roundOf 137 = .ok (.iconst 0, 1) := by decide +kernel
theorem dX8_roundOf_138 : decode cX8_roundOf 138 = .ok (.istore 4, 2) := by decide +kernel
theorem dX8_roundOf_140 : decode cX8_roundOf 140 = .ok (.iconst 0, 1) := by decide +kernel
theorem dX8_roundOf_141 : decode cX8_roundOf 141 = .ok (.istore 5, 2) := by decide +kernel
theorem dX8_roundOf_143 : decode cX8_roundOf 143 = .ok (.iload 5, 2) := by decide +kernel
theorem dX8_roundOf_145 : decode cX8_roundOf 145 = .ok (.bipush 81, 2) := by decide +kernel
theorem dX8_roundOf_147 : decode cX8_roundOf 147 = .ok (.aload_n 0, 1) := by decide +kernel
theorem dX8_roundOf_148 : decode cX8_roundOf 148 = .ok (.getfield 177, 3) := by decide +kernel
theorem dX8_roundOf_151 : decode cX8_roundOf 151 = .ok (.imul, 1) := by decide +kernel
theorem dX8_roundOf_152 : decode cX8_roundOf 152 = .ok (.if_icmp .ge 52, 3) := by decide +kernel
theorem dX8_roundOf_155 : decode cX8_roundOf 155 = .ok (.aload_n 0, 1) := by decide +kernel
theorem dX8_roundOf_156 : decode cX8_roundOf 156 = .ok (.getfield 147, 3) := by decide +kernel
theorem dX8_roundOf_159 : decode cX8_roundOf 159 = .ok (.iload 5, 2) := by decide +kernel
theorem dX8_roundOf_161 : decode cX8_roundOf 161 = .ok (.iaload, 1) := by decide +kernel
theorem dX8_roundOf_162 : decode cX8_roundOf 162 = .ok (.ldc_w 388, 3) := by decide +kernel
theorem dX8_roundOf_165 : decode cX8_roundOf 165 = .ok (.if_icmp .ge 21, 3) := by decide +kernel
theorem dX8_roundOf_168 : decode cX8_roundOf 168 = .ok (.aload_n 0, 1) := by decide +kernel
theorem dX8_roundOf_169 : decode cX8_roundOf 169 = .ok (.iload_n 1, 1) := by decide +kernel
theorem dX8_roundOf_170 : decode cX8_roundOf 170 = .ok (.iload 5, 2) := by decide +kernel
theorem dX8_roundOf_172 : decode cX8_roundOf 172 = .ok (.bipush 81, 2) := by decide +kernel
theorem dX8_roundOf_174 : decode cX8_roundOf 174 = .ok (.idiv, 1) := by decide +kernel
theorem dX8_roundOf_175 : decode cX8_roundOf 175 = .ok (.iload 5, 2) := by decide +kernel
theorem dX8_roundOf_177 : decode cX8_roundOf 177 = .ok (.bipush 81, 2) := by decide +kernel
theorem dX8_roundOf_179 : decode cX8_roundOf 179 = .ok (.irem, 1) := by decide +kernel
theorem dX8_roundOf_180 : decode cX8_roundOf 180 = .ok (.invokevirtual 411, 3) := by decide +kernel
theorem dX8_roundOf_183 : decode cX8_roundOf 183 = .ok (.ifCond .ne 8, 3) := by decide +kernel
theorem dX8_roundOf_186 : decode cX8_roundOf 186 = .ok (.iload 4, 2) := by decide +kernel
theorem dX8_roundOf_188 : decode cX8_roundOf 188 = .ok (.ifCond .eq 7, 3) := by decide +kernel
theorem dX8_roundOf_191 : decode cX8_roundOf 191 = .ok (.iconst 1, 1) := by decide +kernel
theorem dX8_roundOf_192 : decode cX8_roundOf 192 = .ok (.goto 4, 3) := by decide +kernel
theorem dX8_roundOf_195 : decode cX8_roundOf 195 = .ok (.iconst 0, 1) := by decide +kernel
theorem dX8_roundOf_196 : decode cX8_roundOf 196 = .ok (.istore 4, 2) := by decide +kernel
theorem dX8_roundOf_198 : decode cX8_roundOf 198 = .ok (.iinc 5 1, 3) := by decide +kernel
theorem dX8_roundOf_201 : decode cX8_roundOf 201 = .ok (.goto (-58), 3) := by decide +kernel
theorem dX8_roundOf_204 : decode cX8_roundOf 204 = .ok (.goto (-72), 3) := by decide +kernel
theorem dX8_roundOf_207 : decode cX8_roundOf 207 = .ok (.ldc_w 388, 3) := by decide +kernel
theorem dX8_roundOf_210 : decode cX8_roundOf 210 = .ok (.istore 5, 2) := by decide +kernel
theorem dX8_roundOf_212 : decode cX8_roundOf 212 = .ok (.iconst 0, 1) := by decide +kernel
theorem dX8_roundOf_213 : decode cX8_roundOf 213 = .ok (.istore 6, 2) := by decide +kernel
theorem dX8_roundOf_215 : decode cX8_roundOf 215 = .ok (.iload 6, 2) := by decide +kernel
theorem dX8_roundOf_217 : decode cX8_roundOf 217 = .ok (.aload_n 0, 1) := by decide +kernel
theorem dX8_roundOf_218 : decode cX8_roundOf 218 = .ok (.getfield 177, 3) := by decide +kernel
theorem dX8_roundOf_221 : decode cX8_roundOf 221 = .ok (.if_icmp .ge 47, 3) := by decide +kernel
theorem dX8_roundOf_224 : decode cX8_roundOf 224 = .ok (.aload_n 0, 1) := by decide +kernel
theorem dX8_roundOf_225 : decode cX8_roundOf 225 = .ok (.getfield 147, 3) := by decide +kernel
theorem dX8_roundOf_228 : decode cX8_roundOf 228 = .ok (.bipush 81, 2) := by decide +kernel
theorem dX8_roundOf_230 : decode cX8_roundOf 230 = .ok (.iload 6, 2) := by decide +kernel
theorem dX8_roundOf_232 : decode cX8_roundOf 232 = .ok (.imul, 1) := by decide +kernel
theorem dX8_roundOf_233 : decode cX8_roundOf 233 = .ok (.bipush 80, 2) := by decide +kernel
theorem dX8_roundOf_235 : decode cX8_roundOf 235 = .ok (.iadd, 1) := by decide +kernel
theorem dX8_roundOf_236 : decode cX8_roundOf 236 = .ok (.iaload, 1) := by decide +kernel
theorem dX8_roundOf_237 : decode cX8_roundOf 237 = .ok (.iload 5, 2) := by decide +kernel
theorem dX8_roundOf_239 : decode cX8_roundOf 239 = .ok (.if_icmp .ge 19, 3) := by decide +kernel
theorem dX8_roundOf_242 : decode cX8_roundOf 242 = .ok (.aload_n 0, 1) := by decide +kernel
theorem dX8_roundOf_243 : decode cX8_roundOf 243 = .ok (.getfield 147, 3) := by decide +kernel
theorem dX8_roundOf_246 : decode cX8_roundOf 246 = .ok (.bipush 81, 2) := by decide +kernel
theorem dX8_roundOf_248 : decode cX8_roundOf 248 = .ok (.iload 6, 2) := by decide +kernel
theorem dX8_roundOf_250 : decode cX8_roundOf 250 = .ok (.imul, 1) := by decide +kernel
theorem dX8_roundOf_251 : decode cX8_roundOf 251 = .ok (.bipush 80, 2) := by decide +kernel
theorem dX8_roundOf_253 : decode cX8_roundOf 253 = .ok (.iadd, 1) := by decide +kernel
theorem dX8_roundOf_254 : decode cX8_roundOf 254 = .ok (.iaload, 1) := by decide +kernel
theorem dX8_roundOf_255 : decode cX8_roundOf 255 = .ok (.goto 5, 3) := by decide +kernel
theorem dX8_roundOf_258 : decode cX8_roundOf 258 = .ok (.iload 5, 2) := by decide +kernel
theorem dX8_roundOf_260 : decode cX8_roundOf 260 = .ok (.istore 5, 2) := by decide +kernel
theorem dX8_roundOf_262 : decode cX8_roundOf 262 = .ok (.iinc 6 1, 3) := by decide +kernel
theorem dX8_roundOf_265 : decode cX8_roundOf 265 = .ok (.goto (-50), 3) := by decide +kernel
theorem dX8_roundOf_268 : decode cX8_roundOf 268 = .ok (.iload 5, 2) := by decide +kernel
theorem dX8_roundOf_270 : decode cX8_roundOf 270 = .ok (.ireturn, 1) := by decide +kernel
theorem dX8_round_0 : decode cX8_round 0 = .ok (.aload_n 0, 1) := by decide +kernel
theorem dX8_round_1 : decode cX8_round 1 = .ok (.iload_n 1, 1) := by decide +kernel
theorem dX8_round_2 : decode cX8_round 2 = .ok (.invokevirtual 330, 3) := by decide +kernel
theorem dX8_round_5 : decode cX8_round 5 = .ok (.ifCond .eq 21, 3) := by decide +kernel
theorem dX8_round_8 : decode cX8_round 8 = .ok (.iload_n 2, 1) := by decide +kernel
theorem dX8_round_9 : decode cX8_round 9 = .ok (.i2l, 1) := by decide +kernel
theorem dX8_round_10 : decode cX8_round 10 = .ok (.lconst 0, 1) := by decide +kernel
theorem dX8_round_11 : decode cX8_round 11 = .ok (.iconst 1, 1) := by decide +kernel
theorem dX8_round_12 : decode cX8_round 12 = .ok (.aload_n 0, 1) := by decide +kernel
theorem dX8_round_13 : decode cX8_round 13 = .ok (.getfield 190, 3) := by decide +kernel
theorem dX8_round_16 : decode cX8_round 16 = .ok (.ishl, 1) := by decide +kernel
theorem dX8_round_17 : decode cX8_round 17 = .ok (.iconst 1, 1) := by decide +kernel
theorem dX8_round_18 : decode cX8_round 18 = .ok (.isub, 1) := by decide +kernel
theorem dX8_round_19 : decode cX8_round 19 = .ok (.i2l, 1) := by decide +kernel
theorem dX8_round_20 : decode cX8_round 20 = .ok (.invokestatic 180, 3) := by decide +kernel
theorem dX8_round_23 : decode cX8_round 23 = .ok (.ifCond .ne 7, 3) := by decide +kernel
theorem dX8_round_26 : decode cX8_round 26 = .ok (.ldc_w 316, 3) := by decide +kernel
theorem dX8_round_29 : decode cX8_round 29 = .ok (.ireturn, 1) := by decide +kernel
theorem dX8_round_30 : decode cX8_round 30 = .ok (.aload_n 0, 1) := by decide +kernel
theorem dX8_round_31 : decode cX8_round 31 = .ok (.iload_n 1, 1) := by decide +kernel
theorem dX8_round_32 : decode cX8_round 32 = .ok (.iload_n 2, 1) := by decide +kernel
theorem dX8_round_33 : decode cX8_round 33 = .ok (.invokevirtual 414, 3) := by decide +kernel
theorem dX8_round_36 : decode cX8_round 36 = .ok (.istore_n 3, 1) := by decide +kernel
theorem dX8_round_37 : decode cX8_round 37 = .ok (.iload_n 3, 1) := by decide +kernel
theorem dX8_round_38 : decode cX8_round 38 = .ok (.ldc_w 388, 3) := by decide +kernel
theorem dX8_round_41 : decode cX8_round 41 = .ok (.if_icmp .lt 7, 3) := by decide +kernel
theorem dX8_round_44 : decode cX8_round 44 = .ok (.iconst (-1), 1) := by decide +kernel
theorem dX8_round_45 : decode cX8_round 45 = .ok (.goto 4, 3) := by decide +kernel
theorem dX8_round_48 : decode cX8_round 48 = .ok (.iload_n 3, 1) := by decide +kernel
theorem dX8_round_49 : decode cX8_round 49 = .ok (.ireturn, 1) := by decide +kernel
theorem dX8_longestBy_0 : decode cX8_longestBy 0 = .ok (.iload_n 1, 1) := by decide +kernel
theorem dX8_longestBy_1 : decode cX8_longestBy 1 = .ok (.istore_n 2, 1) := by decide +kernel
theorem dX8_longestBy_2 : decode cX8_longestBy 2 = .ok (.aload_n 0, 1) := by decide +kernel
theorem dX8_longestBy_3 : decode cX8_longestBy 3 = .ok (.getfield 190, 3) := by decide +kernel
theorem dX8_longestBy_6 : decode cX8_longestBy 6 = .ok (.iconst 1, 1) := by decide +kernel
theorem dX8_longestBy_7 : decode cX8_longestBy 7 = .ok (.isub, 1) := by decide +kernel
theorem dX8_longestBy_8 : decode cX8_longestBy 8 = .ok (.istore_n 3, 1) := by decide +kernel
theorem dX8_longestBy_9 : decode cX8_longestBy 9 = .ok (.iload_n 3, 1) := by decide +kernel
theorem dX8_longestBy_10 : decode cX8_longestBy 10 = .ok (.ifCond .lt 54, 3) := by decide +kernel
theorem dX8_longestBy_13 : decode cX8_longestBy 13 = .ok (.aload_n 0, 1) := by decide +kernel
theorem dX8_longestBy_14 : decode cX8_longestBy 14 = .ok (.getfield 156, 3) := by decide +kernel
theorem dX8_longestBy_17 : decode cX8_longestBy 17 = .ok (.iload_n 3, 1) := by decide +kernel
theorem dX8_longestBy_18 : decode cX8_longestBy 18 = .ok (.aload_n 0, 1) := by decide +kernel
theorem dX8_longestBy_19 : decode cX8_longestBy 19 = .ok (.getfield 83, 3) := by decide +kernel
theorem dX8_longestBy_22 : decode cX8_longestBy 22 = .ok (.iload_n 3, 1) := by decide +kernel
theorem dX8_longestBy_23 : decode cX8_longestBy 23 = .ok (.baload, 1) := by decide +kernel
theorem dX8_longestBy_24 : decode cX8_longestBy 24 = .ok (.ifCond .eq 7, 3) := by decide +kernel
theorem dX8_longestBy_27 : decode cX8_longestBy 27 = .ok (.iconst (-1), 1) := by decide +kernel
theorem dX8_longestBy_28 : decode cX8_longestBy 28 = .ok (.goto 9, 3) := by decide +kernel
theorem dX8_longestBy_31 : decode cX8_longestBy 31 = .ok (.iload_n 2, 1) := by decide +kernel
theorem dX8_longestBy_32 : decode cX8_longestBy 32 = .ok (.aload_n 0, 1) := by decide +kernel
theorem dX8_longestBy_33 : decode cX8_longestBy 33 = .ok (.getfield 187, 3) := by decide +kernel
theorem dX8_longestBy_36 : decode cX8_longestBy 36 = .ok (.irem, 1) := by decide +kernel
theorem dX8_longestBy_37 : decode cX8_longestBy 37 = .ok (.iastore, 1) := by decide +kernel
theorem dX8_longestBy_38 : decode cX8_longestBy 38 = .ok (.iload_n 2, 1) := by decide +kernel
theorem dX8_longestBy_39 : decode cX8_longestBy 39 = .ok (.aload_n 0, 1) := by decide +kernel
theorem dX8_longestBy_40 : decode cX8_longestBy 40 = .ok (.getfield 83, 3) := by decide +kernel
theorem dX8_longestBy_43 : decode cX8_longestBy 43 = .ok (.iload_n 3, 1) := by decide +kernel
theorem dX8_longestBy_44 : decode cX8_longestBy 44 = .ok (.baload, 1) := by decide +kernel
theorem dX8_longestBy_45 : decode cX8_longestBy 45 = .ok (.ifCond .eq 7, 3) := by decide +kernel
theorem dX8_longestBy_48 : decode cX8_longestBy 48 = .ok (.iconst 1, 1) := by decide +kernel
theorem dX8_longestBy_49 : decode cX8_longestBy 49 = .ok (.goto 7, 3) := by decide +kernel
theorem dX8_longestBy_52 : decode cX8_longestBy 52 = .ok (.aload_n 0, 1) := by decide +kernel
theorem dX8_longestBy_53 : decode cX8_longestBy 53 = .ok (.getfield 187, 3) := by decide +kernel
theorem dX8_longestBy_56 : decode cX8_longestBy 56 = .ok (.idiv, 1) := by decide +kernel
theorem dX8_longestBy_57 : decode cX8_longestBy 57 = .ok (.istore_n 2, 1) := by decide +kernel
theorem dX8_longestBy_58 : decode cX8_longestBy 58 = .ok (.iinc 3 (-1), 3) := by decide +kernel
theorem dX8_longestBy_61 : decode cX8_longestBy 61 = .ok (.goto (-52), 3) := by decide +kernel
theorem dX8_longestBy_64 : decode cX8_longestBy 64 = .ok (.iconst 0, 1) := by decide +kernel
theorem dX8_longestBy_65 : decode cX8_longestBy 65 = .ok (.istore_n 3, 1) := by decide +kernel
theorem dX8_longestBy_66 : decode cX8_longestBy 66 = .ok (.iconst 0, 1) := by decide +kernel
theorem dX8_longestBy_67 : decode cX8_longestBy 67 = .ok (.istore 4, 2) := by decide +kernel
theorem dX8_longestBy_69 : decode cX8_longestBy 69 = .ok (.iload 4, 2) := by decide +kernel
theorem dX8_longestBy_71 : decode cX8_longestBy 71 = .ok (.aload_n 0, 1) := by decide +kernel
theorem dX8_longestBy_72 : decode cX8_longestBy 72 = .ok (.getfield 187, 3) := by decide +kernel
theorem dX8_longestBy_75 : decode cX8_longestBy 75 = .ok (.if_icmp .ge 90, 3) := by decide +kernel
theorem dX8_longestBy_78 : decode cX8_longestBy 78 = .ok (.iconst 0, 1) := by decide +kernel
theorem dX8_longestBy_79 : decode cX8_longestBy 79 = .ok (.istore 5, 2) := by decide +kernel
theorem dX8_longestBy_81 : decode cX8_longestBy 81 = .ok (.iconst 0, 1) := by decide +kernel
theorem dX8_longestBy_82 : decode cX8_longestBy 82 = .ok (.istore 6, 2) := by decide +kernel
theorem dX8_longestBy_84 : decode cX8_longestBy 84 = .ok (.iload 6, 2) := by decide +kernel
theorem dX8_longestBy_86 : decode cX8_longestBy 86 = .ok (.aload_n 0, 1) := by decide +kernel
theorem dX8_longestBy_87 : decode cX8_longestBy 87 = .ok (.getfield 190, 3) := by decide +kernel
theorem dX8_longestBy_90 : decode cX8_longestBy 90 = .ok (.if_icmp .ge 34, 3) := by decide +kernel
theorem dX8_longestBy_93 : decode cX8_longestBy 93 = .ok (.iload 5, 2) := by decide +kernel
theorem dX8_longestBy_95 : decode cX8_longestBy 95 = .ok (.aload_n 0, 1) := by decide +kernel
theorem dX8_longestBy_96 : decode cX8_longestBy 96 = .ok (.getfield 156, 3) := by decide +kernel
theorem dX8_longestBy_99 : decode cX8_longestBy 99 = .ok (.iload 6, 2) := by decide +kernel
theorem dX8_longestBy_101 : decode cX8_longestBy 101 = .ok (.iaload, 1) := by decide +kernel
theorem dX8_longestBy_102 : decode cX8_longestBy 102 = .ok (.iload 4, 2) := by decide +kernel
theorem dX8_longestBy_104 : decode cX8_longestBy 104 = .ok (.if_icmp .ne 10, 3) := by decide +kernel
theorem dX8_longestBy_107 : decode cX8_longestBy 107 = .ok (.iconst 1, 1) := by decide +kernel
theorem dX8_longestBy_108 : decode cX8_longestBy 108 = .ok (.iload 6, 2) := by decide +kernel
theorem dX8_longestBy_110 : decode cX8_longestBy 110 = .ok (.ishl, 1) := by decide +kernel
theorem dX8_longestBy_111 : decode cX8_longestBy 111 = .ok (.goto 4, 3) := by decide +kernel
theorem dX8_longestBy_114 : decode cX8_longestBy 114 = .ok (.iconst 0, 1) := by decide +kernel
theorem dX8_longestBy_115 : decode cX8_longestBy 115 = .ok (.ior, 1) := by decide +kernel
theorem dX8_longestBy_116 : decode cX8_longestBy 116 = .ok (.istore 5, 2) := by decide +kernel
theorem dX8_longestBy_118 : decode cX8_longestBy 118 = .ok (.iinc 6 1, 3) := by decide +kernel
theorem dX8_longestBy_121 : decode cX8_longestBy 121 = .ok (.goto (-37), 3) := by decide +kernel
theorem dX8_longestBy_124 : decode cX8_longestBy 124 = .ok (.aload_n 0, 1) := by decide +kernel
theorem dX8_longestBy_125 : decode cX8_longestBy 125 = .ok (.getfield 150, 3) := by decide +kernel
theorem dX8_longestBy_128 : decode cX8_longestBy 128 = .ok (.bipush 16, 2) := by decide +kernel
theorem dX8_longestBy_130 : decode cX8_longestBy 130 = .ok (.iload 4, 2) := by decide +kernel
theorem dX8_longestBy_132 : decode cX8_longestBy 132 = .ok (.imul, 1) := by decide +kernel
theorem dX8_longestBy_133 : decode cX8_longestBy 133 = .ok (.iload 5, 2) := by decide +kernel
theorem dX8_longestBy_135 : decode cX8_longestBy 135 = .ok (.iadd, 1) := by decide +kernel
theorem dX8_longestBy_136 : decode cX8_longestBy 136 = .ok (.iaload, 1) := by decide +kernel
theorem dX8_longestBy_137 : decode cX8_longestBy 137 = .ok (.iload_n 3, 1) := by decide +kernel
theorem dX8_longestBy_138 : decode cX8_longestBy 138 = .ok (.if_icmp .le 19, 3) := by decide +kernel
theorem dX8_longestBy_141 : decode cX8_longestBy 141 = .ok (.aload_n 0, 1) := by decide +kernel
theorem dX8_longestBy_142 : decode cX8_longestBy 142 = .ok (.getfield 150, 3) := by decide +kernel
theorem dX8_longestBy_145 : decode cX8_longestBy 145 = .ok (.bipush 16, 2) := by decide +kernel
theorem dX8_longestBy_147 : decode cX8_longestBy 147 = .ok (.iload 4, 2) := by decide +kernel
theorem dX8_longestBy_149 : decode cX8_longestBy 149 = .ok (.imul, 1) := by decide +kernel
theorem dX8_longestBy_150 : decode cX8_longestBy 150 = .ok (.iload 5, 2) := by decide +kernel
theorem dX8_longestBy_152 : decode cX8_longestBy 152 = .ok (.iadd, 1) := by decide +kernel
theorem dX8_longestBy_153 : decode cX8_longestBy 153 = .ok (.iaload, 1) := by decide +kernel
theorem dX8_longestBy_154 : decode cX8_longestBy 154 = .ok (.goto 4, 3) := by decide +kernel
theorem dX8_longestBy_157 : decode cX8_longestBy 157 = .ok (.iload_n 3, 1) := by decide +kernel
theorem dX8_longestBy_158 : decode cX8_longestBy 158 = .ok (.istore_n 3, 1) := by decide +kernel
theorem dX8_longestBy_159 : decode cX8_longestBy 159 = .ok (.iinc 4 1, 3) := by decide +kernel
theorem dX8_longestBy_162 : decode cX8_longestBy 162 = .ok (.goto (-93), 3) := by decide +kernel
theorem dX8_longestBy_165 : decode cX8_longestBy 165 = .ok (.iload_n 3, 1) := by decide +kernel
theorem dX8_longestBy_166 : decode cX8_longestBy 166 = .ok (.ireturn, 1) := by decide +kernel
theorem dX8_findDealt_0 : decode cX8_findDealt 0 = .ok (.iconst 1, 1) := by decide +kernel
theorem dX8_findDealt_1 : decode cX8_findDealt 1 = .ok (.istore_n 1, 1) := by decide +kernel
theorem dX8_findDealt_2 : decode cX8_findDealt 2 = .ok (.iconst 0, 1) := by decide +kernel
theorem dX8_findDealt_3 : decode cX8_findDealt 3 = .ok (.istore_n 2, 1) := by decide +kernel
theorem dX8_findDealt_4 : decode cX8_findDealt 4 = .ok (.iload_n 2, 1) := by decide +kernel
theorem dX8_findDealt_5 : decode cX8_findDealt 5 = .ok (.aload_n 0, 1) := by decide +kernel
theorem dX8_findDealt_6 : decode cX8_findDealt 6 = .ok (.getfield 190, 3) := by decide +kernel
theorem dX8_findDealt_9 : decode cX8_findDealt 9 = .ok (.if_icmp .ge 29, 3) := by decide +kernel
theorem dX8_findDealt_12 : decode cX8_findDealt 12 = .ok (.iload_n 1, 1) := by decide +kernel
theorem dX8_findDealt_13 : decode cX8_findDealt 13 = .ok (.aload_n 0, 1) := by decide +kernel
theorem dX8_findDealt_14 : decode cX8_findDealt 14 = .ok (.getfield 83, 3) := by decide +kernel
theorem dX8_findDealt_17 : decode cX8_findDealt 17 = .ok (.iload_n 2, 1) := by decide +kernel
theorem dX8_findDealt_18 : decode cX8_findDealt 18 = .ok (.baload, 1) := by decide +kernel
theorem dX8_findDealt_19 : decode cX8_findDealt 19 = .ok (.ifCond .eq 7, 3) := by decide +kernel
theorem dX8_findDealt_22 : decode cX8_findDealt 22 = .ok (.iconst 1, 1) := by decide +kernel
theorem dX8_findDealt_23 : decode cX8_findDealt 23 = .ok (.goto 7, 3) := by decide +kernel
theorem dX8_findDealt_26 : decode cX8_findDealt 26 = .ok (.aload_n 0, 1) := by decide +kernel
theorem dX8_findDealt_27 : decode cX8_findDealt 27 = .ok (.getfield 187, 3) := by decide +kernel
theorem dX8_findDealt_30 : decode cX8_findDealt 30 = .ok (.imul, 1) := by decide +kernel
theorem dX8_findDealt_31 : decode cX8_findDealt 31 = .ok (.istore_n 1, 1) := by decide +kernel
theorem dX8_findDealt_32 : decode cX8_findDealt 32 = .ok (.iinc 2 1, 3) := by decide +kernel
theorem dX8_findDealt_35 : decode cX8_findDealt 35 = .ok (.goto (-31), 3) := by decide +kernel
theorem dX8_findDealt_38 : decode cX8_findDealt 38 = .ok (.iconst 0, 1) := by decide +kernel
theorem dX8_findDealt_39 : decode cX8_findDealt 39 = .ok (.istore_n 2, 1) := by decide +kernel
theorem dX8_findDealt_40 : decode cX8_findDealt 40 = .ok (.iload_n 2, 1) := by decide +kernel
theorem dX8_findDealt_41 : decode cX8_findDealt 41 = .ok (.aload_n 0, 1) := by decide +kernel
theorem dX8_findDealt_42 : decode cX8_findDealt 42 = .ok (.getfield 187, 3) := by decide +kernel
theorem dX8_findDealt_45 : decode cX8_findDealt 45 = .ok (.if_icmp .ge 44, 3) := by decide +kernel
theorem dX8_findDealt_48 : decode cX8_findDealt 48 = .ok (.iconst 0, 1) := by decide +kernel
theorem dX8_findDealt_49 : decode cX8_findDealt 49 = .ok (.istore_n 3, 1) := by decide +kernel
theorem dX8_findDealt_50 : decode cX8_findDealt 50 = .ok (.iload_n 3, 1) := by decide +kernel
theorem dX8_findDealt_51 : decode cX8_findDealt 51 = .ok (.iconst 1, 1) := by decide +kernel
theorem dX8_findDealt_52 : decode cX8_findDealt 52 = .ok (.aload_n 0, 1) := by decide +kernel
theorem dX8_findDealt_53 : decode cX8_findDealt 53 = .ok (.getfield 190, 3) := by decide +kernel
theorem dX8_findDealt_56 : decode cX8_findDealt 56 = .ok (.ishl, 1) := by decide +kernel
theorem dX8_findDealt_57 : decode cX8_findDealt 57 = .ok (.if_icmp .ge 26, 3) := by decide +kernel
theorem dX8_findDealt_60 : decode cX8_findDealt 60 = .ok (.aload_n 0, 1) := by decide +kernel
theorem dX8_findDealt_61 : decode cX8_findDealt 61 = .ok (.getfield 150, 3) := by decide +kernel
theorem dX8_findDealt_64 : decode cX8_findDealt 64 = .ok (.bipush 16, 2) := by decide +kernel
theorem dX8_findDealt_66 : decode cX8_findDealt 66 = .ok (.iload_n 2, 1) := by decide +kernel
theorem dX8_findDealt_67 : decode cX8_findDealt 67 = .ok (.imul, 1) := by decide +kernel
theorem dX8_findDealt_68 : decode cX8_findDealt 68 = .ok (.iload_n 3, 1) := by decide +kernel
theorem dX8_findDealt_69 : decode cX8_findDealt 69 = .ok (.iadd, 1) := by decide +kernel
theorem dX8_findDealt_70 : decode cX8_findDealt 70 = .ok (.aload_n 0, 1) := by decide +kernel
theorem dX8_findDealt_71 : decode cX8_findDealt 71 = .ok (.iload_n 2, 1) := by decide +kernel
theorem dX8_findDealt_72 : decode cX8_findDealt 72 = .ok (.iload_n 3, 1) := by decide +kernel
theorem dX8_findDealt_73 : decode cX8_findDealt 73 = .ok (.invokevirtual 414, 3) := by decide +kernel
theorem dX8_findDealt_76 : decode cX8_findDealt 76 = .ok (.iastore, 1) := by decide +kernel
theorem dX8_findDealt_77 : decode cX8_findDealt 77 = .ok (.iinc 3 1, 3) := by decide +kernel
theorem dX8_findDealt_80 : decode cX8_findDealt 80 = .ok (.goto (-30), 3) := by decide +kernel
theorem dX8_findDealt_83 : decode cX8_findDealt 83 = .ok (.iinc 2 1, 3) := by decide +kernel
theorem dX8_findDealt_86 : decode cX8_findDealt 86 = .ok (.goto (-46), 3) := by decide +kernel
theorem dX8_findDealt_89 : decode cX8_findDealt 89 = .ok (.ldc_w 388, 3) := by decide +kernel
theorem dX8_findDealt_92 : decode cX8_findDealt 92 = .ok (.istore_n 2, 1) := by decide +kernel
theorem dX8_findDealt_93 : decode cX8_findDealt 93 = .ok (.iconst 0, 1) := by decide +kernel
theorem dX8_findDealt_94 : decode cX8_findDealt 94 = .ok (.istore_n 3, 1) := by decide +kernel
theorem dX8_findDealt_95 : decode cX8_findDealt 95 = .ok (.iload_n 3, 1) := by decide +kernel
theorem dX8_findDealt_96 : decode cX8_findDealt 96 = .ok (.iload_n 1, 1) := by decide +kernel
theorem dX8_findDealt_97 : decode cX8_findDealt 97 = .ok (.if_icmp .ge 76, 3) := by decide +kernel
theorem dX8_findDealt_100 : decode cX8_findDealt 100 = .ok (.aload_n 0, 1) := by decide +kernel
theorem dX8_findDealt_101 : decode cX8_findDealt 101 = .ok (.getfield 187, 3) := by decide +kernel
theorem dX8_findDealt_104 : decode cX8_findDealt 104 = .ok (.ifCond .ne 7, 3) := by decide +kernel
theorem dX8_findDealt_107 : decode cX8_findDealt 107 = .ok (.iconst 0, 1) := by decide +kernel
theorem dX8_findDealt_108 : decode cX8_findDealt 108 = .ok (.goto 8, 3) := by decide +kernel
theorem dX8_findDealt_111 : decode cX8_findDealt 111 = .ok (.aload_n 0, 1) := by decide +kernel
theorem dX8_findDealt_112 : decode cX8_findDealt 112 = .ok (.iload_n 3, 1) := by decide +kernel
theorem dX8_findDealt_113 : decode cX8_findDealt 113 = .ok (.invokevirtual 417, 3) := by decide +kernel
theorem dX8_findDealt_116 : decode cX8_findDealt 116 = .ok (.istore 4, 2) := by decide +kernel
theorem dX8_findDealt_118 : decode cX8_findDealt 118 = .ok (.iload 4, 2) := by decide +kernel
theorem dX8_findDealt_120 : decode cX8_findDealt 120 = .ok (.iload_n 2, 1) := by decide +kernel
theorem dX8_findDealt_121 : decode cX8_findDealt 121 = .ok (.if_icmp .ge 46, 3) := by decide +kernel
theorem dX8_findDealt_124 : decode cX8_findDealt 124 = .ok (.iload 4, 2) := by decide +kernel
theorem dX8_findDealt_126 : decode cX8_findDealt 126 = .ok (.istore_n 2, 1) := by decide +kernel
theorem dX8_findDealt_127 : decode cX8_findDealt 127 = .ok (.iconst 0, 1) := by decide +kernel
theorem dX8_findDealt_128 : decode cX8_findDealt 128 = .ok (.istore 5, 2) := by decide +kernel
theorem dX8_findDealt_130 : decode cX8_findDealt 130 = .ok (.iload 5, 2) := by decide +kernel
theorem dX8_findDealt_132 : decode cX8_findDealt 132 = .ok (.iconst 4, 1) := by decide +kernel
theorem dX8_findDealt_133 : decode cX8_findDealt 133 = .ok (.if_icmp .ge 34, 3) := by decide +kernel
theorem dX8_findDealt_136 : decode cX8_findDealt 136 = .ok (.aload_n 0, 1) := by decide +kernel
theorem dX8_findDealt_137 : decode cX8_findDealt 137 = .ok (.getfield 153, 3) := by decide +kernel
theorem dX8_findDealt_140 : decode cX8_findDealt 140 = .ok (.iload 5, 2) := by decide +kernel
theorem dX8_findDealt_142 : decode cX8_findDealt 142 = .ok (.aload_n 0, 1) := by decide +kernel
theorem dX8_findDealt_143 : decode cX8_findDealt 143 = .ok (.getfield 187, 3) := by decide +kernel
theorem dX8_findDealt_146 : decode cX8_findDealt 146 = .ok (.ifCond .ne 7, 3) := by decide +kernel
theorem dX8_findDealt_149 : decode cX8_findDealt 149 = .ok (.iconst (-1), 1) := by decide +kernel
theorem dX8_findDealt_150 : decode cX8_findDealt 150 = .ok (.goto 10, 3) := by decide +kernel
theorem dX8_findDealt_153 : decode cX8_findDealt 153 = .ok (.aload_n 0, 1) := by decide +kernel
theorem dX8_findDealt_154 : decode cX8_findDealt 154 = .ok (.getfield 156, 3) := by decide +kernel
theorem dX8_findDealt_157 : decode cX8_findDealt 157 = .ok (.iload 5, 2) := by decide +kernel
theorem dX8_findDealt_159 : decode cX8_findDealt 159 = .ok (.iaload, 1) := by decide +kernel
theorem dX8_findDealt_160 : decode cX8_findDealt 160 = .ok (.iastore, 1) := by decide +kernel
theorem dX8_findDealt_161 : decode cX8_findDealt 161 = .ok (.iinc 5 1, 3) := by decide +kernel
theorem dX8_findDealt_164 : decode cX8_findDealt 164 = .ok (.goto (-34), 3) := by decide +kernel
theorem dX8_findDealt_167 : decode cX8_findDealt 167 = .ok (.iinc 3 1, 3) := by decide +kernel
theorem dX8_findDealt_170 : decode cX8_findDealt 170 = .ok (.goto (-75), 3) := by decide +kernel
theorem dX8_findDealt_173 : decode cX8_findDealt 173 = .ok (.iload_n 2, 1) := by decide +kernel
theorem dX8_findDealt_174 : decode cX8_findDealt 174 = .ok (.ireturn, 1) := by decide +kernel
theorem dX8_dealt_0 : decode cX8_dealt 0 = .ok (.iload_n 1, 1) := by decide +kernel
theorem dX8_dealt_1 : decode cX8_dealt 1 = .ok (.iconst (-1), 1) := by decide +kernel
theorem dX8_dealt_2 : decode cX8_dealt 2 = .ok (.if_icmp .eq 15, 3) := by decide +kernel
theorem dX8_dealt_5 : decode cX8_dealt 5 = .ok (.aload_n 0, 1) := by decide +kernel
theorem dX8_dealt_6 : decode cX8_dealt 6 = .ok (.iload_n 1, 1) := by decide +kernel
theorem dX8_dealt_7 : decode cX8_dealt 7 = .ok (.invokevirtual 336, 3) := by decide +kernel
theorem dX8_dealt_10 : decode cX8_dealt 10 = .ok (.ifCond .ne 7, 3) := by decide +kernel
theorem dX8_dealt_13 : decode cX8_dealt 13 = .ok (.ldc_w 316, 3) := by decide +kernel
theorem dX8_dealt_16 : decode cX8_dealt 16 = .ok (.ireturn, 1) := by decide +kernel
theorem dX8_dealt_17 : decode cX8_dealt 17 = .ok (.aload_n 0, 1) := by decide +kernel
theorem dX8_dealt_18 : decode cX8_dealt 18 = .ok (.invokevirtual 420, 3) := by decide +kernel
theorem dX8_dealt_21 : decode cX8_dealt 21 = .ok (.istore_n 2, 1) := by decide +kernel
theorem dX8_dealt_22 : decode cX8_dealt 22 = .ok (.iload_n 2, 1) := by decide +kernel
theorem dX8_dealt_23 : decode cX8_dealt 23 = .ok (.ldc_w 388, 3) := by decide +kernel
theorem dX8_dealt_26 : decode cX8_dealt 26 = .ok (.if_icmp .lt 7, 3) := by decide +kernel
theorem dX8_dealt_29 : decode cX8_dealt 29 = .ok (.iconst (-1), 1) := by decide +kernel
theorem dX8_dealt_30 : decode cX8_dealt 30 = .ok (.goto 18, 3) := by decide +kernel
theorem dX8_dealt_33 : decode cX8_dealt 33 = .ok (.iload_n 1, 1) := by decide +kernel
theorem dX8_dealt_34 : decode cX8_dealt 34 = .ok (.iconst (-1), 1) := by decide +kernel
theorem dX8_dealt_35 : decode cX8_dealt 35 = .ok (.if_icmp .ne 7, 3) := by decide +kernel
theorem dX8_dealt_38 : decode cX8_dealt 38 = .ok (.iload_n 2, 1) := by decide +kernel
theorem dX8_dealt_39 : decode cX8_dealt 39 = .ok (.goto 9, 3) := by decide +kernel
theorem dX8_dealt_42 : decode cX8_dealt 42 = .ok (.aload_n 0, 1) := by decide +kernel
theorem dX8_dealt_43 : decode cX8_dealt 43 = .ok (.getfield 153, 3) := by decide +kernel
theorem dX8_dealt_46 : decode cX8_dealt 46 = .ok (.iload_n 1, 1) := by decide +kernel
theorem dX8_dealt_47 : decode cX8_dealt 47 = .ok (.iaload, 1) := by decide +kernel
theorem dX8_dealt_48 : decode cX8_dealt 48 = .ok (.ireturn, 1) := by decide +kernel
theorem dX8_areJoined_0 : decode cX8_areJoined 0 = .ok (.iconst 0, 1) := by decide +kernel
theorem dX8_areJoined_1 : decode cX8_areJoined 1 = .ok (.istore_n 3, 1) := by decide +kernel
theorem dX8_areJoined_2 : decode cX8_areJoined 2 = .ok (.iconst 0, 1) := by decide +kernel
theorem dX8_areJoined_3 : decode cX8_areJoined 3 = .ok (.istore 4, 2) := by decide +kernel
theorem dX8_areJoined_5 : decode cX8_areJoined 5 = .ok (.iload 4, 2) := by decide +kernel
theorem dX8_areJoined_7 : decode cX8_areJoined 7 = .ok (.aload_n 0, 1) := by decide +kernel
theorem dX8_areJoined_8 : decode cX8_areJoined 8 = .ok (.getfield 177, 3) := by decide +kernel
theorem dX8_areJoined_11 : decode cX8_areJoined 11 = .ok (.if_icmp .ge 18, 3) := by decide +kernel
theorem dX8_areJoined_14 : decode cX8_areJoined 14 = .ok (.iload_n 2, 1) := by decide +kernel
theorem dX8_areJoined_15 : decode cX8_areJoined 15 = .ok (.iload 4, 2) := by decide +kernel
theorem dX8_areJoined_17 : decode cX8_areJoined 17 = .ok (.invokestatic 339, 3) := by decide +kernel
theorem dX8_areJoined_20 : decode cX8_areJoined 20 = .ok (.ifCond .ne 9, 3) := by decide +kernel
theorem dX8_areJoined_23 : decode cX8_areJoined 23 = .ok (.iinc 4 1, 3) := by decide +kernel
theorem dX8_areJoined_26 : decode cX8_areJoined 26 = .ok (.goto (-21), 3) := by decide +kernel
theorem dX8_areJoined_29 : decode cX8_areJoined 29 = .ok (.iconst 1, 1) := by decide +kernel
theorem dX8_areJoined_30 : decode cX8_areJoined 30 = .ok (.iload 4, 2) := by decide +kernel
theorem dX8_areJoined_32 : decode cX8_areJoined 32 = .ok (.ishl, 1) := by decide +kernel
theorem dX8_areJoined_33 : decode cX8_areJoined 33 = .ok (.istore_n 3, 1) := by decide +kernel
theorem dX8_areJoined_34 : decode cX8_areJoined 34 = .ok (.iconst 0, 1) := by decide +kernel
theorem dX8_areJoined_35 : decode cX8_areJoined 35 = .ok (.istore 5, 2) := by decide +kernel
theorem dX8_areJoined_37 : decode cX8_areJoined 37 = .ok (.iload 5, 2) := by decide +kernel
theorem dX8_areJoined_39 : decode cX8_areJoined 39 = .ok (.iload_n 3, 1) := by decide +kernel
theorem dX8_areJoined_40 : decode cX8_areJoined 40 = .ok (.if_icmp .eq 129, 3) := by decide +kernel
theorem dX8_areJoined_43 : decode cX8_areJoined 43 = .ok (.iload_n 3, 1) := by decide +kernel
theorem dX8_areJoined_44 : decode cX8_areJoined 44 = .ok (.istore 5, 2) := by decide +kernel
theorem dX8_areJoined_46 : decode cX8_areJoined 46 = .ok (.iconst 0, 1) := by decide +kernel
theorem dX8_areJoined_47 : decode cX8_areJoined 47 = .ok (.istore 6, 2) := by decide +kernel
theorem dX8_areJoined_49 : decode cX8_areJoined 49 = .ok (.iload 6, 2) := by decide +kernel
theorem dX8_areJoined_51 : decode cX8_areJoined 51 = .ok (.aload_n 0, 1) := by decide +kernel
theorem dX8_areJoined_52 : decode cX8_areJoined 52 = .ok (.getfield 184, 3) := by decide +kernel
theorem dX8_areJoined_55 : decode cX8_areJoined 55 = .ok (.if_icmp .ge 111, 3) := by decide +kernel
theorem dX8_areJoined_58 : decode cX8_areJoined 58 = .ok (.iload_n 1, 1) := by decide +kernel
theorem dX8_areJoined_59 : decode cX8_areJoined 59 = .ok (.iload 6, 2) := by decide +kernel
theorem dX8_areJoined_61 : decode cX8_areJoined 61 = .ok (.invokestatic 339, 3) := by decide +kernel
theorem dX8_areJoined_64 : decode cX8_areJoined 64 = .ok (.ifCond .eq 21, 3) := by decide +kernel
theorem dX8_areJoined_67 : decode cX8_areJoined 67 = .ok (.iload_n 3, 1) := by decide +kernel
theorem dX8_areJoined_68 : decode cX8_areJoined 68 = .ok (.aload_n 0, 1) := by decide +kernel
theorem dX8_areJoined_69 : decode cX8_areJoined 69 = .ok (.getfield 19, 3) := by decide +kernel
theorem dX8_areJoined_72 : decode cX8_areJoined 72 = .ok (.iload 6, 2) := by decide +kernel
theorem dX8_areJoined_74 : decode cX8_areJoined 74 = .ok (.iaload, 1) := by decide +kernel
theorem dX8_areJoined_75 : decode cX8_areJoined 75 = .ok (.invokestatic 339, 3) := by decide +kernel
theorem dX8_areJoined_78 : decode cX8_areJoined 78 = .ok (.ifCond .eq 7, 3) := by decide +kernel
theorem dX8_areJoined_81 : decode cX8_areJoined 81 = .ok (.iconst 1, 1) := by decide +kernel
theorem dX8_areJoined_82 : decode cX8_areJoined 82 = .ok (.goto 4, 3) := by decide +kernel
theorem dX8_areJoined_85 : decode cX8_areJoined 85 = .ok (.iconst 0, 1) := by decide +kernel
theorem dX8_areJoined_86 : decode cX8_areJoined 86 = .ok (.istore 7, 2) := by decide +kernel
theorem dX8_areJoined_88 : decode cX8_areJoined 88 = .ok (.iload_n 1, 1) := by decide +kernel
theorem dX8_areJoined_89 : decode cX8_areJoined 89 = .ok (.iload 6, 2) := by decide +kernel
theorem dX8_areJoined_91 : decode cX8_areJoined 91 = .ok (.invokestatic 339, 3) := by decide +kernel
theorem dX8_areJoined_94 : decode cX8_areJoined 94 = .ok (.ifCond .eq 21, 3) := by decide +kernel
theorem dX8_areJoined_97 : decode cX8_areJoined 97 = .ok (.iload_n 3, 1) := by decide +kernel
theorem dX8_areJoined_98 : decode cX8_areJoined 98 = .ok (.aload_n 0, 1) := by decide +kernel
theorem dX8_areJoined_99 : decode cX8_areJoined 99 = .ok (.getfield 22, 3) := by decide +kernel
theorem dX8_areJoined_102 : decode cX8_areJoined 102 = .ok (.iload 6, 2) := by decide +kernel
theorem dX8_areJoined_104 : decode cX8_areJoined 104 = .ok (.iaload, 1) := by decide +kernel
theorem dX8_areJoined_105 : decode cX8_areJoined 105 = .ok (.invokestatic 339, 3) := by decide +kernel
theorem dX8_areJoined_108 : decode cX8_areJoined 108 = .ok (.ifCond .eq 7, 3) := by decide +kernel
theorem dX8_areJoined_111 : decode cX8_areJoined 111 = .ok (.iconst 1, 1) := by decide +kernel
theorem dX8_areJoined_112 : decode cX8_areJoined 112 = .ok (.goto 4, 3) := by decide +kernel
theorem dX8_areJoined_115 : decode cX8_areJoined 115 = .ok (.iconst 0, 1) := by decide +kernel
theorem dX8_areJoined_116 : decode cX8_areJoined 116 = .ok (.istore 8, 2) := by decide +kernel
theorem dX8_areJoined_118 : decode cX8_areJoined 118 = .ok (.iload_n 3, 1) := by decide +kernel
theorem dX8_areJoined_119 : decode cX8_areJoined 119 = .ok (.iload 7, 2) := by decide +kernel
theorem dX8_areJoined_121 : decode cX8_areJoined 121 = .ok (.ifCond .eq 15, 3) := by decide +kernel
theorem dX8_areJoined_124 : decode cX8_areJoined 124 = .ok (.iconst 1, 1) := by decide +kernel
theorem dX8_areJoined_125 : decode cX8_areJoined 125 = .ok (.aload_n 0, 1) := by decide +kernel
theorem dX8_areJoined_126 : decode cX8_areJoined 126 = .ok (.getfield 22, 3) := by decide +kernel
theorem dX8_areJoined_129 : decode cX8_areJoined 129 = .ok (.iload 6, 2) := by decide +kernel
theorem dX8_areJoined_131 : decode cX8_areJoined 131 = .ok (.iaload, 1) := by decide +kernel
theorem dX8_areJoined_132 : decode cX8_areJoined 132 = .ok (.ishl, 1) := by decide +kernel
theorem dX8_areJoined_133 : decode cX8_areJoined 133 = .ok (.goto 4, 3) := by decide +kernel
theorem dX8_areJoined_136 : decode cX8_areJoined 136 = .ok (.iconst 0, 1) := by decide +kernel
theorem dX8_areJoined_137 : decode cX8_areJoined 137 = .ok (.ior, 1) := by decide +kernel
theorem dX8_areJoined_138 : decode cX8_areJoined 138 = .ok (.istore_n 3, 1) := by decide +kernel
theorem dX8_areJoined_139 : decode cX8_areJoined 139 = .ok (.iload_n 3, 1) := by decide +kernel
theorem dX8_areJoined_140 : decode cX8_areJoined 140 = .ok (.iload 8, 2) := by decide +kernel
theorem dX8_areJoined_142 : decode cX8_areJoined 142 = .ok (.ifCond .eq 15, 3) := by decide +kernel
theorem dX8_areJoined_145 : decode cX8_areJoined 145 = .ok (.iconst 1, 1) := by decide +kernel
theorem dX8_areJoined_146 : decode cX8_areJoined 146 = .ok (.aload_n 0, 1) := by decide +kernel
theorem dX8_areJoined_147 : decode cX8_areJoined 147 = .ok (.getfield 19, 3) := by decide +kernel
theorem dX8_areJoined_150 : decode cX8_areJoined 150 = .ok (.iload 6, 2) := by decide +kernel
theorem dX8_areJoined_152 : decode cX8_areJoined 152 = .ok (.iaload, 1) := by decide +kernel
theorem dX8_areJoined_153 : decode cX8_areJoined 153 = .ok (.ishl, 1) := by decide +kernel
theorem dX8_areJoined_154 : decode cX8_areJoined 154 = .ok (.goto 4, 3) := by decide +kernel
theorem dX8_areJoined_157 : decode cX8_areJoined 157 = .ok (.iconst 0, 1) := by decide +kernel
theorem dX8_areJoined_158 : decode cX8_areJoined 158 = .ok (.ior, 1) := by decide +kernel
theorem dX8_areJoined_159 : decode cX8_areJoined 159 = .ok (.istore_n 3, 1) := by decide +kernel
theorem dX8_areJoined_160 : decode cX8_areJoined 160 = .ok (.iinc 6 1, 3) := by decide +kernel
theorem dX8_areJoined_163 : decode cX8_areJoined 163 = .ok (.goto (-114), 3) := by decide +kernel
theorem dX8_areJoined_166 : decode cX8_areJoined 166 = .ok (.goto (-129), 3) := by decide +kernel
theorem dX8_areJoined_169 : decode cX8_areJoined 169 = .ok (.iload_n 2, 1) := by decide +kernel
theorem dX8_areJoined_170 : decode cX8_areJoined 170 = .ok (.iload_n 3, 1) := by decide +kernel
theorem dX8_areJoined_171 : decode cX8_areJoined 171 = .ok (.iconst (-1), 1) := by decide +kernel
theorem dX8_areJoined_172 : decode cX8_areJoined 172 = .ok (.ixor, 1) := by decide +kernel
theorem dX8_areJoined_173 : decode cX8_areJoined 173 = .ok (.iand, 1) := by decide +kernel
theorem dX8_areJoined_174 : decode cX8_areJoined 174 = .ok (.ifCond .ne 7, 3) := by decide +kernel
theorem dX8_areJoined_177 : decode cX8_areJoined 177 = .ok (.iconst 1, 1) := by decide +kernel
theorem dX8_areJoined_178 : decode cX8_areJoined 178 = .ok (.goto 4, 3) := by decide +kernel
theorem dX8_areJoined_181 : decode cX8_areJoined 181 = .ok (.iconst 0, 1) := by decide +kernel
theorem dX8_areJoined_182 : decode cX8_areJoined 182 = .ok (.ireturn, 1) := by decide +kernel
theorem dX8_isSafe_0 : decode cX8_isSafe 0 = .ok (.aload_n 0, 1) := by decide +kernel
theorem dX8_isSafe_1 : decode cX8_isSafe 1 = .ok (.iload_n 1, 1) := by decide +kernel
theorem dX8_isSafe_2 : decode cX8_isSafe 2 = .ok (.iload_n 2, 1) := by decide +kernel
theorem dX8_isSafe_3 : decode cX8_isSafe 3 = .ok (.invokevirtual 423, 3) := by decide +kernel
theorem dX8_isSafe_6 : decode cX8_isSafe 6 = .ok (.istore_n 3, 1) := by decide +kernel
theorem dX8_isSafe_7 : decode cX8_isSafe 7 = .ok (.iconst 0, 1) := by decide +kernel
theorem dX8_isSafe_8 : decode cX8_isSafe 8 = .ok (.istore 4, 2) := by decide +kernel
theorem dX8_isSafe_10 : decode cX8_isSafe 10 = .ok (.iload 4, 2) := by decide +kernel
theorem dX8_isSafe_12 : decode cX8_isSafe 12 = .ok (.aload_n 0, 1) := by decide +kernel
theorem dX8_isSafe_13 : decode cX8_isSafe 13 = .ok (.getfield 184, 3) := by decide +kernel
theorem dX8_isSafe_16 : decode cX8_isSafe 16 = .ok (.if_icmp .ge 44, 3) := by decide +kernel
theorem dX8_isSafe_19 : decode cX8_isSafe 19 = .ok (.iload_n 3, 1) := by decide +kernel
theorem dX8_isSafe_20 : decode cX8_isSafe 20 = .ok (.ifCond .eq 40, 3) := by decide +kernel
theorem dX8_isSafe_23 : decode cX8_isSafe 23 = .ok (.iload_n 1, 1) := by decide +kernel
theorem dX8_isSafe_24 : decode cX8_isSafe 24 = .ok (.iload 4, 2) := by decide +kernel
theorem dX8_isSafe_26 : decode cX8_isSafe 26 = .ok (.invokestatic 339, 3) := by decide +kernel
theorem dX8_isSafe_29 : decode cX8_isSafe 29 = .ok (.ifCond .eq 19, 3) := by decide +kernel
theorem dX8_isSafe_32 : decode cX8_isSafe 32 = .ok (.aload_n 0, 1) := by decide +kernel
theorem dX8_isSafe_33 : decode cX8_isSafe 33 = .ok (.iload_n 1, 1) := by decide +kernel
theorem dX8_isSafe_34 : decode cX8_isSafe 34 = .ok (.iconst 1, 1) := by decide +kernel
theorem dX8_isSafe_35 : decode cX8_isSafe 35 = .ok (.iload 4, 2) := by decide +kernel
theorem dX8_isSafe_37 : decode cX8_isSafe 37 = .ok (.ishl, 1) := by decide +kernel
theorem dX8_isSafe_38 : decode cX8_isSafe 38 = .ok (.iconst (-1), 1) := by decide +kernel
theorem dX8_isSafe_39 : decode cX8_isSafe 39 = .ok (.ixor, 1) := by decide +kernel
theorem dX8_isSafe_40 : decode cX8_isSafe 40 = .ok (.iand, 1) := by decide +kernel
theorem dX8_isSafe_41 : decode cX8_isSafe 41 = .ok (.iload_n 2, 1) := by decide +kernel
theorem dX8_isSafe_42 : decode cX8_isSafe 42 = .ok (.invokevirtual 423, 3) := by decide +kernel
theorem dX8_isSafe_45 : decode cX8_isSafe 45 = .ok (.ifCond .eq 7, 3) := by decide +kernel
theorem dX8_isSafe_48 : decode cX8_isSafe 48 = .ok (.iconst 1, 1) := by decide +kernel
theorem dX8_isSafe_49 : decode cX8_isSafe 49 = .ok (.goto 4, 3) := by decide +kernel
theorem dX8_isSafe_52 : decode cX8_isSafe 52 = .ok (.iconst 0, 1) := by decide +kernel
theorem dX8_isSafe_53 : decode cX8_isSafe 53 = .ok (.istore_n 3, 1) := by decide +kernel
theorem dX8_isSafe_54 : decode cX8_isSafe 54 = .ok (.iinc 4 1, 3) := by decide +kernel
theorem dX8_isSafe_57 : decode cX8_isSafe 57 = .ok (.goto (-47), 3) := by decide +kernel
theorem dX8_isSafe_60 : decode cX8_isSafe 60 = .ok (.iload_n 3, 1) := by decide +kernel
theorem dX8_isSafe_61 : decode cX8_isSafe 61 = .ok (.ireturn, 1) := by decide +kernel
theorem dX8_kept_0 : decode cX8_kept 0 = .ok (.iload_n 1, 1) := by decide +kernel
theorem dX8_kept_1 : decode cX8_kept 1 = .ok (.i2l, 1) := by decide +kernel
theorem dX8_kept_2 : decode cX8_kept 2 = .ok (.lconst 0, 1) := by decide +kernel
theorem dX8_kept_3 : decode cX8_kept 3 = .ok (.iconst 1, 1) := by decide +kernel
theorem dX8_kept_4 : decode cX8_kept 4 = .ok (.aload_n 0, 1) := by decide +kernel
theorem dX8_kept_5 : decode cX8_kept 5 = .ok (.getfield 177, 3) := by decide +kernel
theorem dX8_kept_8 : decode cX8_kept 8 = .ok (.ishl, 1) := by decide +kernel
theorem dX8_kept_9 : decode cX8_kept 9 = .ok (.iconst 1, 1) := by decide +kernel
theorem dX8_kept_10 : decode cX8_kept 10 = .ok (.isub, 1) := by decide +kernel
theorem dX8_kept_11 : decode cX8_kept 11 = .ok (.i2l, 1) := by decide +kernel
theorem dX8_kept_12 : decode cX8_kept 12 = .ok (.invokestatic 180, 3) := by decide +kernel
theorem dX8_kept_15 : decode cX8_kept 15 = .ok (.ifCond .ne 7, 3) := by decide +kernel
theorem dX8_kept_18 : decode cX8_kept 18 = .ok (.ldc_w 316, 3) := by decide +kernel
theorem dX8_kept_21 : decode cX8_kept 21 = .ok (.ireturn, 1) := by decide +kernel
theorem dX8_kept_22 : decode cX8_kept 22 = .ok (.aload_n 0, 1) := by decide +kernel
theorem dX8_kept_23 : decode cX8_kept 23 = .ok (.invokevirtual 309, 3) := by decide +kernel
theorem dX8_kept_26 : decode cX8_kept 26 = .ok (.istore_n 2, 1) := by decide +kernel
theorem dX8_kept_27 : decode cX8_kept 27 = .ok (.iconst (-1), 1) := by decide +kernel
theorem dX8_kept_28 : decode cX8_kept 28 = .ok (.istore_n 3, 1) := by decide +kernel
theorem dX8_kept_29 : decode cX8_kept 29 = .ok (.iconst 0, 1) := by decide +kernel
theorem dX8_kept_30 : decode cX8_kept 30 = .ok (.istore 4, 2) := by decide +kernel
theorem dX8_kept_32 : decode cX8_kept 32 = .ok (.iload 4, 2) := by decide +kernel
theorem dX8_kept_34 : decode cX8_kept 34 = .ok (.iconst 1, 1) := by decide +kernel
theorem dX8_kept_35 : decode cX8_kept 35 = .ok (.aload_n 0, 1) := by decide +kernel
theorem dX8_kept_36 : decode cX8_kept 36 = .ok (.getfield 184, 3) := by decide +kernel
theorem dX8_kept_39 : decode cX8_kept 39 = .ok (.ishl, 1) := by decide +kernel
theorem dX8_kept_40 : decode cX8_kept 40 = .ok (.if_icmp .ge 63, 3) := by decide +kernel
theorem dX8_kept_43 : decode cX8_kept 43 = .ok (.iload_n 3, 1) := by decide +kernel
theorem dX8_kept_44 : decode cX8_kept 44 = .ok (.ifCond .lt 15, 3) := by decide +kernel
theorem dX8_kept_47 : decode cX8_kept 47 = .ok (.iload 4, 2) := by decide +kernel
theorem dX8_kept_49 : decode cX8_kept 49 = .ok (.invokestatic 361, 3) := by decide +kernel
theorem dX8_kept_52 : decode cX8_kept 52 = .ok (.iload_n 3, 1) := by decide +kernel
theorem dX8_kept_53 : decode cX8_kept 53 = .ok (.invokestatic 361, 3) := by decide +kernel
theorem dX8_kept_56 : decode cX8_kept 56 = .ok (.if_icmp .ge 7, 3) := by decide +kernel
theorem dX8_kept_59 : decode cX8_kept 59 = .ok (.iconst 1, 1) := by decide +kernel
theorem dX8_kept_60 : decode cX8_kept 60 = .ok (.goto 4, 3) := by decide +kernel
theorem dX8_kept_63 : decode cX8_kept 63 = .ok (.iconst 0, 1) := by decide +kernel
theorem dX8_kept_64 : decode cX8_kept 64 = .ok (.istore 5, 2) := by decide +kernel
theorem dX8_kept_66 : decode cX8_kept 66 = .ok (.iload 5, 2) := by decide +kernel
theorem dX8_kept_68 : decode cX8_kept 68 = .ok (.ifCond .eq 27, 3) := by decide +kernel
theorem dX8_kept_71 : decode cX8_kept 71 = .ok (.iload 4, 2) := by decide +kernel
theorem dX8_kept_73 : decode cX8_kept 73 = .ok (.iload_n 2, 1) := by decide +kernel
theorem dX8_kept_74 : decode cX8_kept 74 = .ok (.iconst (-1), 1) := by decide +kernel
theorem dX8_kept_75 : decode cX8_kept 75 = .ok (.ixor, 1) := by decide +kernel
theorem dX8_kept_76 : decode cX8_kept 76 = .ok (.iand, 1) := by decide +kernel
theorem dX8_kept_77 : decode cX8_kept 77 = .ok (.ifCond .ne 18, 3) := by decide +kernel
theorem dX8_kept_80 : decode cX8_kept 80 = .ok (.aload_n 0, 1) := by decide +kernel
theorem dX8_kept_81 : decode cX8_kept 81 = .ok (.iload 4, 2) := by decide +kernel
theorem dX8_kept_83 : decode cX8_kept 83 = .ok (.iload_n 1, 1) := by decide +kernel
theorem dX8_kept_84 : decode cX8_kept 84 = .ok (.invokevirtual 426, 3) := by decide +kernel
theorem dX8_kept_87 : decode cX8_kept 87 = .ok (.ifCond .eq 8, 3) := by decide +kernel
theorem dX8_kept_90 : decode cX8_kept 90 = .ok (.iload 4, 2) := by decide +kernel
theorem dX8_kept_92 : decode cX8_kept 92 = .ok (.goto 4, 3) := by decide +kernel
theorem dX8_kept_95 : decode cX8_kept 95 = .ok (.iload_n 3, 1) := by decide +kernel
theorem dX8_kept_96 : decode cX8_kept 96 = .ok (.istore_n 3, 1) := by decide +kernel
theorem dX8_kept_97 : decode cX8_kept 97 = .ok (.iinc 4 1, 3) := by decide +kernel
theorem dX8_kept_100 : decode cX8_kept 100 = .ok (.goto (-68), 3) := by decide +kernel
theorem dX8_kept_103 : decode cX8_kept 103 = .ok (.iload_n 3, 1) := by decide +kernel
theorem dX8_kept_104 : decode cX8_kept 104 = .ok (.ireturn, 1) := by decide +kernel
theorem dX8_apart_0 : decode cX8_apart 0 = .ok (.aload_n 0, 1) := by decide +kernel
theorem dX8_apart_1 : decode cX8_apart 1 = .ok (.getfield 7, 3) := by decide +kernel
theorem dX8_apart_4 : decode cX8_apart 4 = .ok (.iload_n 1, 1) := by decide +kernel
theorem dX8_apart_5 : decode cX8_apart 5 = .ok (.iaload, 1) := by decide +kernel
theorem dX8_apart_6 : decode cX8_apart 6 = .ok (.aload_n 0, 1) := by decide +kernel
theorem dX8_apart_7 : decode cX8_apart 7 = .ok (.getfield 7, 3) := by decide +kernel
theorem dX8_apart_10 : decode cX8_apart 10 = .ok (.iload_n 2, 1) := by decide +kernel
theorem dX8_apart_11 : decode cX8_apart 11 = .ok (.iaload, 1) := by decide +kernel
theorem dX8_apart_12 : decode cX8_apart 12 = .ok (.isub, 1) := by decide +kernel
theorem dX8_apart_13 : decode cX8_apart 13 = .ok (.invokestatic 429, 3) := by decide +kernel
theorem dX8_apart_16 : decode cX8_apart 16 = .ok (.aload_n 0, 1) := by decide +kernel
theorem dX8_apart_17 : decode cX8_apart 17 = .ok (.getfield 13, 3) := by decide +kernel
theorem dX8_apart_20 : decode cX8_apart 20 = .ok (.iload_n 1, 1) := by decide +kernel
theorem dX8_apart_21 : decode cX8_apart 21 = .ok (.iaload, 1) := by decide +kernel
theorem dX8_apart_22 : decode cX8_apart 22 = .ok (.aload_n 0, 1) := by decide +kernel
theorem dX8_apart_23 : decode cX8_apart 23 = .ok (.getfield 13, 3) := by decide +kernel
theorem dX8_apart_26 : decode cX8_apart 26 = .ok (.iload_n 2, 1) := by decide +kernel
theorem dX8_apart_27 : decode cX8_apart 27 = .ok (.iaload, 1) := by decide +kernel
theorem dX8_apart_28 : decode cX8_apart 28 = .ok (.isub, 1) := by decide +kernel
theorem dX8_apart_29 : decode cX8_apart 29 = .ok (.invokestatic 429, 3) := by decide +kernel
theorem dX8_apart_32 : decode cX8_apart 32 = .ok (.iadd, 1) := by decide +kernel
theorem dX8_apart_33 : decode cX8_apart 33 = .ok (.ireturn, 1) := by decide +kernel
theorem dX8_sumWith_0 : decode cX8_sumWith 0 = .ok (.iconst 0, 1) := by decide +kernel
theorem dX8_sumWith_1 : decode cX8_sumWith 1 = .ok (.istore_n 3, 1) := by decide +kernel
theorem dX8_sumWith_2 : decode cX8_sumWith 2 = .ok (.iload_n 3, 1) := by decide +kernel
theorem dX8_sumWith_3 : decode cX8_sumWith 3 = .ok (.bipush 64, 2) := by decide +kernel
theorem dX8_sumWith_5 : decode cX8_sumWith 5 = .ok (.if_icmp .ge 33, 3) := by decide +kernel
theorem dX8_sumWith_8 : decode cX8_sumWith 8 = .ok (.aload_n 0, 1) := by decide +kernel
theorem dX8_sumWith_9 : decode cX8_sumWith 9 = .ok (.getfield 159, 3) := by decide +kernel
theorem dX8_sumWith_12 : decode cX8_sumWith 12 = .ok (.iload_n 3, 1) := by decide +kernel
theorem dX8_sumWith_13 : decode cX8_sumWith 13 = .ok (.iload_n 3, 1) := by decide +kernel
theorem dX8_sumWith_14 : decode cX8_sumWith 14 = .ok (.bipush 8, 2) := by decide +kernel
theorem dX8_sumWith_16 : decode cX8_sumWith 16 = .ok (.idiv, 1) := by decide +kernel
theorem dX8_sumWith_17 : decode cX8_sumWith 17 = .ok (.iload_n 3, 1) := by decide +kernel
theorem dX8_sumWith_18 : decode cX8_sumWith 18 = .ok (.bipush 8, 2) := by decide +kernel
theorem dX8_sumWith_20 : decode cX8_sumWith 20 = .ok (.irem, 1) := by decide +kernel
theorem dX8_sumWith_21 : decode cX8_sumWith 21 = .ok (.if_icmp .ne 7, 3) := by decide +kernel
theorem dX8_sumWith_24 : decode cX8_sumWith 24 = .ok (.iconst 0, 1) := by decide +kernel
theorem dX8_sumWith_25 : decode cX8_sumWith 25 = .ok (.goto 6, 3) := by decide +kernel
theorem dX8_sumWith_28 : decode cX8_sumWith 28 = .ok (.sipush 999, 3) := by decide +kernel
theorem dX8_sumWith_31 : decode cX8_sumWith 31 = .ok (.iastore, 1) := by decide +kernel
theorem dX8_sumWith_32 : decode cX8_sumWith 32 = .ok (.iinc 3 1, 3) := by decide +kernel
theorem dX8_sumWith_35 : decode cX8_sumWith 35 = .ok (.goto (-33), 3) := by decide +kernel
theorem dX8_sumWith_38 : decode cX8_sumWith 38 = .ok (.iconst 0, 1) := by decide +kernel
theorem dX8_sumWith_39 : decode cX8_sumWith 39 = .ok (.istore_n 3, 1) := by decide +kernel
theorem dX8_sumWith_40 : decode cX8_sumWith 40 = .ok (.iload_n 3, 1) := by decide +kernel
theorem dX8_sumWith_41 : decode cX8_sumWith 41 = .ok (.aload_n 0, 1) := by decide +kernel
theorem dX8_sumWith_42 : decode cX8_sumWith 42 = .ok (.getfield 184, 3) := by decide +kernel
theorem dX8_sumWith_45 : decode cX8_sumWith 45 = .ok (.if_icmp .ge 40, 3) := by decide +kernel
theorem dX8_sumWith_48 : decode cX8_sumWith 48 = .ok (.aload_n 0, 1) := by decide +kernel
theorem dX8_sumWith_49 : decode cX8_sumWith 49 = .ok (.getfield 62, 3) := by decide +kernel
theorem dX8_sumWith_52 : decode cX8_sumWith 52 = .ok (.iload_n 3, 1) := by decide +kernel
theorem dX8_sumWith_53 : decode cX8_sumWith 53 = .ok (.baload, 1) := by decide +kernel
theorem dX8_sumWith_54 : decode cX8_sumWith 54 = .ok (.ifCond .ne 25, 3) := by decide +kernel
theorem dX8_sumWith_57 : decode cX8_sumWith 57 = .ok (.aload_n 0, 1) := by decide +kernel
theorem dX8_sumWith_58 : decode cX8_sumWith 58 = .ok (.aload_n 0, 1) := by decide +kernel
theorem dX8_sumWith_59 : decode cX8_sumWith 59 = .ok (.getfield 19, 3) := by decide +kernel
theorem dX8_sumWith_62 : decode cX8_sumWith 62 = .ok (.iload_n 3, 1) := by decide +kernel
theorem dX8_sumWith_63 : decode cX8_sumWith 63 = .ok (.iaload, 1) := by decide +kernel
theorem dX8_sumWith_64 : decode cX8_sumWith 64 = .ok (.aload_n 0, 1) := by decide +kernel
theorem dX8_sumWith_65 : decode cX8_sumWith 65 = .ok (.getfield 22, 3) := by decide +kernel
theorem dX8_sumWith_68 : decode cX8_sumWith 68 = .ok (.iload_n 3, 1) := by decide +kernel
theorem dX8_sumWith_69 : decode cX8_sumWith 69 = .ok (.iaload, 1) := by decide +kernel
theorem dX8_sumWith_70 : decode cX8_sumWith 70 = .ok (.aload_n 0, 1) := by decide +kernel
theorem dX8_sumWith_71 : decode cX8_sumWith 71 = .ok (.getfield 25, 3) := by decide +kernel
theorem dX8_sumWith_74 : decode cX8_sumWith 74 = .ok (.iload_n 3, 1) := by decide +kernel
theorem dX8_sumWith_75 : decode cX8_sumWith 75 = .ok (.iaload, 1) := by decide +kernel
theorem dX8_sumWith_76 : decode cX8_sumWith 76 = .ok (.invokevirtual 432, 3) := by decide +kernel
theorem dX8_sumWith_79 : decode cX8_sumWith 79 = .ok (.iinc 3 1, 3) := by decide +kernel
theorem dX8_sumWith_82 : decode cX8_sumWith 82 = .ok (.goto (-42), 3) := by decide +kernel
theorem dX8_sumWith_85 : decode cX8_sumWith 85 = .ok (.aload_n 0, 1) := by decide +kernel
theorem dX8_sumWith_86 : decode cX8_sumWith 86 = .ok (.iload_n 1, 1) := by decide +kernel
theorem dX8_sumWith_87 : decode cX8_sumWith 87 = .ok (.iload_n 2, 1) := by decide +kernel
theorem dX8_sumWith_88 : decode cX8_sumWith 88 = .ok (.aload_n 0, 1) := by decide +kernel
theorem dX8_sumWith_89 : decode cX8_sumWith 89 = .ok (.iload_n 1, 1) := by decide +kernel
theorem dX8_sumWith_90 : decode cX8_sumWith 90 = .ok (.iload_n 2, 1) := by decide +kernel
theorem dX8_sumWith_91 : decode cX8_sumWith 91 = .ok (.invokevirtual 436, 3) := by decide +kernel
theorem dX8_sumWith_94 : decode cX8_sumWith 94 = .ok (.invokevirtual 432, 3) := by decide +kernel
theorem dX8_sumWith_97 : decode cX8_sumWith 97 = .ok (.iconst 0, 1) := by decide +kernel
theorem dX8_sumWith_98 : decode cX8_sumWith 98 = .ok (.istore_n 3, 1) := by decide +kernel
theorem dX8_sumWith_99 : decode cX8_sumWith 99 = .ok (.iload_n 3, 1) := by decide +kernel
theorem dX8_sumWith_100 : decode cX8_sumWith 100 = .ok (.aload_n 0, 1) := by decide +kernel
theorem dX8_sumWith_101 : decode cX8_sumWith 101 = .ok (.getfield 177, 3) := by decide +kernel
theorem dX8_sumWith_104 : decode cX8_sumWith 104 = .ok (.if_icmp .ge 121, 3) := by decide +kernel
theorem dX8_sumWith_107 : decode cX8_sumWith 107 = .ok (.iconst 0, 1) := by decide +kernel
theorem dX8_sumWith_108 : decode cX8_sumWith 108 = .ok (.istore 4, 2) := by decide +kernel
theorem dX8_sumWith_110 : decode cX8_sumWith 110 = .ok (.iload 4, 2) := by decide +kernel
theorem dX8_sumWith_112 : decode cX8_sumWith 112 = .ok (.aload_n 0, 1) := by decide +kernel
theorem dX8_sumWith_113 : decode cX8_sumWith 113 = .ok (.getfield 177, 3) := by decide +kernel
theorem dX8_sumWith_116 : decode cX8_sumWith 116 = .ok (.if_icmp .ge 103, 3) := by decide +kernel
theorem dX8_sumWith_119 : decode cX8_sumWith 119 = .ok (.iconst 0, 1) := by decide +kernel
theorem dX8_sumWith_120 : decode cX8_sumWith 120 = .ok (.istore 5, 2) := by decide +kernel
theorem dX8_sumWith_122 : decode cX8_sumWith 122 = .ok (.iload 5, 2) := by decide +kernel
theorem dX8_sumWith_124 : decode cX8_sumWith 124 = .ok (.aload_n 0, 1) := by decide +kernel
theorem dX8_sumWith_125 : decode cX8_sumWith 125 = .ok (.getfield 177, 3) := by decide +kernel
theorem dX8_sumWith_128 : decode cX8_sumWith 128 = .ok (.if_icmp .ge 85, 3) := by decide +kernel
theorem dX8_sumWith_131 : decode cX8_sumWith 131 = .ok (.aload_n 0, 1) := by decide +kernel
theorem dX8_sumWith_132 : decode cX8_sumWith 132 = .ok (.getfield 159, 3) := by decide +kernel
theorem dX8_sumWith_135 : decode cX8_sumWith 135 = .ok (.bipush 8, 2) := by decide +kernel
theorem dX8_sumWith_137 : decode cX8_sumWith 137 = .ok (.iload 4, 2) := by decide +kernel
theorem dX8_sumWith_139 : decode cX8_sumWith 139 = .ok (.imul, 1) := by decide +kernel
theorem dX8_sumWith_140 : decode cX8_sumWith 140 = .ok (.iload_n 3, 1) := by decide +kernel
theorem dX8_sumWith_141 : decode cX8_sumWith 141 = .ok (.iadd, 1) := by decide +kernel
