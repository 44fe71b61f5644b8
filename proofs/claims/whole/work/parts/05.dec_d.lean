theorem dX7_pays_61 : decode cX7_pays 61 = .ok (.bipush 99, 2) := by decide +kernel
theorem dX7_pays_63 : decode cX7_pays 63 = .ok (.if_icmp .le 6, 3) := by decide +kernel
theorem dX7_pays_66 : decode cX7_pays 66 = .ok (.ldc 73, 2) := by decide +kernel
theorem dX7_pays_68 : decode cX7_pays 68 = .ok (.ireturn, 1) := by decide +kernel
theorem dX7_pays_69 : decode cX7_pays 69 = .ok (.aload_n 0, 1) := by decide +kernel
theorem dX7_pays_70 : decode cX7_pays 70 = .ok (.iload_n 3, 1) := by decide +kernel
theorem dX7_pays_71 : decode cX7_pays 71 = .ok (.iload 4, 2) := by decide +kernel
theorem dX7_pays_73 : decode cX7_pays 73 = .ok (.iload 5, 2) := by decide +kernel
theorem dX7_pays_75 : decode cX7_pays 75 = .ok (.invokevirtual 294, 3) := by decide +kernel
theorem dX7_pays_78 : decode cX7_pays 78 = .ok (.istore 7, 2) := by decide +kernel
theorem dX7_pays_80 : decode cX7_pays 80 = .ok (.aload_n 0, 1) := by decide +kernel
theorem dX7_pays_81 : decode cX7_pays 81 = .ok (.iload_n 2, 1) := by decide +kernel
theorem dX7_pays_82 : decode cX7_pays 82 = .ok (.iload_n 3, 1) := by decide +kernel
theorem dX7_pays_83 : decode cX7_pays 83 = .ok (.iload 4, 2) := by decide +kernel
theorem dX7_pays_85 : decode cX7_pays 85 = .ok (.iconst 0, 1) := by decide +kernel
theorem dX7_pays_86 : decode cX7_pays 86 = .ok (.invokevirtual 258, 3) := by decide +kernel
theorem dX7_pays_89 : decode cX7_pays 89 = .ok (.istore 8, 2) := by decide +kernel
theorem dX7_pays_91 : decode cX7_pays 91 = .ok (.iload 8, 2) := by decide +kernel
theorem dX7_pays_93 : decode cX7_pays 93 = .ok (.ldc_w 273, 3) := by decide +kernel
theorem dX7_pays_96 : decode cX7_pays 96 = .ok (.if_icmp .lt 14, 3) := by decide +kernel
theorem dX7_pays_99 : decode cX7_pays 99 = .ok (.iload 7, 2) := by decide +kernel
theorem dX7_pays_101 : decode cX7_pays 101 = .ok (.ifCond .le 7, 3) := by decide +kernel
theorem dX7_pays_104 : decode cX7_pays 104 = .ok (.iconst 1, 1) := by decide +kernel
theorem dX7_pays_105 : decode cX7_pays 105 = .ok (.goto 4, 3) := by decide +kernel
theorem dX7_pays_108 : decode cX7_pays 108 = .ok (.iconst 0, 1) := by decide +kernel
theorem dX7_pays_109 : decode cX7_pays 109 = .ok (.ireturn, 1) := by decide +kernel
theorem dX7_pays_110 : decode cX7_pays 110 = .ok (.aload_n 0, 1) := by decide +kernel
theorem dX7_pays_111 : decode cX7_pays 111 = .ok (.getfield 19, 3) := by decide +kernel
theorem dX7_pays_114 : decode cX7_pays 114 = .ok (.getfield 207, 3) := by decide +kernel
theorem dX7_pays_117 : decode cX7_pays 117 = .ok (.iload_n 1, 1) := by decide +kernel
theorem dX7_pays_118 : decode cX7_pays 118 = .ok (.iaload, 1) := by decide +kernel
theorem dX7_pays_119 : decode cX7_pays 119 = .ok (.bipush 100, 2) := by decide +kernel
theorem dX7_pays_121 : decode cX7_pays 121 = .ok (.iload 7, 2) := by decide +kernel
theorem dX7_pays_123 : decode cX7_pays 123 = .ok (.isub, 1) := by decide +kernel
theorem dX7_pays_124 : decode cX7_pays 124 = .ok (.imul, 1) := by decide +kernel
theorem dX7_pays_125 : decode cX7_pays 125 = .ok (.bipush 100, 2) := by decide +kernel
theorem dX7_pays_127 : decode cX7_pays 127 = .ok (.idiv, 1) := by decide +kernel
theorem dX7_pays_128 : decode cX7_pays 128 = .ok (.istore 9, 2) := by decide +kernel
theorem dX7_pays_130 : decode cX7_pays 130 = .ok (.iload 9, 2) := by decide +kernel
theorem dX7_pays_132 : decode cX7_pays 132 = .ok (.iload 8, 2) := by decide +kernel
theorem dX7_pays_134 : decode cX7_pays 134 = .ok (.iload 6, 2) := by decide +kernel
theorem dX7_pays_136 : decode cX7_pays 136 = .ok (.imul, 1) := by decide +kernel
theorem dX7_pays_137 : decode cX7_pays 137 = .ok (.if_icmp .ge 7, 3) := by decide +kernel
theorem dX7_pays_140 : decode cX7_pays 140 = .ok (.iconst 1, 1) := by decide +kernel
theorem dX7_pays_141 : decode cX7_pays 141 = .ok (.goto 4, 3) := by decide +kernel
theorem dX7_pays_144 : decode cX7_pays 144 = .ok (.iconst 0, 1) := by decide +kernel
theorem dX7_pays_145 : decode cX7_pays 145 = .ok (.ireturn, 1) := by decide +kernel
theorem dX7_see_0 : decode cX7_see 0 = .ok (.aload_n 0, 1) := by decide +kernel
theorem dX7_see_1 : decode cX7_see 1 = .ok (.iload_n 1, 1) := by decide +kernel
theorem dX7_see_2 : decode cX7_see 2 = .ok (.invokevirtual 171, 3) := by decide +kernel
theorem dX7_see_5 : decode cX7_see 5 = .ok (.ifCond .eq 11, 3) := by decide +kernel
theorem dX7_see_8 : decode cX7_see 8 = .ok (.aload_n 0, 1) := by decide +kernel
theorem dX7_see_9 : decode cX7_see 9 = .ok (.iload_n 2, 1) := by decide +kernel
theorem dX7_see_10 : decode cX7_see 10 = .ok (.invokevirtual 122, 3) := by decide +kernel
theorem dX7_see_13 : decode cX7_see 13 = .ok (.ifCond .ne 6, 3) := by decide +kernel
theorem dX7_see_16 : decode cX7_see 16 = .ok (.ldc 126, 2) := by decide +kernel
theorem dX7_see_18 : decode cX7_see 18 = .ok (.ireturn, 1) := by decide +kernel
theorem dX7_see_19 : decode cX7_see 19 = .ok (.iload_n 3, 1) := by decide +kernel
theorem dX7_see_20 : decode cX7_see 20 = .ok (.ifCond .lt 10, 3) := by decide +kernel
theorem dX7_see_23 : decode cX7_see 23 = .ok (.iload_n 3, 1) := by decide +kernel
theorem dX7_see_24 : decode cX7_see 24 = .ok (.sipush 9999, 3) := by decide +kernel
theorem dX7_see_27 : decode cX7_see 27 = .ok (.if_icmp .le 6, 3) := by decide +kernel
theorem dX7_see_30 : decode cX7_see 30 = .ok (.ldc 73, 2) := by decide +kernel
theorem dX7_see_32 : decode cX7_see 32 = .ok (.ireturn, 1) := by decide +kernel
theorem dX7_see_33 : decode cX7_see 33 = .ok (.aload_n 0, 1) := by decide +kernel
theorem dX7_see_34 : decode cX7_see 34 = .ok (.getfield 44, 3) := by decide +kernel
theorem dX7_see_37 : decode cX7_see 37 = .ok (.getfield 89, 3) := by decide +kernel
theorem dX7_see_40 : decode cX7_see 40 = .ok (.bipush 20, 2) := by decide +kernel
theorem dX7_see_42 : decode cX7_see 42 = .ok (.if_icmp .lt 6, 3) := by decide +kernel
theorem dX7_see_45 : decode cX7_see 45 = .ok (.ldc 77, 2) := by decide +kernel
theorem dX7_see_47 : decode cX7_see 47 = .ok (.ireturn, 1) := by decide +kernel
theorem dX7_see_48 : decode cX7_see 48 = .ok (.aload_n 0, 1) := by decide +kernel
theorem dX7_see_49 : decode cX7_see 49 = .ok (.getfield 44, 3) := by decide +kernel
theorem dX7_see_52 : decode cX7_see 52 = .ok (.iload_n 1, 1) := by decide +kernel
theorem dX7_see_53 : decode cX7_see 53 = .ok (.iload_n 2, 1) := by decide +kernel
theorem dX7_see_54 : decode cX7_see 54 = .ok (.iload_n 3, 1) := by decide +kernel
theorem dX7_see_55 : decode cX7_see 55 = .ok (.invokevirtual 298, 3) := by decide +kernel
theorem dX7_see_58 : decode cX7_see 58 = .ok (.aload_n 0, 1) := by decide +kernel
theorem dX7_see_59 : decode cX7_see 59 = .ok (.getfield 44, 3) := by decide +kernel
theorem dX7_see_62 : decode cX7_see 62 = .ok (.getfield 89, 3) := by decide +kernel
theorem dX7_see_65 : decode cX7_see 65 = .ok (.ireturn, 1) := by decide +kernel
theorem dX7_forget_0 : decode cX7_forget 0 = .ok (.aload_n 0, 1) := by decide +kernel
theorem dX7_forget_1 : decode cX7_forget 1 = .ok (.getfield 44, 3) := by decide +kernel
theorem dX7_forget_4 : decode cX7_forget 4 = .ok (.getfield 89, 3) := by decide +kernel
theorem dX7_forget_7 : decode cX7_forget 7 = .ok (.istore_n 1, 1) := by decide +kernel
theorem dX7_forget_8 : decode cX7_forget 8 = .ok (.aload_n 0, 1) := by decide +kernel
theorem dX7_forget_9 : decode cX7_forget 9 = .ok (.getfield 44, 3) := by decide +kernel
theorem dX7_forget_12 : decode cX7_forget 12 = .ok (.iconst 0, 1) := by decide +kernel
theorem dX7_forget_13 : decode cX7_forget 13 = .ok (.putfield 89, 3) := by decide +kernel
theorem dX7_forget_16 : decode cX7_forget 16 = .ok (.iload_n 1, 1) := by decide +kernel
theorem dX7_forget_17 : decode cX7_forget 17 = .ok (.ireturn, 1) := by decide +kernel
theorem dX7_who_0 : decode cX7_who 0 = .ok (.aload_n 0, 1) := by decide +kernel
theorem dX7_who_1 : decode cX7_who 1 = .ok (.iload_n 1, 1) := by decide +kernel
theorem dX7_who_2 : decode cX7_who 2 = .ok (.invokevirtual 122, 3) := by decide +kernel
theorem dX7_who_5 : decode cX7_who 5 = .ok (.ifCond .ne 6, 3) := by decide +kernel
theorem dX7_who_8 : decode cX7_who 8 = .ok (.ldc 126, 2) := by decide +kernel
theorem dX7_who_10 : decode cX7_who 10 = .ok (.ireturn, 1) := by decide +kernel
theorem dX7_who_11 : decode cX7_who 11 = .ok (.iload_n 2, 1) := by decide +kernel
theorem dX7_who_12 : decode cX7_who 12 = .ok (.ifCond .lt 10, 3) := by decide +kernel
theorem dX7_who_15 : decode cX7_who 15 = .ok (.iload_n 2, 1) := by decide +kernel
theorem dX7_who_16 : decode cX7_who 16 = .ok (.sipush 9999, 3) := by decide +kernel
theorem dX7_who_19 : decode cX7_who 19 = .ok (.if_icmp .le 6, 3) := by decide +kernel
theorem dX7_who_22 : decode cX7_who 22 = .ok (.ldc 73, 2) := by decide +kernel
theorem dX7_who_24 : decode cX7_who 24 = .ok (.ireturn, 1) := by decide +kernel
theorem dX7_who_25 : decode cX7_who 25 = .ok (.iconst 0, 1) := by decide +kernel
theorem dX7_who_26 : decode cX7_who 26 = .ok (.istore_n 3, 1) := by decide +kernel
theorem dX7_who_27 : decode cX7_who 27 = .ok (.iconst 0, 1) := by decide +kernel
theorem dX7_who_28 : decode cX7_who 28 = .ok (.istore 4, 2) := by decide +kernel
theorem dX7_who_30 : decode cX7_who 30 = .ok (.iload 4, 2) := by decide +kernel
theorem dX7_who_32 : decode cX7_who 32 = .ok (.aload_n 0, 1) := by decide +kernel
theorem dX7_who_33 : decode cX7_who 33 = .ok (.getfield 19, 3) := by decide +kernel
theorem dX7_who_36 : decode cX7_who 36 = .ok (.getfield 101, 3) := by decide +kernel
theorem dX7_who_39 : decode cX7_who 39 = .ok (.if_icmp .ge 27, 3) := by decide +kernel
theorem dX7_who_42 : decode cX7_who 42 = .ok (.aload_n 0, 1) := by decide +kernel
theorem dX7_who_43 : decode cX7_who 43 = .ok (.iload 4, 2) := by decide +kernel
theorem dX7_who_45 : decode cX7_who 45 = .ok (.iload_n 1, 1) := by decide +kernel
theorem dX7_who_46 : decode cX7_who 46 = .ok (.iload_n 2, 1) := by decide +kernel
theorem dX7_who_47 : decode cX7_who 47 = .ok (.invokevirtual 301, 3) := by decide +kernel
theorem dX7_who_50 : decode cX7_who 50 = .ok (.ifCond .eq 10, 3) := by decide +kernel
theorem dX7_who_53 : decode cX7_who 53 = .ok (.iload_n 3, 1) := by decide +kernel
theorem dX7_who_54 : decode cX7_who 54 = .ok (.iconst 1, 1) := by decide +kernel
theorem dX7_who_55 : decode cX7_who 55 = .ok (.iload 4, 2) := by decide +kernel
theorem dX7_who_57 : decode cX7_who 57 = .ok (.ishl, 1) := by decide +kernel
theorem dX7_who_58 : decode cX7_who 58 = .ok (.ior, 1) := by decide +kernel
theorem dX7_who_59 : decode cX7_who 59 = .ok (.istore_n 3, 1) := by decide +kernel
theorem dX7_who_60 : decode cX7_who 60 = .ok (.iinc 4 1, 3) := by decide +kernel
theorem dX7_who_63 : decode cX7_who 63 = .ok (.goto (-33), 3) := by decide +kernel
theorem dX7_who_66 : decode cX7_who 66 = .ok (.iload_n 3, 1) := by decide +kernel
theorem dX7_who_67 : decode cX7_who 67 = .ok (.ireturn, 1) := by decide +kernel
theorem dX7_judge_0 : decode cX7_judge 0 = .ok (.iconst 0, 1) := by decide +kernel
theorem dX7_judge_1 : decode cX7_judge 1 = .ok (.istore_n 1, 1) := by decide +kernel
theorem dX7_judge_2 : decode cX7_judge 2 = .ok (.iload_n 1, 1) := by decide +kernel
theorem dX7_judge_3 : decode cX7_judge 3 = .ok (.aload_n 0, 1) := by decide +kernel
theorem dX7_judge_4 : decode cX7_judge 4 = .ok (.getfield 44, 3) := by decide +kernel
theorem dX7_judge_7 : decode cX7_judge 7 = .ok (.getfield 89, 3) := by decide +kernel
theorem dX7_judge_10 : decode cX7_judge 10 = .ok (.if_icmp .ge 19, 3) := by decide +kernel
theorem dX7_judge_13 : decode cX7_judge 13 = .ok (.aload_n 0, 1) := by decide +kernel
theorem dX7_judge_14 : decode cX7_judge 14 = .ok (.iload_n 1, 1) := by decide +kernel
theorem dX7_judge_15 : decode cX7_judge 15 = .ok (.invokevirtual 305, 3) := by decide +kernel
theorem dX7_judge_18 : decode cX7_judge 18 = .ok (.ifCond .eq 5, 3) := by decide +kernel
theorem dX7_judge_21 : decode cX7_judge 21 = .ok (.iload_n 1, 1) := by decide +kernel
theorem dX7_judge_22 : decode cX7_judge 22 = .ok (.ireturn, 1) := by decide +kernel
theorem dX7_judge_23 : decode cX7_judge 23 = .ok (.iinc 1 1, 3) := by decide +kernel
theorem dX7_judge_26 : decode cX7_judge 26 = .ok (.goto (-24), 3) := by decide +kernel
theorem dX7_judge_29 : decode cX7_judge 29 = .ok (.iconst (-1), 1) := by decide +kernel
theorem dX7_judge_30 : decode cX7_judge 30 = .ok (.ireturn, 1) := by decide +kernel
theorem dX7_seed_0 : decode cX7_seed 0 = .ok (.iload_n 1, 1) := by decide +kernel
theorem dX7_seed_1 : decode cX7_seed 1 = .ok (.ifCond .ge 6, 3) := by decide +kernel
theorem dX7_seed_4 : decode cX7_seed 4 = .ok (.ldc 73, 2) := by decide +kernel
theorem dX7_seed_6 : decode cX7_seed 6 = .ok (.ireturn, 1) := by decide +kernel
theorem dX7_seed_7 : decode cX7_seed 7 = .ok (.aload_n 0, 1) := by decide +kernel
theorem dX7_seed_8 : decode cX7_seed 8 = .ok (.getfield 29, 3) := by decide +kernel
theorem dX7_seed_11 : decode cX7_seed 11 = .ok (.getfield 308, 3) := by decide +kernel
theorem dX7_seed_14 : decode cX7_seed 14 = .ok (.istore_n 2, 1) := by decide +kernel
theorem dX7_seed_15 : decode cX7_seed 15 = .ok (.aload_n 0, 1) := by decide +kernel
theorem dX7_seed_16 : decode cX7_seed 16 = .ok (.getfield 29, 3) := by decide +kernel
theorem dX7_seed_19 : decode cX7_seed 19 = .ok (.iload_n 1, 1) := by decide +kernel
theorem dX7_seed_20 : decode cX7_seed 20 = .ok (.putfield 308, 3) := by decide +kernel
theorem dX7_seed_23 : decode cX7_seed 23 = .ok (.iload_n 2, 1) := by decide +kernel
theorem dX7_seed_24 : decode cX7_seed 24 = .ok (.ireturn, 1) := by decide +kernel
theorem dX7_keep_0 : decode cX7_keep 0 = .ok (.iload_n 1, 1) := by decide +kernel
theorem dX7_keep_1 : decode cX7_keep 1 = .ok (.ifCond .lt 8, 3) := by decide +kernel
theorem dX7_keep_4 : decode cX7_keep 4 = .ok (.iload_n 1, 1) := by decide +kernel
theorem dX7_keep_5 : decode cX7_keep 5 = .ok (.iconst 2, 1) := by decide +kernel
theorem dX7_keep_6 : decode cX7_keep 6 = .ok (.if_icmp .lt 6, 3) := by decide +kernel
theorem dX7_keep_9 : decode cX7_keep 9 = .ok (.ldc 126, 2) := by decide +kernel
theorem dX7_keep_11 : decode cX7_keep 11 = .ok (.ireturn, 1) := by decide +kernel
theorem dX7_keep_12 : decode cX7_keep 12 = .ok (.aload_n 0, 1) := by decide +kernel
theorem dX7_keep_13 : decode cX7_keep 13 = .ok (.getfield 33, 3) := by decide +kernel
theorem dX7_keep_16 : decode cX7_keep 16 = .ok (.iload_n 1, 1) := by decide +kernel
theorem dX7_keep_17 : decode cX7_keep 17 = .ok (.aaload, 1) := by decide +kernel
theorem dX7_keep_18 : decode cX7_keep 18 = .ok (.aload_n 0, 1) := by decide +kernel
theorem dX7_keep_19 : decode cX7_keep 19 = .ok (.getfield 29, 3) := by decide +kernel
theorem dX7_keep_22 : decode cX7_keep 22 = .ok (.invokevirtual 311, 3) := by decide +kernel
theorem dX7_keep_25 : decode cX7_keep 25 = .ok (.aload_n 0, 1) := by decide +kernel
theorem dX7_keep_26 : decode cX7_keep 26 = .ok (.dup, 1) := by decide +kernel
theorem dX7_keep_27 : decode cX7_keep 27 = .ok (.getfield 37, 3) := by decide +kernel
theorem dX7_keep_30 : decode cX7_keep 30 = .ok (.iconst 1, 1) := by decide +kernel
theorem dX7_keep_31 : decode cX7_keep 31 = .ok (.iload_n 1, 1) := by decide +kernel
theorem dX7_keep_32 : decode cX7_keep 32 = .ok (.ishl, 1) := by decide +kernel
theorem dX7_keep_33 : decode cX7_keep 33 = .ok (.ior, 1) := by decide +kernel
theorem dX7_keep_34 : decode cX7_keep 34 = .ok (.putfield 37, 3) := by decide +kernel
theorem dX7_keep_37 : decode cX7_keep 37 = .ok (.iconst 1, 1) := by decide +kernel
theorem dX7_keep_38 : decode cX7_keep 38 = .ok (.ireturn, 1) := by decide +kernel
theorem dX7_goBack_0 : decode cX7_goBack 0 = .ok (.iload_n 1, 1) := by decide +kernel
theorem dX7_goBack_1 : decode cX7_goBack 1 = .ok (.ifCond .lt 8, 3) := by decide +kernel
theorem dX7_goBack_4 : decode cX7_goBack 4 = .ok (.iload_n 1, 1) := by decide +kernel
theorem dX7_goBack_5 : decode cX7_goBack 5 = .ok (.iconst 2, 1) := by decide +kernel
theorem dX7_goBack_6 : decode cX7_goBack 6 = .ok (.if_icmp .lt 6, 3) := by decide +kernel
theorem dX7_goBack_9 : decode cX7_goBack 9 = .ok (.ldc 126, 2) := by decide +kernel
theorem dX7_goBack_11 : decode cX7_goBack 11 = .ok (.ireturn, 1) := by decide +kernel
theorem dX7_goBack_12 : decode cX7_goBack 12 = .ok (.aload_n 0, 1) := by decide +kernel
theorem dX7_goBack_13 : decode cX7_goBack 13 = .ok (.getfield 37, 3) := by decide +kernel
theorem dX7_goBack_16 : decode cX7_goBack 16 = .ok (.iload_n 1, 1) := by decide +kernel
theorem dX7_goBack_17 : decode cX7_goBack 17 = .ok (.invokestatic 237, 3) := by decide +kernel
theorem dX7_goBack_20 : decode cX7_goBack 20 = .ok (.ifCond .ne 6, 3) := by decide +kernel
theorem dX7_goBack_23 : decode cX7_goBack 23 = .ok (.ldc 216, 2) := by decide +kernel
theorem dX7_goBack_25 : decode cX7_goBack 25 = .ok (.ireturn, 1) := by decide +kernel
theorem dX7_goBack_26 : decode cX7_goBack 26 = .ok (.aload_n 0, 1) := by decide +kernel
theorem dX7_goBack_27 : decode cX7_goBack 27 = .ok (.getfield 29, 3) := by decide +kernel
theorem dX7_goBack_30 : decode cX7_goBack 30 = .ok (.aload_n 0, 1) := by decide +kernel
theorem dX7_goBack_31 : decode cX7_goBack 31 = .ok (.getfield 33, 3) := by decide +kernel
theorem dX7_goBack_34 : decode cX7_goBack 34 = .ok (.iload_n 1, 1) := by decide +kernel
theorem dX7_goBack_35 : decode cX7_goBack 35 = .ok (.aaload, 1) := by decide +kernel
theorem dX7_goBack_36 : decode cX7_goBack 36 = .ok (.invokevirtual 311, 3) := by decide +kernel
theorem dX7_goBack_39 : decode cX7_goBack 39 = .ok (.iconst 1, 1) := by decide +kernel
theorem dX7_goBack_40 : decode cX7_goBack 40 = .ok (.ireturn, 1) := by decide +kernel
theorem dX7_isPole_0 : decode cX7_isPole 0 = .ok (.iload_n 1, 1) := by decide +kernel
theorem dX7_isPole_1 : decode cX7_isPole 1 = .ok (.ifCond .lt 18, 3) := by decide +kernel
theorem dX7_isPole_4 : decode cX7_isPole 4 = .ok (.iload_n 1, 1) := by decide +kernel
theorem dX7_isPole_5 : decode cX7_isPole 5 = .ok (.aload_n 0, 1) := by decide +kernel
theorem dX7_isPole_6 : decode cX7_isPole 6 = .ok (.getfield 19, 3) := by decide +kernel
theorem dX7_isPole_9 : decode cX7_isPole 9 = .ok (.getfield 92, 3) := by decide +kernel
theorem dX7_isPole_12 : decode cX7_isPole 12 = .ok (.if_icmp .ge 7, 3) := by decide +kernel
theorem dX7_isPole_15 : decode cX7_isPole 15 = .ok (.iconst 1, 1) := by decide +kernel
theorem dX7_isPole_16 : decode cX7_isPole 16 = .ok (.goto 4, 3) := by decide +kernel
theorem dX7_isPole_19 : decode cX7_isPole 19 = .ok (.iconst 0, 1) := by decide +kernel
theorem dX7_isPole_20 : decode cX7_isPole 20 = .ok (.ireturn, 1) := by decide +kernel
theorem dX7_isRope_0 : decode cX7_isRope 0 = .ok (.iload_n 1, 1) := by decide +kernel
theorem dX7_isRope_1 : decode cX7_isRope 1 = .ok (.ifCond .lt 18, 3) := by decide +kernel
theorem dX7_isRope_4 : decode cX7_isRope 4 = .ok (.iload_n 1, 1) := by decide +kernel
theorem dX7_isRope_5 : decode cX7_isRope 5 = .ok (.aload_n 0, 1) := by decide +kernel
theorem dX7_isRope_6 : decode cX7_isRope 6 = .ok (.getfield 19, 3) := by decide +kernel
theorem dX7_isRope_9 : decode cX7_isRope 9 = .ok (.getfield 98, 3) := by decide +kernel
theorem dX7_isRope_12 : decode cX7_isRope 12 = .ok (.if_icmp .ge 7, 3) := by decide +kernel
theorem dX7_isRope_15 : decode cX7_isRope 15 = .ok (.iconst 1, 1) := by decide +kernel
theorem dX7_isRope_16 : decode cX7_isRope 16 = .ok (.goto 4, 3) := by decide +kernel
theorem dX7_isRope_19 : decode cX7_isRope 19 = .ok (.iconst 0, 1) := by decide +kernel
theorem dX7_isRope_20 : decode cX7_isRope 20 = .ok (.ireturn, 1) := by decide +kernel
theorem dX7_isBoy_0 : decode cX7_isBoy 0 = .ok (.iload_n 1, 1) := by decide +kernel
theorem dX7_isBoy_1 : decode cX7_isBoy 1 = .ok (.ifCond .lt 18, 3) := by decide +kernel
theorem dX7_isBoy_4 : decode cX7_isBoy 4 = .ok (.iload_n 1, 1) := by decide +kernel
theorem dX7_isBoy_5 : decode cX7_isBoy 5 = .ok (.aload_n 0, 1) := by decide +kernel
theorem dX7_isBoy_6 : decode cX7_isBoy 6 = .ok (.getfield 19, 3) := by decide +kernel
theorem dX7_isBoy_9 : decode cX7_isBoy 9 = .ok (.getfield 101, 3) := by decide +kernel
theorem dX7_isBoy_12 : decode cX7_isBoy 12 = .ok (.if_icmp .ge 7, 3) := by decide +kernel
theorem dX7_isBoy_15 : decode cX7_isBoy 15 = .ok (.iconst 1, 1) := by decide +kernel
theorem dX7_isBoy_16 : decode cX7_isBoy 16 = .ok (.goto 4, 3) := by decide +kernel
theorem dX7_isBoy_19 : decode cX7_isBoy 19 = .ok (.iconst 0, 1) := by decide +kernel
theorem dX7_isBoy_20 : decode cX7_isBoy 20 = .ok (.ireturn, 1) := by decide +kernel
theorem dX7_isLoad_0 : decode cX7_isLoad 0 = .ok (.iload_n 1, 1) := by decide +kernel
theorem dX7_isLoad_1 : decode cX7_isLoad 1 = .ok (.ifCond .lt 18, 3) := by decide +kernel
theorem dX7_isLoad_4 : decode cX7_isLoad 4 = .ok (.iload_n 1, 1) := by decide +kernel
theorem dX7_isLoad_5 : decode cX7_isLoad 5 = .ok (.aload_n 0, 1) := by decide +kernel
theorem dX7_isLoad_6 : decode cX7_isLoad 6 = .ok (.getfield 19, 3) := by decide +kernel
theorem dX7_isLoad_9 : decode cX7_isLoad 9 = .ok (.getfield 104, 3) := by decide +kernel
theorem dX7_isLoad_12 : decode cX7_isLoad 12 = .ok (.if_icmp .ge 7, 3) := by decide +kernel
theorem dX7_isLoad_15 : decode cX7_isLoad 15 = .ok (.iconst 1, 1) := by decide +kernel
theorem dX7_isLoad_16 : decode cX7_isLoad 16 = .ok (.goto 4, 3) := by decide +kernel
theorem dX7_isLoad_19 : decode cX7_isLoad 19 = .ok (.iconst 0, 1) := by decide +kernel
theorem dX7_isLoad_20 : decode cX7_isLoad 20 = .ok (.ireturn, 1) := by decide +kernel
theorem dX7_isSetBelow_0 : decode cX7_isSetBelow 0 = .ok (.iload_n 0, 1) := by decide +kernel
theorem dX7_isSetBelow_1 : decode cX7_isSetBelow 1 = .ok (.ifCond .lt 14, 3) := by decide +kernel
theorem dX7_isSetBelow_4 : decode cX7_isSetBelow 4 = .ok (.iload_n 0, 1) := by decide +kernel
theorem dX7_isSetBelow_5 : decode cX7_isSetBelow 5 = .ok (.iconst 1, 1) := by decide +kernel
theorem dX7_isSetBelow_6 : decode cX7_isSetBelow 6 = .ok (.iload_n 1, 1) := by decide +kernel
theorem dX7_isSetBelow_7 : decode cX7_isSetBelow 7 = .ok (.ishl, 1) := by decide +kernel
theorem dX7_isSetBelow_8 : decode cX7_isSetBelow 8 = .ok (.if_icmp .ge 7, 3) := by decide +kernel
theorem dX7_isSetBelow_11 : decode cX7_isSetBelow 11 = .ok (.iconst 1, 1) := by decide +kernel
theorem dX7_isSetBelow_12 : decode cX7_isSetBelow 12 = .ok (.goto 4, 3) := by decide +kernel
theorem dX7_isSetBelow_15 : decode cX7_isSetBelow 15 = .ok (.iconst 0, 1) := by decide +kernel
theorem dX7_isSetBelow_16 : decode cX7_isSetBelow 16 = .ok (.ireturn, 1) := by decide +kernel
theorem dX7_has_0 : decode cX7_has 0 = .ok (.iload_n 0, 1) := by decide +kernel
theorem dX7_has_1 : decode cX7_has 1 = .ok (.iload_n 1, 1) := by decide +kernel
theorem dX7_has_2 : decode cX7_has 2 = .ok (.ishr, 1) := by decide +kernel
theorem dX7_has_3 : decode cX7_has 3 = .ok (.iconst 1, 1) := by decide +kernel
theorem dX7_has_4 : decode cX7_has 4 = .ok (.iand, 1) := by decide +kernel
theorem dX7_has_5 : decode cX7_has 5 = .ok (.iconst 1, 1) := by decide +kernel
theorem dX7_has_6 : decode cX7_has 6 = .ok (.if_icmp .ne 7, 3) := by decide +kernel
theorem dX7_has_9 : decode cX7_has 9 = .ok (.iconst 1, 1) := by decide +kernel
theorem dX7_has_10 : decode cX7_has 10 = .ok (.goto 4, 3) := by decide +kernel
theorem dX7_has_13 : decode cX7_has 13 = .ok (.iconst 0, 1) := by decide +kernel
theorem dX7_has_14 : decode cX7_has 14 = .ok (.ireturn, 1) := by decide +kernel
theorem dX7_bit_0 : decode cX7_bit 0 = .ok (.iload_n 0, 1) := by decide +kernel
theorem dX7_bit_1 : decode cX7_bit 1 = .ok (.iload_n 1, 1) := by decide +kernel
theorem dX7_bit_2 : decode cX7_bit 2 = .ok (.ishr, 1) := by decide +kernel
theorem dX7_bit_3 : decode cX7_bit 3 = .ok (.iconst 1, 1) := by decide +kernel
theorem dX7_bit_4 : decode cX7_bit 4 = .ok (.iand, 1) := by decide +kernel
theorem dX7_bit_5 : decode cX7_bit 5 = .ok (.ireturn, 1) := by decide +kernel
theorem dX7_orNone_0 : decode cX7_orNone 0 = .ok (.iload_n 0, 1) := by decide +kernel
theorem dX7_orNone_1 : decode cX7_orNone 1 = .ok (.ldc_w 273, 3) := by decide +kernel
theorem dX7_orNone_4 : decode cX7_orNone 4 = .ok (.if_icmp .lt 7, 3) := by decide +kernel
theorem dX7_orNone_7 : decode cX7_orNone 7 = .ok (.iconst (-1), 1) := by decide +kernel
theorem dX7_orNone_8 : decode cX7_orNone 8 = .ok (.goto 4, 3) := by decide +kernel
theorem dX7_orNone_11 : decode cX7_orNone 11 = .ok (.iload_n 0, 1) := by decide +kernel
theorem dX7_orNone_12 : decode cX7_orNone 12 = .ok (.ireturn, 1) := by decide +kernel
theorem dX7_mayBeGone_0 : decode cX7_mayBeGone 0 = .ok (.aload_n 0, 1) := by decide +kernel
theorem dX7_mayBeGone_1 : decode cX7_mayBeGone 1 = .ok (.getfield 29, 3) := by decide +kernel
theorem dX7_mayBeGone_4 : decode cX7_mayBeGone 4 = .ok (.getfield 119, 3) := by decide +kernel
theorem dX7_mayBeGone_7 : decode cX7_mayBeGone 7 = .ok (.iload_n 1, 1) := by decide +kernel
theorem dX7_mayBeGone_8 : decode cX7_mayBeGone 8 = .ok (.invokestatic 237, 3) := by decide +kernel
theorem dX7_mayBeGone_11 : decode cX7_mayBeGone 11 = .ok (.ifCond .eq 33, 3) := by decide +kernel
theorem dX7_mayBeGone_14 : decode cX7_mayBeGone 14 = .ok (.aload_n 0, 1) := by decide +kernel
theorem dX7_mayBeGone_15 : decode cX7_mayBeGone 15 = .ok (.getfield 19, 3) := by decide +kernel
theorem dX7_mayBeGone_18 : decode cX7_mayBeGone 18 = .ok (.getfield 186, 3) := by decide +kernel
theorem dX7_mayBeGone_21 : decode cX7_mayBeGone 21 = .ok (.iload_n 2, 1) := by decide +kernel
theorem dX7_mayBeGone_22 : decode cX7_mayBeGone 22 = .ok (.iaload, 1) := by decide +kernel
theorem dX7_mayBeGone_23 : decode cX7_mayBeGone 23 = .ok (.aload_n 0, 1) := by decide +kernel
theorem dX7_mayBeGone_24 : decode cX7_mayBeGone 24 = .ok (.getfield 19, 3) := by decide +kernel
theorem dX7_mayBeGone_27 : decode cX7_mayBeGone 27 = .ok (.iload_n 3, 1) := by decide +kernel
theorem dX7_mayBeGone_28 : decode cX7_mayBeGone 28 = .ok (.invokevirtual 315, 3) := by decide +kernel
theorem dX7_mayBeGone_31 : decode cX7_mayBeGone 31 = .ok (.iadd, 1) := by decide +kernel
theorem dX7_mayBeGone_32 : decode cX7_mayBeGone 32 = .ok (.aload_n 0, 1) := by decide +kernel
theorem dX7_mayBeGone_33 : decode cX7_mayBeGone 33 = .ok (.getfield 19, 3) := by decide +kernel
theorem dX7_mayBeGone_36 : decode cX7_mayBeGone 36 = .ok (.getfield 156, 3) := by decide +kernel
theorem dX7_mayBeGone_39 : decode cX7_mayBeGone 39 = .ok (.iload_n 1, 1) := by decide +kernel
theorem dX7_mayBeGone_40 : decode cX7_mayBeGone 40 = .ok (.iaload, 1) := by decide +kernel
theorem dX7_mayBeGone_41 : decode cX7_mayBeGone 41 = .ok (.if_icmp .le 5, 3) := by decide +kernel
theorem dX7_mayBeGone_44 : decode cX7_mayBeGone 44 = .ok (.iconst 0, 1) := by decide +kernel
theorem dX7_mayBeGone_45 : decode cX7_mayBeGone 45 = .ok (.ireturn, 1) := by decide +kernel
theorem dX7_mayBeGone_46 : decode cX7_mayBeGone 46 = .ok (.aload_n 0, 1) := by decide +kernel
theorem dX7_mayBeGone_47 : decode cX7_mayBeGone 47 = .ok (.getfield 19, 3) := by decide +kernel
theorem dX7_mayBeGone_50 : decode cX7_mayBeGone 50 = .ok (.getfield 153, 3) := by decide +kernel
theorem dX7_mayBeGone_53 : decode cX7_mayBeGone 53 = .ok (.iload_n 1, 1) := by decide +kernel
theorem dX7_mayBeGone_54 : decode cX7_mayBeGone 54 = .ok (.iaload, 1) := by decide +kernel
theorem dX7_mayBeGone_55 : decode cX7_mayBeGone 55 = .ok (.bipush 20, 2) := by decide +kernel
theorem dX7_mayBeGone_57 : decode cX7_mayBeGone 57 = .ok (.if_icmp .ge 15, 3) := by decide +kernel
theorem dX7_mayBeGone_60 : decode cX7_mayBeGone 60 = .ok (.aload_n 0, 1) := by decide +kernel
theorem dX7_mayBeGone_61 : decode cX7_mayBeGone 61 = .ok (.getfield 19, 3) := by decide +kernel
theorem dX7_mayBeGone_64 : decode cX7_mayBeGone 64 = .ok (.iload_n 3, 1) := by decide +kernel
theorem dX7_mayBeGone_65 : decode cX7_mayBeGone 65 = .ok (.iconst 3, 1) := by decide +kernel
theorem dX7_mayBeGone_66 : decode cX7_mayBeGone 66 = .ok (.invokevirtual 318, 3) := by decide +kernel
theorem dX7_mayBeGone_69 : decode cX7_mayBeGone 69 = .ok (.ifCond .ne 7, 3) := by decide +kernel
theorem dX7_mayBeGone_72 : decode cX7_mayBeGone 72 = .ok (.iconst 1, 1) := by decide +kernel
theorem dX7_mayBeGone_73 : decode cX7_mayBeGone 73 = .ok (.goto 4, 3) := by decide +kernel
theorem dX7_mayBeGone_76 : decode cX7_mayBeGone 76 = .ok (.iconst 0, 1) := by decide +kernel
theorem dX7_mayBeGone_77 : decode cX7_mayBeGone 77 = .ok (.ireturn, 1) := by decide +kernel
theorem dX7_minutesOn_0 : decode cX7_minutesOn 0 = .ok (.aload_n 0, 1) := by decide +kernel
theorem dX7_minutesOn_1 : decode cX7_minutesOn 1 = .ok (.getfield 19, 3) := by decide +kernel
theorem dX7_minutesOn_4 : decode cX7_minutesOn 4 = .ok (.getfield 189, 3) := by decide +kernel
theorem dX7_minutesOn_7 : decode cX7_minutesOn 7 = .ok (.iload_n 2, 1) := by decide +kernel
theorem dX7_minutesOn_8 : decode cX7_minutesOn 8 = .ok (.iaload, 1) := by decide +kernel
theorem dX7_minutesOn_9 : decode cX7_minutesOn 9 = .ok (.istore 5, 2) := by decide +kernel
theorem dX7_minutesOn_11 : decode cX7_minutesOn 11 = .ok (.iload 5, 2) := by decide +kernel
theorem dX7_minutesOn_13 : decode cX7_minutesOn 13 = .ok (.iconst 1, 1) := by decide +kernel
theorem dX7_minutesOn_14 : decode cX7_minutesOn 14 = .ok (.if_icmp .lt 13, 3) := by decide +kernel
theorem dX7_minutesOn_17 : decode cX7_minutesOn 17 = .ok (.aload_n 0, 1) := by decide +kernel
theorem dX7_minutesOn_18 : decode cX7_minutesOn 18 = .ok (.iload_n 1, 1) := by decide +kernel
theorem dX7_minutesOn_19 : decode cX7_minutesOn 19 = .ok (.iload_n 2, 1) := by decide +kernel
theorem dX7_minutesOn_20 : decode cX7_minutesOn 20 = .ok (.iload_n 3, 1) := by decide +kernel
theorem dX7_minutesOn_21 : decode cX7_minutesOn 21 = .ok (.invokevirtual 321, 3) := by decide +kernel
theorem dX7_minutesOn_24 : decode cX7_minutesOn 24 = .ok (.ifCond .ne 5, 3) := by decide +kernel
theorem dX7_minutesOn_27 : decode cX7_minutesOn 27 = .ok (.iconst (-1), 1) := by decide +kernel
theorem dX7_minutesOn_28 : decode cX7_minutesOn 28 = .ok (.ireturn, 1) := by decide +kernel
theorem dX7_minutesOn_29 : decode cX7_minutesOn 29 = .ok (.aload_n 0, 1) := by decide +kernel
theorem dX7_minutesOn_30 : decode cX7_minutesOn 30 = .ok (.getfield 19, 3) := by decide +kernel
theorem dX7_minutesOn_33 : decode cX7_minutesOn 33 = .ok (.getfield 153, 3) := by decide +kernel
theorem dX7_minutesOn_36 : decode cX7_minutesOn 36 = .ok (.iload_n 1, 1) := by decide +kernel
theorem dX7_minutesOn_37 : decode cX7_minutesOn 37 = .ok (.iaload, 1) := by decide +kernel
theorem dX7_minutesOn_38 : decode cX7_minutesOn 38 = .ok (.iload 5, 2) := by decide +kernel
theorem dX7_minutesOn_40 : decode cX7_minutesOn 40 = .ok (.iadd, 1) := by decide +kernel
theorem dX7_minutesOn_41 : decode cX7_minutesOn 41 = .ok (.iconst 1, 1) := by decide +kernel
theorem dX7_minutesOn_42 : decode cX7_minutesOn 42 = .ok (.isub, 1) := by decide +kernel
theorem dX7_minutesOn_43 : decode cX7_minutesOn 43 = .ok (.iload 5, 2) := by decide +kernel
theorem dX7_minutesOn_45 : decode cX7_minutesOn 45 = .ok (.idiv, 1) := by decide +kernel
theorem dX7_minutesOn_46 : decode cX7_minutesOn 46 = .ok (.istore 6, 2) := by decide +kernel
theorem dX7_minutesOn_48 : decode cX7_minutesOn 48 = .ok (.aload_n 0, 1) := by decide +kernel
theorem dX7_minutesOn_49 : decode cX7_minutesOn 49 = .ok (.getfield 19, 3) := by decide +kernel
theorem dX7_minutesOn_52 : decode cX7_minutesOn 52 = .ok (.iload_n 3, 1) := by decide +kernel
theorem dX7_minutesOn_53 : decode cX7_minutesOn 53 = .ok (.iconst 2, 1) := by decide +kernel
theorem dX7_minutesOn_54 : decode cX7_minutesOn 54 = .ok (.invokevirtual 318, 3) := by decide +kernel
theorem dX7_minutesOn_57 : decode cX7_minutesOn 57 = .ok (.ifCond .eq 16, 3) := by decide +kernel
theorem dX7_minutesOn_60 : decode cX7_minutesOn 60 = .ok (.iload 6, 2) := by decide +kernel
theorem dX7_minutesOn_62 : decode cX7_minutesOn 62 = .ok (.iconst 1, 1) := by decide +kernel
theorem dX7_minutesOn_63 : decode cX7_minutesOn 63 = .ok (.iload 6, 2) := by decide +kernel
theorem dX7_minutesOn_65 : decode cX7_minutesOn 65 = .ok (.iconst 2, 1) := by decide +kernel
theorem dX7_minutesOn_66 : decode cX7_minutesOn 66 = .ok (.idiv, 1) := by decide +kernel
theorem dX7_minutesOn_67 : decode cX7_minutesOn 67 = .ok (.invokestatic 324, 3) := by decide +kernel
theorem dX7_minutesOn_70 : decode cX7_minutesOn 70 = .ok (.iadd, 1) := by decide +kernel
theorem dX7_minutesOn_71 : decode cX7_minutesOn 71 = .ok (.istore 6, 2) := by decide +kernel
theorem dX7_minutesOn_73 : decode cX7_minutesOn 73 = .ok (.aload_n 0, 1) := by decide +kernel
theorem dX7_minutesOn_74 : decode cX7_minutesOn 74 = .ok (.getfield 29, 3) := by decide +kernel
theorem dX7_minutesOn_77 : decode cX7_minutesOn 77 = .ok (.getfield 162, 3) := by decide +kernel
theorem dX7_minutesOn_80 : decode cX7_minutesOn 80 = .ok (.iload_n 1, 1) := by decide +kernel
theorem dX7_minutesOn_81 : decode cX7_minutesOn 81 = .ok (.invokestatic 237, 3) := by decide +kernel
theorem dX7_minutesOn_84 : decode cX7_minutesOn 84 = .ok (.ifCond .eq 15, 3) := by decide +kernel
theorem dX7_minutesOn_87 : decode cX7_minutesOn 87 = .ok (.iload 4, 2) := by decide +kernel
theorem dX7_minutesOn_89 : decode cX7_minutesOn 89 = .ok (.ifCond .ne 10, 3) := by decide +kernel
theorem dX7_minutesOn_92 : decode cX7_minutesOn 92 = .ok (.iconst 2, 1) := by decide +kernel
theorem dX7_minutesOn_93 : decode cX7_minutesOn 93 = .ok (.iload 6, 2) := by decide +kernel
theorem dX7_minutesOn_95 : decode cX7_minutesOn 95 = .ok (.imul, 1) := by decide +kernel
theorem dX7_minutesOn_96 : decode cX7_minutesOn 96 = .ok (.goto 5, 3) := by decide +kernel
theorem dX7_minutesOn_99 : decode cX7_minutesOn 99 = .ok (.iload 6, 2) := by decide +kernel
theorem dX7_minutesOn_101 : decode cX7_minutesOn 101 = .ok (.ireturn, 1) := by decide +kernel
theorem dX7_passMinute_0 : decode cX7_passMinute 0 = .ok (.aload_n 0, 1) := by decide +kernel
theorem dX7_passMinute_1 : decode cX7_passMinute 1 = .ok (.getfield 29, 3) := by decide +kernel
theorem dX7_passMinute_4 : decode cX7_passMinute 4 = .ok (.dup, 1) := by decide +kernel
theorem dX7_passMinute_5 : decode cX7_passMinute 5 = .ok (.getfield 107, 3) := by decide +kernel
theorem dX7_passMinute_8 : decode cX7_passMinute 8 = .ok (.iconst 1, 1) := by decide +kernel
theorem dX7_passMinute_9 : decode cX7_passMinute 9 = .ok (.iadd, 1) := by decide +kernel
theorem dX7_passMinute_10 : decode cX7_passMinute 10 = .ok (.putfield 107, 3) := by decide +kernel
theorem dX7_passMinute_13 : decode cX7_passMinute 13 = .ok (.iconst 0, 1) := by decide +kernel
theorem dX7_passMinute_14 : decode cX7_passMinute 14 = .ok (.istore_n 1, 1) := by decide +kernel
theorem dX7_passMinute_15 : decode cX7_passMinute 15 = .ok (.iload_n 1, 1) := by decide +kernel
theorem dX7_passMinute_16 : decode cX7_passMinute 16 = .ok (.aload_n 0, 1) := by decide +kernel
theorem dX7_passMinute_17 : decode cX7_passMinute 17 = .ok (.getfield 19, 3) := by decide +kernel
theorem dX7_passMinute_20 : decode cX7_passMinute 20 = .ok (.getfield 101, 3) := by decide +kernel
theorem dX7_passMinute_23 : decode cX7_passMinute 23 = .ok (.if_icmp .ge 25, 3) := by decide +kernel
theorem dX7_passMinute_26 : decode cX7_passMinute 26 = .ok (.aload_n 0, 1) := by decide +kernel
theorem dX7_passMinute_27 : decode cX7_passMinute 27 = .ok (.getfield 29, 3) := by decide +kernel
theorem dX7_passMinute_30 : decode cX7_passMinute 30 = .ok (.iload_n 1, 1) := by decide +kernel
theorem dX7_passMinute_31 : decode cX7_passMinute 31 = .ok (.invokevirtual 174, 3) := by decide +kernel
theorem dX7_passMinute_34 : decode cX7_passMinute 34 = .ok (.ifCond .eq 8, 3) := by decide +kernel
theorem dX7_passMinute_37 : decode cX7_passMinute 37 = .ok (.aload_n 0, 1) := by decide +kernel
theorem dX7_passMinute_38 : decode cX7_passMinute 38 = .ok (.iload_n 1, 1) := by decide +kernel
theorem dX7_passMinute_39 : decode cX7_passMinute 39 = .ok (.invokevirtual 329, 3) := by decide +kernel
theorem dX7_passMinute_42 : decode cX7_passMinute 42 = .ok (.iinc 1 1, 3) := by decide +kernel
theorem dX7_passMinute_45 : decode cX7_passMinute 45 = .ok (.goto (-30), 3) := by decide +kernel
theorem dX7_passMinute_48 : decode cX7_passMinute 48 = .ok (.return_, 1) := by decide +kernel
theorem dX7_moveOn_0 : decode cX7_moveOn 0 = .ok (.aload_n 0, 1) := by decide +kernel
theorem dX7_moveOn_1 : decode cX7_moveOn 1 = .ok (.getfield 29, 3) := by decide +kernel
theorem dX7_moveOn_4 : decode cX7_moveOn 4 = .ok (.getfield 183, 3) := by decide +kernel
theorem dX7_moveOn_7 : decode cX7_moveOn 7 = .ok (.iload_n 1, 1) := by decide +kernel
theorem dX7_moveOn_8 : decode cX7_moveOn 8 = .ok (.dup2, 1) := by decide +kernel
theorem dX7_moveOn_9 : decode cX7_moveOn 9 = .ok (.iaload, 1) := by decide +kernel
theorem dX7_moveOn_10 : decode cX7_moveOn 10 = .ok (.iconst 1, 1) := by decide +kernel
theorem dX7_moveOn_11 : decode cX7_moveOn 11 = .ok (.isub, 1) := by decide +kernel
theorem dX7_moveOn_12 : decode cX7_moveOn 12 = .ok (.iastore, 1) := by decide +kernel
theorem dX7_moveOn_13 : decode cX7_moveOn 13 = .ok (.aload_n 0, 1) := by decide +kernel
theorem dX7_moveOn_14 : decode cX7_moveOn 14 = .ok (.getfield 29, 3) := by decide +kernel
theorem dX7_moveOn_17 : decode cX7_moveOn 17 = .ok (.getfield 183, 3) := by decide +kernel
theorem dX7_moveOn_20 : decode cX7_moveOn 20 = .ok (.iload_n 1, 1) := by decide +kernel
theorem dX7_moveOn_21 : decode cX7_moveOn 21 = .ok (.iaload, 1) := by decide +kernel
theorem dX7_moveOn_22 : decode cX7_moveOn 22 = .ok (.ifCond .le 4, 3) := by decide +kernel
theorem dX7_moveOn_25 : decode cX7_moveOn 25 = .ok (.return_, 1) := by decide +kernel
theorem dX7_moveOn_26 : decode cX7_moveOn 26 = .ok (.aload_n 0, 1) := by decide +kernel
theorem dX7_moveOn_27 : decode cX7_moveOn 27 = .ok (.getfield 29, 3) := by decide +kernel
theorem dX7_moveOn_30 : decode cX7_moveOn 30 = .ok (.getfield 177, 3) := by decide +kernel
theorem dX7_moveOn_33 : decode cX7_moveOn 33 = .ok (.iload_n 1, 1) := by decide +kernel
theorem dX7_moveOn_34 : decode cX7_moveOn 34 = .ok (.iaload, 1) := by decide +kernel
theorem dX7_moveOn_35 : decode cX7_moveOn 35 = .ok (.istore_n 2, 1) := by decide +kernel
theorem dX7_moveOn_36 : decode cX7_moveOn 36 = .ok (.aload_n 0, 1) := by decide +kernel
theorem dX7_moveOn_37 : decode cX7_moveOn 37 = .ok (.getfield 29, 3) := by decide +kernel
theorem dX7_moveOn_40 : decode cX7_moveOn 40 = .ok (.iload_n 2, 1) := by decide +kernel
theorem dX7_moveOn_41 : decode cX7_moveOn 41 = .ok (.aload_n 0, 1) := by decide +kernel
theorem dX7_moveOn_42 : decode cX7_moveOn 42 = .ok (.getfield 19, 3) := by decide +kernel
theorem dX7_moveOn_45 : decode cX7_moveOn 45 = .ok (.getfield 101, 3) := by decide +kernel
theorem dX7_moveOn_48 : decode cX7_moveOn 48 = .ok (.invokevirtual 137, 3) := by decide +kernel
theorem dX7_moveOn_51 : decode cX7_moveOn 51 = .ok (.invokestatic 228, 3) := by decide +kernel
theorem dX7_moveOn_54 : decode cX7_moveOn 54 = .ok (.aload_n 0, 1) := by decide +kernel
theorem dX7_moveOn_55 : decode cX7_moveOn 55 = .ok (.getfield 19, 3) := by decide +kernel
theorem dX7_moveOn_58 : decode cX7_moveOn 58 = .ok (.getfield 134, 3) := by decide +kernel
theorem dX7_moveOn_61 : decode cX7_moveOn 61 = .ok (.iload_n 2, 1) := by decide +kernel
theorem dX7_moveOn_62 : decode cX7_moveOn 62 = .ok (.iaload, 1) := by decide +kernel
theorem dX7_moveOn_63 : decode cX7_moveOn 63 = .ok (.if_icmp .lt 14, 3) := by decide +kernel
theorem dX7_moveOn_66 : decode cX7_moveOn 66 = .ok (.aload_n 0, 1) := by decide +kernel
theorem dX7_moveOn_67 : decode cX7_moveOn 67 = .ok (.getfield 29, 3) := by decide +kernel
theorem dX7_moveOn_70 : decode cX7_moveOn 70 = .ok (.getfield 183, 3) := by decide +kernel
theorem dX7_moveOn_73 : decode cX7_moveOn 73 = .ok (.iload_n 1, 1) := by decide +kernel
theorem dX7_moveOn_74 : decode cX7_moveOn 74 = .ok (.iconst 1, 1) := by decide +kernel
theorem dX7_moveOn_75 : decode cX7_moveOn 75 = .ok (.iastore, 1) := by decide +kernel
theorem dX7_moveOn_76 : decode cX7_moveOn 76 = .ok (.return_, 1) := by decide +kernel
theorem dX7_moveOn_77 : decode cX7_moveOn 77 = .ok (.aload_n 0, 1) := by decide +kernel
theorem dX7_moveOn_78 : decode cX7_moveOn 78 = .ok (.iload_n 1, 1) := by decide +kernel
theorem dX7_moveOn_79 : decode cX7_moveOn 79 = .ok (.invokevirtual 332, 3) := by decide +kernel
theorem dX7_moveOn_82 : decode cX7_moveOn 82 = .ok (.return_, 1) := by decide +kernel
theorem dX7_arrive_0 : decode cX7_arrive 0 = .ok (.aload_n 0, 1) := by decide +kernel
theorem dX7_arrive_1 : decode cX7_arrive 1 = .ok (.getfield 29, 3) := by decide +kernel
theorem dX7_arrive_4 : decode cX7_arrive 4 = .ok (.getfield 180, 3) := by decide +kernel
theorem dX7_arrive_7 : decode cX7_arrive 7 = .ok (.iload_n 1, 1) := by decide +kernel
theorem dX7_arrive_8 : decode cX7_arrive 8 = .ok (.iaload, 1) := by decide +kernel
theorem dX7_arrive_9 : decode cX7_arrive 9 = .ok (.istore_n 2, 1) := by decide +kernel
theorem dX7_arrive_10 : decode cX7_arrive 10 = .ok (.aload_n 0, 1) := by decide +kernel
theorem dX7_arrive_11 : decode cX7_arrive 11 = .ok (.getfield 29, 3) := by decide +kernel
theorem dX7_arrive_14 : decode cX7_arrive 14 = .ok (.iload_n 1, 1) := by decide +kernel
theorem dX7_arrive_15 : decode cX7_arrive 15 = .ok (.aload_n 0, 1) := by decide +kernel
theorem dX7_arrive_16 : decode cX7_arrive 16 = .ok (.getfield 19, 3) := by decide +kernel
theorem dX7_arrive_19 : decode cX7_arrive 19 = .ok (.getfield 104, 3) := by decide +kernel
theorem dX7_arrive_22 : decode cX7_arrive 22 = .ok (.invokevirtual 192, 3) := by decide +kernel
theorem dX7_arrive_25 : decode cX7_arrive 25 = .ok (.istore_n 3, 1) := by decide +kernel
theorem dX7_arrive_26 : decode cX7_arrive 26 = .ok (.aload_n 0, 1) := by decide +kernel
theorem dX7_arrive_27 : decode cX7_arrive 27 = .ok (.getfield 19, 3) := by decide +kernel
theorem dX7_arrive_30 : decode cX7_arrive 30 = .ok (.getfield 186, 3) := by decide +kernel
theorem dX7_arrive_33 : decode cX7_arrive 33 = .ok (.iload_n 1, 1) := by decide +kernel
theorem dX7_arrive_34 : decode cX7_arrive 34 = .ok (.iaload, 1) := by decide +kernel
theorem dX7_arrive_35 : decode cX7_arrive 35 = .ok (.aload_n 0, 1) := by decide +kernel
theorem dX7_arrive_36 : decode cX7_arrive 36 = .ok (.getfield 19, 3) := by decide +kernel
theorem dX7_arrive_39 : decode cX7_arrive 39 = .ok (.iload_n 3, 1) := by decide +kernel
theorem dX7_arrive_40 : decode cX7_arrive 40 = .ok (.invokevirtual 315, 3) := by decide +kernel
theorem dX7_arrive_43 : decode cX7_arrive 43 = .ok (.iadd, 1) := by decide +kernel
theorem dX7_arrive_44 : decode cX7_arrive 44 = .ok (.istore 4, 2) := by decide +kernel
theorem dX7_arrive_46 : decode cX7_arrive 46 = .ok (.aload_n 0, 1) := by decide +kernel
theorem dX7_arrive_47 : decode cX7_arrive 47 = .ok (.getfield 29, 3) := by decide +kernel
theorem dX7_arrive_50 : decode cX7_arrive 50 = .ok (.getfield 180, 3) := by decide +kernel
theorem dX7_arrive_53 : decode cX7_arrive 53 = .ok (.iload_n 1, 1) := by decide +kernel
theorem dX7_arrive_54 : decode cX7_arrive 54 = .ok (.iconst (-1), 1) := by decide +kernel
theorem dX7_arrive_55 : decode cX7_arrive 55 = .ok (.iastore, 1) := by decide +kernel
theorem dX7_arrive_56 : decode cX7_arrive 56 = .ok (.iconst 0, 1) := by decide +kernel
theorem dX7_arrive_57 : decode cX7_arrive 57 = .ok (.istore 5, 2) := by decide +kernel
theorem dX7_arrive_59 : decode cX7_arrive 59 = .ok (.iload 5, 2) := by decide +kernel
theorem dX7_arrive_61 : decode cX7_arrive 61 = .ok (.aload_n 0, 1) := by decide +kernel
theorem dX7_arrive_62 : decode cX7_arrive 62 = .ok (.getfield 19, 3) := by decide +kernel
theorem dX7_arrive_65 : decode cX7_arrive 65 = .ok (.getfield 104, 3) := by decide +kernel
theorem dX7_arrive_68 : decode cX7_arrive 68 = .ok (.if_icmp .ge 46, 3) := by decide +kernel
theorem dX7_arrive_71 : decode cX7_arrive 71 = .ok (.iload_n 3, 1) := by decide +kernel
theorem dX7_arrive_72 : decode cX7_arrive 72 = .ok (.iload 5, 2) := by decide +kernel
theorem dX7_arrive_74 : decode cX7_arrive 74 = .ok (.invokestatic 237, 3) := by decide +kernel
theorem dX7_arrive_77 : decode cX7_arrive 77 = .ok (.ifCond .eq 31, 3) := by decide +kernel
theorem dX7_arrive_80 : decode cX7_arrive 80 = .ok (.aload_n 0, 1) := by decide +kernel
theorem dX7_arrive_81 : decode cX7_arrive 81 = .ok (.getfield 19, 3) := by decide +kernel
theorem dX7_arrive_84 : decode cX7_arrive 84 = .ok (.getfield 201, 3) := by decide +kernel
theorem dX7_arrive_87 : decode cX7_arrive 87 = .ok (.iload 5, 2) := by decide +kernel
theorem dX7_arrive_89 : decode cX7_arrive 89 = .ok (.iaload, 1) := by decide +kernel
theorem dX7_arrive_90 : decode cX7_arrive 90 = .ok (.aload_n 0, 1) := by decide +kernel
theorem dX7_arrive_91 : decode cX7_arrive 91 = .ok (.getfield 29, 3) := by decide +kernel
theorem dX7_arrive_94 : decode cX7_arrive 94 = .ok (.getfield 177, 3) := by decide +kernel
theorem dX7_arrive_97 : decode cX7_arrive 97 = .ok (.iload_n 1, 1) := by decide +kernel
theorem dX7_arrive_98 : decode cX7_arrive 98 = .ok (.iaload, 1) := by decide +kernel
theorem dX7_arrive_99 : decode cX7_arrive 99 = .ok (.if_icmp .ne 9, 3) := by decide +kernel
theorem dX7_arrive_102 : decode cX7_arrive 102 = .ok (.aload_n 0, 1) := by decide +kernel
theorem dX7_arrive_103 : decode cX7_arrive 103 = .ok (.iload 5, 2) := by decide +kernel
theorem dX7_arrive_105 : decode cX7_arrive 105 = .ok (.invokevirtual 335, 3) := by decide +kernel
theorem dX7_arrive_108 : decode cX7_arrive 108 = .ok (.iinc 5 1, 3) := by decide +kernel
theorem dX7_arrive_111 : decode cX7_arrive 111 = .ok (.goto (-52), 3) := by decide +kernel
theorem dX7_arrive_114 : decode cX7_arrive 114 = .ok (.aload_n 0, 1) := by decide +kernel
theorem dX7_arrive_115 : decode cX7_arrive 115 = .ok (.getfield 29, 3) := by decide +kernel
theorem dX7_arrive_118 : decode cX7_arrive 118 = .ok (.iload_n 2, 1) := by decide +kernel
theorem dX7_arrive_119 : decode cX7_arrive 119 = .ok (.iload 4, 2) := by decide +kernel
theorem dX7_arrive_121 : decode cX7_arrive 121 = .ok (.bipush 10, 2) := by decide +kernel
theorem dX7_arrive_123 : decode cX7_arrive 123 = .ok (.idiv, 1) := by decide +kernel
theorem dX7_arrive_124 : decode cX7_arrive 124 = .ok (.iconst 1, 1) := by decide +kernel
theorem dX7_arrive_125 : decode cX7_arrive 125 = .ok (.iadd, 1) := by decide +kernel
theorem dX7_arrive_126 : decode cX7_arrive 126 = .ok (.invokevirtual 248, 3) := by decide +kernel
theorem dX7_arrive_129 : decode cX7_arrive 129 = .ok (.return_, 1) := by decide +kernel
theorem dX7_deliver_0 : decode cX7_deliver 0 = .ok (.aload_n 0, 1) := by decide +kernel
theorem dX7_deliver_1 : decode cX7_deliver 1 = .ok (.getfield 29, 3) := by decide +kernel
theorem dX7_deliver_4 : decode cX7_deliver 4 = .ok (.getfield 213, 3) := by decide +kernel
theorem dX7_deliver_7 : decode cX7_deliver 7 = .ok (.iload_n 1, 1) := by decide +kernel
theorem dX7_deliver_8 : decode cX7_deliver 8 = .ok (.iconst (-1), 1) := by decide +kernel
theorem dX7_deliver_9 : decode cX7_deliver 9 = .ok (.iastore, 1) := by decide +kernel
theorem dX7_deliver_10 : decode cX7_deliver 10 = .ok (.aload_n 0, 1) := by decide +kernel
theorem dX7_deliver_11 : decode cX7_deliver 11 = .ok (.getfield 29, 3) := by decide +kernel
theorem dX7_deliver_14 : decode cX7_deliver 14 = .ok (.dup, 1) := by decide +kernel
theorem dX7_deliver_15 : decode cX7_deliver 15 = .ok (.getfield 113, 3) := by decide +kernel
theorem dX7_deliver_18 : decode cX7_deliver 18 = .ok (.iconst 1, 1) := by decide +kernel
theorem dX7_deliver_19 : decode cX7_deliver 19 = .ok (.iload_n 1, 1) := by decide +kernel
theorem dX7_deliver_20 : decode cX7_deliver 20 = .ok (.ishl, 1) := by decide +kernel
theorem dX7_deliver_21 : decode cX7_deliver 21 = .ok (.ior, 1) := by decide +kernel
theorem dX7_deliver_22 : decode cX7_deliver 22 = .ok (.putfield 113, 3) := by decide +kernel
theorem dX7_deliver_25 : decode cX7_deliver 25 = .ok (.aload_n 0, 1) := by decide +kernel
theorem dX7_deliver_26 : decode cX7_deliver 26 = .ok (.getfield 19, 3) := by decide +kernel
theorem dX7_deliver_29 : decode cX7_deliver 29 = .ok (.getfield 210, 3) := by decide +kernel
theorem dX7_deliver_32 : decode cX7_deliver 32 = .ok (.iload_n 1, 1) := by decide +kernel
theorem dX7_deliver_33 : decode cX7_deliver 33 = .ok (.iaload, 1) := by decide +kernel
theorem dX7_deliver_34 : decode cX7_deliver 34 = .ok (.iconst 1, 1) := by decide +kernel
theorem dX7_deliver_35 : decode cX7_deliver 35 = .ok (.if_icmp .ne 15, 3) := by decide +kernel
theorem dX7_deliver_38 : decode cX7_deliver 38 = .ok (.aload_n 0, 1) := by decide +kernel
theorem dX7_deliver_39 : decode cX7_deliver 39 = .ok (.getfield 29, 3) := by decide +kernel
theorem dX7_deliver_42 : decode cX7_deliver 42 = .ok (.getfield 107, 3) := by decide +kernel
theorem dX7_deliver_45 : decode cX7_deliver 45 = .ok (.bipush 60, 2) := by decide +kernel
theorem dX7_deliver_47 : decode cX7_deliver 47 = .ok (.if_icmp .gt 24, 3) := by decide +kernel
theorem dX7_deliver_50 : decode cX7_deliver 50 = .ok (.aload_n 0, 1) := by decide +kernel
theorem dX7_deliver_51 : decode cX7_deliver 51 = .ok (.getfield 29, 3) := by decide +kernel
theorem dX7_deliver_54 : decode cX7_deliver 54 = .ok (.dup, 1) := by decide +kernel
theorem dX7_deliver_55 : decode cX7_deliver 55 = .ok (.getfield 110, 3) := by decide +kernel
theorem dX7_deliver_58 : decode cX7_deliver 58 = .ok (.aload_n 0, 1) := by decide +kernel
theorem dX7_deliver_59 : decode cX7_deliver 59 = .ok (.getfield 19, 3) := by decide +kernel
theorem dX7_deliver_62 : decode cX7_deliver 62 = .ok (.getfield 207, 3) := by decide +kernel
theorem dX7_deliver_65 : decode cX7_deliver 65 = .ok (.iload_n 1, 1) := by decide +kernel
theorem dX7_deliver_66 : decode cX7_deliver 66 = .ok (.iaload, 1) := by decide +kernel
theorem dX7_deliver_67 : decode cX7_deliver 67 = .ok (.iadd, 1) := by decide +kernel
theorem dX7_deliver_68 : decode cX7_deliver 68 = .ok (.putfield 110, 3) := by decide +kernel
theorem dX7_deliver_71 : decode cX7_deliver 71 = .ok (.return_, 1) := by decide +kernel
theorem dX7_spreadMinutes_0 : decode cX7_spreadMinutes 0 = .ok (.iconst 0, 1) := by decide +kernel
theorem dX7_spreadMinutes_1 : decode cX7_spreadMinutes 1 = .ok (.istore 4, 2) := by decide +kernel
theorem dX7_spreadMinutes_3 : decode cX7_spreadMinutes 3 = .ok (.iload 4, 2) := by decide +kernel
theorem dX7_spreadMinutes_5 : decode cX7_spreadMinutes 5 = .ok (.aload_n 0, 1) := by decide +kernel
theorem dX7_spreadMinutes_6 : decode cX7_spreadMinutes 6 = .ok (.getfield 19, 3) := by decide +kernel
theorem dX7_spreadMinutes_9 : decode cX7_spreadMinutes 9 = .ok (.getfield 98, 3) := by decide +kernel
theorem dX7_spreadMinutes_12 : decode cX7_spreadMinutes 12 = .ok (.if_icmp .ge 28, 3) := by decide +kernel
theorem dX7_spreadMinutes_15 : decode cX7_spreadMinutes 15 = .ok (.aload_n 0, 1) := by decide +kernel
theorem dX7_spreadMinutes_16 : decode cX7_spreadMinutes 16 = .ok (.getfield 51, 3) := by decide +kernel
theorem dX7_spreadMinutes_19 : decode cX7_spreadMinutes 19 = .ok (.getfield 338, 3) := by decide +kernel
theorem dX7_spreadMinutes_22 : decode cX7_spreadMinutes 22 = .ok (.iload 4, 2) := by decide +kernel
theorem dX7_spreadMinutes_24 : decode cX7_spreadMinutes 24 = .ok (.aload_n 0, 1) := by decide +kernel
theorem dX7_spreadMinutes_25 : decode cX7_spreadMinutes 25 = .ok (.iload 4, 2) := by decide +kernel
theorem dX7_spreadMinutes_27 : decode cX7_spreadMinutes 27 = .ok (.iload_n 1, 1) := by decide +kernel
theorem dX7_spreadMinutes_28 : decode cX7_spreadMinutes 28 = .ok (.iload_n 2, 1) := by decide +kernel
theorem dX7_spreadMinutes_29 : decode cX7_spreadMinutes 29 = .ok (.iload_n 3, 1) := by decide +kernel
theorem dX7_spreadMinutes_30 : decode cX7_spreadMinutes 30 = .ok (.invokevirtual 220, 3) := by decide +kernel
theorem dX7_spreadMinutes_33 : decode cX7_spreadMinutes 33 = .ok (.iastore, 1) := by decide +kernel
theorem dX7_spreadMinutes_34 : decode cX7_spreadMinutes 34 = .ok (.iinc 4 1, 3) := by decide +kernel
theorem dX7_spreadMinutes_37 : decode cX7_spreadMinutes 37 = .ok (.goto (-34), 3) := by decide +kernel
theorem dX7_spreadMinutes_40 : decode cX7_spreadMinutes 40 = .ok (.aload_n 0, 1) := by decide +kernel
theorem dX7_spreadMinutes_41 : decode cX7_spreadMinutes 41 = .ok (.getfield 51, 3) := by decide +kernel
theorem dX7_spreadMinutes_44 : decode cX7_spreadMinutes 44 = .ok (.aload_n 0, 1) := by decide +kernel
theorem dX7_spreadMinutes_45 : decode cX7_spreadMinutes 45 = .ok (.getfield 19, 3) := by decide +kernel
theorem dX7_spreadMinutes_48 : decode cX7_spreadMinutes 48 = .ok (.invokevirtual 341, 3) := by decide +kernel
theorem dX7_spreadMinutes_51 : decode cX7_spreadMinutes 51 = .ok (.return_, 1) := by decide +kernel
theorem dX7_minutesBetween_0 : decode cX7_minutesBetween 0 = .ok (.aload_n 0, 1) := by decide +kernel
theorem dX7_minutesBetween_1 : decode cX7_minutesBetween 1 = .ok (.iload_n 1, 1) := by decide +kernel
theorem dX7_minutesBetween_2 : decode cX7_minutesBetween 2 = .ok (.iconst 0, 1) := by decide +kernel
theorem dX7_minutesBetween_3 : decode cX7_minutesBetween 3 = .ok (.iload 4, 2) := by decide +kernel
theorem dX7_minutesBetween_5 : decode cX7_minutesBetween 5 = .ok (.invokevirtual 344, 3) := by decide +kernel
theorem dX7_minutesBetween_8 : decode cX7_minutesBetween 8 = .ok (.aload_n 0, 1) := by decide +kernel
theorem dX7_minutesBetween_9 : decode cX7_minutesBetween 9 = .ok (.getfield 51, 3) := by decide +kernel
theorem dX7_minutesBetween_12 : decode cX7_minutesBetween 12 = .ok (.iload_n 2, 1) := by decide +kernel
theorem dX7_minutesBetween_13 : decode cX7_minutesBetween 13 = .ok (.iload_n 3, 1) := by decide +kernel
theorem dX7_minutesBetween_14 : decode cX7_minutesBetween 14 = .ok (.invokevirtual 348, 3) := by decide +kernel
theorem dX7_minutesBetween_17 : decode cX7_minutesBetween 17 = .ok (.ireturn, 1) := by decide +kernel
theorem dX7_learnRounds_0 : decode cX7_learnRounds 0 = .ok (.iconst 0, 1) := by decide +kernel
theorem dX7_learnRounds_1 : decode cX7_learnRounds 1 = .ok (.istore_n 3, 1) := by decide +kernel
theorem dX7_learnRounds_2 : decode cX7_learnRounds 2 = .ok (.iload_n 3, 1) := by decide +kernel
theorem dX7_learnRounds_3 : decode cX7_learnRounds 3 = .ok (.iload_n 2, 1) := by decide +kernel
theorem dX7_learnRounds_4 : decode cX7_learnRounds 4 = .ok (.if_icmp .gt 36, 3) := by decide +kernel
theorem dX7_learnRounds_7 : decode cX7_learnRounds 7 = .ok (.iload_n 3, 1) := by decide +kernel
theorem dX7_learnRounds_8 : decode cX7_learnRounds 8 = .ok (.iload_n 2, 1) := by decide +kernel
theorem dX7_learnRounds_9 : decode cX7_learnRounds 9 = .ok (.invokestatic 351, 3) := by decide +kernel
theorem dX7_learnRounds_12 : decode cX7_learnRounds 12 = .ok (.ifCond .eq 22, 3) := by decide +kernel
theorem dX7_learnRounds_15 : decode cX7_learnRounds 15 = .ok (.aload_n 0, 1) := by decide +kernel
theorem dX7_learnRounds_16 : decode cX7_learnRounds 16 = .ok (.iload_n 1, 1) := by decide +kernel
theorem dX7_learnRounds_17 : decode cX7_learnRounds 17 = .ok (.iload_n 3, 1) := by decide +kernel
theorem dX7_learnRounds_18 : decode cX7_learnRounds 18 = .ok (.iconst 0, 1) := by decide +kernel
theorem dX7_learnRounds_19 : decode cX7_learnRounds 19 = .ok (.invokevirtual 344, 3) := by decide +kernel
theorem dX7_learnRounds_22 : decode cX7_learnRounds 22 = .ok (.aload_n 0, 1) := by decide +kernel
theorem dX7_learnRounds_23 : decode cX7_learnRounds 23 = .ok (.getfield 58, 3) := by decide +kernel
theorem dX7_learnRounds_26 : decode cX7_learnRounds 26 = .ok (.iload_n 3, 1) := by decide +kernel
theorem dX7_learnRounds_27 : decode cX7_learnRounds 27 = .ok (.aload_n 0, 1) := by decide +kernel
theorem dX7_learnRounds_28 : decode cX7_learnRounds 28 = .ok (.getfield 51, 3) := by decide +kernel
theorem dX7_learnRounds_31 : decode cX7_learnRounds 31 = .ok (.invokevirtual 354, 3) := by decide +kernel
theorem dX7_learnRounds_34 : decode cX7_learnRounds 34 = .ok (.iinc 3 1, 3) := by decide +kernel
theorem dX7_learnRounds_37 : decode cX7_learnRounds 37 = .ok (.goto (-35), 3) := by decide +kernel
theorem dX7_learnRounds_40 : decode cX7_learnRounds 40 = .ok (.iconst 0, 1) := by decide +kernel
theorem dX7_learnRounds_41 : decode cX7_learnRounds 41 = .ok (.istore_n 3, 1) := by decide +kernel
theorem dX7_learnRounds_42 : decode cX7_learnRounds 42 = .ok (.iload_n 3, 1) := by decide +kernel
theorem dX7_learnRounds_43 : decode cX7_learnRounds 43 = .ok (.aload_n 0, 1) := by decide +kernel
theorem dX7_learnRounds_44 : decode cX7_learnRounds 44 = .ok (.getfield 19, 3) := by decide +kernel
theorem dX7_learnRounds_47 : decode cX7_learnRounds 47 = .ok (.getfield 104, 3) := by decide +kernel
theorem dX7_learnRounds_50 : decode cX7_learnRounds 50 = .ok (.if_icmp .ge 70, 3) := by decide +kernel
theorem dX7_learnRounds_53 : decode cX7_learnRounds 53 = .ok (.aload_n 0, 1) := by decide +kernel
theorem dX7_learnRounds_54 : decode cX7_learnRounds 54 = .ok (.getfield 58, 3) := by decide +kernel
theorem dX7_learnRounds_57 : decode cX7_learnRounds 57 = .ok (.getfield 358, 3) := by decide +kernel
theorem dX7_learnRounds_60 : decode cX7_learnRounds 60 = .ok (.iload_n 3, 1) := by decide +kernel
theorem dX7_learnRounds_61 : decode cX7_learnRounds 61 = .ok (.aload_n 0, 1) := by decide +kernel
theorem dX7_learnRounds_62 : decode cX7_learnRounds 62 = .ok (.getfield 29, 3) := by decide +kernel
theorem dX7_learnRounds_65 : decode cX7_learnRounds 65 = .ok (.getfield 198, 3) := by decide +kernel
theorem dX7_learnRounds_68 : decode cX7_learnRounds 68 = .ok (.iload_n 3, 1) := by decide +kernel
theorem dX7_learnRounds_69 : decode cX7_learnRounds 69 = .ok (.iaload, 1) := by decide +kernel
theorem dX7_learnRounds_70 : decode cX7_learnRounds 70 = .ok (.iconst (-1), 1) := by decide +kernel
theorem dX7_learnRounds_71 : decode cX7_learnRounds 71 = .ok (.if_icmp .ne 15, 3) := by decide +kernel
theorem dX7_learnRounds_74 : decode cX7_learnRounds 74 = .ok (.aload_n 0, 1) := by decide +kernel
theorem dX7_learnRounds_75 : decode cX7_learnRounds 75 = .ok (.getfield 19, 3) := by decide +kernel
theorem dX7_learnRounds_78 : decode cX7_learnRounds 78 = .ok (.getfield 361, 3) := by decide +kernel
theorem dX7_learnRounds_81 : decode cX7_learnRounds 81 = .ok (.iload_n 3, 1) := by decide +kernel
theorem dX7_learnRounds_82 : decode cX7_learnRounds 82 = .ok (.iaload, 1) := by decide +kernel
theorem dX7_learnRounds_83 : decode cX7_learnRounds 83 = .ok (.goto 12, 3) := by decide +kernel
theorem dX7_learnRounds_86 : decode cX7_learnRounds 86 = .ok (.aload_n 0, 1) := by decide +kernel
theorem dX7_learnRounds_87 : decode cX7_learnRounds 87 = .ok (.getfield 29, 3) := by decide +kernel
theorem dX7_learnRounds_90 : decode cX7_learnRounds 90 = .ok (.getfield 198, 3) := by decide +kernel
theorem dX7_learnRounds_93 : decode cX7_learnRounds 93 = .ok (.iload_n 3, 1) := by decide +kernel
theorem dX7_learnRounds_94 : decode cX7_learnRounds 94 = .ok (.iaload, 1) := by decide +kernel
theorem dX7_learnRounds_95 : decode cX7_learnRounds 95 = .ok (.iastore, 1) := by decide +kernel
theorem dX7_learnRounds_96 : decode cX7_learnRounds 96 = .ok (.aload_n 0, 1) := by decide +kernel
theorem dX7_learnRounds_97 : decode cX7_learnRounds 97 = .ok (.getfield 58, 3) := by decide +kernel
theorem dX7_learnRounds_100 : decode cX7_learnRounds 100 = .ok (.getfield 364, 3) := by decide +kernel
theorem dX7_learnRounds_103 : decode cX7_learnRounds 103 = .ok (.iload_n 3, 1) := by decide +kernel
theorem dX7_learnRounds_104 : decode cX7_learnRounds 104 = .ok (.aload_n 0, 1) := by decide +kernel
theorem dX7_learnRounds_105 : decode cX7_learnRounds 105 = .ok (.getfield 19, 3) := by decide +kernel
theorem dX7_learnRounds_108 : decode cX7_learnRounds 108 = .ok (.getfield 201, 3) := by decide +kernel
theorem dX7_learnRounds_111 : decode cX7_learnRounds 111 = .ok (.iload_n 3, 1) := by decide +kernel
theorem dX7_learnRounds_112 : decode cX7_learnRounds 112 = .ok (.iaload, 1) := by decide +kernel
theorem dX7_learnRounds_113 : decode cX7_learnRounds 113 = .ok (.iastore, 1) := by decide +kernel
theorem dX7_learnRounds_114 : decode cX7_learnRounds 114 = .ok (.iinc 3 1, 3) := by decide +kernel
theorem dX7_learnRounds_117 : decode cX7_learnRounds 117 = .ok (.goto (-75), 3) := by decide +kernel
theorem dX7_learnRounds_120 : decode cX7_learnRounds 120 = .ok (.aload_n 0, 1) := by decide +kernel
theorem dX7_learnRounds_121 : decode cX7_learnRounds 121 = .ok (.getfield 58, 3) := by decide +kernel
theorem dX7_learnRounds_124 : decode cX7_learnRounds 124 = .ok (.aload_n 0, 1) := by decide +kernel
theorem dX7_learnRounds_125 : decode cX7_learnRounds 125 = .ok (.getfield 19, 3) := by decide +kernel
theorem dX7_learnRounds_128 : decode cX7_learnRounds 128 = .ok (.getfield 92, 3) := by decide +kernel
theorem dX7_learnRounds_131 : decode cX7_learnRounds 131 = .ok (.iload_n 2, 1) := by decide +kernel
theorem dX7_learnRounds_132 : decode cX7_learnRounds 132 = .ok (.invokevirtual 367, 3) := by decide +kernel
theorem dX7_learnRounds_135 : decode cX7_learnRounds 135 = .ok (.return_, 1) := by decide +kernel
theorem dX7_roundOf_0 : decode cX7_roundOf 0 = .ok (.iload_n 2, 1) := by decide +kernel
theorem dX7_roundOf_1 : decode cX7_roundOf 1 = .ok (.ifCond .ne 5, 3) := by decide +kernel
theorem dX7_roundOf_4 : decode cX7_roundOf 4 = .ok (.iconst 0, 1) := by decide +kernel
theorem dX7_roundOf_5 : decode cX7_roundOf 5 = .ok (.ireturn, 1) := by decide +kernel
theorem dX7_roundOf_6 : decode cX7_roundOf 6 = .ok (.aload_n 0, 1) := by decide +kernel
theorem dX7_roundOf_7 : decode cX7_roundOf 7 = .ok (.getfield 29, 3) := by decide +kernel
theorem dX7_roundOf_10 : decode cX7_roundOf 10 = .ok (.getfield 183, 3) := by decide +kernel
theorem dX7_roundOf_13 : decode cX7_roundOf 13 = .ok (.iload_n 1, 1) := by decide +kernel
theorem dX7_roundOf_14 : decode cX7_roundOf 14 = .ok (.iaload, 1) := by decide +kernel
theorem dX7_roundOf_15 : decode cX7_roundOf 15 = .ok (.aload_n 0, 1) := by decide +kernel
theorem dX7_roundOf_16 : decode cX7_roundOf 16 = .ok (.getfield 58, 3) := by decide +kernel
theorem dX7_roundOf_19 : decode cX7_roundOf 19 = .ok (.iload_n 2, 1) := by decide +kernel
theorem dX7_roundOf_20 : decode cX7_roundOf 20 = .ok (.iconst 0, 1) := by decide +kernel
theorem dX7_roundOf_21 : decode cX7_roundOf 21 = .ok (.aload_n 0, 1) := by decide +kernel
theorem dX7_roundOf_22 : decode cX7_roundOf 22 = .ok (.getfield 29, 3) := by decide +kernel
theorem dX7_roundOf_25 : decode cX7_roundOf 25 = .ok (.getfield 177, 3) := by decide +kernel
theorem dX7_roundOf_28 : decode cX7_roundOf 28 = .ok (.iload_n 1, 1) := by decide +kernel
theorem dX7_roundOf_29 : decode cX7_roundOf 29 = .ok (.iaload, 1) := by decide +kernel
theorem dX7_roundOf_30 : decode cX7_roundOf 30 = .ok (.invokevirtual 370, 3) := by decide +kernel
theorem dX7_roundOf_33 : decode cX7_roundOf 33 = .ok (.iadd, 1) := by decide +kernel
theorem dX7_roundOf_34 : decode cX7_roundOf 34 = .ok (.ireturn, 1) := by decide +kernel
theorem dX7_outlivesCuts_0 : decode cX7_outlivesCuts 0 = .ok (.iconst 0, 1) := by decide +kernel
theorem dX7_outlivesCuts_1 : decode cX7_outlivesCuts 1 = .ok (.istore_n 3, 1) := by decide +kernel
theorem dX7_outlivesCuts_2 : decode cX7_outlivesCuts 2 = .ok (.iload_n 3, 1) := by decide +kernel
theorem dX7_outlivesCuts_3 : decode cX7_outlivesCuts 3 = .ok (.aload_n 0, 1) := by decide +kernel
theorem dX7_outlivesCuts_4 : decode cX7_outlivesCuts 4 = .ok (.getfield 19, 3) := by decide +kernel
theorem dX7_outlivesCuts_7 : decode cX7_outlivesCuts 7 = .ok (.getfield 92, 3) := by decide +kernel
theorem dX7_outlivesCuts_10 : decode cX7_outlivesCuts 10 = .ok (.if_icmp .ge 37, 3) := by decide +kernel
theorem dX7_outlivesCuts_13 : decode cX7_outlivesCuts 13 = .ok (.iload_n 2, 1) := by decide +kernel
theorem dX7_outlivesCuts_14 : decode cX7_outlivesCuts 14 = .ok (.iload_n 3, 1) := by decide +kernel
theorem dX7_outlivesCuts_15 : decode cX7_outlivesCuts 15 = .ok (.invokestatic 237, 3) := by decide +kernel
theorem dX7_outlivesCuts_18 : decode cX7_outlivesCuts 18 = .ok (.ifCond .eq 23, 3) := by decide +kernel
theorem dX7_outlivesCuts_21 : decode cX7_outlivesCuts 21 = .ok (.iload_n 1, 1) := by decide +kernel
theorem dX7_outlivesCuts_22 : decode cX7_outlivesCuts 22 = .ok (.aload_n 0, 1) := by decide +kernel
theorem dX7_outlivesCuts_23 : decode cX7_outlivesCuts 23 = .ok (.getfield 19, 3) := by decide +kernel
theorem dX7_outlivesCuts_26 : decode cX7_outlivesCuts 26 = .ok (.getfield 373, 3) := by decide +kernel
theorem dX7_outlivesCuts_29 : decode cX7_outlivesCuts 29 = .ok (.iload_n 3, 1) := by decide +kernel
theorem dX7_outlivesCuts_30 : decode cX7_outlivesCuts 30 = .ok (.iaload, 1) := by decide +kernel
theorem dX7_outlivesCuts_31 : decode cX7_outlivesCuts 31 = .ok (.iand, 1) := by decide +kernel
theorem dX7_outlivesCuts_32 : decode cX7_outlivesCuts 32 = .ok (.invokestatic 228, 3) := by decide +kernel
theorem dX7_outlivesCuts_35 : decode cX7_outlivesCuts 35 = .ok (.iconst 2, 1) := by decide +kernel
theorem dX7_outlivesCuts_36 : decode cX7_outlivesCuts 36 = .ok (.if_icmp .ge 5, 3) := by decide +kernel
theorem dX7_outlivesCuts_39 : decode cX7_outlivesCuts 39 = .ok (.iconst 0, 1) := by decide +kernel
theorem dX7_outlivesCuts_40 : decode cX7_outlivesCuts 40 = .ok (.ireturn, 1) := by decide +kernel
theorem dX7_outlivesCuts_41 : decode cX7_outlivesCuts 41 = .ok (.iinc 3 1, 3) := by decide +kernel
theorem dX7_outlivesCuts_44 : decode cX7_outlivesCuts 44 = .ok (.goto (-42), 3) := by decide +kernel
theorem dX7_outlivesCuts_47 : decode cX7_outlivesCuts 47 = .ok (.iconst 0, 1) := by decide +kernel
theorem dX7_outlivesCuts_48 : decode cX7_outlivesCuts 48 = .ok (.istore_n 3, 1) := by decide +kernel
theorem dX7_outlivesCuts_49 : decode cX7_outlivesCuts 49 = .ok (.iload_n 3, 1) := by decide +kernel
theorem dX7_outlivesCuts_50 : decode cX7_outlivesCuts 50 = .ok (.aload_n 0, 1) := by decide +kernel
theorem dX7_outlivesCuts_51 : decode cX7_outlivesCuts 51 = .ok (.getfield 19, 3) := by decide +kernel
theorem dX7_outlivesCuts_54 : decode cX7_outlivesCuts 54 = .ok (.getfield 98, 3) := by decide +kernel
theorem dX7_outlivesCuts_57 : decode cX7_outlivesCuts 57 = .ok (.if_icmp .ge 34, 3) := by decide +kernel
theorem dX7_outlivesCuts_60 : decode cX7_outlivesCuts 60 = .ok (.iload_n 1, 1) := by decide +kernel
theorem dX7_outlivesCuts_61 : decode cX7_outlivesCuts 61 = .ok (.iload_n 3, 1) := by decide +kernel
theorem dX7_outlivesCuts_62 : decode cX7_outlivesCuts 62 = .ok (.invokestatic 237, 3) := by decide +kernel
theorem dX7_outlivesCuts_65 : decode cX7_outlivesCuts 65 = .ok (.ifCond .eq 20, 3) := by decide +kernel
theorem dX7_outlivesCuts_68 : decode cX7_outlivesCuts 68 = .ok (.aload_n 0, 1) := by decide +kernel
theorem dX7_outlivesCuts_69 : decode cX7_outlivesCuts 69 = .ok (.iload_n 1, 1) := by decide +kernel
theorem dX7_outlivesCuts_70 : decode cX7_outlivesCuts 70 = .ok (.iconst 1, 1) := by decide +kernel
theorem dX7_outlivesCuts_71 : decode cX7_outlivesCuts 71 = .ok (.iload_n 3, 1) := by decide +kernel
theorem dX7_outlivesCuts_72 : decode cX7_outlivesCuts 72 = .ok (.ishl, 1) := by decide +kernel
theorem dX7_outlivesCuts_73 : decode cX7_outlivesCuts 73 = .ok (.iconst (-1), 1) := by decide +kernel
theorem dX7_outlivesCuts_74 : decode cX7_outlivesCuts 74 = .ok (.ixor, 1) := by decide +kernel
theorem dX7_outlivesCuts_75 : decode cX7_outlivesCuts 75 = .ok (.iand, 1) := by decide +kernel
theorem dX7_outlivesCuts_76 : decode cX7_outlivesCuts 76 = .ok (.iload_n 2, 1) := by decide +kernel
theorem dX7_outlivesCuts_77 : decode cX7_outlivesCuts 77 = .ok (.invokevirtual 376, 3) := by decide +kernel
theorem dX7_outlivesCuts_80 : decode cX7_outlivesCuts 80 = .ok (.ifCond .ne 5, 3) := by decide +kernel
theorem dX7_outlivesCuts_83 : decode cX7_outlivesCuts 83 = .ok (.iconst 0, 1) := by decide +kernel
theorem dX7_outlivesCuts_84 : decode cX7_outlivesCuts 84 = .ok (.ireturn, 1) := by decide +kernel
theorem dX7_outlivesCuts_85 : decode cX7_outlivesCuts 85 = .ok (.iinc 3 1, 3) := by decide +kernel
theorem dX7_outlivesCuts_88 : decode cX7_outlivesCuts 88 = .ok (.goto (-39), 3) := by decide +kernel
theorem dX7_outlivesCuts_91 : decode cX7_outlivesCuts 91 = .ok (.iconst 1, 1) := by decide +kernel
theorem dX7_outlivesCuts_92 : decode cX7_outlivesCuts 92 = .ok (.ireturn, 1) := by decide +kernel
theorem dX7_joins_0 : decode cX7_joins 0 = .ok (.iload_n 2, 1) := by decide +kernel
theorem dX7_joins_1 : decode cX7_joins 1 = .ok (.invokestatic 379, 3) := by decide +kernel
theorem dX7_joins_4 : decode cX7_joins 4 = .ok (.istore_n 3, 1) := by decide +kernel
theorem dX7_joins_5 : decode cX7_joins 5 = .ok (.iconst 1, 1) := by decide +kernel
theorem dX7_joins_6 : decode cX7_joins 6 = .ok (.istore 4, 2) := by decide +kernel
theorem dX7_joins_8 : decode cX7_joins 8 = .ok (.iconst 0, 1) := by decide +kernel
theorem dX7_joins_9 : decode cX7_joins 9 = .ok (.istore 5, 2) := by decide +kernel
theorem dX7_joins_11 : decode cX7_joins 11 = .ok (.iload 5, 2) := by decide +kernel
theorem dX7_joins_13 : decode cX7_joins 13 = .ok (.bipush 8, 2) := by decide +kernel
theorem dX7_joins_15 : decode cX7_joins 15 = .ok (.if_icmp .ge 86, 3) := by decide +kernel
theorem dX7_joins_18 : decode cX7_joins 18 = .ok (.iload 4, 2) := by decide +kernel
theorem dX7_joins_20 : decode cX7_joins 20 = .ok (.ifCond .eq 81, 3) := by decide +kernel
theorem dX7_joins_23 : decode cX7_joins 23 = .ok (.iconst 0, 1) := by decide +kernel
theorem dX7_joins_24 : decode cX7_joins 24 = .ok (.istore 4, 2) := by decide +kernel
theorem dX7_joins_26 : decode cX7_joins 26 = .ok (.iconst 0, 1) := by decide +kernel
theorem dX7_joins_27 : decode cX7_joins 27 = .ok (.istore 6, 2) := by decide +kernel
theorem dX7_joins_29 : decode cX7_joins 29 = .ok (.iload 6, 2) := by decide +kernel
theorem dX7_joins_31 : decode cX7_joins 31 = .ok (.aload_n 0, 1) := by decide +kernel
theorem dX7_joins_32 : decode cX7_joins 32 = .ok (.getfield 19, 3) := by decide +kernel
theorem dX7_joins_35 : decode cX7_joins 35 = .ok (.getfield 98, 3) := by decide +kernel
theorem dX7_joins_38 : decode cX7_joins 38 = .ok (.if_icmp .ge 57, 3) := by decide +kernel
theorem dX7_joins_41 : decode cX7_joins 41 = .ok (.iload_n 1, 1) := by decide +kernel
theorem dX7_joins_42 : decode cX7_joins 42 = .ok (.iload 6, 2) := by decide +kernel
theorem dX7_joins_44 : decode cX7_joins 44 = .ok (.invokestatic 237, 3) := by decide +kernel
theorem dX7_joins_47 : decode cX7_joins 47 = .ok (.ifCond .eq 15, 3) := by decide +kernel
theorem dX7_joins_50 : decode cX7_joins 50 = .ok (.aload_n 0, 1) := by decide +kernel
theorem dX7_joins_51 : decode cX7_joins 51 = .ok (.getfield 19, 3) := by decide +kernel
theorem dX7_joins_54 : decode cX7_joins 54 = .ok (.iload 6, 2) := by decide +kernel
theorem dX7_joins_56 : decode cX7_joins 56 = .ok (.invokevirtual 382, 3) := by decide +kernel
theorem dX7_joins_59 : decode cX7_joins 59 = .ok (.goto 4, 3) := by decide +kernel
theorem dX7_joins_62 : decode cX7_joins 62 = .ok (.iconst 0, 1) := by decide +kernel
theorem dX7_joins_63 : decode cX7_joins 63 = .ok (.istore 7, 2) := by decide +kernel
theorem dX7_joins_65 : decode cX7_joins 65 = .ok (.iload 7, 2) := by decide +kernel
theorem dX7_joins_67 : decode cX7_joins 67 = .ok (.iload_n 3, 1) := by decide +kernel
theorem dX7_joins_68 : decode cX7_joins 68 = .ok (.iand, 1) := by decide +kernel
theorem dX7_joins_69 : decode cX7_joins 69 = .ok (.ifCond .eq 20, 3) := by decide +kernel
theorem dX7_joins_72 : decode cX7_joins 72 = .ok (.iload 7, 2) := by decide +kernel
theorem dX7_joins_74 : decode cX7_joins 74 = .ok (.iload_n 3, 1) := by decide +kernel
theorem dX7_joins_75 : decode cX7_joins 75 = .ok (.iconst (-1), 1) := by decide +kernel
theorem dX7_joins_76 : decode cX7_joins 76 = .ok (.ixor, 1) := by decide +kernel
theorem dX7_joins_77 : decode cX7_joins 77 = .ok (.iand, 1) := by decide +kernel
theorem dX7_joins_78 : decode cX7_joins 78 = .ok (.ifCond .eq 11, 3) := by decide +kernel
theorem dX7_joins_81 : decode cX7_joins 81 = .ok (.iload_n 3, 1) := by decide +kernel
theorem dX7_joins_82 : decode cX7_joins 82 = .ok (.iload 7, 2) := by decide +kernel
theorem dX7_joins_84 : decode cX7_joins 84 = .ok (.ior, 1) := by decide +kernel
theorem dX7_joins_85 : decode cX7_joins 85 = .ok (.istore_n 3, 1) := by decide +kernel
theorem dX7_joins_86 : decode cX7_joins 86 = .ok (.iconst 1, 1) := by decide +kernel
theorem dX7_joins_87 : decode cX7_joins 87 = .ok (.istore 4, 2) := by decide +kernel
theorem dX7_joins_89 : decode cX7_joins 89 = .ok (.iinc 6 1, 3) := by decide +kernel
theorem dX7_joins_92 : decode cX7_joins 92 = .ok (.goto (-63), 3) := by decide +kernel
theorem dX7_joins_95 : decode cX7_joins 95 = .ok (.iinc 5 1, 3) := by decide +kernel
theorem dX7_joins_98 : decode cX7_joins 98 = .ok (.goto (-87), 3) := by decide +kernel
theorem dX7_joins_101 : decode cX7_joins 101 = .ok (.iload_n 2, 1) := by decide +kernel
theorem dX7_joins_102 : decode cX7_joins 102 = .ok (.iload_n 3, 1) := by decide +kernel
theorem dX7_joins_103 : decode cX7_joins 103 = .ok (.iconst (-1), 1) := by decide +kernel
theorem dX7_joins_104 : decode cX7_joins 104 = .ok (.ixor, 1) := by decide +kernel
theorem dX7_joins_105 : decode cX7_joins 105 = .ok (.iand, 1) := by decide +kernel
theorem dX7_joins_106 : decode cX7_joins 106 = .ok (.ifCond .ne 7, 3) := by decide +kernel
theorem dX7_joins_109 : decode cX7_joins 109 = .ok (.iconst 1, 1) := by decide +kernel
theorem dX7_joins_110 : decode cX7_joins 110 = .ok (.goto 4, 3) := by decide +kernel
theorem dX7_joins_113 : decode cX7_joins 113 = .ok (.iconst 0, 1) := by decide +kernel
theorem dX7_joins_114 : decode cX7_joins 114 = .ok (.ireturn, 1) := by decide +kernel
theorem dX7_isJoinedAtOnce_0 : decode cX7_isJoinedAtOnce 0 = .ok (.aload_n 0, 1) := by decide +kernel
theorem dX7_isJoinedAtOnce_1 : decode cX7_isJoinedAtOnce 1 = .ok (.getfield 19, 3) := by decide +kernel
theorem dX7_isJoinedAtOnce_4 : decode cX7_isJoinedAtOnce 4 = .ok (.getfield 373, 3) := by decide +kernel
theorem dX7_isJoinedAtOnce_7 : decode cX7_isJoinedAtOnce 7 = .ok (.iload_n 1, 1) := by decide +kernel
theorem dX7_isJoinedAtOnce_8 : decode cX7_isJoinedAtOnce 8 = .ok (.iaload, 1) := by decide +kernel
theorem dX7_isJoinedAtOnce_9 : decode cX7_isJoinedAtOnce 9 = .ok (.aload_n 0, 1) := by decide +kernel
theorem dX7_isJoinedAtOnce_10 : decode cX7_isJoinedAtOnce 10 = .ok (.getfield 19, 3) := by decide +kernel
theorem dX7_isJoinedAtOnce_13 : decode cX7_isJoinedAtOnce 13 = .ok (.getfield 373, 3) := by decide +kernel
theorem dX7_isJoinedAtOnce_16 : decode cX7_isJoinedAtOnce 16 = .ok (.iload_n 2, 1) := by decide +kernel
theorem dX7_isJoinedAtOnce_17 : decode cX7_isJoinedAtOnce 17 = .ok (.iaload, 1) := by decide +kernel
theorem dX7_isJoinedAtOnce_18 : decode cX7_isJoinedAtOnce 18 = .ok (.iand, 1) := by decide +kernel
theorem dX7_isJoinedAtOnce_19 : decode cX7_isJoinedAtOnce 19 = .ok (.aload_n 0, 1) := by decide +kernel
theorem dX7_isJoinedAtOnce_20 : decode cX7_isJoinedAtOnce 20 = .ok (.getfield 29, 3) := by decide +kernel
theorem dX7_isJoinedAtOnce_23 : decode cX7_isJoinedAtOnce 23 = .ok (.getfield 119, 3) := by decide +kernel
theorem dX7_isJoinedAtOnce_26 : decode cX7_isJoinedAtOnce 26 = .ok (.iand, 1) := by decide +kernel
theorem dX7_isJoinedAtOnce_27 : decode cX7_isJoinedAtOnce 27 = .ok (.ifCond .eq 7, 3) := by decide +kernel
theorem dX7_isJoinedAtOnce_30 : decode cX7_isJoinedAtOnce 30 = .ok (.iconst 1, 1) := by decide +kernel
theorem dX7_isJoinedAtOnce_31 : decode cX7_isJoinedAtOnce 31 = .ok (.goto 4, 3) := by decide +kernel
theorem dX7_isJoinedAtOnce_34 : decode cX7_isJoinedAtOnce 34 = .ok (.iconst 0, 1) := by decide +kernel
theorem dX7_isJoinedAtOnce_35 : decode cX7_isJoinedAtOnce 35 = .ok (.ireturn, 1) := by decide +kernel
theorem dX7_leastNewRope_0 : decode cX7_leastNewRope 0 = .ok (.iconst 0, 1) := by decide +kernel
theorem dX7_leastNewRope_1 : decode cX7_leastNewRope 1 = .ok (.istore_n 1, 1) := by decide +kernel
theorem dX7_leastNewRope_2 : decode cX7_leastNewRope 2 = .ok (.iload_n 1, 1) := by decide +kernel
theorem dX7_leastNewRope_3 : decode cX7_leastNewRope 3 = .ok (.aload_n 0, 1) := by decide +kernel
theorem dX7_leastNewRope_4 : decode cX7_leastNewRope 4 = .ok (.getfield 19, 3) := by decide +kernel
theorem dX7_leastNewRope_7 : decode cX7_leastNewRope 7 = .ok (.getfield 98, 3) := by decide +kernel
theorem dX7_leastNewRope_10 : decode cX7_leastNewRope 10 = .ok (.if_icmp .ge 45, 3) := by decide +kernel
theorem dX7_leastNewRope_13 : decode cX7_leastNewRope 13 = .ok (.aload_n 0, 1) := by decide +kernel
theorem dX7_leastNewRope_14 : decode cX7_leastNewRope 14 = .ok (.getfield 51, 3) := by decide +kernel
theorem dX7_leastNewRope_17 : decode cX7_leastNewRope 17 = .ok (.getfield 338, 3) := by decide +kernel
theorem dX7_leastNewRope_20 : decode cX7_leastNewRope 20 = .ok (.iload_n 1, 1) := by decide +kernel
theorem dX7_leastNewRope_21 : decode cX7_leastNewRope 21 = .ok (.aload_n 0, 1) := by decide +kernel
theorem dX7_leastNewRope_22 : decode cX7_leastNewRope 22 = .ok (.getfield 29, 3) := by decide +kernel
theorem dX7_leastNewRope_25 : decode cX7_leastNewRope 25 = .ok (.getfield 119, 3) := by decide +kernel
theorem dX7_leastNewRope_28 : decode cX7_leastNewRope 28 = .ok (.iload_n 1, 1) := by decide +kernel
theorem dX7_leastNewRope_29 : decode cX7_leastNewRope 29 = .ok (.invokestatic 237, 3) := by decide +kernel
theorem dX7_leastNewRope_32 : decode cX7_leastNewRope 32 = .ok (.ifCond .eq 15, 3) := by decide +kernel
theorem dX7_leastNewRope_35 : decode cX7_leastNewRope 35 = .ok (.aload_n 0, 1) := by decide +kernel
theorem dX7_leastNewRope_36 : decode cX7_leastNewRope 36 = .ok (.getfield 19, 3) := by decide +kernel
theorem dX7_leastNewRope_39 : decode cX7_leastNewRope 39 = .ok (.getfield 153, 3) := by decide +kernel
theorem dX7_leastNewRope_42 : decode cX7_leastNewRope 42 = .ok (.iload_n 1, 1) := by decide +kernel
theorem dX7_leastNewRope_43 : decode cX7_leastNewRope 43 = .ok (.iaload, 1) := by decide +kernel
theorem dX7_leastNewRope_44 : decode cX7_leastNewRope 44 = .ok (.goto 4, 3) := by decide +kernel
theorem dX7_leastNewRope_47 : decode cX7_leastNewRope 47 = .ok (.iconst (-1), 1) := by decide +kernel
theorem dX7_leastNewRope_48 : decode cX7_leastNewRope 48 = .ok (.iastore, 1) := by decide +kernel
theorem dX7_leastNewRope_49 : decode cX7_leastNewRope 49 = .ok (.iinc 1 1, 3) := by decide +kernel
theorem dX7_leastNewRope_52 : decode cX7_leastNewRope 52 = .ok (.goto (-50), 3) := by decide +kernel
theorem dX7_leastNewRope_55 : decode cX7_leastNewRope 55 = .ok (.aload_n 0, 1) := by decide +kernel
theorem dX7_leastNewRope_56 : decode cX7_leastNewRope 56 = .ok (.getfield 51, 3) := by decide +kernel
theorem dX7_leastNewRope_59 : decode cX7_leastNewRope 59 = .ok (.aload_n 0, 1) := by decide +kernel
theorem dX7_leastNewRope_60 : decode cX7_leastNewRope 60 = .ok (.getfield 19, 3) := by decide +kernel
theorem dX7_leastNewRope_63 : decode cX7_leastNewRope 63 = .ok (.invokevirtual 341, 3) := by decide +kernel
theorem dX7_leastNewRope_66 : decode cX7_leastNewRope 66 = .ok (.iconst (-1), 1) := by decide +kernel
theorem dX7_leastNewRope_67 : decode cX7_leastNewRope 67 = .ok (.istore_n 1, 1) := by decide +kernel
theorem dX7_leastNewRope_68 : decode cX7_leastNewRope 68 = .ok (.iconst 0, 1) := by decide +kernel
theorem dX7_leastNewRope_69 : decode cX7_leastNewRope 69 = .ok (.istore_n 2, 1) := by decide +kernel
theorem dX7_leastNewRope_70 : decode cX7_leastNewRope 70 = .ok (.iload_n 2, 1) := by decide +kernel
theorem dX7_leastNewRope_71 : decode cX7_leastNewRope 71 = .ok (.aload_n 0, 1) := by decide +kernel
theorem dX7_leastNewRope_72 : decode cX7_leastNewRope 72 = .ok (.getfield 19, 3) := by decide +kernel
theorem dX7_leastNewRope_75 : decode cX7_leastNewRope 75 = .ok (.getfield 92, 3) := by decide +kernel
theorem dX7_leastNewRope_78 : decode cX7_leastNewRope 78 = .ok (.if_icmp .ge 103, 3) := by decide +kernel
theorem dX7_leastNewRope_81 : decode cX7_leastNewRope 81 = .ok (.iload_n 2, 1) := by decide +kernel
theorem dX7_leastNewRope_82 : decode cX7_leastNewRope 82 = .ok (.iconst 1, 1) := by decide +kernel
theorem dX7_leastNewRope_83 : decode cX7_leastNewRope 83 = .ok (.iadd, 1) := by decide +kernel
theorem dX7_leastNewRope_84 : decode cX7_leastNewRope 84 = .ok (.istore_n 3, 1) := by decide +kernel
theorem dX7_leastNewRope_85 : decode cX7_leastNewRope 85 = .ok (.iload_n 3, 1) := by decide +kernel
theorem dX7_leastNewRope_86 : decode cX7_leastNewRope 86 = .ok (.aload_n 0, 1) := by decide +kernel
theorem dX7_leastNewRope_87 : decode cX7_leastNewRope 87 = .ok (.getfield 19, 3) := by decide +kernel
theorem dX7_leastNewRope_90 : decode cX7_leastNewRope 90 = .ok (.getfield 92, 3) := by decide +kernel
theorem dX7_leastNewRope_93 : decode cX7_leastNewRope 93 = .ok (.if_icmp .ge 82, 3) := by decide +kernel
theorem dX7_leastNewRope_96 : decode cX7_leastNewRope 96 = .ok (.aload_n 0, 1) := by decide +kernel
theorem dX7_leastNewRope_97 : decode cX7_leastNewRope 97 = .ok (.getfield 19, 3) := by decide +kernel
theorem dX7_leastNewRope_100 : decode cX7_leastNewRope 100 = .ok (.iload_n 2, 1) := by decide +kernel
theorem dX7_leastNewRope_101 : decode cX7_leastNewRope 101 = .ok (.iload_n 3, 1) := by decide +kernel
theorem dX7_leastNewRope_102 : decode cX7_leastNewRope 102 = .ok (.invokevirtual 385, 3) := by decide +kernel
theorem dX7_leastNewRope_105 : decode cX7_leastNewRope 105 = .ok (.istore 4, 2) := by decide +kernel
theorem dX7_leastNewRope_107 : decode cX7_leastNewRope 107 = .ok (.iload 4, 2) := by decide +kernel
theorem dX7_leastNewRope_109 : decode cX7_leastNewRope 109 = .ok (.iconst 1, 1) := by decide +kernel
theorem dX7_leastNewRope_110 : decode cX7_leastNewRope 110 = .ok (.if_icmp .lt 59, 3) := by decide +kernel
theorem dX7_leastNewRope_113 : decode cX7_leastNewRope 113 = .ok (.iload 4, 2) := by decide +kernel
theorem dX7_leastNewRope_115 : decode cX7_leastNewRope 115 = .ok (.bipush 99, 2) := by decide +kernel
theorem dX7_leastNewRope_117 : decode cX7_leastNewRope 117 = .ok (.if_icmp .gt 52, 3) := by decide +kernel
theorem dX7_leastNewRope_120 : decode cX7_leastNewRope 120 = .ok (.aload_n 0, 1) := by decide +kernel
theorem dX7_leastNewRope_121 : decode cX7_leastNewRope 121 = .ok (.iload_n 2, 1) := by decide +kernel
theorem dX7_leastNewRope_122 : decode cX7_leastNewRope 122 = .ok (.iload_n 3, 1) := by decide +kernel
theorem dX7_leastNewRope_123 : decode cX7_leastNewRope 123 = .ok (.invokevirtual 388, 3) := by decide +kernel
theorem dX7_leastNewRope_126 : decode cX7_leastNewRope 126 = .ok (.ifCond .eq 6, 3) := by decide +kernel
theorem dX7_leastNewRope_129 : decode cX7_leastNewRope 129 = .ok (.goto 40, 3) := by decide +kernel
theorem dX7_leastNewRope_132 : decode cX7_leastNewRope 132 = .ok (.aload_n 0, 1) := by decide +kernel
theorem dX7_leastNewRope_133 : decode cX7_leastNewRope 133 = .ok (.getfield 51, 3) := by decide +kernel
theorem dX7_leastNewRope_136 : decode cX7_leastNewRope 136 = .ok (.iload_n 2, 1) := by decide +kernel
theorem dX7_leastNewRope_137 : decode cX7_leastNewRope 137 = .ok (.iload_n 3, 1) := by decide +kernel
theorem dX7_leastNewRope_138 : decode cX7_leastNewRope 138 = .ok (.iload 4, 2) := by decide +kernel
theorem dX7_leastNewRope_140 : decode cX7_leastNewRope 140 = .ok (.invokevirtual 391, 3) := by decide +kernel
theorem dX7_leastNewRope_143 : decode cX7_leastNewRope 143 = .ok (.bipush 8, 2) := by decide +kernel
theorem dX7_leastNewRope_145 : decode cX7_leastNewRope 145 = .ok (.imul, 1) := by decide +kernel
theorem dX7_leastNewRope_146 : decode cX7_leastNewRope 146 = .ok (.iload_n 2, 1) := by decide +kernel
theorem dX7_leastNewRope_147 : decode cX7_leastNewRope 147 = .ok (.iadd, 1) := by decide +kernel
theorem dX7_leastNewRope_148 : decode cX7_leastNewRope 148 = .ok (.bipush 8, 2) := by decide +kernel
theorem dX7_leastNewRope_150 : decode cX7_leastNewRope 150 = .ok (.imul, 1) := by decide +kernel
theorem dX7_leastNewRope_151 : decode cX7_leastNewRope 151 = .ok (.iload_n 3, 1) := by decide +kernel
theorem dX7_leastNewRope_152 : decode cX7_leastNewRope 152 = .ok (.iadd, 1) := by decide +kernel
theorem dX7_leastNewRope_153 : decode cX7_leastNewRope 153 = .ok (.istore 5, 2) := by decide +kernel
theorem dX7_leastNewRope_155 : decode cX7_leastNewRope 155 = .ok (.iload_n 1, 1) := by decide +kernel
theorem dX7_leastNewRope_156 : decode cX7_leastNewRope 156 = .ok (.iconst (-1), 1) := by decide +kernel
theorem dX7_leastNewRope_157 : decode cX7_leastNewRope 157 = .ok (.if_icmp .eq 9, 3) := by decide +kernel
theorem dX7_leastNewRope_160 : decode cX7_leastNewRope 160 = .ok (.iload 5, 2) := by decide +kernel
theorem dX7_leastNewRope_162 : decode cX7_leastNewRope 162 = .ok (.iload_n 1, 1) := by decide +kernel
theorem dX7_leastNewRope_163 : decode cX7_leastNewRope 163 = .ok (.if_icmp .ge 6, 3) := by decide +kernel
theorem dX7_leastNewRope_166 : decode cX7_leastNewRope 166 = .ok (.iload 5, 2) := by decide +kernel
theorem dX7_leastNewRope_168 : decode cX7_leastNewRope 168 = .ok (.istore_n 1, 1) := by decide +kernel
theorem dX7_leastNewRope_169 : decode cX7_leastNewRope 169 = .ok (.iinc 3 1, 3) := by decide +kernel
theorem dX7_leastNewRope_172 : decode cX7_leastNewRope 172 = .ok (.goto (-87), 3) := by decide +kernel
theorem dX7_leastNewRope_175 : decode cX7_leastNewRope 175 = .ok (.iinc 2 1, 3) := by decide +kernel
theorem dX7_leastNewRope_178 : decode cX7_leastNewRope 178 = .ok (.goto (-108), 3) := by decide +kernel
theorem dX7_leastNewRope_181 : decode cX7_leastNewRope 181 = .ok (.iload_n 1, 1) := by decide +kernel
theorem dX7_leastNewRope_182 : decode cX7_leastNewRope 182 = .ok (.ireturn, 1) := by decide +kernel
theorem dX7_throwOdds_0 : decode cX7_throwOdds 0 = .ok (.iconst 0, 1) := by decide +kernel
theorem dX7_throwOdds_1 : decode cX7_throwOdds 1 = .ok (.bipush 100, 2) := by decide +kernel
theorem dX7_throwOdds_3 : decode cX7_throwOdds 3 = .ok (.aload_n 0, 1) := by decide +kernel
theorem dX7_throwOdds_4 : decode cX7_throwOdds 4 = .ok (.getfield 19, 3) := by decide +kernel
theorem dX7_throwOdds_7 : decode cX7_throwOdds 7 = .ok (.iload_n 1, 1) := by decide +kernel
theorem dX7_throwOdds_8 : decode cX7_throwOdds 8 = .ok (.iload_n 2, 1) := by decide +kernel
theorem dX7_throwOdds_9 : decode cX7_throwOdds 9 = .ok (.invokevirtual 385, 3) := by decide +kernel
theorem dX7_throwOdds_12 : decode cX7_throwOdds 12 = .ok (.isub, 1) := by decide +kernel
theorem dX7_throwOdds_13 : decode cX7_throwOdds 13 = .ok (.iload_n 3, 1) := by decide +kernel
theorem dX7_throwOdds_14 : decode cX7_throwOdds 14 = .ok (.isub, 1) := by decide +kernel
theorem dX7_throwOdds_15 : decode cX7_throwOdds 15 = .ok (.invokestatic 324, 3) := by decide +kernel
theorem dX7_throwOdds_18 : decode cX7_throwOdds 18 = .ok (.ireturn, 1) := by decide +kernel
theorem dX7_canHaveBeen_0 : decode cX7_canHaveBeen 0 = .ok (.aload_n 0, 1) := by decide +kernel
theorem dX7_canHaveBeen_1 : decode cX7_canHaveBeen 1 = .ok (.getfield 44, 3) := by decide +kernel
theorem dX7_canHaveBeen_4 : decode cX7_canHaveBeen 4 = .ok (.iload_n 1, 1) := by decide +kernel
theorem dX7_canHaveBeen_5 : decode cX7_canHaveBeen 5 = .ok (.iload_n 3, 1) := by decide +kernel
theorem dX7_canHaveBeen_6 : decode cX7_canHaveBeen 6 = .ok (.invokevirtual 394, 3) := by decide +kernel
theorem dX7_canHaveBeen_9 : decode cX7_canHaveBeen 9 = .ok (.istore 4, 2) := by decide +kernel
theorem dX7_canHaveBeen_11 : decode cX7_canHaveBeen 11 = .ok (.aload_n 0, 1) := by decide +kernel
theorem dX7_canHaveBeen_12 : decode cX7_canHaveBeen 12 = .ok (.getfield 44, 3) := by decide +kernel
theorem dX7_canHaveBeen_15 : decode cX7_canHaveBeen 15 = .ok (.iload_n 1, 1) := by decide +kernel
theorem dX7_canHaveBeen_16 : decode cX7_canHaveBeen 16 = .ok (.iload_n 3, 1) := by decide +kernel
theorem dX7_canHaveBeen_17 : decode cX7_canHaveBeen 17 = .ok (.invokevirtual 397, 3) := by decide +kernel
theorem dX7_canHaveBeen_20 : decode cX7_canHaveBeen 20 = .ok (.istore 5, 2) := by decide +kernel
theorem dX7_canHaveBeen_22 : decode cX7_canHaveBeen 22 = .ok (.iload 4, 2) := by decide +kernel
theorem dX7_canHaveBeen_24 : decode cX7_canHaveBeen 24 = .ok (.iconst (-1), 1) := by decide +kernel
theorem dX7_canHaveBeen_25 : decode cX7_canHaveBeen 25 = .ok (.if_icmp .ne 15, 3) := by decide +kernel
theorem dX7_canHaveBeen_28 : decode cX7_canHaveBeen 28 = .ok (.aload_n 0, 1) := by decide +kernel
theorem dX7_canHaveBeen_29 : decode cX7_canHaveBeen 29 = .ok (.getfield 19, 3) := by decide +kernel
theorem dX7_canHaveBeen_32 : decode cX7_canHaveBeen 32 = .ok (.getfield 400, 3) := by decide +kernel
theorem dX7_canHaveBeen_35 : decode cX7_canHaveBeen 35 = .ok (.iload_n 1, 1) := by decide +kernel
theorem dX7_canHaveBeen_36 : decode cX7_canHaveBeen 36 = .ok (.iaload, 1) := by decide +kernel
theorem dX7_canHaveBeen_37 : decode cX7_canHaveBeen 37 = .ok (.goto 13, 3) := by decide +kernel
theorem dX7_canHaveBeen_40 : decode cX7_canHaveBeen 40 = .ok (.aload_n 0, 1) := by decide +kernel
theorem dX7_canHaveBeen_41 : decode cX7_canHaveBeen 41 = .ok (.getfield 44, 3) := by decide +kernel
theorem dX7_canHaveBeen_44 : decode cX7_canHaveBeen 44 = .ok (.getfield 403, 3) := by decide +kernel
theorem dX7_canHaveBeen_47 : decode cX7_canHaveBeen 47 = .ok (.iload 4, 2) := by decide +kernel
theorem dX7_canHaveBeen_49 : decode cX7_canHaveBeen 49 = .ok (.iaload, 1) := by decide +kernel
theorem dX7_canHaveBeen_50 : decode cX7_canHaveBeen 50 = .ok (.istore 6, 2) := by decide +kernel
theorem dX7_canHaveBeen_52 : decode cX7_canHaveBeen 52 = .ok (.iload 4, 2) := by decide +kernel
theorem dX7_canHaveBeen_54 : decode cX7_canHaveBeen 54 = .ok (.iconst (-1), 1) := by decide +kernel
theorem dX7_canHaveBeen_55 : decode cX7_canHaveBeen 55 = .ok (.if_icmp .ne 7, 3) := by decide +kernel
theorem dX7_canHaveBeen_58 : decode cX7_canHaveBeen 58 = .ok (.iconst 0, 1) := by decide +kernel
theorem dX7_canHaveBeen_59 : decode cX7_canHaveBeen 59 = .ok (.goto 13, 3) := by decide +kernel
theorem dX7_canHaveBeen_62 : decode cX7_canHaveBeen 62 = .ok (.aload_n 0, 1) := by decide +kernel
theorem dX7_canHaveBeen_63 : decode cX7_canHaveBeen 63 = .ok (.getfield 44, 3) := by decide +kernel
theorem dX7_canHaveBeen_66 : decode cX7_canHaveBeen 66 = .ok (.getfield 406, 3) := by decide +kernel
theorem dX7_canHaveBeen_69 : decode cX7_canHaveBeen 69 = .ok (.iload 4, 2) := by decide +kernel
theorem dX7_canHaveBeen_71 : decode cX7_canHaveBeen 71 = .ok (.iaload, 1) := by decide +kernel
theorem dX7_canHaveBeen_72 : decode cX7_canHaveBeen 72 = .ok (.istore 7, 2) := by decide +kernel
theorem dX7_canHaveBeen_74 : decode cX7_canHaveBeen 74 = .ok (.aload_n 0, 1) := by decide +kernel
theorem dX7_canHaveBeen_75 : decode cX7_canHaveBeen 75 = .ok (.iload_n 1, 1) := by decide +kernel
theorem dX7_canHaveBeen_76 : decode cX7_canHaveBeen 76 = .ok (.iconst 0, 1) := by decide +kernel
theorem dX7_canHaveBeen_77 : decode cX7_canHaveBeen 77 = .ok (.iconst 1, 1) := by decide +kernel
theorem dX7_canHaveBeen_78 : decode cX7_canHaveBeen 78 = .ok (.invokevirtual 344, 3) := by decide +kernel
theorem dX7_canHaveBeen_81 : decode cX7_canHaveBeen 81 = .ok (.aload_n 0, 1) := by decide +kernel
theorem dX7_canHaveBeen_82 : decode cX7_canHaveBeen 82 = .ok (.getfield 51, 3) := by decide +kernel
theorem dX7_canHaveBeen_85 : decode cX7_canHaveBeen 85 = .ok (.iload 6, 2) := by decide +kernel
theorem dX7_canHaveBeen_87 : decode cX7_canHaveBeen 87 = .ok (.iload_n 2, 1) := by decide +kernel
theorem dX7_canHaveBeen_88 : decode cX7_canHaveBeen 88 = .ok (.invokevirtual 348, 3) := by decide +kernel
theorem dX7_canHaveBeen_91 : decode cX7_canHaveBeen 91 = .ok (.iload_n 3, 1) := by decide +kernel
theorem dX7_canHaveBeen_92 : decode cX7_canHaveBeen 92 = .ok (.iload 7, 2) := by decide +kernel
theorem dX7_canHaveBeen_94 : decode cX7_canHaveBeen 94 = .ok (.isub, 1) := by decide +kernel
theorem dX7_canHaveBeen_95 : decode cX7_canHaveBeen 95 = .ok (.if_icmp .le 5, 3) := by decide +kernel
theorem dX7_canHaveBeen_98 : decode cX7_canHaveBeen 98 = .ok (.iconst 0, 1) := by decide +kernel
theorem dX7_canHaveBeen_99 : decode cX7_canHaveBeen 99 = .ok (.ireturn, 1) := by decide +kernel
theorem dX7_canHaveBeen_100 : decode cX7_canHaveBeen 100 = .ok (.iload 5, 2) := by decide +kernel
theorem dX7_canHaveBeen_102 : decode cX7_canHaveBeen 102 = .ok (.iconst (-1), 1) := by decide +kernel
theorem dX7_canHaveBeen_103 : decode cX7_canHaveBeen 103 = .ok (.if_icmp .eq 36, 3) := by decide +kernel
theorem dX7_canHaveBeen_106 : decode cX7_canHaveBeen 106 = .ok (.aload_n 0, 1) := by decide +kernel
theorem dX7_canHaveBeen_107 : decode cX7_canHaveBeen 107 = .ok (.getfield 51, 3) := by decide +kernel
theorem dX7_canHaveBeen_110 : decode cX7_canHaveBeen 110 = .ok (.iload_n 2, 1) := by decide +kernel
theorem dX7_canHaveBeen_111 : decode cX7_canHaveBeen 111 = .ok (.aload_n 0, 1) := by decide +kernel
theorem dX7_canHaveBeen_112 : decode cX7_canHaveBeen 112 = .ok (.getfield 44, 3) := by decide +kernel
theorem dX7_canHaveBeen_115 : decode cX7_canHaveBeen 115 = .ok (.getfield 403, 3) := by decide +kernel
theorem dX7_canHaveBeen_118 : decode cX7_canHaveBeen 118 = .ok (.iload 5, 2) := by decide +kernel
theorem dX7_canHaveBeen_120 : decode cX7_canHaveBeen 120 = .ok (.iaload, 1) := by decide +kernel
theorem dX7_canHaveBeen_121 : decode cX7_canHaveBeen 121 = .ok (.invokevirtual 348, 3) := by decide +kernel
theorem dX7_canHaveBeen_124 : decode cX7_canHaveBeen 124 = .ok (.aload_n 0, 1) := by decide +kernel
theorem dX7_canHaveBeen_125 : decode cX7_canHaveBeen 125 = .ok (.getfield 44, 3) := by decide +kernel
theorem dX7_canHaveBeen_128 : decode cX7_canHaveBeen 128 = .ok (.getfield 406, 3) := by decide +kernel
theorem dX7_canHaveBeen_131 : decode cX7_canHaveBeen 131 = .ok (.iload 5, 2) := by decide +kernel
theorem dX7_canHaveBeen_133 : decode cX7_canHaveBeen 133 = .ok (.iaload, 1) := by decide +kernel
theorem dX7_canHaveBeen_134 : decode cX7_canHaveBeen 134 = .ok (.iload_n 3, 1) := by decide +kernel
theorem dX7_canHaveBeen_135 : decode cX7_canHaveBeen 135 = .ok (.isub, 1) := by decide +kernel
theorem dX7_canHaveBeen_136 : decode cX7_canHaveBeen 136 = .ok (.if_icmp .gt 7, 3) := by decide +kernel
theorem dX7_canHaveBeen_139 : decode cX7_canHaveBeen 139 = .ok (.iconst 1, 1) := by decide +kernel
theorem dX7_canHaveBeen_140 : decode cX7_canHaveBeen 140 = .ok (.goto 4, 3) := by decide +kernel
theorem dX7_canHaveBeen_143 : decode cX7_canHaveBeen 143 = .ok (.iconst 0, 1) := by decide +kernel
theorem dX7_canHaveBeen_144 : decode cX7_canHaveBeen 144 = .ok (.ireturn, 1) := by decide +kernel
theorem dX7_isWrong_0 : decode cX7_isWrong 0 = .ok (.aload_n 0, 1) := by decide +kernel
theorem dX7_isWrong_1 : decode cX7_isWrong 1 = .ok (.getfield 44, 3) := by decide +kernel
theorem dX7_isWrong_4 : decode cX7_isWrong 4 = .ok (.getfield 408, 3) := by decide +kernel
theorem dX7_isWrong_7 : decode cX7_isWrong 7 = .ok (.iload_n 1, 1) := by decide +kernel
theorem dX7_isWrong_8 : decode cX7_isWrong 8 = .ok (.iaload, 1) := by decide +kernel
theorem dX7_isWrong_9 : decode cX7_isWrong 9 = .ok (.istore_n 2, 1) := by decide +kernel
theorem dX7_isWrong_10 : decode cX7_isWrong 10 = .ok (.aload_n 0, 1) := by decide +kernel
theorem dX7_isWrong_11 : decode cX7_isWrong 11 = .ok (.getfield 44, 3) := by decide +kernel
theorem dX7_isWrong_14 : decode cX7_isWrong 14 = .ok (.iload_n 1, 1) := by decide +kernel
theorem dX7_isWrong_15 : decode cX7_isWrong 15 = .ok (.invokevirtual 411, 3) := by decide +kernel
theorem dX7_isWrong_18 : decode cX7_isWrong 18 = .ok (.istore_n 3, 1) := by decide +kernel
theorem dX7_isWrong_19 : decode cX7_isWrong 19 = .ok (.iload_n 3, 1) := by decide +kernel
theorem dX7_isWrong_20 : decode cX7_isWrong 20 = .ok (.iconst (-1), 1) := by decide +kernel
theorem dX7_isWrong_21 : decode cX7_isWrong 21 = .ok (.if_icmp .ne 15, 3) := by decide +kernel
theorem dX7_isWrong_24 : decode cX7_isWrong 24 = .ok (.aload_n 0, 1) := by decide +kernel
theorem dX7_isWrong_25 : decode cX7_isWrong 25 = .ok (.getfield 19, 3) := by decide +kernel
theorem dX7_isWrong_28 : decode cX7_isWrong 28 = .ok (.getfield 400, 3) := by decide +kernel
theorem dX7_isWrong_31 : decode cX7_isWrong 31 = .ok (.iload_n 2, 1) := by decide +kernel
theorem dX7_isWrong_32 : decode cX7_isWrong 32 = .ok (.iaload, 1) := by decide +kernel
theorem dX7_isWrong_33 : decode cX7_isWrong 33 = .ok (.goto 12, 3) := by decide +kernel
theorem dX7_isWrong_36 : decode cX7_isWrong 36 = .ok (.aload_n 0, 1) := by decide +kernel
theorem dX7_isWrong_37 : decode cX7_isWrong 37 = .ok (.getfield 44, 3) := by decide +kernel
theorem dX7_isWrong_40 : decode cX7_isWrong 40 = .ok (.getfield 403, 3) := by decide +kernel
theorem dX7_isWrong_43 : decode cX7_isWrong 43 = .ok (.iload_n 3, 1) := by decide +kernel
theorem dX7_isWrong_44 : decode cX7_isWrong 44 = .ok (.iaload, 1) := by decide +kernel
theorem dX7_isWrong_45 : decode cX7_isWrong 45 = .ok (.istore 4, 2) := by decide +kernel
theorem dX7_isWrong_47 : decode cX7_isWrong 47 = .ok (.iload_n 3, 1) := by decide +kernel
theorem dX7_isWrong_48 : decode cX7_isWrong 48 = .ok (.iconst (-1), 1) := by decide +kernel
theorem dX7_isWrong_49 : decode cX7_isWrong 49 = .ok (.if_icmp .ne 7, 3) := by decide +kernel
theorem dX7_isWrong_52 : decode cX7_isWrong 52 = .ok (.iconst 0, 1) := by decide +kernel
theorem dX7_isWrong_53 : decode cX7_isWrong 53 = .ok (.goto 12, 3) := by decide +kernel
theorem dX7_isWrong_56 : decode cX7_isWrong 56 = .ok (.aload_n 0, 1) := by decide +kernel
theorem dX7_isWrong_57 : decode cX7_isWrong 57 = .ok (.getfield 44, 3) := by decide +kernel
theorem dX7_isWrong_60 : decode cX7_isWrong 60 = .ok (.getfield 406, 3) := by decide +kernel
theorem dX7_isWrong_63 : decode cX7_isWrong 63 = .ok (.iload_n 3, 1) := by decide +kernel
theorem dX7_isWrong_64 : decode cX7_isWrong 64 = .ok (.iaload, 1) := by decide +kernel
theorem dX7_isWrong_65 : decode cX7_isWrong 65 = .ok (.istore 5, 2) := by decide +kernel
theorem dX7_isWrong_67 : decode cX7_isWrong 67 = .ok (.aload_n 0, 1) := by decide +kernel
theorem dX7_isWrong_68 : decode cX7_isWrong 68 = .ok (.iload_n 2, 1) := by decide +kernel
theorem dX7_isWrong_69 : decode cX7_isWrong 69 = .ok (.iload 4, 2) := by decide +kernel
theorem dX7_isWrong_71 : decode cX7_isWrong 71 = .ok (.aload_n 0, 1) := by decide +kernel
theorem dX7_isWrong_72 : decode cX7_isWrong 72 = .ok (.getfield 44, 3) := by decide +kernel
theorem dX7_isWrong_75 : decode cX7_isWrong 75 = .ok (.getfield 403, 3) := by decide +kernel
theorem dX7_isWrong_78 : decode cX7_isWrong 78 = .ok (.iload_n 1, 1) := by decide +kernel
theorem dX7_isWrong_79 : decode cX7_isWrong 79 = .ok (.iaload, 1) := by decide +kernel
theorem dX7_isWrong_80 : decode cX7_isWrong 80 = .ok (.iconst 1, 1) := by decide +kernel
theorem dX7_isWrong_81 : decode cX7_isWrong 81 = .ok (.invokevirtual 258, 3) := by decide +kernel
theorem dX7_isWrong_84 : decode cX7_isWrong 84 = .ok (.aload_n 0, 1) := by decide +kernel
theorem dX7_isWrong_85 : decode cX7_isWrong 85 = .ok (.getfield 44, 3) := by decide +kernel
theorem dX7_isWrong_88 : decode cX7_isWrong 88 = .ok (.getfield 406, 3) := by decide +kernel
theorem dX7_isWrong_91 : decode cX7_isWrong 91 = .ok (.iload_n 1, 1) := by decide +kernel
theorem dX7_isWrong_92 : decode cX7_isWrong 92 = .ok (.iaload, 1) := by decide +kernel
theorem dX7_isWrong_93 : decode cX7_isWrong 93 = .ok (.iload 5, 2) := by decide +kernel
theorem dX7_isWrong_95 : decode cX7_isWrong 95 = .ok (.isub, 1) := by decide +kernel
theorem dX7_isWrong_96 : decode cX7_isWrong 96 = .ok (.if_icmp .le 7, 3) := by decide +kernel
theorem dX7_isWrong_99 : decode cX7_isWrong 99 = .ok (.iconst 1, 1) := by decide +kernel
theorem dX7_isWrong_100 : decode cX7_isWrong 100 = .ok (.goto 4, 3) := by decide +kernel
theorem dX7_isWrong_103 : decode cX7_isWrong 103 = .ok (.iconst 0, 1) := by decide +kernel
theorem dX7_isWrong_104 : decode cX7_isWrong 104 = .ok (.ireturn, 1) := by decide +kernel
