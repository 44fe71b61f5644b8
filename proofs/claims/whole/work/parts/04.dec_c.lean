theorem dX7_init_0 : decode cX7_init 0 = .ok (.aload_n 0, 1) := by decide +kernel
theorem dX7_init_1 : decode cX7_init 1 = .ok (.invokespecial 1, 3) := by decide +kernel
theorem dX7_init_4 : decode cX7_init 4 = .ok (.aload_n 0, 1) := by decide +kernel
theorem dX7_init_5 : decode cX7_init 5 = .ok (.new 7, 3) := by decide +kernel
theorem dX7_init_8 : decode cX7_init 8 = .ok (.dup, 1) := by decide +kernel
theorem dX7_init_9 : decode cX7_init 9 = .ok (.invokespecial 9, 3) := by decide +kernel
theorem dX7_init_12 : decode cX7_init 12 = .ok (.putfield 10, 3) := by decide +kernel
theorem dX7_init_15 : decode cX7_init 15 = .ok (.aload_n 0, 1) := by decide +kernel
theorem dX7_init_16 : decode cX7_init 16 = .ok (.new 16, 3) := by decide +kernel
theorem dX7_init_19 : decode cX7_init 19 = .ok (.dup, 1) := by decide +kernel
theorem dX7_init_20 : decode cX7_init 20 = .ok (.invokespecial 18, 3) := by decide +kernel
theorem dX7_init_23 : decode cX7_init 23 = .ok (.putfield 19, 3) := by decide +kernel
theorem dX7_init_26 : decode cX7_init 26 = .ok (.aload_n 0, 1) := by decide +kernel
theorem dX7_init_27 : decode cX7_init 27 = .ok (.new 16, 3) := by decide +kernel
theorem dX7_init_30 : decode cX7_init 30 = .ok (.dup, 1) := by decide +kernel
theorem dX7_init_31 : decode cX7_init 31 = .ok (.invokespecial 18, 3) := by decide +kernel
theorem dX7_init_34 : decode cX7_init 34 = .ok (.putfield 23, 3) := by decide +kernel
theorem dX7_init_37 : decode cX7_init 37 = .ok (.aload_n 0, 1) := by decide +kernel
theorem dX7_init_38 : decode cX7_init 38 = .ok (.new 26, 3) := by decide +kernel
theorem dX7_init_41 : decode cX7_init 41 = .ok (.dup, 1) := by decide +kernel
theorem dX7_init_42 : decode cX7_init 42 = .ok (.invokespecial 28, 3) := by decide +kernel
theorem dX7_init_45 : decode cX7_init 45 = .ok (.putfield 29, 3) := by decide +kernel
theorem dX7_init_48 : decode cX7_init 48 = .ok (.aload_n 0, 1) := by decide +kernel
theorem dX7_init_49 : decode cX7_init 49 = .ok (.iconst 2, 1) := by decide +kernel
theorem dX7_init_50 : decode cX7_init 50 = .ok (.anewarray 26, 3) := by decide +kernel
theorem dX7_init_53 : decode cX7_init 53 = .ok (.putfield 33, 3) := by decide +kernel
theorem dX7_init_56 : decode cX7_init 56 = .ok (.aload_n 0, 1) := by decide +kernel
theorem dX7_init_57 : decode cX7_init 57 = .ok (.iconst 0, 1) := by decide +kernel
theorem dX7_init_58 : decode cX7_init 58 = .ok (.putfield 37, 3) := by decide +kernel
theorem dX7_init_61 : decode cX7_init 61 = .ok (.aload_n 0, 1) := by decide +kernel
theorem dX7_init_62 : decode cX7_init 62 = .ok (.new 41, 3) := by decide +kernel
theorem dX7_init_65 : decode cX7_init 65 = .ok (.dup, 1) := by decide +kernel
theorem dX7_init_66 : decode cX7_init 66 = .ok (.invokespecial 43, 3) := by decide +kernel
theorem dX7_init_69 : decode cX7_init 69 = .ok (.putfield 44, 3) := by decide +kernel
theorem dX7_init_72 : decode cX7_init 72 = .ok (.aload_n 0, 1) := by decide +kernel
theorem dX7_init_73 : decode cX7_init 73 = .ok (.new 48, 3) := by decide +kernel
theorem dX7_init_76 : decode cX7_init 76 = .ok (.dup, 1) := by decide +kernel
theorem dX7_init_77 : decode cX7_init 77 = .ok (.invokespecial 50, 3) := by decide +kernel
theorem dX7_init_80 : decode cX7_init 80 = .ok (.putfield 51, 3) := by decide +kernel
theorem dX7_init_83 : decode cX7_init 83 = .ok (.aload_n 0, 1) := by decide +kernel
theorem dX7_init_84 : decode cX7_init 84 = .ok (.new 55, 3) := by decide +kernel
theorem dX7_init_87 : decode cX7_init 87 = .ok (.dup, 1) := by decide +kernel
theorem dX7_init_88 : decode cX7_init 88 = .ok (.invokespecial 57, 3) := by decide +kernel
theorem dX7_init_91 : decode cX7_init 91 = .ok (.putfield 58, 3) := by decide +kernel
theorem dX7_init_94 : decode cX7_init 94 = .ok (.aload_n 0, 1) := by decide +kernel
theorem dX7_init_95 : decode cX7_init 95 = .ok (.new 62, 3) := by decide +kernel
theorem dX7_init_98 : decode cX7_init 98 = .ok (.dup, 1) := by decide +kernel
theorem dX7_init_99 : decode cX7_init 99 = .ok (.invokespecial 64, 3) := by decide +kernel
theorem dX7_init_102 : decode cX7_init 102 = .ok (.putfield 65, 3) := by decide +kernel
theorem dX7_init_105 : decode cX7_init 105 = .ok (.iconst 0, 1) := by decide +kernel
theorem dX7_init_106 : decode cX7_init 106 = .ok (.istore_n 1, 1) := by decide +kernel
theorem dX7_init_107 : decode cX7_init 107 = .ok (.iload_n 1, 1) := by decide +kernel
theorem dX7_init_108 : decode cX7_init 108 = .ok (.iconst 2, 1) := by decide +kernel
theorem dX7_init_109 : decode cX7_init 109 = .ok (.if_icmp .ge 22, 3) := by decide +kernel
theorem dX7_init_112 : decode cX7_init 112 = .ok (.aload_n 0, 1) := by decide +kernel
theorem dX7_init_113 : decode cX7_init 113 = .ok (.getfield 33, 3) := by decide +kernel
theorem dX7_init_116 : decode cX7_init 116 = .ok (.iload_n 1, 1) := by decide +kernel
theorem dX7_init_117 : decode cX7_init 117 = .ok (.new 26, 3) := by decide +kernel
theorem dX7_init_120 : decode cX7_init 120 = .ok (.dup, 1) := by decide +kernel
theorem dX7_init_121 : decode cX7_init 121 = .ok (.invokespecial 28, 3) := by decide +kernel
theorem dX7_init_124 : decode cX7_init 124 = .ok (.aastore, 1) := by decide +kernel
theorem dX7_init_125 : decode cX7_init 125 = .ok (.iinc 1 1, 3) := by decide +kernel
theorem dX7_init_128 : decode cX7_init 128 = .ok (.goto (-21), 3) := by decide +kernel
theorem dX7_init_131 : decode cX7_init 131 = .ok (.aload_n 0, 1) := by decide +kernel
theorem dX7_init_132 : decode cX7_init 132 = .ok (.getfield 29, 3) := by decide +kernel
theorem dX7_init_135 : decode cX7_init 135 = .ok (.aload_n 0, 1) := by decide +kernel
theorem dX7_init_136 : decode cX7_init 136 = .ok (.getfield 19, 3) := by decide +kernel
theorem dX7_init_139 : decode cX7_init 139 = .ok (.invokevirtual 69, 3) := by decide +kernel
theorem dX7_init_142 : decode cX7_init 142 = .ok (.return_, 1) := by decide +kernel
theorem dX7_feed_0 : decode cX7_feed 0 = .ok (.iload_n 1, 1) := by decide +kernel
theorem dX7_feed_1 : decode cX7_feed 1 = .ok (.iconst 1, 1) := by decide +kernel
theorem dX7_feed_2 : decode cX7_feed 2 = .ok (.if_icmp .lt 9, 3) := by decide +kernel
theorem dX7_feed_5 : decode cX7_feed 5 = .ok (.iload_n 1, 1) := by decide +kernel
theorem dX7_feed_6 : decode cX7_feed 6 = .ok (.bipush 8, 2) := by decide +kernel
theorem dX7_feed_8 : decode cX7_feed 8 = .ok (.if_icmp .le 6, 3) := by decide +kernel
theorem dX7_feed_11 : decode cX7_feed 11 = .ok (.ldc 73, 2) := by decide +kernel
theorem dX7_feed_13 : decode cX7_feed 13 = .ok (.ireturn, 1) := by decide +kernel
theorem dX7_feed_14 : decode cX7_feed 14 = .ok (.aload_n 0, 1) := by decide +kernel
theorem dX7_feed_15 : decode cX7_feed 15 = .ok (.getfield 10, 3) := by decide +kernel
theorem dX7_feed_18 : decode cX7_feed 18 = .ok (.getfield 74, 3) := by decide +kernel
theorem dX7_feed_21 : decode cX7_feed 21 = .ok (.iload_n 1, 1) := by decide +kernel
theorem dX7_feed_22 : decode cX7_feed 22 = .ok (.iadd, 1) := by decide +kernel
theorem dX7_feed_23 : decode cX7_feed 23 = .ok (.sipush 500, 3) := by decide +kernel
theorem dX7_feed_26 : decode cX7_feed 26 = .ok (.if_icmp .le 6, 3) := by decide +kernel
theorem dX7_feed_29 : decode cX7_feed 29 = .ok (.ldc 77, 2) := by decide +kernel
theorem dX7_feed_31 : decode cX7_feed 31 = .ok (.ireturn, 1) := by decide +kernel
theorem dX7_feed_32 : decode cX7_feed 32 = .ok (.iload_n 1, 1) := by decide +kernel
theorem dX7_feed_33 : decode cX7_feed 33 = .ok (.iconst 1, 1) := by decide +kernel
theorem dX7_feed_34 : decode cX7_feed 34 = .ok (.isub, 1) := by decide +kernel
theorem dX7_feed_35 : decode cX7_feed 35 = .ok (.istore 4, 2) := by decide +kernel
theorem dX7_feed_37 : decode cX7_feed 37 = .ok (.iload 4, 2) := by decide +kernel
theorem dX7_feed_39 : decode cX7_feed 39 = .ok (.ifCond .lt 25, 3) := by decide +kernel
theorem dX7_feed_42 : decode cX7_feed 42 = .ok (.aload_n 0, 1) := by decide +kernel
theorem dX7_feed_43 : decode cX7_feed 43 = .ok (.getfield 10, 3) := by decide +kernel
theorem dX7_feed_46 : decode cX7_feed 46 = .ok (.lload_n 2, 1) := by decide +kernel
theorem dX7_feed_47 : decode cX7_feed 47 = .ok (.bipush 8, 2) := by decide +kernel
theorem dX7_feed_49 : decode cX7_feed 49 = .ok (.iload 4, 2) := by decide +kernel
theorem dX7_feed_51 : decode cX7_feed 51 = .ok (.imul, 1) := by decide +kernel
theorem dX7_feed_52 : decode cX7_feed 52 = .ok (.lushr, 1) := by decide +kernel
theorem dX7_feed_53 : decode cX7_feed 53 = .ok (.l2i, 1) := by decide +kernel
theorem dX7_feed_54 : decode cX7_feed 54 = .ok (.i2b, 1) := by decide +kernel
theorem dX7_feed_55 : decode cX7_feed 55 = .ok (.invokevirtual 78, 3) := by decide +kernel
theorem dX7_feed_58 : decode cX7_feed 58 = .ok (.iinc 4 (-1), 3) := by decide +kernel
theorem dX7_feed_61 : decode cX7_feed 61 = .ok (.goto (-24), 3) := by decide +kernel
theorem dX7_feed_64 : decode cX7_feed 64 = .ok (.aload_n 0, 1) := by decide +kernel
theorem dX7_feed_65 : decode cX7_feed 65 = .ok (.getfield 10, 3) := by decide +kernel
theorem dX7_feed_68 : decode cX7_feed 68 = .ok (.getfield 74, 3) := by decide +kernel
theorem dX7_feed_71 : decode cX7_feed 71 = .ok (.ireturn, 1) := by decide +kernel
theorem dX7_town_0 : decode cX7_town 0 = .ok (.aload_n 0, 1) := by decide +kernel
theorem dX7_town_1 : decode cX7_town 1 = .ok (.getfield 10, 3) := by decide +kernel
theorem dX7_town_4 : decode cX7_town 4 = .ok (.aload_n 0, 1) := by decide +kernel
theorem dX7_town_5 : decode cX7_town 5 = .ok (.getfield 23, 3) := by decide +kernel
theorem dX7_town_8 : decode cX7_town 8 = .ok (.invokevirtual 82, 3) := by decide +kernel
theorem dX7_town_11 : decode cX7_town 11 = .ok (.istore_n 1, 1) := by decide +kernel
theorem dX7_town_12 : decode cX7_town 12 = .ok (.aload_n 0, 1) := by decide +kernel
theorem dX7_town_13 : decode cX7_town 13 = .ok (.getfield 10, 3) := by decide +kernel
theorem dX7_town_16 : decode cX7_town 16 = .ok (.iconst 0, 1) := by decide +kernel
theorem dX7_town_17 : decode cX7_town 17 = .ok (.putfield 74, 3) := by decide +kernel
theorem dX7_town_20 : decode cX7_town 20 = .ok (.iload_n 1, 1) := by decide +kernel
theorem dX7_town_21 : decode cX7_town 21 = .ok (.ifCond .ne 14, 3) := by decide +kernel
theorem dX7_town_24 : decode cX7_town 24 = .ok (.bipush (-10), 2) := by decide +kernel
theorem dX7_town_26 : decode cX7_town 26 = .ok (.aload_n 0, 1) := by decide +kernel
theorem dX7_town_27 : decode cX7_town 27 = .ok (.getfield 10, 3) := by decide +kernel
theorem dX7_town_30 : decode cX7_town 30 = .ok (.getfield 86, 3) := by decide +kernel
theorem dX7_town_33 : decode cX7_town 33 = .ok (.isub, 1) := by decide +kernel
theorem dX7_town_34 : decode cX7_town 34 = .ok (.ireturn, 1) := by decide +kernel
theorem dX7_town_35 : decode cX7_town 35 = .ok (.aload_n 0, 1) := by decide +kernel
theorem dX7_town_36 : decode cX7_town 36 = .ok (.getfield 19, 3) := by decide +kernel
theorem dX7_town_39 : decode cX7_town 39 = .ok (.astore_n 2, 1) := by decide +kernel
theorem dX7_town_40 : decode cX7_town 40 = .ok (.aload_n 0, 1) := by decide +kernel
theorem dX7_town_41 : decode cX7_town 41 = .ok (.aload_n 0, 1) := by decide +kernel
theorem dX7_town_42 : decode cX7_town 42 = .ok (.getfield 23, 3) := by decide +kernel
theorem dX7_town_45 : decode cX7_town 45 = .ok (.putfield 19, 3) := by decide +kernel
theorem dX7_town_48 : decode cX7_town 48 = .ok (.aload_n 0, 1) := by decide +kernel
theorem dX7_town_49 : decode cX7_town 49 = .ok (.aload_n 2, 1) := by decide +kernel
theorem dX7_town_50 : decode cX7_town 50 = .ok (.putfield 23, 3) := by decide +kernel
theorem dX7_town_53 : decode cX7_town 53 = .ok (.aload_n 0, 1) := by decide +kernel
theorem dX7_town_54 : decode cX7_town 54 = .ok (.getfield 29, 3) := by decide +kernel
theorem dX7_town_57 : decode cX7_town 57 = .ok (.aload_n 0, 1) := by decide +kernel
theorem dX7_town_58 : decode cX7_town 58 = .ok (.getfield 19, 3) := by decide +kernel
theorem dX7_town_61 : decode cX7_town 61 = .ok (.invokevirtual 69, 3) := by decide +kernel
theorem dX7_town_64 : decode cX7_town 64 = .ok (.aload_n 0, 1) := by decide +kernel
theorem dX7_town_65 : decode cX7_town 65 = .ok (.getfield 44, 3) := by decide +kernel
theorem dX7_town_68 : decode cX7_town 68 = .ok (.iconst 0, 1) := by decide +kernel
theorem dX7_town_69 : decode cX7_town 69 = .ok (.putfield 89, 3) := by decide +kernel
theorem dX7_town_72 : decode cX7_town 72 = .ok (.aload_n 0, 1) := by decide +kernel
theorem dX7_town_73 : decode cX7_town 73 = .ok (.iconst 0, 1) := by decide +kernel
theorem dX7_town_74 : decode cX7_town 74 = .ok (.putfield 37, 3) := by decide +kernel
theorem dX7_town_77 : decode cX7_town 77 = .ok (.aload_n 0, 1) := by decide +kernel
theorem dX7_town_78 : decode cX7_town 78 = .ok (.getfield 19, 3) := by decide +kernel
theorem dX7_town_81 : decode cX7_town 81 = .ok (.getfield 92, 3) := by decide +kernel
theorem dX7_town_84 : decode cX7_town 84 = .ok (.ireturn, 1) := by decide +kernel
theorem dX7_fault_0 : decode cX7_fault 0 = .ok (.aload_n 0, 1) := by decide +kernel
theorem dX7_fault_1 : decode cX7_fault 1 = .ok (.getfield 10, 3) := by decide +kernel
theorem dX7_fault_4 : decode cX7_fault 4 = .ok (.getfield 95, 3) := by decide +kernel
theorem dX7_fault_7 : decode cX7_fault 7 = .ok (.ireturn, 1) := by decide +kernel
theorem dX7_told_0 : decode cX7_told 0 = .ok (.iload_n 1, 1) := by decide +kernel
theorem dX7_told_1 : decode cX7_told 1 = .ok (.tableswitch 147 0 10 #[59, 67, 75, 83, 91, 99, 107, 115, 123, 131, 139], 59) := by decide +kernel
theorem dX7_told_60 : decode cX7_told 60 = .ok (.aload_n 0, 1) := by decide +kernel
theorem dX7_told_61 : decode cX7_told 61 = .ok (.getfield 19, 3) := by decide +kernel
theorem dX7_told_64 : decode cX7_told 64 = .ok (.getfield 92, 3) := by decide +kernel
theorem dX7_told_67 : decode cX7_told 67 = .ok (.ireturn, 1) := by decide +kernel
theorem dX7_told_68 : decode cX7_told 68 = .ok (.aload_n 0, 1) := by decide +kernel
theorem dX7_told_69 : decode cX7_told 69 = .ok (.getfield 19, 3) := by decide +kernel
theorem dX7_told_72 : decode cX7_told 72 = .ok (.getfield 98, 3) := by decide +kernel
theorem dX7_told_75 : decode cX7_told 75 = .ok (.ireturn, 1) := by decide +kernel
theorem dX7_told_76 : decode cX7_told 76 = .ok (.aload_n 0, 1) := by decide +kernel
theorem dX7_told_77 : decode cX7_told 77 = .ok (.getfield 19, 3) := by decide +kernel
theorem dX7_told_80 : decode cX7_told 80 = .ok (.getfield 101, 3) := by decide +kernel
theorem dX7_told_83 : decode cX7_told 83 = .ok (.ireturn, 1) := by decide +kernel
theorem dX7_told_84 : decode cX7_told 84 = .ok (.aload_n 0, 1) := by decide +kernel
theorem dX7_told_85 : decode cX7_told 85 = .ok (.getfield 19, 3) := by decide +kernel
theorem dX7_told_88 : decode cX7_told 88 = .ok (.getfield 104, 3) := by decide +kernel
theorem dX7_told_91 : decode cX7_told 91 = .ok (.ireturn, 1) := by decide +kernel
theorem dX7_told_92 : decode cX7_told 92 = .ok (.aload_n 0, 1) := by decide +kernel
theorem dX7_told_93 : decode cX7_told 93 = .ok (.getfield 10, 3) := by decide +kernel
theorem dX7_told_96 : decode cX7_told 96 = .ok (.getfield 74, 3) := by decide +kernel
theorem dX7_told_99 : decode cX7_told 99 = .ok (.ireturn, 1) := by decide +kernel
theorem dX7_told_100 : decode cX7_told 100 = .ok (.aload_n 0, 1) := by decide +kernel
theorem dX7_told_101 : decode cX7_told 101 = .ok (.getfield 29, 3) := by decide +kernel
theorem dX7_told_104 : decode cX7_told 104 = .ok (.getfield 107, 3) := by decide +kernel
theorem dX7_told_107 : decode cX7_told 107 = .ok (.ireturn, 1) := by decide +kernel
theorem dX7_told_108 : decode cX7_told 108 = .ok (.aload_n 0, 1) := by decide +kernel
theorem dX7_told_109 : decode cX7_told 109 = .ok (.getfield 29, 3) := by decide +kernel
theorem dX7_told_112 : decode cX7_told 112 = .ok (.getfield 110, 3) := by decide +kernel
theorem dX7_told_115 : decode cX7_told 115 = .ok (.ireturn, 1) := by decide +kernel
theorem dX7_told_116 : decode cX7_told 116 = .ok (.aload_n 0, 1) := by decide +kernel
theorem dX7_told_117 : decode cX7_told 117 = .ok (.getfield 29, 3) := by decide +kernel
theorem dX7_told_120 : decode cX7_told 120 = .ok (.getfield 113, 3) := by decide +kernel
theorem dX7_told_123 : decode cX7_told 123 = .ok (.ireturn, 1) := by decide +kernel
theorem dX7_told_124 : decode cX7_told 124 = .ok (.aload_n 0, 1) := by decide +kernel
theorem dX7_told_125 : decode cX7_told 125 = .ok (.getfield 29, 3) := by decide +kernel
theorem dX7_told_128 : decode cX7_told 128 = .ok (.getfield 116, 3) := by decide +kernel
theorem dX7_told_131 : decode cX7_told 131 = .ok (.ireturn, 1) := by decide +kernel
theorem dX7_told_132 : decode cX7_told 132 = .ok (.aload_n 0, 1) := by decide +kernel
theorem dX7_told_133 : decode cX7_told 133 = .ok (.getfield 44, 3) := by decide +kernel
theorem dX7_told_136 : decode cX7_told 136 = .ok (.getfield 89, 3) := by decide +kernel
theorem dX7_told_139 : decode cX7_told 139 = .ok (.ireturn, 1) := by decide +kernel
theorem dX7_told_140 : decode cX7_told 140 = .ok (.aload_n 0, 1) := by decide +kernel
theorem dX7_told_141 : decode cX7_told 141 = .ok (.getfield 29, 3) := by decide +kernel
theorem dX7_told_144 : decode cX7_told 144 = .ok (.getfield 119, 3) := by decide +kernel
theorem dX7_told_147 : decode cX7_told 147 = .ok (.ireturn, 1) := by decide +kernel
theorem dX7_told_148 : decode cX7_told 148 = .ok (.ldc 73, 2) := by decide +kernel
theorem dX7_told_150 : decode cX7_told 150 = .ok (.ireturn, 1) := by decide +kernel
theorem dX7_pole_0 : decode cX7_pole 0 = .ok (.aload_n 0, 1) := by decide +kernel
theorem dX7_pole_1 : decode cX7_pole 1 = .ok (.iload_n 1, 1) := by decide +kernel
theorem dX7_pole_2 : decode cX7_pole 2 = .ok (.invokevirtual 122, 3) := by decide +kernel
theorem dX7_pole_5 : decode cX7_pole 5 = .ok (.ifCond .ne 6, 3) := by decide +kernel
theorem dX7_pole_8 : decode cX7_pole 8 = .ok (.ldc 126, 2) := by decide +kernel
theorem dX7_pole_10 : decode cX7_pole 10 = .ok (.ireturn, 1) := by decide +kernel
theorem dX7_pole_11 : decode cX7_pole 11 = .ok (.iload_n 2, 1) := by decide +kernel
theorem dX7_pole_12 : decode cX7_pole 12 = .ok (.tableswitch 98 0 4 #[36, 46, 56, 66, 82], 36) := by decide +kernel
theorem dX7_pole_48 : decode cX7_pole 48 = .ok (.aload_n 0, 1) := by decide +kernel
theorem dX7_pole_49 : decode cX7_pole 49 = .ok (.getfield 19, 3) := by decide +kernel
theorem dX7_pole_52 : decode cX7_pole 52 = .ok (.getfield 127, 3) := by decide +kernel
theorem dX7_pole_55 : decode cX7_pole 55 = .ok (.iload_n 1, 1) := by decide +kernel
theorem dX7_pole_56 : decode cX7_pole 56 = .ok (.iaload, 1) := by decide +kernel
theorem dX7_pole_57 : decode cX7_pole 57 = .ok (.ireturn, 1) := by decide +kernel
theorem dX7_pole_58 : decode cX7_pole 58 = .ok (.aload_n 0, 1) := by decide +kernel
theorem dX7_pole_59 : decode cX7_pole 59 = .ok (.getfield 19, 3) := by decide +kernel
theorem dX7_pole_62 : decode cX7_pole 62 = .ok (.getfield 131, 3) := by decide +kernel
theorem dX7_pole_65 : decode cX7_pole 65 = .ok (.iload_n 1, 1) := by decide +kernel
theorem dX7_pole_66 : decode cX7_pole 66 = .ok (.iaload, 1) := by decide +kernel
theorem dX7_pole_67 : decode cX7_pole 67 = .ok (.ireturn, 1) := by decide +kernel
theorem dX7_pole_68 : decode cX7_pole 68 = .ok (.aload_n 0, 1) := by decide +kernel
theorem dX7_pole_69 : decode cX7_pole 69 = .ok (.getfield 19, 3) := by decide +kernel
theorem dX7_pole_72 : decode cX7_pole 72 = .ok (.getfield 134, 3) := by decide +kernel
theorem dX7_pole_75 : decode cX7_pole 75 = .ok (.iload_n 1, 1) := by decide +kernel
theorem dX7_pole_76 : decode cX7_pole 76 = .ok (.iaload, 1) := by decide +kernel
theorem dX7_pole_77 : decode cX7_pole 77 = .ok (.ireturn, 1) := by decide +kernel
theorem dX7_pole_78 : decode cX7_pole 78 = .ok (.aload_n 0, 1) := by decide +kernel
theorem dX7_pole_79 : decode cX7_pole 79 = .ok (.getfield 29, 3) := by decide +kernel
theorem dX7_pole_82 : decode cX7_pole 82 = .ok (.iload_n 1, 1) := by decide +kernel
theorem dX7_pole_83 : decode cX7_pole 83 = .ok (.aload_n 0, 1) := by decide +kernel
theorem dX7_pole_84 : decode cX7_pole 84 = .ok (.getfield 19, 3) := by decide +kernel
theorem dX7_pole_87 : decode cX7_pole 87 = .ok (.getfield 101, 3) := by decide +kernel
theorem dX7_pole_90 : decode cX7_pole 90 = .ok (.invokevirtual 137, 3) := by decide +kernel
theorem dX7_pole_93 : decode cX7_pole 93 = .ok (.ireturn, 1) := by decide +kernel
theorem dX7_pole_94 : decode cX7_pole 94 = .ok (.aload_n 0, 1) := by decide +kernel
theorem dX7_pole_95 : decode cX7_pole 95 = .ok (.getfield 29, 3) := by decide +kernel
theorem dX7_pole_98 : decode cX7_pole 98 = .ok (.iload_n 1, 1) := by decide +kernel
theorem dX7_pole_99 : decode cX7_pole 99 = .ok (.aload_n 0, 1) := by decide +kernel
theorem dX7_pole_100 : decode cX7_pole 100 = .ok (.getfield 19, 3) := by decide +kernel
theorem dX7_pole_103 : decode cX7_pole 103 = .ok (.getfield 104, 3) := by decide +kernel
theorem dX7_pole_106 : decode cX7_pole 106 = .ok (.invokevirtual 141, 3) := by decide +kernel
theorem dX7_pole_109 : decode cX7_pole 109 = .ok (.ireturn, 1) := by decide +kernel
theorem dX7_pole_110 : decode cX7_pole 110 = .ok (.ldc 73, 2) := by decide +kernel
theorem dX7_pole_112 : decode cX7_pole 112 = .ok (.ireturn, 1) := by decide +kernel
theorem dX7_rope_0 : decode cX7_rope 0 = .ok (.aload_n 0, 1) := by decide +kernel
theorem dX7_rope_1 : decode cX7_rope 1 = .ok (.iload_n 1, 1) := by decide +kernel
theorem dX7_rope_2 : decode cX7_rope 2 = .ok (.invokevirtual 144, 3) := by decide +kernel
theorem dX7_rope_5 : decode cX7_rope 5 = .ok (.ifCond .ne 6, 3) := by decide +kernel
theorem dX7_rope_8 : decode cX7_rope 8 = .ok (.ldc 126, 2) := by decide +kernel
theorem dX7_rope_10 : decode cX7_rope 10 = .ok (.ireturn, 1) := by decide +kernel
theorem dX7_rope_11 : decode cX7_rope 11 = .ok (.iload_n 2, 1) := by decide +kernel
theorem dX7_rope_12 : decode cX7_rope 12 = .ok (.tableswitch 138 0 7 #[48, 58, 68, 78, 88, 98, 110, 122], 48) := by decide +kernel
theorem dX7_rope_60 : decode cX7_rope 60 = .ok (.aload_n 0, 1) := by decide +kernel
theorem dX7_rope_61 : decode cX7_rope 61 = .ok (.getfield 19, 3) := by decide +kernel
theorem dX7_rope_64 : decode cX7_rope 64 = .ok (.getfield 147, 3) := by decide +kernel
theorem dX7_rope_67 : decode cX7_rope 67 = .ok (.iload_n 1, 1) := by decide +kernel
theorem dX7_rope_68 : decode cX7_rope 68 = .ok (.iaload, 1) := by decide +kernel
theorem dX7_rope_69 : decode cX7_rope 69 = .ok (.ireturn, 1) := by decide +kernel
theorem dX7_rope_70 : decode cX7_rope 70 = .ok (.aload_n 0, 1) := by decide +kernel
theorem dX7_rope_71 : decode cX7_rope 71 = .ok (.getfield 19, 3) := by decide +kernel
theorem dX7_rope_74 : decode cX7_rope 74 = .ok (.getfield 150, 3) := by decide +kernel
theorem dX7_rope_77 : decode cX7_rope 77 = .ok (.iload_n 1, 1) := by decide +kernel
theorem dX7_rope_78 : decode cX7_rope 78 = .ok (.iaload, 1) := by decide +kernel
theorem dX7_rope_79 : decode cX7_rope 79 = .ok (.ireturn, 1) := by decide +kernel
theorem dX7_rope_80 : decode cX7_rope 80 = .ok (.aload_n 0, 1) := by decide +kernel
theorem dX7_rope_81 : decode cX7_rope 81 = .ok (.getfield 19, 3) := by decide +kernel
theorem dX7_rope_84 : decode cX7_rope 84 = .ok (.getfield 153, 3) := by decide +kernel
theorem dX7_rope_87 : decode cX7_rope 87 = .ok (.iload_n 1, 1) := by decide +kernel
theorem dX7_rope_88 : decode cX7_rope 88 = .ok (.iaload, 1) := by decide +kernel
theorem dX7_rope_89 : decode cX7_rope 89 = .ok (.ireturn, 1) := by decide +kernel
theorem dX7_rope_90 : decode cX7_rope 90 = .ok (.aload_n 0, 1) := by decide +kernel
theorem dX7_rope_91 : decode cX7_rope 91 = .ok (.getfield 19, 3) := by decide +kernel
theorem dX7_rope_94 : decode cX7_rope 94 = .ok (.getfield 156, 3) := by decide +kernel
theorem dX7_rope_97 : decode cX7_rope 97 = .ok (.iload_n 1, 1) := by decide +kernel
theorem dX7_rope_98 : decode cX7_rope 98 = .ok (.iaload, 1) := by decide +kernel
theorem dX7_rope_99 : decode cX7_rope 99 = .ok (.ireturn, 1) := by decide +kernel
theorem dX7_rope_100 : decode cX7_rope 100 = .ok (.aload_n 0, 1) := by decide +kernel
theorem dX7_rope_101 : decode cX7_rope 101 = .ok (.getfield 29, 3) := by decide +kernel
theorem dX7_rope_104 : decode cX7_rope 104 = .ok (.getfield 159, 3) := by decide +kernel
theorem dX7_rope_107 : decode cX7_rope 107 = .ok (.iload_n 1, 1) := by decide +kernel
theorem dX7_rope_108 : decode cX7_rope 108 = .ok (.iaload, 1) := by decide +kernel
theorem dX7_rope_109 : decode cX7_rope 109 = .ok (.ireturn, 1) := by decide +kernel
theorem dX7_rope_110 : decode cX7_rope 110 = .ok (.aload_n 0, 1) := by decide +kernel
theorem dX7_rope_111 : decode cX7_rope 111 = .ok (.getfield 29, 3) := by decide +kernel
theorem dX7_rope_114 : decode cX7_rope 114 = .ok (.getfield 162, 3) := by decide +kernel
theorem dX7_rope_117 : decode cX7_rope 117 = .ok (.iload_n 1, 1) := by decide +kernel
theorem dX7_rope_118 : decode cX7_rope 118 = .ok (.invokestatic 165, 3) := by decide +kernel
theorem dX7_rope_121 : decode cX7_rope 121 = .ok (.ireturn, 1) := by decide +kernel
theorem dX7_rope_122 : decode cX7_rope 122 = .ok (.aload_n 0, 1) := by decide +kernel
theorem dX7_rope_123 : decode cX7_rope 123 = .ok (.getfield 29, 3) := by decide +kernel
theorem dX7_rope_126 : decode cX7_rope 126 = .ok (.getfield 119, 3) := by decide +kernel
theorem dX7_rope_129 : decode cX7_rope 129 = .ok (.iload_n 1, 1) := by decide +kernel
theorem dX7_rope_130 : decode cX7_rope 130 = .ok (.invokestatic 165, 3) := by decide +kernel
theorem dX7_rope_133 : decode cX7_rope 133 = .ok (.ireturn, 1) := by decide +kernel
theorem dX7_rope_134 : decode cX7_rope 134 = .ok (.aload_n 0, 1) := by decide +kernel
theorem dX7_rope_135 : decode cX7_rope 135 = .ok (.getfield 29, 3) := by decide +kernel
theorem dX7_rope_138 : decode cX7_rope 138 = .ok (.iload_n 1, 1) := by decide +kernel
theorem dX7_rope_139 : decode cX7_rope 139 = .ok (.aload_n 0, 1) := by decide +kernel
theorem dX7_rope_140 : decode cX7_rope 140 = .ok (.getfield 19, 3) := by decide +kernel
theorem dX7_rope_143 : decode cX7_rope 143 = .ok (.getfield 101, 3) := by decide +kernel
theorem dX7_rope_146 : decode cX7_rope 146 = .ok (.invokevirtual 168, 3) := by decide +kernel
theorem dX7_rope_149 : decode cX7_rope 149 = .ok (.ireturn, 1) := by decide +kernel
theorem dX7_rope_150 : decode cX7_rope 150 = .ok (.ldc 73, 2) := by decide +kernel
theorem dX7_rope_152 : decode cX7_rope 152 = .ok (.ireturn, 1) := by decide +kernel
theorem dX7_boy_0 : decode cX7_boy 0 = .ok (.aload_n 0, 1) := by decide +kernel
theorem dX7_boy_1 : decode cX7_boy 1 = .ok (.iload_n 1, 1) := by decide +kernel
theorem dX7_boy_2 : decode cX7_boy 2 = .ok (.invokevirtual 171, 3) := by decide +kernel
theorem dX7_boy_5 : decode cX7_boy 5 = .ok (.ifCond .ne 6, 3) := by decide +kernel
theorem dX7_boy_8 : decode cX7_boy 8 = .ok (.ldc 126, 2) := by decide +kernel
theorem dX7_boy_10 : decode cX7_boy 10 = .ok (.ireturn, 1) := by decide +kernel
theorem dX7_boy_11 : decode cX7_boy 11 = .ok (.iload_n 2, 1) := by decide +kernel
theorem dX7_boy_12 : decode cX7_boy 12 = .ok (.tableswitch 121 0 5 #[40, 65, 75, 85, 95, 105], 40) := by decide +kernel
theorem dX7_boy_52 : decode cX7_boy 52 = .ok (.aload_n 0, 1) := by decide +kernel
theorem dX7_boy_53 : decode cX7_boy 53 = .ok (.getfield 29, 3) := by decide +kernel
theorem dX7_boy_56 : decode cX7_boy 56 = .ok (.iload_n 1, 1) := by decide +kernel
theorem dX7_boy_57 : decode cX7_boy 57 = .ok (.invokevirtual 174, 3) := by decide +kernel
theorem dX7_boy_60 : decode cX7_boy 60 = .ok (.ifCond .eq 7, 3) := by decide +kernel
theorem dX7_boy_63 : decode cX7_boy 63 = .ok (.iconst (-1), 1) := by decide +kernel
theorem dX7_boy_64 : decode cX7_boy 64 = .ok (.goto 12, 3) := by decide +kernel
theorem dX7_boy_67 : decode cX7_boy 67 = .ok (.aload_n 0, 1) := by decide +kernel
theorem dX7_boy_68 : decode cX7_boy 68 = .ok (.getfield 29, 3) := by decide +kernel
theorem dX7_boy_71 : decode cX7_boy 71 = .ok (.getfield 177, 3) := by decide +kernel
theorem dX7_boy_74 : decode cX7_boy 74 = .ok (.iload_n 1, 1) := by decide +kernel
theorem dX7_boy_75 : decode cX7_boy 75 = .ok (.iaload, 1) := by decide +kernel
theorem dX7_boy_76 : decode cX7_boy 76 = .ok (.ireturn, 1) := by decide +kernel
theorem dX7_boy_77 : decode cX7_boy 77 = .ok (.aload_n 0, 1) := by decide +kernel
theorem dX7_boy_78 : decode cX7_boy 78 = .ok (.getfield 29, 3) := by decide +kernel
theorem dX7_boy_81 : decode cX7_boy 81 = .ok (.getfield 180, 3) := by decide +kernel
theorem dX7_boy_84 : decode cX7_boy 84 = .ok (.iload_n 1, 1) := by decide +kernel
theorem dX7_boy_85 : decode cX7_boy 85 = .ok (.iaload, 1) := by decide +kernel
theorem dX7_boy_86 : decode cX7_boy 86 = .ok (.ireturn, 1) := by decide +kernel
theorem dX7_boy_87 : decode cX7_boy 87 = .ok (.aload_n 0, 1) := by decide +kernel
theorem dX7_boy_88 : decode cX7_boy 88 = .ok (.getfield 29, 3) := by decide +kernel
theorem dX7_boy_91 : decode cX7_boy 91 = .ok (.getfield 183, 3) := by decide +kernel
theorem dX7_boy_94 : decode cX7_boy 94 = .ok (.iload_n 1, 1) := by decide +kernel
theorem dX7_boy_95 : decode cX7_boy 95 = .ok (.iaload, 1) := by decide +kernel
theorem dX7_boy_96 : decode cX7_boy 96 = .ok (.ireturn, 1) := by decide +kernel
theorem dX7_boy_97 : decode cX7_boy 97 = .ok (.aload_n 0, 1) := by decide +kernel
theorem dX7_boy_98 : decode cX7_boy 98 = .ok (.getfield 19, 3) := by decide +kernel
theorem dX7_boy_101 : decode cX7_boy 101 = .ok (.getfield 186, 3) := by decide +kernel
theorem dX7_boy_104 : decode cX7_boy 104 = .ok (.iload_n 1, 1) := by decide +kernel
theorem dX7_boy_105 : decode cX7_boy 105 = .ok (.iaload, 1) := by decide +kernel
theorem dX7_boy_106 : decode cX7_boy 106 = .ok (.ireturn, 1) := by decide +kernel
theorem dX7_boy_107 : decode cX7_boy 107 = .ok (.aload_n 0, 1) := by decide +kernel
theorem dX7_boy_108 : decode cX7_boy 108 = .ok (.getfield 19, 3) := by decide +kernel
theorem dX7_boy_111 : decode cX7_boy 111 = .ok (.getfield 189, 3) := by decide +kernel
theorem dX7_boy_114 : decode cX7_boy 114 = .ok (.iload_n 1, 1) := by decide +kernel
theorem dX7_boy_115 : decode cX7_boy 115 = .ok (.iaload, 1) := by decide +kernel
theorem dX7_boy_116 : decode cX7_boy 116 = .ok (.ireturn, 1) := by decide +kernel
theorem dX7_boy_117 : decode cX7_boy 117 = .ok (.aload_n 0, 1) := by decide +kernel
theorem dX7_boy_118 : decode cX7_boy 118 = .ok (.getfield 29, 3) := by decide +kernel
theorem dX7_boy_121 : decode cX7_boy 121 = .ok (.iload_n 1, 1) := by decide +kernel
theorem dX7_boy_122 : decode cX7_boy 122 = .ok (.aload_n 0, 1) := by decide +kernel
theorem dX7_boy_123 : decode cX7_boy 123 = .ok (.getfield 19, 3) := by decide +kernel
theorem dX7_boy_126 : decode cX7_boy 126 = .ok (.getfield 104, 3) := by decide +kernel
theorem dX7_boy_129 : decode cX7_boy 129 = .ok (.invokevirtual 192, 3) := by decide +kernel
theorem dX7_boy_132 : decode cX7_boy 132 = .ok (.ireturn, 1) := by decide +kernel
theorem dX7_boy_133 : decode cX7_boy 133 = .ok (.ldc 73, 2) := by decide +kernel
theorem dX7_boy_135 : decode cX7_boy 135 = .ok (.ireturn, 1) := by decide +kernel
theorem dX7_load_0 : decode cX7_load 0 = .ok (.aload_n 0, 1) := by decide +kernel
theorem dX7_load_1 : decode cX7_load 1 = .ok (.iload_n 1, 1) := by decide +kernel
theorem dX7_load_2 : decode cX7_load 2 = .ok (.invokevirtual 195, 3) := by decide +kernel
theorem dX7_load_5 : decode cX7_load 5 = .ok (.ifCond .ne 6, 3) := by decide +kernel
theorem dX7_load_8 : decode cX7_load 8 = .ok (.ldc 126, 2) := by decide +kernel
theorem dX7_load_10 : decode cX7_load 10 = .ok (.ireturn, 1) := by decide +kernel
theorem dX7_load_11 : decode cX7_load 11 = .ok (.iload_n 2, 1) := by decide +kernel
theorem dX7_load_12 : decode cX7_load 12 = .ok (.tableswitch 116 0 6 #[44, 54, 64, 74, 84, 94, 104], 44) := by decide +kernel
theorem dX7_load_56 : decode cX7_load 56 = .ok (.aload_n 0, 1) := by decide +kernel
theorem dX7_load_57 : decode cX7_load 57 = .ok (.getfield 29, 3) := by decide +kernel
theorem dX7_load_60 : decode cX7_load 60 = .ok (.getfield 198, 3) := by decide +kernel
theorem dX7_load_63 : decode cX7_load 63 = .ok (.iload_n 1, 1) := by decide +kernel
theorem dX7_load_64 : decode cX7_load 64 = .ok (.iaload, 1) := by decide +kernel
theorem dX7_load_65 : decode cX7_load 65 = .ok (.ireturn, 1) := by decide +kernel
theorem dX7_load_66 : decode cX7_load 66 = .ok (.aload_n 0, 1) := by decide +kernel
theorem dX7_load_67 : decode cX7_load 67 = .ok (.getfield 19, 3) := by decide +kernel
theorem dX7_load_70 : decode cX7_load 70 = .ok (.getfield 201, 3) := by decide +kernel
theorem dX7_load_73 : decode cX7_load 73 = .ok (.iload_n 1, 1) := by decide +kernel
theorem dX7_load_74 : decode cX7_load 74 = .ok (.iaload, 1) := by decide +kernel
theorem dX7_load_75 : decode cX7_load 75 = .ok (.ireturn, 1) := by decide +kernel
theorem dX7_load_76 : decode cX7_load 76 = .ok (.aload_n 0, 1) := by decide +kernel
theorem dX7_load_77 : decode cX7_load 77 = .ok (.getfield 19, 3) := by decide +kernel
theorem dX7_load_80 : decode cX7_load 80 = .ok (.getfield 204, 3) := by decide +kernel
theorem dX7_load_83 : decode cX7_load 83 = .ok (.iload_n 1, 1) := by decide +kernel
theorem dX7_load_84 : decode cX7_load 84 = .ok (.iaload, 1) := by decide +kernel
theorem dX7_load_85 : decode cX7_load 85 = .ok (.ireturn, 1) := by decide +kernel
theorem dX7_load_86 : decode cX7_load 86 = .ok (.aload_n 0, 1) := by decide +kernel
theorem dX7_load_87 : decode cX7_load 87 = .ok (.getfield 19, 3) := by decide +kernel
theorem dX7_load_90 : decode cX7_load 90 = .ok (.getfield 207, 3) := by decide +kernel
theorem dX7_load_93 : decode cX7_load 93 = .ok (.iload_n 1, 1) := by decide +kernel
theorem dX7_load_94 : decode cX7_load 94 = .ok (.iaload, 1) := by decide +kernel
theorem dX7_load_95 : decode cX7_load 95 = .ok (.ireturn, 1) := by decide +kernel
theorem dX7_load_96 : decode cX7_load 96 = .ok (.aload_n 0, 1) := by decide +kernel
theorem dX7_load_97 : decode cX7_load 97 = .ok (.getfield 19, 3) := by decide +kernel
theorem dX7_load_100 : decode cX7_load 100 = .ok (.getfield 210, 3) := by decide +kernel
theorem dX7_load_103 : decode cX7_load 103 = .ok (.iload_n 1, 1) := by decide +kernel
theorem dX7_load_104 : decode cX7_load 104 = .ok (.iaload, 1) := by decide +kernel
theorem dX7_load_105 : decode cX7_load 105 = .ok (.ireturn, 1) := by decide +kernel
theorem dX7_load_106 : decode cX7_load 106 = .ok (.aload_n 0, 1) := by decide +kernel
theorem dX7_load_107 : decode cX7_load 107 = .ok (.getfield 29, 3) := by decide +kernel
theorem dX7_load_110 : decode cX7_load 110 = .ok (.getfield 213, 3) := by decide +kernel
theorem dX7_load_113 : decode cX7_load 113 = .ok (.iload_n 1, 1) := by decide +kernel
theorem dX7_load_114 : decode cX7_load 114 = .ok (.iaload, 1) := by decide +kernel
theorem dX7_load_115 : decode cX7_load 115 = .ok (.ireturn, 1) := by decide +kernel
theorem dX7_load_116 : decode cX7_load 116 = .ok (.aload_n 0, 1) := by decide +kernel
theorem dX7_load_117 : decode cX7_load 117 = .ok (.getfield 29, 3) := by decide +kernel
theorem dX7_load_120 : decode cX7_load 120 = .ok (.getfield 113, 3) := by decide +kernel
theorem dX7_load_123 : decode cX7_load 123 = .ok (.iload_n 1, 1) := by decide +kernel
theorem dX7_load_124 : decode cX7_load 124 = .ok (.invokestatic 165, 3) := by decide +kernel
theorem dX7_load_127 : decode cX7_load 127 = .ok (.ireturn, 1) := by decide +kernel
theorem dX7_load_128 : decode cX7_load 128 = .ok (.ldc 73, 2) := by decide +kernel
theorem dX7_load_130 : decode cX7_load 130 = .ok (.ireturn, 1) := by decide +kernel
theorem dX7_go_0 : decode cX7_go 0 = .ok (.aload_n 0, 1) := by decide +kernel
theorem dX7_go_1 : decode cX7_go 1 = .ok (.iload_n 1, 1) := by decide +kernel
theorem dX7_go_2 : decode cX7_go 2 = .ok (.invokevirtual 171, 3) := by decide +kernel
theorem dX7_go_5 : decode cX7_go 5 = .ok (.ifCond .eq 11, 3) := by decide +kernel
theorem dX7_go_8 : decode cX7_go 8 = .ok (.aload_n 0, 1) := by decide +kernel
theorem dX7_go_9 : decode cX7_go 9 = .ok (.iload_n 2, 1) := by decide +kernel
theorem dX7_go_10 : decode cX7_go 10 = .ok (.invokevirtual 144, 3) := by decide +kernel
theorem dX7_go_13 : decode cX7_go 13 = .ok (.ifCond .ne 6, 3) := by decide +kernel
theorem dX7_go_16 : decode cX7_go 16 = .ok (.ldc 126, 2) := by decide +kernel
theorem dX7_go_18 : decode cX7_go 18 = .ok (.ireturn, 1) := by decide +kernel
theorem dX7_go_19 : decode cX7_go 19 = .ok (.aload_n 0, 1) := by decide +kernel
theorem dX7_go_20 : decode cX7_go 20 = .ok (.getfield 29, 3) := by decide +kernel
theorem dX7_go_23 : decode cX7_go 23 = .ok (.iload_n 1, 1) := by decide +kernel
theorem dX7_go_24 : decode cX7_go 24 = .ok (.invokevirtual 174, 3) := by decide +kernel
theorem dX7_go_27 : decode cX7_go 27 = .ok (.ifCond .ne 22, 3) := by decide +kernel
theorem dX7_go_30 : decode cX7_go 30 = .ok (.aload_n 0, 1) := by decide +kernel
theorem dX7_go_31 : decode cX7_go 31 = .ok (.getfield 29, 3) := by decide +kernel
theorem dX7_go_34 : decode cX7_go 34 = .ok (.iload_n 2, 1) := by decide +kernel
theorem dX7_go_35 : decode cX7_go 35 = .ok (.aload_n 0, 1) := by decide +kernel
theorem dX7_go_36 : decode cX7_go 36 = .ok (.getfield 19, 3) := by decide +kernel
theorem dX7_go_39 : decode cX7_go 39 = .ok (.getfield 101, 3) := by decide +kernel
theorem dX7_go_42 : decode cX7_go 42 = .ok (.invokevirtual 168, 3) := by decide +kernel
theorem dX7_go_45 : decode cX7_go 45 = .ok (.iconst (-1), 1) := by decide +kernel
theorem dX7_go_46 : decode cX7_go 46 = .ok (.if_icmp .eq 6, 3) := by decide +kernel
theorem dX7_go_49 : decode cX7_go 49 = .ok (.ldc 216, 2) := by decide +kernel
theorem dX7_go_51 : decode cX7_go 51 = .ok (.ireturn, 1) := by decide +kernel
theorem dX7_go_52 : decode cX7_go 52 = .ok (.aload_n 0, 1) := by decide +kernel
theorem dX7_go_53 : decode cX7_go 53 = .ok (.getfield 19, 3) := by decide +kernel
theorem dX7_go_56 : decode cX7_go 56 = .ok (.iload_n 2, 1) := by decide +kernel
theorem dX7_go_57 : decode cX7_go 57 = .ok (.aload_n 0, 1) := by decide +kernel
theorem dX7_go_58 : decode cX7_go 58 = .ok (.getfield 29, 3) := by decide +kernel
theorem dX7_go_61 : decode cX7_go 61 = .ok (.getfield 177, 3) := by decide +kernel
theorem dX7_go_64 : decode cX7_go 64 = .ok (.iload_n 1, 1) := by decide +kernel
theorem dX7_go_65 : decode cX7_go 65 = .ok (.iaload, 1) := by decide +kernel
theorem dX7_go_66 : decode cX7_go 66 = .ok (.invokevirtual 217, 3) := by decide +kernel
theorem dX7_go_69 : decode cX7_go 69 = .ok (.istore_n 3, 1) := by decide +kernel
theorem dX7_go_70 : decode cX7_go 70 = .ok (.aload_n 0, 1) := by decide +kernel
theorem dX7_go_71 : decode cX7_go 71 = .ok (.iload_n 2, 1) := by decide +kernel
theorem dX7_go_72 : decode cX7_go 72 = .ok (.iload_n 1, 1) := by decide +kernel
theorem dX7_go_73 : decode cX7_go 73 = .ok (.aload_n 0, 1) := by decide +kernel
theorem dX7_go_74 : decode cX7_go 74 = .ok (.getfield 29, 3) := by decide +kernel
theorem dX7_go_77 : decode cX7_go 77 = .ok (.iload_n 1, 1) := by decide +kernel
theorem dX7_go_78 : decode cX7_go 78 = .ok (.aload_n 0, 1) := by decide +kernel
theorem dX7_go_79 : decode cX7_go 79 = .ok (.getfield 19, 3) := by decide +kernel
theorem dX7_go_82 : decode cX7_go 82 = .ok (.getfield 104, 3) := by decide +kernel
theorem dX7_go_85 : decode cX7_go 85 = .ok (.invokevirtual 192, 3) := by decide +kernel
theorem dX7_go_88 : decode cX7_go 88 = .ok (.iconst 0, 1) := by decide +kernel
theorem dX7_go_89 : decode cX7_go 89 = .ok (.invokevirtual 220, 3) := by decide +kernel
theorem dX7_go_92 : decode cX7_go 92 = .ok (.istore 4, 2) := by decide +kernel
theorem dX7_go_94 : decode cX7_go 94 = .ok (.iload_n 3, 1) := by decide +kernel
theorem dX7_go_95 : decode cX7_go 95 = .ok (.iconst (-1), 1) := by decide +kernel
theorem dX7_go_96 : decode cX7_go 96 = .ok (.if_icmp .eq 9, 3) := by decide +kernel
theorem dX7_go_99 : decode cX7_go 99 = .ok (.iload 4, 2) := by decide +kernel
theorem dX7_go_101 : decode cX7_go 101 = .ok (.iconst (-1), 1) := by decide +kernel
theorem dX7_go_102 : decode cX7_go 102 = .ok (.if_icmp .ne 6, 3) := by decide +kernel
theorem dX7_go_105 : decode cX7_go 105 = .ok (.ldc 216, 2) := by decide +kernel
theorem dX7_go_107 : decode cX7_go 107 = .ok (.ireturn, 1) := by decide +kernel
theorem dX7_go_108 : decode cX7_go 108 = .ok (.aload_n 0, 1) := by decide +kernel
theorem dX7_go_109 : decode cX7_go 109 = .ok (.getfield 29, 3) := by decide +kernel
theorem dX7_go_112 : decode cX7_go 112 = .ok (.getfield 177, 3) := by decide +kernel
theorem dX7_go_115 : decode cX7_go 115 = .ok (.iload_n 1, 1) := by decide +kernel
theorem dX7_go_116 : decode cX7_go 116 = .ok (.iload_n 3, 1) := by decide +kernel
theorem dX7_go_117 : decode cX7_go 117 = .ok (.iastore, 1) := by decide +kernel
theorem dX7_go_118 : decode cX7_go 118 = .ok (.aload_n 0, 1) := by decide +kernel
theorem dX7_go_119 : decode cX7_go 119 = .ok (.getfield 29, 3) := by decide +kernel
theorem dX7_go_122 : decode cX7_go 122 = .ok (.getfield 180, 3) := by decide +kernel
theorem dX7_go_125 : decode cX7_go 125 = .ok (.iload_n 1, 1) := by decide +kernel
theorem dX7_go_126 : decode cX7_go 126 = .ok (.iload_n 2, 1) := by decide +kernel
theorem dX7_go_127 : decode cX7_go 127 = .ok (.iastore, 1) := by decide +kernel
theorem dX7_go_128 : decode cX7_go 128 = .ok (.aload_n 0, 1) := by decide +kernel
theorem dX7_go_129 : decode cX7_go 129 = .ok (.getfield 29, 3) := by decide +kernel
theorem dX7_go_132 : decode cX7_go 132 = .ok (.getfield 183, 3) := by decide +kernel
theorem dX7_go_135 : decode cX7_go 135 = .ok (.iload_n 1, 1) := by decide +kernel
theorem dX7_go_136 : decode cX7_go 136 = .ok (.iload 4, 2) := by decide +kernel
theorem dX7_go_138 : decode cX7_go 138 = .ok (.iastore, 1) := by decide +kernel
theorem dX7_go_139 : decode cX7_go 139 = .ok (.aload_n 0, 1) := by decide +kernel
theorem dX7_go_140 : decode cX7_go 140 = .ok (.getfield 29, 3) := by decide +kernel
theorem dX7_go_143 : decode cX7_go 143 = .ok (.iload_n 2, 1) := by decide +kernel
theorem dX7_go_144 : decode cX7_go 144 = .ok (.invokevirtual 224, 3) := by decide +kernel
theorem dX7_go_147 : decode cX7_go 147 = .ok (.iload 4, 2) := by decide +kernel
theorem dX7_go_149 : decode cX7_go 149 = .ok (.ireturn, 1) := by decide +kernel
theorem dX7_take_0 : decode cX7_take 0 = .ok (.aload_n 0, 1) := by decide +kernel
theorem dX7_take_1 : decode cX7_take 1 = .ok (.iload_n 1, 1) := by decide +kernel
theorem dX7_take_2 : decode cX7_take 2 = .ok (.invokevirtual 171, 3) := by decide +kernel
theorem dX7_take_5 : decode cX7_take 5 = .ok (.ifCond .eq 11, 3) := by decide +kernel
theorem dX7_take_8 : decode cX7_take 8 = .ok (.aload_n 0, 1) := by decide +kernel
theorem dX7_take_9 : decode cX7_take 9 = .ok (.iload_n 2, 1) := by decide +kernel
theorem dX7_take_10 : decode cX7_take 10 = .ok (.invokevirtual 195, 3) := by decide +kernel
theorem dX7_take_13 : decode cX7_take 13 = .ok (.ifCond .ne 6, 3) := by decide +kernel
theorem dX7_take_16 : decode cX7_take 16 = .ok (.ldc 126, 2) := by decide +kernel
theorem dX7_take_18 : decode cX7_take 18 = .ok (.ireturn, 1) := by decide +kernel
theorem dX7_take_19 : decode cX7_take 19 = .ok (.aload_n 0, 1) := by decide +kernel
theorem dX7_take_20 : decode cX7_take 20 = .ok (.getfield 29, 3) := by decide +kernel
theorem dX7_take_23 : decode cX7_take 23 = .ok (.iload_n 1, 1) := by decide +kernel
theorem dX7_take_24 : decode cX7_take 24 = .ok (.aload_n 0, 1) := by decide +kernel
theorem dX7_take_25 : decode cX7_take 25 = .ok (.getfield 19, 3) := by decide +kernel
theorem dX7_take_28 : decode cX7_take 28 = .ok (.getfield 104, 3) := by decide +kernel
theorem dX7_take_31 : decode cX7_take 31 = .ok (.invokevirtual 192, 3) := by decide +kernel
theorem dX7_take_34 : decode cX7_take 34 = .ok (.invokestatic 228, 3) := by decide +kernel
theorem dX7_take_37 : decode cX7_take 37 = .ok (.istore_n 3, 1) := by decide +kernel
theorem dX7_take_38 : decode cX7_take 38 = .ok (.aload_n 0, 1) := by decide +kernel
theorem dX7_take_39 : decode cX7_take 39 = .ok (.getfield 29, 3) := by decide +kernel
theorem dX7_take_42 : decode cX7_take 42 = .ok (.iload_n 1, 1) := by decide +kernel
theorem dX7_take_43 : decode cX7_take 43 = .ok (.invokevirtual 174, 3) := by decide +kernel
theorem dX7_take_46 : decode cX7_take 46 = .ok (.ifCond .ne 29, 3) := by decide +kernel
theorem dX7_take_49 : decode cX7_take 49 = .ok (.aload_n 0, 1) := by decide +kernel
theorem dX7_take_50 : decode cX7_take 50 = .ok (.getfield 29, 3) := by decide +kernel
theorem dX7_take_53 : decode cX7_take 53 = .ok (.getfield 198, 3) := by decide +kernel
theorem dX7_take_56 : decode cX7_take 56 = .ok (.iload_n 2, 1) := by decide +kernel
theorem dX7_take_57 : decode cX7_take 57 = .ok (.iaload, 1) := by decide +kernel
theorem dX7_take_58 : decode cX7_take 58 = .ok (.aload_n 0, 1) := by decide +kernel
theorem dX7_take_59 : decode cX7_take 59 = .ok (.getfield 29, 3) := by decide +kernel
theorem dX7_take_62 : decode cX7_take 62 = .ok (.getfield 177, 3) := by decide +kernel
theorem dX7_take_65 : decode cX7_take 65 = .ok (.iload_n 1, 1) := by decide +kernel
theorem dX7_take_66 : decode cX7_take 66 = .ok (.iaload, 1) := by decide +kernel
theorem dX7_take_67 : decode cX7_take 67 = .ok (.if_icmp .ne 8, 3) := by decide +kernel
theorem dX7_take_70 : decode cX7_take 70 = .ok (.iload_n 3, 1) := by decide +kernel
theorem dX7_take_71 : decode cX7_take 71 = .ok (.iconst 2, 1) := by decide +kernel
theorem dX7_take_72 : decode cX7_take 72 = .ok (.if_icmp .lt 6, 3) := by decide +kernel
theorem dX7_take_75 : decode cX7_take 75 = .ok (.ldc 216, 2) := by decide +kernel
theorem dX7_take_77 : decode cX7_take 77 = .ok (.ireturn, 1) := by decide +kernel
theorem dX7_take_78 : decode cX7_take 78 = .ok (.aload_n 0, 1) := by decide +kernel
theorem dX7_take_79 : decode cX7_take 79 = .ok (.getfield 29, 3) := by decide +kernel
theorem dX7_take_82 : decode cX7_take 82 = .ok (.getfield 198, 3) := by decide +kernel
theorem dX7_take_85 : decode cX7_take 85 = .ok (.iload_n 2, 1) := by decide +kernel
theorem dX7_take_86 : decode cX7_take 86 = .ok (.iconst (-1), 1) := by decide +kernel
theorem dX7_take_87 : decode cX7_take 87 = .ok (.iastore, 1) := by decide +kernel
theorem dX7_take_88 : decode cX7_take 88 = .ok (.aload_n 0, 1) := by decide +kernel
theorem dX7_take_89 : decode cX7_take 89 = .ok (.getfield 29, 3) := by decide +kernel
theorem dX7_take_92 : decode cX7_take 92 = .ok (.getfield 213, 3) := by decide +kernel
theorem dX7_take_95 : decode cX7_take 95 = .ok (.iload_n 2, 1) := by decide +kernel
theorem dX7_take_96 : decode cX7_take 96 = .ok (.iload_n 1, 1) := by decide +kernel
theorem dX7_take_97 : decode cX7_take 97 = .ok (.iastore, 1) := by decide +kernel
theorem dX7_take_98 : decode cX7_take 98 = .ok (.iload_n 3, 1) := by decide +kernel
theorem dX7_take_99 : decode cX7_take 99 = .ok (.iconst 1, 1) := by decide +kernel
theorem dX7_take_100 : decode cX7_take 100 = .ok (.iadd, 1) := by decide +kernel
theorem dX7_take_101 : decode cX7_take 101 = .ok (.ireturn, 1) := by decide +kernel
theorem dX7_lay_0 : decode cX7_lay 0 = .ok (.aload_n 0, 1) := by decide +kernel
theorem dX7_lay_1 : decode cX7_lay 1 = .ok (.iload_n 1, 1) := by decide +kernel
theorem dX7_lay_2 : decode cX7_lay 2 = .ok (.invokevirtual 171, 3) := by decide +kernel
theorem dX7_lay_5 : decode cX7_lay 5 = .ok (.ifCond .eq 11, 3) := by decide +kernel
theorem dX7_lay_8 : decode cX7_lay 8 = .ok (.aload_n 0, 1) := by decide +kernel
theorem dX7_lay_9 : decode cX7_lay 9 = .ok (.iload_n 2, 1) := by decide +kernel
theorem dX7_lay_10 : decode cX7_lay 10 = .ok (.invokevirtual 195, 3) := by decide +kernel
theorem dX7_lay_13 : decode cX7_lay 13 = .ok (.ifCond .ne 6, 3) := by decide +kernel
theorem dX7_lay_16 : decode cX7_lay 16 = .ok (.ldc 126, 2) := by decide +kernel
theorem dX7_lay_18 : decode cX7_lay 18 = .ok (.ireturn, 1) := by decide +kernel
theorem dX7_lay_19 : decode cX7_lay 19 = .ok (.aload_n 0, 1) := by decide +kernel
theorem dX7_lay_20 : decode cX7_lay 20 = .ok (.getfield 29, 3) := by decide +kernel
theorem dX7_lay_23 : decode cX7_lay 23 = .ok (.iload_n 1, 1) := by decide +kernel
theorem dX7_lay_24 : decode cX7_lay 24 = .ok (.invokevirtual 174, 3) := by decide +kernel
theorem dX7_lay_27 : decode cX7_lay 27 = .ok (.ifCond .ne 16, 3) := by decide +kernel
theorem dX7_lay_30 : decode cX7_lay 30 = .ok (.aload_n 0, 1) := by decide +kernel
theorem dX7_lay_31 : decode cX7_lay 31 = .ok (.getfield 29, 3) := by decide +kernel
theorem dX7_lay_34 : decode cX7_lay 34 = .ok (.getfield 213, 3) := by decide +kernel
theorem dX7_lay_37 : decode cX7_lay 37 = .ok (.iload_n 2, 1) := by decide +kernel
theorem dX7_lay_38 : decode cX7_lay 38 = .ok (.iaload, 1) := by decide +kernel
theorem dX7_lay_39 : decode cX7_lay 39 = .ok (.iload_n 1, 1) := by decide +kernel
theorem dX7_lay_40 : decode cX7_lay 40 = .ok (.if_icmp .eq 6, 3) := by decide +kernel
theorem dX7_lay_43 : decode cX7_lay 43 = .ok (.ldc 216, 2) := by decide +kernel
theorem dX7_lay_45 : decode cX7_lay 45 = .ok (.ireturn, 1) := by decide +kernel
theorem dX7_lay_46 : decode cX7_lay 46 = .ok (.aload_n 0, 1) := by decide +kernel
theorem dX7_lay_47 : decode cX7_lay 47 = .ok (.getfield 29, 3) := by decide +kernel
theorem dX7_lay_50 : decode cX7_lay 50 = .ok (.getfield 198, 3) := by decide +kernel
theorem dX7_lay_53 : decode cX7_lay 53 = .ok (.iload_n 2, 1) := by decide +kernel
theorem dX7_lay_54 : decode cX7_lay 54 = .ok (.aload_n 0, 1) := by decide +kernel
theorem dX7_lay_55 : decode cX7_lay 55 = .ok (.getfield 29, 3) := by decide +kernel
theorem dX7_lay_58 : decode cX7_lay 58 = .ok (.getfield 177, 3) := by decide +kernel
theorem dX7_lay_61 : decode cX7_lay 61 = .ok (.iload_n 1, 1) := by decide +kernel
theorem dX7_lay_62 : decode cX7_lay 62 = .ok (.iaload, 1) := by decide +kernel
theorem dX7_lay_63 : decode cX7_lay 63 = .ok (.iastore, 1) := by decide +kernel
theorem dX7_lay_64 : decode cX7_lay 64 = .ok (.aload_n 0, 1) := by decide +kernel
theorem dX7_lay_65 : decode cX7_lay 65 = .ok (.getfield 29, 3) := by decide +kernel
theorem dX7_lay_68 : decode cX7_lay 68 = .ok (.getfield 213, 3) := by decide +kernel
theorem dX7_lay_71 : decode cX7_lay 71 = .ok (.iload_n 2, 1) := by decide +kernel
theorem dX7_lay_72 : decode cX7_lay 72 = .ok (.iconst (-1), 1) := by decide +kernel
theorem dX7_lay_73 : decode cX7_lay 73 = .ok (.iastore, 1) := by decide +kernel
theorem dX7_lay_74 : decode cX7_lay 74 = .ok (.aload_n 0, 1) := by decide +kernel
theorem dX7_lay_75 : decode cX7_lay 75 = .ok (.getfield 29, 3) := by decide +kernel
theorem dX7_lay_78 : decode cX7_lay 78 = .ok (.iload_n 1, 1) := by decide +kernel
theorem dX7_lay_79 : decode cX7_lay 79 = .ok (.aload_n 0, 1) := by decide +kernel
theorem dX7_lay_80 : decode cX7_lay 80 = .ok (.getfield 19, 3) := by decide +kernel
theorem dX7_lay_83 : decode cX7_lay 83 = .ok (.getfield 104, 3) := by decide +kernel
theorem dX7_lay_86 : decode cX7_lay 86 = .ok (.invokevirtual 192, 3) := by decide +kernel
theorem dX7_lay_89 : decode cX7_lay 89 = .ok (.invokestatic 228, 3) := by decide +kernel
theorem dX7_lay_92 : decode cX7_lay 92 = .ok (.ireturn, 1) := by decide +kernel
theorem dX7_pass_0 : decode cX7_pass 0 = .ok (.iload_n 1, 1) := by decide +kernel
theorem dX7_pass_1 : decode cX7_pass 1 = .ok (.iconst 1, 1) := by decide +kernel
theorem dX7_pass_2 : decode cX7_pass 2 = .ok (.if_icmp .lt 9, 3) := by decide +kernel
theorem dX7_pass_5 : decode cX7_pass 5 = .ok (.iload_n 1, 1) := by decide +kernel
theorem dX7_pass_6 : decode cX7_pass 6 = .ok (.bipush 99, 2) := by decide +kernel
theorem dX7_pass_8 : decode cX7_pass 8 = .ok (.if_icmp .le 6, 3) := by decide +kernel
theorem dX7_pass_11 : decode cX7_pass 11 = .ok (.ldc 73, 2) := by decide +kernel
theorem dX7_pass_13 : decode cX7_pass 13 = .ok (.ireturn, 1) := by decide +kernel
theorem dX7_pass_14 : decode cX7_pass 14 = .ok (.iconst 0, 1) := by decide +kernel
theorem dX7_pass_15 : decode cX7_pass 15 = .ok (.istore_n 2, 1) := by decide +kernel
theorem dX7_pass_16 : decode cX7_pass 16 = .ok (.iload_n 2, 1) := by decide +kernel
theorem dX7_pass_17 : decode cX7_pass 17 = .ok (.iload_n 1, 1) := by decide +kernel
theorem dX7_pass_18 : decode cX7_pass 18 = .ok (.if_icmp .ge 13, 3) := by decide +kernel
theorem dX7_pass_21 : decode cX7_pass 21 = .ok (.aload_n 0, 1) := by decide +kernel
theorem dX7_pass_22 : decode cX7_pass 22 = .ok (.invokevirtual 234, 3) := by decide +kernel
theorem dX7_pass_25 : decode cX7_pass 25 = .ok (.iinc 2 1, 3) := by decide +kernel
theorem dX7_pass_28 : decode cX7_pass 28 = .ok (.goto (-12), 3) := by decide +kernel
theorem dX7_pass_31 : decode cX7_pass 31 = .ok (.aload_n 0, 1) := by decide +kernel
theorem dX7_pass_32 : decode cX7_pass 32 = .ok (.getfield 29, 3) := by decide +kernel
theorem dX7_pass_35 : decode cX7_pass 35 = .ok (.getfield 113, 3) := by decide +kernel
theorem dX7_pass_38 : decode cX7_pass 38 = .ok (.ireturn, 1) := by decide +kernel
theorem dX7_cut_0 : decode cX7_cut 0 = .ok (.aload_n 0, 1) := by decide +kernel
theorem dX7_cut_1 : decode cX7_cut 1 = .ok (.iload_n 1, 1) := by decide +kernel
theorem dX7_cut_2 : decode cX7_cut 2 = .ok (.invokevirtual 144, 3) := by decide +kernel
theorem dX7_cut_5 : decode cX7_cut 5 = .ok (.ifCond .ne 6, 3) := by decide +kernel
theorem dX7_cut_8 : decode cX7_cut 8 = .ok (.ldc 126, 2) := by decide +kernel
theorem dX7_cut_10 : decode cX7_cut 10 = .ok (.ireturn, 1) := by decide +kernel
theorem dX7_cut_11 : decode cX7_cut 11 = .ok (.aload_n 0, 1) := by decide +kernel
theorem dX7_cut_12 : decode cX7_cut 12 = .ok (.getfield 29, 3) := by decide +kernel
theorem dX7_cut_15 : decode cX7_cut 15 = .ok (.getfield 119, 3) := by decide +kernel
theorem dX7_cut_18 : decode cX7_cut 18 = .ok (.iload_n 1, 1) := by decide +kernel
theorem dX7_cut_19 : decode cX7_cut 19 = .ok (.invokestatic 237, 3) := by decide +kernel
theorem dX7_cut_22 : decode cX7_cut 22 = .ok (.ifCond .eq 22, 3) := by decide +kernel
theorem dX7_cut_25 : decode cX7_cut 25 = .ok (.aload_n 0, 1) := by decide +kernel
theorem dX7_cut_26 : decode cX7_cut 26 = .ok (.getfield 29, 3) := by decide +kernel
theorem dX7_cut_29 : decode cX7_cut 29 = .ok (.iload_n 1, 1) := by decide +kernel
theorem dX7_cut_30 : decode cX7_cut 30 = .ok (.aload_n 0, 1) := by decide +kernel
theorem dX7_cut_31 : decode cX7_cut 31 = .ok (.getfield 19, 3) := by decide +kernel
theorem dX7_cut_34 : decode cX7_cut 34 = .ok (.getfield 101, 3) := by decide +kernel
theorem dX7_cut_37 : decode cX7_cut 37 = .ok (.invokevirtual 168, 3) := by decide +kernel
theorem dX7_cut_40 : decode cX7_cut 40 = .ok (.iconst (-1), 1) := by decide +kernel
theorem dX7_cut_41 : decode cX7_cut 41 = .ok (.if_icmp .eq 6, 3) := by decide +kernel
theorem dX7_cut_44 : decode cX7_cut 44 = .ok (.ldc 216, 2) := by decide +kernel
theorem dX7_cut_46 : decode cX7_cut 46 = .ok (.ireturn, 1) := by decide +kernel
theorem dX7_cut_47 : decode cX7_cut 47 = .ok (.aload_n 0, 1) := by decide +kernel
theorem dX7_cut_48 : decode cX7_cut 48 = .ok (.getfield 29, 3) := by decide +kernel
theorem dX7_cut_51 : decode cX7_cut 51 = .ok (.dup, 1) := by decide +kernel
theorem dX7_cut_52 : decode cX7_cut 52 = .ok (.getfield 119, 3) := by decide +kernel
theorem dX7_cut_55 : decode cX7_cut 55 = .ok (.iconst 1, 1) := by decide +kernel
theorem dX7_cut_56 : decode cX7_cut 56 = .ok (.iload_n 1, 1) := by decide +kernel
theorem dX7_cut_57 : decode cX7_cut 57 = .ok (.ishl, 1) := by decide +kernel
theorem dX7_cut_58 : decode cX7_cut 58 = .ok (.iconst (-1), 1) := by decide +kernel
theorem dX7_cut_59 : decode cX7_cut 59 = .ok (.ixor, 1) := by decide +kernel
theorem dX7_cut_60 : decode cX7_cut 60 = .ok (.iand, 1) := by decide +kernel
theorem dX7_cut_61 : decode cX7_cut 61 = .ok (.putfield 119, 3) := by decide +kernel
theorem dX7_cut_64 : decode cX7_cut 64 = .ok (.iconst 1, 1) := by decide +kernel
theorem dX7_cut_65 : decode cX7_cut 65 = .ok (.ireturn, 1) := by decide +kernel
theorem dX7_splice_0 : decode cX7_splice 0 = .ok (.aload_n 0, 1) := by decide +kernel
theorem dX7_splice_1 : decode cX7_splice 1 = .ok (.iload_n 1, 1) := by decide +kernel
theorem dX7_splice_2 : decode cX7_splice 2 = .ok (.invokevirtual 144, 3) := by decide +kernel
theorem dX7_splice_5 : decode cX7_splice 5 = .ok (.ifCond .ne 6, 3) := by decide +kernel
theorem dX7_splice_8 : decode cX7_splice 8 = .ok (.ldc 126, 2) := by decide +kernel
theorem dX7_splice_10 : decode cX7_splice 10 = .ok (.ireturn, 1) := by decide +kernel
theorem dX7_splice_11 : decode cX7_splice 11 = .ok (.aload_n 0, 1) := by decide +kernel
theorem dX7_splice_12 : decode cX7_splice 12 = .ok (.getfield 29, 3) := by decide +kernel
theorem dX7_splice_15 : decode cX7_splice 15 = .ok (.getfield 119, 3) := by decide +kernel
theorem dX7_splice_18 : decode cX7_splice 18 = .ok (.iload_n 1, 1) := by decide +kernel
theorem dX7_splice_19 : decode cX7_splice 19 = .ok (.invokestatic 237, 3) := by decide +kernel
theorem dX7_splice_22 : decode cX7_splice 22 = .ok (.ifCond .eq 6, 3) := by decide +kernel
theorem dX7_splice_25 : decode cX7_splice 25 = .ok (.ldc 216, 2) := by decide +kernel
theorem dX7_splice_27 : decode cX7_splice 27 = .ok (.ireturn, 1) := by decide +kernel
theorem dX7_splice_28 : decode cX7_splice 28 = .ok (.aload_n 0, 1) := by decide +kernel
theorem dX7_splice_29 : decode cX7_splice 29 = .ok (.getfield 29, 3) := by decide +kernel
theorem dX7_splice_32 : decode cX7_splice 32 = .ok (.dup, 1) := by decide +kernel
theorem dX7_splice_33 : decode cX7_splice 33 = .ok (.getfield 119, 3) := by decide +kernel
theorem dX7_splice_36 : decode cX7_splice 36 = .ok (.iconst 1, 1) := by decide +kernel
theorem dX7_splice_37 : decode cX7_splice 37 = .ok (.iload_n 1, 1) := by decide +kernel
theorem dX7_splice_38 : decode cX7_splice 38 = .ok (.ishl, 1) := by decide +kernel
theorem dX7_splice_39 : decode cX7_splice 39 = .ok (.ior, 1) := by decide +kernel
theorem dX7_splice_40 : decode cX7_splice 40 = .ok (.putfield 119, 3) := by decide +kernel
theorem dX7_splice_43 : decode cX7_splice 43 = .ok (.aload_n 0, 1) := by decide +kernel
theorem dX7_splice_44 : decode cX7_splice 44 = .ok (.getfield 29, 3) := by decide +kernel
theorem dX7_splice_47 : decode cX7_splice 47 = .ok (.getfield 159, 3) := by decide +kernel
theorem dX7_splice_50 : decode cX7_splice 50 = .ok (.iload_n 1, 1) := by decide +kernel
theorem dX7_splice_51 : decode cX7_splice 51 = .ok (.iconst 0, 1) := by decide +kernel
theorem dX7_splice_52 : decode cX7_splice 52 = .ok (.iastore, 1) := by decide +kernel
theorem dX7_splice_53 : decode cX7_splice 53 = .ok (.iconst 1, 1) := by decide +kernel
theorem dX7_splice_54 : decode cX7_splice 54 = .ok (.ireturn, 1) := by decide +kernel
theorem dX7_wet_0 : decode cX7_wet 0 = .ok (.aload_n 0, 1) := by decide +kernel
theorem dX7_wet_1 : decode cX7_wet 1 = .ok (.iload_n 1, 1) := by decide +kernel
theorem dX7_wet_2 : decode cX7_wet 2 = .ok (.invokevirtual 144, 3) := by decide +kernel
theorem dX7_wet_5 : decode cX7_wet 5 = .ok (.ifCond .ne 6, 3) := by decide +kernel
theorem dX7_wet_8 : decode cX7_wet 8 = .ok (.ldc 126, 2) := by decide +kernel
theorem dX7_wet_10 : decode cX7_wet 10 = .ok (.ireturn, 1) := by decide +kernel
theorem dX7_wet_11 : decode cX7_wet 11 = .ok (.aload_n 0, 1) := by decide +kernel
theorem dX7_wet_12 : decode cX7_wet 12 = .ok (.getfield 29, 3) := by decide +kernel
theorem dX7_wet_15 : decode cX7_wet 15 = .ok (.getfield 162, 3) := by decide +kernel
theorem dX7_wet_18 : decode cX7_wet 18 = .ok (.iload_n 1, 1) := by decide +kernel
theorem dX7_wet_19 : decode cX7_wet 19 = .ok (.invokestatic 165, 3) := by decide +kernel
theorem dX7_wet_22 : decode cX7_wet 22 = .ok (.istore_n 3, 1) := by decide +kernel
theorem dX7_wet_23 : decode cX7_wet 23 = .ok (.aload_n 0, 1) := by decide +kernel
theorem dX7_wet_24 : decode cX7_wet 24 = .ok (.getfield 29, 3) := by decide +kernel
theorem dX7_wet_27 : decode cX7_wet 27 = .ok (.iload_n 1, 1) := by decide +kernel
theorem dX7_wet_28 : decode cX7_wet 28 = .ok (.iload_n 2, 1) := by decide +kernel
theorem dX7_wet_29 : decode cX7_wet 29 = .ok (.invokevirtual 241, 3) := by decide +kernel
theorem dX7_wet_32 : decode cX7_wet 32 = .ok (.iload_n 3, 1) := by decide +kernel
theorem dX7_wet_33 : decode cX7_wet 33 = .ok (.ireturn, 1) := by decide +kernel
theorem dX7_storm_0 : decode cX7_storm 0 = .ok (.iload_n 1, 1) := by decide +kernel
theorem dX7_storm_1 : decode cX7_storm 1 = .ok (.ifCond .lt 9, 3) := by decide +kernel
theorem dX7_storm_4 : decode cX7_storm 4 = .ok (.iload_n 1, 1) := by decide +kernel
theorem dX7_storm_5 : decode cX7_storm 5 = .ok (.bipush 100, 2) := by decide +kernel
theorem dX7_storm_7 : decode cX7_storm 7 = .ok (.if_icmp .le 6, 3) := by decide +kernel
theorem dX7_storm_10 : decode cX7_storm 10 = .ok (.ldc 73, 2) := by decide +kernel
theorem dX7_storm_12 : decode cX7_storm 12 = .ok (.ireturn, 1) := by decide +kernel
theorem dX7_storm_13 : decode cX7_storm 13 = .ok (.aload_n 0, 1) := by decide +kernel
theorem dX7_storm_14 : decode cX7_storm 14 = .ok (.getfield 29, 3) := by decide +kernel
theorem dX7_storm_17 : decode cX7_storm 17 = .ok (.getfield 119, 3) := by decide +kernel
theorem dX7_storm_20 : decode cX7_storm 20 = .ok (.istore_n 2, 1) := by decide +kernel
theorem dX7_storm_21 : decode cX7_storm 21 = .ok (.iconst 0, 1) := by decide +kernel
theorem dX7_storm_22 : decode cX7_storm 22 = .ok (.istore_n 3, 1) := by decide +kernel
theorem dX7_storm_23 : decode cX7_storm 23 = .ok (.iload_n 3, 1) := by decide +kernel
theorem dX7_storm_24 : decode cX7_storm 24 = .ok (.aload_n 0, 1) := by decide +kernel
theorem dX7_storm_25 : decode cX7_storm 25 = .ok (.getfield 19, 3) := by decide +kernel
theorem dX7_storm_28 : decode cX7_storm 28 = .ok (.getfield 98, 3) := by decide +kernel
theorem dX7_storm_31 : decode cX7_storm 31 = .ok (.if_icmp .ge 72, 3) := by decide +kernel
theorem dX7_storm_34 : decode cX7_storm 34 = .ok (.aload_n 0, 1) := by decide +kernel
theorem dX7_storm_35 : decode cX7_storm 35 = .ok (.getfield 29, 3) := by decide +kernel
theorem dX7_storm_38 : decode cX7_storm 38 = .ok (.getfield 119, 3) := by decide +kernel
theorem dX7_storm_41 : decode cX7_storm 41 = .ok (.iload_n 3, 1) := by decide +kernel
theorem dX7_storm_42 : decode cX7_storm 42 = .ok (.invokestatic 237, 3) := by decide +kernel
theorem dX7_storm_45 : decode cX7_storm 45 = .ok (.ifCond .eq 52, 3) := by decide +kernel
theorem dX7_storm_48 : decode cX7_storm 48 = .ok (.aload_n 0, 1) := by decide +kernel
theorem dX7_storm_49 : decode cX7_storm 49 = .ok (.getfield 29, 3) := by decide +kernel
theorem dX7_storm_52 : decode cX7_storm 52 = .ok (.iload_n 3, 1) := by decide +kernel
theorem dX7_storm_53 : decode cX7_storm 53 = .ok (.aload_n 0, 1) := by decide +kernel
theorem dX7_storm_54 : decode cX7_storm 54 = .ok (.getfield 19, 3) := by decide +kernel
theorem dX7_storm_57 : decode cX7_storm 57 = .ok (.getfield 101, 3) := by decide +kernel
theorem dX7_storm_60 : decode cX7_storm 60 = .ok (.invokevirtual 168, 3) := by decide +kernel
theorem dX7_storm_63 : decode cX7_storm 63 = .ok (.iconst (-1), 1) := by decide +kernel
theorem dX7_storm_64 : decode cX7_storm 64 = .ok (.if_icmp .ne 33, 3) := by decide +kernel
theorem dX7_storm_67 : decode cX7_storm 67 = .ok (.aload_n 0, 1) := by decide +kernel
theorem dX7_storm_68 : decode cX7_storm 68 = .ok (.getfield 29, 3) := by decide +kernel
theorem dX7_storm_71 : decode cX7_storm 71 = .ok (.bipush 100, 2) := by decide +kernel
theorem dX7_storm_73 : decode cX7_storm 73 = .ok (.invokevirtual 245, 3) := by decide +kernel
theorem dX7_storm_76 : decode cX7_storm 76 = .ok (.iload_n 1, 1) := by decide +kernel
theorem dX7_storm_77 : decode cX7_storm 77 = .ok (.if_icmp .ge 20, 3) := by decide +kernel
theorem dX7_storm_80 : decode cX7_storm 80 = .ok (.aload_n 0, 1) := by decide +kernel
theorem dX7_storm_81 : decode cX7_storm 81 = .ok (.getfield 29, 3) := by decide +kernel
theorem dX7_storm_84 : decode cX7_storm 84 = .ok (.iload_n 3, 1) := by decide +kernel
theorem dX7_storm_85 : decode cX7_storm 85 = .ok (.aload_n 0, 1) := by decide +kernel
theorem dX7_storm_86 : decode cX7_storm 86 = .ok (.getfield 29, 3) := by decide +kernel
theorem dX7_storm_89 : decode cX7_storm 89 = .ok (.bipush 40, 2) := by decide +kernel
theorem dX7_storm_91 : decode cX7_storm 91 = .ok (.invokevirtual 245, 3) := by decide +kernel
theorem dX7_storm_94 : decode cX7_storm 94 = .ok (.invokevirtual 248, 3) := by decide +kernel
theorem dX7_storm_97 : decode cX7_storm 97 = .ok (.iinc 3 1, 3) := by decide +kernel
theorem dX7_storm_100 : decode cX7_storm 100 = .ok (.goto (-77), 3) := by decide +kernel
theorem dX7_storm_103 : decode cX7_storm 103 = .ok (.iconst 0, 1) := by decide +kernel
theorem dX7_storm_104 : decode cX7_storm 104 = .ok (.istore_n 3, 1) := by decide +kernel
theorem dX7_storm_105 : decode cX7_storm 105 = .ok (.iload_n 3, 1) := by decide +kernel
theorem dX7_storm_106 : decode cX7_storm 106 = .ok (.aload_n 0, 1) := by decide +kernel
theorem dX7_storm_107 : decode cX7_storm 107 = .ok (.getfield 19, 3) := by decide +kernel
theorem dX7_storm_110 : decode cX7_storm 110 = .ok (.getfield 98, 3) := by decide +kernel
theorem dX7_storm_113 : decode cX7_storm 113 = .ok (.if_icmp .ge 34, 3) := by decide +kernel
theorem dX7_storm_116 : decode cX7_storm 116 = .ok (.aload_n 0, 1) := by decide +kernel
theorem dX7_storm_117 : decode cX7_storm 117 = .ok (.getfield 29, 3) := by decide +kernel
theorem dX7_storm_120 : decode cX7_storm 120 = .ok (.iload_n 3, 1) := by decide +kernel
theorem dX7_storm_121 : decode cX7_storm 121 = .ok (.aload_n 0, 1) := by decide +kernel
theorem dX7_storm_122 : decode cX7_storm 122 = .ok (.getfield 29, 3) := by decide +kernel
theorem dX7_storm_125 : decode cX7_storm 125 = .ok (.iconst 2, 1) := by decide +kernel
theorem dX7_storm_126 : decode cX7_storm 126 = .ok (.invokevirtual 245, 3) := by decide +kernel
theorem dX7_storm_129 : decode cX7_storm 129 = .ok (.iconst 1, 1) := by decide +kernel
theorem dX7_storm_130 : decode cX7_storm 130 = .ok (.if_icmp .ne 7, 3) := by decide +kernel
theorem dX7_storm_133 : decode cX7_storm 133 = .ok (.iconst 1, 1) := by decide +kernel
theorem dX7_storm_134 : decode cX7_storm 134 = .ok (.goto 4, 3) := by decide +kernel
theorem dX7_storm_137 : decode cX7_storm 137 = .ok (.iconst 0, 1) := by decide +kernel
theorem dX7_storm_138 : decode cX7_storm 138 = .ok (.invokevirtual 241, 3) := by decide +kernel
theorem dX7_storm_141 : decode cX7_storm 141 = .ok (.iinc 3 1, 3) := by decide +kernel
theorem dX7_storm_144 : decode cX7_storm 144 = .ok (.goto (-39), 3) := by decide +kernel
theorem dX7_storm_147 : decode cX7_storm 147 = .ok (.iload_n 2, 1) := by decide +kernel
theorem dX7_storm_148 : decode cX7_storm 148 = .ok (.aload_n 0, 1) := by decide +kernel
theorem dX7_storm_149 : decode cX7_storm 149 = .ok (.getfield 29, 3) := by decide +kernel
theorem dX7_storm_152 : decode cX7_storm 152 = .ok (.getfield 119, 3) := by decide +kernel
theorem dX7_storm_155 : decode cX7_storm 155 = .ok (.iconst (-1), 1) := by decide +kernel
theorem dX7_storm_156 : decode cX7_storm 156 = .ok (.ixor, 1) := by decide +kernel
theorem dX7_storm_157 : decode cX7_storm 157 = .ok (.iand, 1) := by decide +kernel
theorem dX7_storm_158 : decode cX7_storm 158 = .ok (.ireturn, 1) := by decide +kernel
theorem dX7_ring_0 : decode cX7_ring 0 = .ok (.iload_n 2, 1) := by decide +kernel
theorem dX7_ring_1 : decode cX7_ring 1 = .ok (.ifCond .lt 8, 3) := by decide +kernel
theorem dX7_ring_4 : decode cX7_ring 4 = .ok (.iload_n 2, 1) := by decide +kernel
theorem dX7_ring_5 : decode cX7_ring 5 = .ok (.iconst 1, 1) := by decide +kernel
theorem dX7_ring_6 : decode cX7_ring 6 = .ok (.if_icmp .le 6, 3) := by decide +kernel
theorem dX7_ring_9 : decode cX7_ring 9 = .ok (.ldc 73, 2) := by decide +kernel
theorem dX7_ring_11 : decode cX7_ring 11 = .ok (.ireturn, 1) := by decide +kernel
theorem dX7_ring_12 : decode cX7_ring 12 = .ok (.iload_n 1, 1) := by decide +kernel
theorem dX7_ring_13 : decode cX7_ring 13 = .ok (.ifCond .lt 14, 3) := by decide +kernel
theorem dX7_ring_16 : decode cX7_ring 16 = .ok (.iload_n 1, 1) := by decide +kernel
theorem dX7_ring_17 : decode cX7_ring 17 = .ok (.aload_n 0, 1) := by decide +kernel
theorem dX7_ring_18 : decode cX7_ring 18 = .ok (.getfield 29, 3) := by decide +kernel
theorem dX7_ring_21 : decode cX7_ring 21 = .ok (.getfield 116, 3) := by decide +kernel
theorem dX7_ring_24 : decode cX7_ring 24 = .ok (.if_icmp .lt 5, 3) := by decide +kernel
theorem dX7_ring_27 : decode cX7_ring 27 = .ok (.iconst (-1), 1) := by decide +kernel
theorem dX7_ring_28 : decode cX7_ring 28 = .ok (.ireturn, 1) := by decide +kernel
theorem dX7_ring_29 : decode cX7_ring 29 = .ok (.iload_n 2, 1) := by decide +kernel
theorem dX7_ring_30 : decode cX7_ring 30 = .ok (.ifCond .ne 15, 3) := by decide +kernel
theorem dX7_ring_33 : decode cX7_ring 33 = .ok (.aload_n 0, 1) := by decide +kernel
theorem dX7_ring_34 : decode cX7_ring 34 = .ok (.getfield 29, 3) := by decide +kernel
theorem dX7_ring_37 : decode cX7_ring 37 = .ok (.getfield 252, 3) := by decide +kernel
theorem dX7_ring_40 : decode cX7_ring 40 = .ok (.iload_n 1, 1) := by decide +kernel
theorem dX7_ring_41 : decode cX7_ring 41 = .ok (.iaload, 1) := by decide +kernel
theorem dX7_ring_42 : decode cX7_ring 42 = .ok (.goto 12, 3) := by decide +kernel
theorem dX7_ring_45 : decode cX7_ring 45 = .ok (.aload_n 0, 1) := by decide +kernel
theorem dX7_ring_46 : decode cX7_ring 46 = .ok (.getfield 29, 3) := by decide +kernel
theorem dX7_ring_49 : decode cX7_ring 49 = .ok (.getfield 255, 3) := by decide +kernel
theorem dX7_ring_52 : decode cX7_ring 52 = .ok (.iload_n 1, 1) := by decide +kernel
theorem dX7_ring_53 : decode cX7_ring 53 = .ok (.iaload, 1) := by decide +kernel
theorem dX7_ring_54 : decode cX7_ring 54 = .ok (.ireturn, 1) := by decide +kernel
theorem dX7_far_0 : decode cX7_far 0 = .ok (.aload_n 0, 1) := by decide +kernel
theorem dX7_far_1 : decode cX7_far 1 = .ok (.iload_n 1, 1) := by decide +kernel
theorem dX7_far_2 : decode cX7_far 2 = .ok (.invokevirtual 171, 3) := by decide +kernel
theorem dX7_far_5 : decode cX7_far 5 = .ok (.ifCond .eq 19, 3) := by decide +kernel
theorem dX7_far_8 : decode cX7_far 8 = .ok (.aload_n 0, 1) := by decide +kernel
theorem dX7_far_9 : decode cX7_far 9 = .ok (.iload_n 2, 1) := by decide +kernel
theorem dX7_far_10 : decode cX7_far 10 = .ok (.invokevirtual 122, 3) := by decide +kernel
theorem dX7_far_13 : decode cX7_far 13 = .ok (.ifCond .eq 11, 3) := by decide +kernel
theorem dX7_far_16 : decode cX7_far 16 = .ok (.aload_n 0, 1) := by decide +kernel
theorem dX7_far_17 : decode cX7_far 17 = .ok (.iload_n 3, 1) := by decide +kernel
theorem dX7_far_18 : decode cX7_far 18 = .ok (.invokevirtual 122, 3) := by decide +kernel
theorem dX7_far_21 : decode cX7_far 21 = .ok (.ifCond .ne 6, 3) := by decide +kernel
theorem dX7_far_24 : decode cX7_far 24 = .ok (.ldc 126, 2) := by decide +kernel
theorem dX7_far_26 : decode cX7_far 26 = .ok (.ireturn, 1) := by decide +kernel
theorem dX7_far_27 : decode cX7_far 27 = .ok (.aload_n 0, 1) := by decide +kernel
theorem dX7_far_28 : decode cX7_far 28 = .ok (.iload_n 1, 1) := by decide +kernel
theorem dX7_far_29 : decode cX7_far 29 = .ok (.iload_n 2, 1) := by decide +kernel
theorem dX7_far_30 : decode cX7_far 30 = .ok (.iload_n 3, 1) := by decide +kernel
theorem dX7_far_31 : decode cX7_far 31 = .ok (.iconst 0, 1) := by decide +kernel
theorem dX7_far_32 : decode cX7_far 32 = .ok (.invokevirtual 258, 3) := by decide +kernel
theorem dX7_far_35 : decode cX7_far 35 = .ok (.invokestatic 261, 3) := by decide +kernel
theorem dX7_far_38 : decode cX7_far 38 = .ok (.ireturn, 1) := by decide +kernel
theorem dX7_round_0 : decode cX7_round 0 = .ok (.aload_n 0, 1) := by decide +kernel
theorem dX7_round_1 : decode cX7_round 1 = .ok (.iload_n 1, 1) := by decide +kernel
theorem dX7_round_2 : decode cX7_round 2 = .ok (.invokevirtual 171, 3) := by decide +kernel
theorem dX7_round_5 : decode cX7_round 5 = .ok (.ifCond .eq 17, 3) := by decide +kernel
theorem dX7_round_8 : decode cX7_round 8 = .ok (.iload_n 2, 1) := by decide +kernel
theorem dX7_round_9 : decode cX7_round 9 = .ok (.aload_n 0, 1) := by decide +kernel
theorem dX7_round_10 : decode cX7_round 10 = .ok (.getfield 19, 3) := by decide +kernel
theorem dX7_round_13 : decode cX7_round 13 = .ok (.getfield 104, 3) := by decide +kernel
theorem dX7_round_16 : decode cX7_round 16 = .ok (.invokestatic 264, 3) := by decide +kernel
theorem dX7_round_19 : decode cX7_round 19 = .ok (.ifCond .ne 6, 3) := by decide +kernel
theorem dX7_round_22 : decode cX7_round 22 = .ok (.ldc 126, 2) := by decide +kernel
theorem dX7_round_24 : decode cX7_round 24 = .ok (.ireturn, 1) := by decide +kernel
theorem dX7_round_25 : decode cX7_round 25 = .ok (.iload_n 2, 1) := by decide +kernel
theorem dX7_round_26 : decode cX7_round 26 = .ok (.aload_n 0, 1) := by decide +kernel
theorem dX7_round_27 : decode cX7_round 27 = .ok (.getfield 29, 3) := by decide +kernel
theorem dX7_round_30 : decode cX7_round 30 = .ok (.getfield 113, 3) := by decide +kernel
theorem dX7_round_33 : decode cX7_round 33 = .ok (.iconst (-1), 1) := by decide +kernel
theorem dX7_round_34 : decode cX7_round 34 = .ok (.ixor, 1) := by decide +kernel
theorem dX7_round_35 : decode cX7_round 35 = .ok (.iand, 1) := by decide +kernel
theorem dX7_round_36 : decode cX7_round 36 = .ok (.istore_n 3, 1) := by decide +kernel
theorem dX7_round_37 : decode cX7_round 37 = .ok (.aload_n 0, 1) := by decide +kernel
theorem dX7_round_38 : decode cX7_round 38 = .ok (.iload_n 1, 1) := by decide +kernel
theorem dX7_round_39 : decode cX7_round 39 = .ok (.iload_n 3, 1) := by decide +kernel
theorem dX7_round_40 : decode cX7_round 40 = .ok (.invokevirtual 267, 3) := by decide +kernel
theorem dX7_round_43 : decode cX7_round 43 = .ok (.aload_n 0, 1) := by decide +kernel
theorem dX7_round_44 : decode cX7_round 44 = .ok (.iload_n 1, 1) := by decide +kernel
theorem dX7_round_45 : decode cX7_round 45 = .ok (.iload_n 3, 1) := by decide +kernel
theorem dX7_round_46 : decode cX7_round 46 = .ok (.invokevirtual 270, 3) := by decide +kernel
theorem dX7_round_49 : decode cX7_round 49 = .ok (.invokestatic 261, 3) := by decide +kernel
theorem dX7_round_52 : decode cX7_round 52 = .ok (.ireturn, 1) := by decide +kernel
theorem dX7_dealt_0 : decode cX7_dealt 0 = .ok (.iload_n 1, 1) := by decide +kernel
theorem dX7_dealt_1 : decode cX7_dealt 1 = .ok (.iconst (-1), 1) := by decide +kernel
theorem dX7_dealt_2 : decode cX7_dealt 2 = .ok (.if_icmp .eq 14, 3) := by decide +kernel
theorem dX7_dealt_5 : decode cX7_dealt 5 = .ok (.aload_n 0, 1) := by decide +kernel
theorem dX7_dealt_6 : decode cX7_dealt 6 = .ok (.iload_n 1, 1) := by decide +kernel
theorem dX7_dealt_7 : decode cX7_dealt 7 = .ok (.invokevirtual 195, 3) := by decide +kernel
theorem dX7_dealt_10 : decode cX7_dealt 10 = .ok (.ifCond .ne 6, 3) := by decide +kernel
theorem dX7_dealt_13 : decode cX7_dealt 13 = .ok (.ldc 126, 2) := by decide +kernel
theorem dX7_dealt_15 : decode cX7_dealt 15 = .ok (.ireturn, 1) := by decide +kernel
theorem dX7_dealt_16 : decode cX7_dealt 16 = .ok (.iconst 1, 1) := by decide +kernel
theorem dX7_dealt_17 : decode cX7_dealt 17 = .ok (.aload_n 0, 1) := by decide +kernel
theorem dX7_dealt_18 : decode cX7_dealt 18 = .ok (.getfield 19, 3) := by decide +kernel
theorem dX7_dealt_21 : decode cX7_dealt 21 = .ok (.getfield 104, 3) := by decide +kernel
theorem dX7_dealt_24 : decode cX7_dealt 24 = .ok (.ishl, 1) := by decide +kernel
theorem dX7_dealt_25 : decode cX7_dealt 25 = .ok (.iconst 1, 1) := by decide +kernel
theorem dX7_dealt_26 : decode cX7_dealt 26 = .ok (.isub, 1) := by decide +kernel
theorem dX7_dealt_27 : decode cX7_dealt 27 = .ok (.aload_n 0, 1) := by decide +kernel
theorem dX7_dealt_28 : decode cX7_dealt 28 = .ok (.getfield 29, 3) := by decide +kernel
theorem dX7_dealt_31 : decode cX7_dealt 31 = .ok (.getfield 113, 3) := by decide +kernel
theorem dX7_dealt_34 : decode cX7_dealt 34 = .ok (.iconst (-1), 1) := by decide +kernel
theorem dX7_dealt_35 : decode cX7_dealt 35 = .ok (.ixor, 1) := by decide +kernel
theorem dX7_dealt_36 : decode cX7_dealt 36 = .ok (.iand, 1) := by decide +kernel
theorem dX7_dealt_37 : decode cX7_dealt 37 = .ok (.istore_n 2, 1) := by decide +kernel
theorem dX7_dealt_38 : decode cX7_dealt 38 = .ok (.iconst 0, 1) := by decide +kernel
theorem dX7_dealt_39 : decode cX7_dealt 39 = .ok (.istore_n 3, 1) := by decide +kernel
theorem dX7_dealt_40 : decode cX7_dealt 40 = .ok (.iload_n 3, 1) := by decide +kernel
theorem dX7_dealt_41 : decode cX7_dealt 41 = .ok (.aload_n 0, 1) := by decide +kernel
theorem dX7_dealt_42 : decode cX7_dealt 42 = .ok (.getfield 19, 3) := by decide +kernel
theorem dX7_dealt_45 : decode cX7_dealt 45 = .ok (.getfield 101, 3) := by decide +kernel
theorem dX7_dealt_48 : decode cX7_dealt 48 = .ok (.if_icmp .ge 62, 3) := by decide +kernel
theorem dX7_dealt_51 : decode cX7_dealt 51 = .ok (.aload_n 0, 1) := by decide +kernel
theorem dX7_dealt_52 : decode cX7_dealt 52 = .ok (.iload_n 3, 1) := by decide +kernel
theorem dX7_dealt_53 : decode cX7_dealt 53 = .ok (.iload_n 2, 1) := by decide +kernel
theorem dX7_dealt_54 : decode cX7_dealt 54 = .ok (.invokevirtual 267, 3) := by decide +kernel
theorem dX7_dealt_57 : decode cX7_dealt 57 = .ok (.iconst 0, 1) := by decide +kernel
theorem dX7_dealt_58 : decode cX7_dealt 58 = .ok (.istore 4, 2) := by decide +kernel
theorem dX7_dealt_60 : decode cX7_dealt 60 = .ok (.iload 4, 2) := by decide +kernel
theorem dX7_dealt_62 : decode cX7_dealt 62 = .ok (.iload_n 2, 1) := by decide +kernel
theorem dX7_dealt_63 : decode cX7_dealt 63 = .ok (.if_icmp .gt 41, 3) := by decide +kernel
theorem dX7_dealt_66 : decode cX7_dealt 66 = .ok (.aload_n 0, 1) := by decide +kernel
theorem dX7_dealt_67 : decode cX7_dealt 67 = .ok (.getfield 65, 3) := by decide +kernel
theorem dX7_dealt_70 : decode cX7_dealt 70 = .ok (.iload_n 3, 1) := by decide +kernel
theorem dX7_dealt_71 : decode cX7_dealt 71 = .ok (.iload 4, 2) := by decide +kernel
theorem dX7_dealt_73 : decode cX7_dealt 73 = .ok (.iload 4, 2) := by decide +kernel
theorem dX7_dealt_75 : decode cX7_dealt 75 = .ok (.iload_n 2, 1) := by decide +kernel
theorem dX7_dealt_76 : decode cX7_dealt 76 = .ok (.iconst (-1), 1) := by decide +kernel
theorem dX7_dealt_77 : decode cX7_dealt 77 = .ok (.ixor, 1) := by decide +kernel
theorem dX7_dealt_78 : decode cX7_dealt 78 = .ok (.iand, 1) := by decide +kernel
theorem dX7_dealt_79 : decode cX7_dealt 79 = .ok (.ifCond .ne 13, 3) := by decide +kernel
theorem dX7_dealt_82 : decode cX7_dealt 82 = .ok (.aload_n 0, 1) := by decide +kernel
theorem dX7_dealt_83 : decode cX7_dealt 83 = .ok (.iload_n 3, 1) := by decide +kernel
theorem dX7_dealt_84 : decode cX7_dealt 84 = .ok (.iload 4, 2) := by decide +kernel
theorem dX7_dealt_86 : decode cX7_dealt 86 = .ok (.invokevirtual 270, 3) := by decide +kernel
theorem dX7_dealt_89 : decode cX7_dealt 89 = .ok (.goto 6, 3) := by decide +kernel
theorem dX7_dealt_92 : decode cX7_dealt 92 = .ok (.ldc_w 273, 3) := by decide +kernel
theorem dX7_dealt_95 : decode cX7_dealt 95 = .ok (.invokevirtual 274, 3) := by decide +kernel
theorem dX7_dealt_98 : decode cX7_dealt 98 = .ok (.iinc 4 1, 3) := by decide +kernel
theorem dX7_dealt_101 : decode cX7_dealt 101 = .ok (.goto (-41), 3) := by decide +kernel
theorem dX7_dealt_104 : decode cX7_dealt 104 = .ok (.iinc 3 1, 3) := by decide +kernel
theorem dX7_dealt_107 : decode cX7_dealt 107 = .ok (.goto (-67), 3) := by decide +kernel
theorem dX7_dealt_110 : decode cX7_dealt 110 = .ok (.aload_n 0, 1) := by decide +kernel
theorem dX7_dealt_111 : decode cX7_dealt 111 = .ok (.getfield 65, 3) := by decide +kernel
theorem dX7_dealt_114 : decode cX7_dealt 114 = .ok (.aload_n 0, 1) := by decide +kernel
theorem dX7_dealt_115 : decode cX7_dealt 115 = .ok (.getfield 19, 3) := by decide +kernel
theorem dX7_dealt_118 : decode cX7_dealt 118 = .ok (.getfield 101, 3) := by decide +kernel
theorem dX7_dealt_121 : decode cX7_dealt 121 = .ok (.iload_n 2, 1) := by decide +kernel
theorem dX7_dealt_122 : decode cX7_dealt 122 = .ok (.invokevirtual 278, 3) := by decide +kernel
theorem dX7_dealt_125 : decode cX7_dealt 125 = .ok (.iload_n 1, 1) := by decide +kernel
theorem dX7_dealt_126 : decode cX7_dealt 126 = .ok (.iconst (-1), 1) := by decide +kernel
theorem dX7_dealt_127 : decode cX7_dealt 127 = .ok (.if_icmp .ne 16, 3) := by decide +kernel
theorem dX7_dealt_130 : decode cX7_dealt 130 = .ok (.aload_n 0, 1) := by decide +kernel
theorem dX7_dealt_131 : decode cX7_dealt 131 = .ok (.getfield 65, 3) := by decide +kernel
theorem dX7_dealt_134 : decode cX7_dealt 134 = .ok (.getfield 281, 3) := by decide +kernel
theorem dX7_dealt_137 : decode cX7_dealt 137 = .ok (.invokestatic 261, 3) := by decide +kernel
theorem dX7_dealt_140 : decode cX7_dealt 140 = .ok (.goto 12, 3) := by decide +kernel
theorem dX7_dealt_143 : decode cX7_dealt 143 = .ok (.aload_n 0, 1) := by decide +kernel
theorem dX7_dealt_144 : decode cX7_dealt 144 = .ok (.getfield 65, 3) := by decide +kernel
theorem dX7_dealt_147 : decode cX7_dealt 147 = .ok (.iload_n 1, 1) := by decide +kernel
theorem dX7_dealt_148 : decode cX7_dealt 148 = .ok (.iload_n 2, 1) := by decide +kernel
theorem dX7_dealt_149 : decode cX7_dealt 149 = .ok (.invokevirtual 284, 3) := by decide +kernel
theorem dX7_dealt_152 : decode cX7_dealt 152 = .ok (.ireturn, 1) := by decide +kernel
theorem dX7_kept_0 : decode cX7_kept 0 = .ok (.iload_n 1, 1) := by decide +kernel
theorem dX7_kept_1 : decode cX7_kept 1 = .ok (.aload_n 0, 1) := by decide +kernel
theorem dX7_kept_2 : decode cX7_kept 2 = .ok (.getfield 19, 3) := by decide +kernel
theorem dX7_kept_5 : decode cX7_kept 5 = .ok (.getfield 92, 3) := by decide +kernel
theorem dX7_kept_8 : decode cX7_kept 8 = .ok (.invokestatic 264, 3) := by decide +kernel
theorem dX7_kept_11 : decode cX7_kept 11 = .ok (.ifCond .ne 6, 3) := by decide +kernel
theorem dX7_kept_14 : decode cX7_kept 14 = .ok (.ldc 126, 2) := by decide +kernel
theorem dX7_kept_16 : decode cX7_kept 16 = .ok (.ireturn, 1) := by decide +kernel
theorem dX7_kept_17 : decode cX7_kept 17 = .ok (.iload_n 1, 1) := by decide +kernel
theorem dX7_kept_18 : decode cX7_kept 18 = .ok (.invokestatic 228, 3) := by decide +kernel
theorem dX7_kept_21 : decode cX7_kept 21 = .ok (.istore_n 2, 1) := by decide +kernel
theorem dX7_kept_22 : decode cX7_kept 22 = .ok (.iload_n 2, 1) := by decide +kernel
theorem dX7_kept_23 : decode cX7_kept 23 = .ok (.iconst 2, 1) := by decide +kernel
theorem dX7_kept_24 : decode cX7_kept 24 = .ok (.if_icmp .ge 5, 3) := by decide +kernel
theorem dX7_kept_27 : decode cX7_kept 27 = .ok (.iconst 0, 1) := by decide +kernel
theorem dX7_kept_28 : decode cX7_kept 28 = .ok (.ireturn, 1) := by decide +kernel
theorem dX7_kept_29 : decode cX7_kept 29 = .ok (.aload_n 0, 1) := by decide +kernel
theorem dX7_kept_30 : decode cX7_kept 30 = .ok (.aload_n 0, 1) := by decide +kernel
theorem dX7_kept_31 : decode cX7_kept 31 = .ok (.getfield 29, 3) := by decide +kernel
theorem dX7_kept_34 : decode cX7_kept 34 = .ok (.getfield 119, 3) := by decide +kernel
theorem dX7_kept_37 : decode cX7_kept 37 = .ok (.iload_n 1, 1) := by decide +kernel
theorem dX7_kept_38 : decode cX7_kept 38 = .ok (.invokevirtual 287, 3) := by decide +kernel
theorem dX7_kept_41 : decode cX7_kept 41 = .ok (.ifCond .ne 5, 3) := by decide +kernel
theorem dX7_kept_44 : decode cX7_kept 44 = .ok (.iconst (-1), 1) := by decide +kernel
theorem dX7_kept_45 : decode cX7_kept 45 = .ok (.ireturn, 1) := by decide +kernel
theorem dX7_kept_46 : decode cX7_kept 46 = .ok (.iload_n 2, 1) := by decide +kernel
theorem dX7_kept_47 : decode cX7_kept 47 = .ok (.istore_n 3, 1) := by decide +kernel
theorem dX7_kept_48 : decode cX7_kept 48 = .ok (.iload_n 3, 1) := by decide +kernel
theorem dX7_kept_49 : decode cX7_kept 49 = .ok (.aload_n 0, 1) := by decide +kernel
theorem dX7_kept_50 : decode cX7_kept 50 = .ok (.getfield 19, 3) := by decide +kernel
theorem dX7_kept_53 : decode cX7_kept 53 = .ok (.getfield 98, 3) := by decide +kernel
theorem dX7_kept_56 : decode cX7_kept 56 = .ok (.if_icmp .gt 67, 3) := by decide +kernel
theorem dX7_kept_59 : decode cX7_kept 59 = .ok (.iconst 0, 1) := by decide +kernel
theorem dX7_kept_60 : decode cX7_kept 60 = .ok (.istore 4, 2) := by decide +kernel
theorem dX7_kept_62 : decode cX7_kept 62 = .ok (.iload 4, 2) := by decide +kernel
theorem dX7_kept_64 : decode cX7_kept 64 = .ok (.aload_n 0, 1) := by decide +kernel
theorem dX7_kept_65 : decode cX7_kept 65 = .ok (.getfield 29, 3) := by decide +kernel
theorem dX7_kept_68 : decode cX7_kept 68 = .ok (.getfield 119, 3) := by decide +kernel
theorem dX7_kept_71 : decode cX7_kept 71 = .ok (.if_icmp .gt 46, 3) := by decide +kernel
theorem dX7_kept_74 : decode cX7_kept 74 = .ok (.iload 4, 2) := by decide +kernel
theorem dX7_kept_76 : decode cX7_kept 76 = .ok (.aload_n 0, 1) := by decide +kernel
theorem dX7_kept_77 : decode cX7_kept 77 = .ok (.getfield 29, 3) := by decide +kernel
theorem dX7_kept_80 : decode cX7_kept 80 = .ok (.getfield 119, 3) := by decide +kernel
theorem dX7_kept_83 : decode cX7_kept 83 = .ok (.iconst (-1), 1) := by decide +kernel
theorem dX7_kept_84 : decode cX7_kept 84 = .ok (.ixor, 1) := by decide +kernel
theorem dX7_kept_85 : decode cX7_kept 85 = .ok (.iand, 1) := by decide +kernel
theorem dX7_kept_86 : decode cX7_kept 86 = .ok (.ifCond .ne 25, 3) := by decide +kernel
theorem dX7_kept_89 : decode cX7_kept 89 = .ok (.iload 4, 2) := by decide +kernel
theorem dX7_kept_91 : decode cX7_kept 91 = .ok (.invokestatic 228, 3) := by decide +kernel
theorem dX7_kept_94 : decode cX7_kept 94 = .ok (.iload_n 3, 1) := by decide +kernel
theorem dX7_kept_95 : decode cX7_kept 95 = .ok (.if_icmp .ne 16, 3) := by decide +kernel
theorem dX7_kept_98 : decode cX7_kept 98 = .ok (.aload_n 0, 1) := by decide +kernel
theorem dX7_kept_99 : decode cX7_kept 99 = .ok (.iload 4, 2) := by decide +kernel
theorem dX7_kept_101 : decode cX7_kept 101 = .ok (.iload_n 1, 1) := by decide +kernel
theorem dX7_kept_102 : decode cX7_kept 102 = .ok (.invokevirtual 287, 3) := by decide +kernel
theorem dX7_kept_105 : decode cX7_kept 105 = .ok (.ifCond .eq 6, 3) := by decide +kernel
theorem dX7_kept_108 : decode cX7_kept 108 = .ok (.iload 4, 2) := by decide +kernel
theorem dX7_kept_110 : decode cX7_kept 110 = .ok (.ireturn, 1) := by decide +kernel
theorem dX7_kept_111 : decode cX7_kept 111 = .ok (.iinc 4 1, 3) := by decide +kernel
theorem dX7_kept_114 : decode cX7_kept 114 = .ok (.goto (-52), 3) := by decide +kernel
theorem dX7_kept_117 : decode cX7_kept 117 = .ok (.iinc 3 1, 3) := by decide +kernel
theorem dX7_kept_120 : decode cX7_kept 120 = .ok (.goto (-72), 3) := by decide +kernel
theorem dX7_kept_123 : decode cX7_kept 123 = .ok (.iconst (-1), 1) := by decide +kernel
theorem dX7_kept_124 : decode cX7_kept 124 = .ok (.ireturn, 1) := by decide +kernel
theorem dX7_newRope_0 : decode cX7_newRope 0 = .ok (.iload_n 1, 1) := by decide +kernel
theorem dX7_newRope_1 : decode cX7_newRope 1 = .ok (.ifCond .lt 8, 3) := by decide +kernel
theorem dX7_newRope_4 : decode cX7_newRope 4 = .ok (.iload_n 1, 1) := by decide +kernel
theorem dX7_newRope_5 : decode cX7_newRope 5 = .ok (.iconst 2, 1) := by decide +kernel
theorem dX7_newRope_6 : decode cX7_newRope 6 = .ok (.if_icmp .le 6, 3) := by decide +kernel
theorem dX7_newRope_9 : decode cX7_newRope 9 = .ok (.ldc 73, 2) := by decide +kernel
theorem dX7_newRope_11 : decode cX7_newRope 11 = .ok (.ireturn, 1) := by decide +kernel
theorem dX7_newRope_12 : decode cX7_newRope 12 = .ok (.aload_n 0, 1) := by decide +kernel
theorem dX7_newRope_13 : decode cX7_newRope 13 = .ok (.invokevirtual 290, 3) := by decide +kernel
theorem dX7_newRope_16 : decode cX7_newRope 16 = .ok (.istore_n 2, 1) := by decide +kernel
theorem dX7_newRope_17 : decode cX7_newRope 17 = .ok (.iload_n 2, 1) := by decide +kernel
theorem dX7_newRope_18 : decode cX7_newRope 18 = .ok (.iconst (-1), 1) := by decide +kernel
theorem dX7_newRope_19 : decode cX7_newRope 19 = .ok (.if_icmp .ne 5, 3) := by decide +kernel
theorem dX7_newRope_22 : decode cX7_newRope 22 = .ok (.iconst (-1), 1) := by decide +kernel
theorem dX7_newRope_23 : decode cX7_newRope 23 = .ok (.ireturn, 1) := by decide +kernel
theorem dX7_newRope_24 : decode cX7_newRope 24 = .ok (.iload_n 1, 1) := by decide +kernel
theorem dX7_newRope_25 : decode cX7_newRope 25 = .ok (.lookupswitch 40 #[(0, 27), (1, 35)], 27) := by decide +kernel
theorem dX7_newRope_52 : decode cX7_newRope 52 = .ok (.iload_n 2, 1) := by decide +kernel
theorem dX7_newRope_53 : decode cX7_newRope 53 = .ok (.bipush 8, 2) := by decide +kernel
theorem dX7_newRope_55 : decode cX7_newRope 55 = .ok (.idiv, 1) := by decide +kernel
theorem dX7_newRope_56 : decode cX7_newRope 56 = .ok (.bipush 8, 2) := by decide +kernel
theorem dX7_newRope_58 : decode cX7_newRope 58 = .ok (.irem, 1) := by decide +kernel
theorem dX7_newRope_59 : decode cX7_newRope 59 = .ok (.ireturn, 1) := by decide +kernel
theorem dX7_newRope_60 : decode cX7_newRope 60 = .ok (.iload_n 2, 1) := by decide +kernel
theorem dX7_newRope_61 : decode cX7_newRope 61 = .ok (.bipush 8, 2) := by decide +kernel
theorem dX7_newRope_63 : decode cX7_newRope 63 = .ok (.irem, 1) := by decide +kernel
theorem dX7_newRope_64 : decode cX7_newRope 64 = .ok (.ireturn, 1) := by decide +kernel
theorem dX7_newRope_65 : decode cX7_newRope 65 = .ok (.iload_n 2, 1) := by decide +kernel
theorem dX7_newRope_66 : decode cX7_newRope 66 = .ok (.bipush 64, 2) := by decide +kernel
theorem dX7_newRope_68 : decode cX7_newRope 68 = .ok (.idiv, 1) := by decide +kernel
theorem dX7_newRope_69 : decode cX7_newRope 69 = .ok (.ireturn, 1) := by decide +kernel
theorem dX7_odds_0 : decode cX7_odds 0 = .ok (.aload_n 0, 1) := by decide +kernel
theorem dX7_odds_1 : decode cX7_odds 1 = .ok (.iload_n 1, 1) := by decide +kernel
theorem dX7_odds_2 : decode cX7_odds 2 = .ok (.invokevirtual 122, 3) := by decide +kernel
theorem dX7_odds_5 : decode cX7_odds 5 = .ok (.ifCond .eq 16, 3) := by decide +kernel
theorem dX7_odds_8 : decode cX7_odds 8 = .ok (.aload_n 0, 1) := by decide +kernel
theorem dX7_odds_9 : decode cX7_odds 9 = .ok (.iload_n 2, 1) := by decide +kernel
theorem dX7_odds_10 : decode cX7_odds 10 = .ok (.invokevirtual 122, 3) := by decide +kernel
theorem dX7_odds_13 : decode cX7_odds 13 = .ok (.ifCond .eq 8, 3) := by decide +kernel
theorem dX7_odds_16 : decode cX7_odds 16 = .ok (.iload_n 1, 1) := by decide +kernel
theorem dX7_odds_17 : decode cX7_odds 17 = .ok (.iload_n 2, 1) := by decide +kernel
theorem dX7_odds_18 : decode cX7_odds 18 = .ok (.if_icmp .ne 6, 3) := by decide +kernel
theorem dX7_odds_21 : decode cX7_odds 21 = .ok (.ldc 126, 2) := by decide +kernel
theorem dX7_odds_23 : decode cX7_odds 23 = .ok (.ireturn, 1) := by decide +kernel
theorem dX7_odds_24 : decode cX7_odds 24 = .ok (.iload_n 3, 1) := by decide +kernel
theorem dX7_odds_25 : decode cX7_odds 25 = .ok (.ifCond .lt 9, 3) := by decide +kernel
theorem dX7_odds_28 : decode cX7_odds 28 = .ok (.iload_n 3, 1) := by decide +kernel
theorem dX7_odds_29 : decode cX7_odds 29 = .ok (.bipush 99, 2) := by decide +kernel
theorem dX7_odds_31 : decode cX7_odds 31 = .ok (.if_icmp .le 6, 3) := by decide +kernel
theorem dX7_odds_34 : decode cX7_odds 34 = .ok (.ldc 73, 2) := by decide +kernel
theorem dX7_odds_36 : decode cX7_odds 36 = .ok (.ireturn, 1) := by decide +kernel
theorem dX7_odds_37 : decode cX7_odds 37 = .ok (.aload_n 0, 1) := by decide +kernel
theorem dX7_odds_38 : decode cX7_odds 38 = .ok (.iload_n 1, 1) := by decide +kernel
theorem dX7_odds_39 : decode cX7_odds 39 = .ok (.iload_n 2, 1) := by decide +kernel
theorem dX7_odds_40 : decode cX7_odds 40 = .ok (.iload_n 3, 1) := by decide +kernel
theorem dX7_odds_41 : decode cX7_odds 41 = .ok (.invokevirtual 294, 3) := by decide +kernel
theorem dX7_odds_44 : decode cX7_odds 44 = .ok (.ireturn, 1) := by decide +kernel
theorem dX7_pays_0 : decode cX7_pays 0 = .ok (.aload_n 0, 1) := by decide +kernel
theorem dX7_pays_1 : decode cX7_pays 1 = .ok (.iload_n 1, 1) := by decide +kernel
theorem dX7_pays_2 : decode cX7_pays 2 = .ok (.invokevirtual 195, 3) := by decide +kernel
theorem dX7_pays_5 : decode cX7_pays 5 = .ok (.ifCond .eq 34, 3) := by decide +kernel
theorem dX7_pays_8 : decode cX7_pays 8 = .ok (.aload_n 0, 1) := by decide +kernel
theorem dX7_pays_9 : decode cX7_pays 9 = .ok (.iload_n 2, 1) := by decide +kernel
theorem dX7_pays_10 : decode cX7_pays 10 = .ok (.invokevirtual 171, 3) := by decide +kernel
theorem dX7_pays_13 : decode cX7_pays 13 = .ok (.ifCond .eq 26, 3) := by decide +kernel
theorem dX7_pays_16 : decode cX7_pays 16 = .ok (.aload_n 0, 1) := by decide +kernel
theorem dX7_pays_17 : decode cX7_pays 17 = .ok (.iload_n 3, 1) := by decide +kernel
theorem dX7_pays_18 : decode cX7_pays 18 = .ok (.invokevirtual 122, 3) := by decide +kernel
theorem dX7_pays_21 : decode cX7_pays 21 = .ok (.ifCond .eq 18, 3) := by decide +kernel
theorem dX7_pays_24 : decode cX7_pays 24 = .ok (.aload_n 0, 1) := by decide +kernel
theorem dX7_pays_25 : decode cX7_pays 25 = .ok (.iload 4, 2) := by decide +kernel
theorem dX7_pays_27 : decode cX7_pays 27 = .ok (.invokevirtual 122, 3) := by decide +kernel
theorem dX7_pays_30 : decode cX7_pays 30 = .ok (.ifCond .eq 9, 3) := by decide +kernel
theorem dX7_pays_33 : decode cX7_pays 33 = .ok (.iload_n 3, 1) := by decide +kernel
theorem dX7_pays_34 : decode cX7_pays 34 = .ok (.iload 4, 2) := by decide +kernel
theorem dX7_pays_36 : decode cX7_pays 36 = .ok (.if_icmp .ne 6, 3) := by decide +kernel
theorem dX7_pays_39 : decode cX7_pays 39 = .ok (.ldc 126, 2) := by decide +kernel
theorem dX7_pays_41 : decode cX7_pays 41 = .ok (.ireturn, 1) := by decide +kernel
theorem dX7_pays_42 : decode cX7_pays 42 = .ok (.iload 5, 2) := by decide +kernel
theorem dX7_pays_44 : decode cX7_pays 44 = .ok (.ifCond .lt 22, 3) := by decide +kernel
theorem dX7_pays_47 : decode cX7_pays 47 = .ok (.iload 5, 2) := by decide +kernel
theorem dX7_pays_49 : decode cX7_pays 49 = .ok (.bipush 99, 2) := by decide +kernel
theorem dX7_pays_51 : decode cX7_pays 51 = .ok (.if_icmp .gt 15, 3) := by decide +kernel
theorem dX7_pays_54 : decode cX7_pays 54 = .ok (.iload 6, 2) := by decide +kernel
theorem dX7_pays_56 : decode cX7_pays 56 = .ok (.ifCond .lt 10, 3) := by decide +kernel
theorem dX7_pays_59 : decode cX7_pays 59 = .ok (.iload 6, 2) := by decide +kernel
