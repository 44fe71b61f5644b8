theorem dJ0_length_8abf5_0 : decode cJ0_length_8abf5 0 = .ok (.aload_n 0, 1) := by decide +kernel
theorem dJ0_length_8abf5_1 : decode cJ0_length_8abf5 1 = .ok (.getfield 9, 3) := by decide +kernel
theorem dJ0_length_8abf5_4 : decode cJ0_length_8abf5 4 = .ok (.arraylength, 1) := by decide +kernel
theorem dJ0_length_8abf5_5 : decode cJ0_length_8abf5 5 = .ok (.aload_n 0, 1) := by decide +kernel
theorem dJ0_length_8abf5_6 : decode cJ0_length_8abf5 6 = .ok (.invokevirtual 335, 3) := by decide +kernel
theorem dJ0_length_8abf5_9 : decode cJ0_length_8abf5 9 = .ok (.ishr, 1) := by decide +kernel
theorem dJ0_length_8abf5_10 : decode cJ0_length_8abf5 10 = .ok (.ireturn, 1) := by decide +kernel
theorem dJ0_charAt_5068e_0 : decode cJ0_charAt_5068e 0 = .ok (.aload_n 0, 1) := by decide +kernel
theorem dJ0_charAt_5068e_1 : decode cJ0_charAt_5068e 1 = .ok (.invokevirtual 492, 3) := by decide +kernel
theorem dJ0_charAt_5068e_4 : decode cJ0_charAt_5068e 4 = .ok (.ifCond .eq 12, 3) := by decide +kernel
theorem dJ0_charAt_5068e_7 : decode cJ0_charAt_5068e 7 = .ok (.aload_n 0, 1) := by decide +kernel
theorem dJ0_charAt_5068e_8 : decode cJ0_charAt_5068e 8 = .ok (.getfield 9, 3) := by decide +kernel
theorem dJ0_charAt_5068e_11 : decode cJ0_charAt_5068e 11 = .ok (.iload_n 1, 1) := by decide +kernel
theorem dJ0_charAt_5068e_12 : decode cJ0_charAt_5068e 12 = .ok (.invokestatic 495, 3) := by decide +kernel
theorem dJ0_charAt_5068e_15 : decode cJ0_charAt_5068e 15 = .ok (.ireturn, 1) := by decide +kernel
theorem dJ0_charAt_5068e_16 : decode cJ0_charAt_5068e 16 = .ok (.aload_n 0, 1) := by decide +kernel
theorem dJ0_charAt_5068e_17 : decode cJ0_charAt_5068e 17 = .ok (.getfield 9, 3) := by decide +kernel
theorem dJ0_charAt_5068e_20 : decode cJ0_charAt_5068e 20 = .ok (.iload_n 1, 1) := by decide +kernel
theorem dJ0_charAt_5068e_21 : decode cJ0_charAt_5068e 21 = .ok (.invokestatic 498, 3) := by decide +kernel
theorem dJ0_charAt_5068e_24 : decode cJ0_charAt_5068e 24 = .ok (.ireturn, 1) := by decide +kernel
theorem dJ0_coder_7d493_0 : decode cJ0_coder_7d493 0 = .ok (.getstatic 38, 3) := by decide +kernel
theorem dJ0_coder_7d493_3 : decode cJ0_coder_7d493 3 = .ok (.ifCond .eq 10, 3) := by decide +kernel
theorem dJ0_coder_7d493_6 : decode cJ0_coder_7d493 6 = .ok (.aload_n 0, 1) := by decide +kernel
theorem dJ0_coder_7d493_7 : decode cJ0_coder_7d493 7 = .ok (.getfield 15, 3) := by decide +kernel
theorem dJ0_coder_7d493_10 : decode cJ0_coder_7d493 10 = .ok (.goto 4, 3) := by decide +kernel
theorem dJ0_coder_7d493_13 : decode cJ0_coder_7d493 13 = .ok (.iconst 1, 1) := by decide +kernel
theorem dJ0_coder_7d493_14 : decode cJ0_coder_7d493 14 = .ok (.ireturn, 1) := by decide +kernel
theorem dJ0_isLatin1_aae02_0 : decode cJ0_isLatin1_aae02 0 = .ok (.getstatic 38, 3) := by decide +kernel
theorem dJ0_isLatin1_aae02_3 : decode cJ0_isLatin1_aae02 3 = .ok (.ifCond .eq 14, 3) := by decide +kernel
theorem dJ0_isLatin1_aae02_6 : decode cJ0_isLatin1_aae02 6 = .ok (.aload_n 0, 1) := by decide +kernel
theorem dJ0_isLatin1_aae02_7 : decode cJ0_isLatin1_aae02 7 = .ok (.getfield 15, 3) := by decide +kernel
theorem dJ0_isLatin1_aae02_10 : decode cJ0_isLatin1_aae02 10 = .ok (.ifCond .ne 7, 3) := by decide +kernel
theorem dJ0_isLatin1_aae02_13 : decode cJ0_isLatin1_aae02 13 = .ok (.iconst 1, 1) := by decide +kernel
theorem dJ0_isLatin1_aae02_14 : decode cJ0_isLatin1_aae02 14 = .ok (.goto 4, 3) := by decide +kernel
theorem dJ0_isLatin1_aae02_17 : decode cJ0_isLatin1_aae02 17 = .ok (.iconst 0, 1) := by decide +kernel
theorem dJ0_isLatin1_aae02_18 : decode cJ0_isLatin1_aae02 18 = .ok (.ireturn, 1) := by decide +kernel
theorem dJ0_checkIndex_df160_0 : decode cJ0_checkIndex_df160 0 = .ok (.iload_n 0, 1) := by decide +kernel
theorem dJ0_checkIndex_df160_1 : decode cJ0_checkIndex_df160 1 = .ok (.iload_n 1, 1) := by decide +kernel
theorem dJ0_checkIndex_df160_2 : decode cJ0_checkIndex_df160 2 = .ok (.getstatic 1053, 3) := by decide +kernel
theorem dJ0_checkIndex_df160_5 : decode cJ0_checkIndex_df160 5 = .ok (.invokestatic 1059, 3) := by decide +kernel
theorem dJ0_checkIndex_df160_8 : decode cJ0_checkIndex_df160 8 = .ok (.pop, 1) := by decide +kernel
theorem dJ0_checkIndex_df160_9 : decode cJ0_checkIndex_df160 9 = .ok (.return_, 1) := by decide +kernel
theorem dJ1_charAt_3b067_0 : decode cJ1_charAt_3b067 0 = .ok (.iload_n 1, 1) := by decide +kernel
theorem dJ1_charAt_3b067_1 : decode cJ1_charAt_3b067 1 = .ok (.aload_n 0, 1) := by decide +kernel
theorem dJ1_charAt_3b067_2 : decode cJ1_charAt_3b067 2 = .ok (.arraylength, 1) := by decide +kernel
theorem dJ1_charAt_3b067_3 : decode cJ1_charAt_3b067 3 = .ok (.invokestatic 9, 3) := by decide +kernel
theorem dJ1_charAt_3b067_6 : decode cJ1_charAt_3b067 6 = .ok (.aload_n 0, 1) := by decide +kernel
theorem dJ1_charAt_3b067_7 : decode cJ1_charAt_3b067 7 = .ok (.iload_n 1, 1) := by decide +kernel
theorem dJ1_charAt_3b067_8 : decode cJ1_charAt_3b067 8 = .ok (.baload, 1) := by decide +kernel
theorem dJ1_charAt_3b067_9 : decode cJ1_charAt_3b067 9 = .ok (.sipush 255, 3) := by decide +kernel
theorem dJ1_charAt_3b067_12 : decode cJ1_charAt_3b067 12 = .ok (.iand, 1) := by decide +kernel
theorem dJ1_charAt_3b067_13 : decode cJ1_charAt_3b067 13 = .ok (.i2c, 1) := by decide +kernel
theorem dJ1_charAt_3b067_14 : decode cJ1_charAt_3b067 14 = .ok (.ireturn, 1) := by decide +kernel
theorem dJ2_getChar_3b067_0 : decode cJ2_getChar_3b067 0 = .ok (.getstatic 44, 3) := by decide +kernel
theorem dJ2_getChar_3b067_3 : decode cJ2_getChar_3b067 3 = .ok (.ifCond .ne 25, 3) := by decide +kernel
theorem dJ2_getChar_3b067_6 : decode cJ2_getChar_3b067 6 = .ok (.iload_n 1, 1) := by decide +kernel
theorem dJ2_getChar_3b067_7 : decode cJ2_getChar_3b067 7 = .ok (.ifCond .lt 11, 3) := by decide +kernel
theorem dJ2_getChar_3b067_10 : decode cJ2_getChar_3b067 10 = .ok (.iload_n 1, 1) := by decide +kernel
theorem dJ2_getChar_3b067_11 : decode cJ2_getChar_3b067 11 = .ok (.aload_n 0, 1) := by decide +kernel
theorem dJ2_getChar_3b067_12 : decode cJ2_getChar_3b067 12 = .ok (.invokestatic 48, 3) := by decide +kernel
theorem dJ2_getChar_3b067_15 : decode cJ2_getChar_3b067 15 = .ok (.if_icmp .lt 13, 3) := by decide +kernel
theorem dJ2_getChar_3b067_18 : decode cJ2_getChar_3b067 18 = .ok (.new 52, 3) := by decide +kernel
theorem dJ2_getChar_3b067_21 : decode cJ2_getChar_3b067 21 = .ok (.dup, 1) := by decide +kernel
theorem dJ2_getChar_3b067_22 : decode cJ2_getChar_3b067 22 = .ok (.ldc 54, 2) := by decide +kernel
theorem dJ2_getChar_3b067_24 : decode cJ2_getChar_3b067 24 = .ok (.invokespecial 56, 3) := by decide +kernel
theorem dJ2_getChar_3b067_27 : decode cJ2_getChar_3b067 27 = .ok (.athrow, 1) := by decide +kernel
theorem dJ2_getChar_3b067_28 : decode cJ2_getChar_3b067 28 = .ok (.iload_n 1, 1) := by decide +kernel
theorem dJ2_getChar_3b067_29 : decode cJ2_getChar_3b067 29 = .ok (.iconst 1, 1) := by decide +kernel
theorem dJ2_getChar_3b067_30 : decode cJ2_getChar_3b067 30 = .ok (.ishl, 1) := by decide +kernel
theorem dJ2_getChar_3b067_31 : decode cJ2_getChar_3b067 31 = .ok (.istore_n 1, 1) := by decide +kernel
theorem dJ2_getChar_3b067_32 : decode cJ2_getChar_3b067 32 = .ok (.aload_n 0, 1) := by decide +kernel
theorem dJ2_getChar_3b067_33 : decode cJ2_getChar_3b067 33 = .ok (.iload_n 1, 1) := by decide +kernel
theorem dJ2_getChar_3b067_34 : decode cJ2_getChar_3b067 34 = .ok (.iinc 1 1, 3) := by decide +kernel
theorem dJ2_getChar_3b067_37 : decode cJ2_getChar_3b067 37 = .ok (.baload, 1) := by decide +kernel
theorem dJ2_getChar_3b067_38 : decode cJ2_getChar_3b067 38 = .ok (.sipush 255, 3) := by decide +kernel
theorem dJ2_getChar_3b067_41 : decode cJ2_getChar_3b067 41 = .ok (.iand, 1) := by decide +kernel
theorem dJ2_getChar_3b067_42 : decode cJ2_getChar_3b067 42 = .ok (.getstatic 59, 3) := by decide +kernel
theorem dJ2_getChar_3b067_45 : decode cJ2_getChar_3b067 45 = .ok (.ishl, 1) := by decide +kernel
theorem dJ2_getChar_3b067_46 : decode cJ2_getChar_3b067 46 = .ok (.aload_n 0, 1) := by decide +kernel
theorem dJ2_getChar_3b067_47 : decode cJ2_getChar_3b067 47 = .ok (.iload_n 1, 1) := by decide +kernel
theorem dJ2_getChar_3b067_48 : decode cJ2_getChar_3b067 48 = .ok (.baload, 1) := by decide +kernel
theorem dJ2_getChar_3b067_49 : decode cJ2_getChar_3b067 49 = .ok (.sipush 255, 3) := by decide +kernel
theorem dJ2_getChar_3b067_52 : decode cJ2_getChar_3b067 52 = .ok (.iand, 1) := by decide +kernel
theorem dJ2_getChar_3b067_53 : decode cJ2_getChar_3b067 53 = .ok (.getstatic 63, 3) := by decide +kernel
theorem dJ2_getChar_3b067_56 : decode cJ2_getChar_3b067 56 = .ok (.ishl, 1) := by decide +kernel
theorem dJ2_getChar_3b067_57 : decode cJ2_getChar_3b067 57 = .ok (.ior, 1) := by decide +kernel
theorem dJ2_getChar_3b067_58 : decode cJ2_getChar_3b067 58 = .ok (.i2c, 1) := by decide +kernel
theorem dJ2_getChar_3b067_59 : decode cJ2_getChar_3b067 59 = .ok (.ireturn, 1) := by decide +kernel
theorem dJ2_length_9d52b_0 : decode cJ2_length_9d52b 0 = .ok (.aload_n 0, 1) := by decide +kernel
theorem dJ2_length_9d52b_1 : decode cJ2_length_9d52b 1 = .ok (.arraylength, 1) := by decide +kernel
theorem dJ2_length_9d52b_2 : decode cJ2_length_9d52b 2 = .ok (.iconst 1, 1) := by decide +kernel
theorem dJ2_length_9d52b_3 : decode cJ2_length_9d52b 3 = .ok (.ishr, 1) := by decide +kernel
theorem dJ2_length_9d52b_4 : decode cJ2_length_9d52b 4 = .ok (.ireturn, 1) := by decide +kernel
theorem dJ2_charAt_3b067_0 : decode cJ2_charAt_3b067 0 = .ok (.iload_n 1, 1) := by decide +kernel
theorem dJ2_charAt_3b067_1 : decode cJ2_charAt_3b067 1 = .ok (.aload_n 0, 1) := by decide +kernel
theorem dJ2_charAt_3b067_2 : decode cJ2_charAt_3b067 2 = .ok (.invokestatic 67, 3) := by decide +kernel
theorem dJ2_charAt_3b067_5 : decode cJ2_charAt_3b067 5 = .ok (.aload_n 0, 1) := by decide +kernel
theorem dJ2_charAt_3b067_6 : decode cJ2_charAt_3b067 6 = .ok (.iload_n 1, 1) := by decide +kernel
theorem dJ2_charAt_3b067_7 : decode cJ2_charAt_3b067 7 = .ok (.invokestatic 71, 3) := by decide +kernel
theorem dJ2_charAt_3b067_10 : decode cJ2_charAt_3b067 10 = .ok (.ireturn, 1) := by decide +kernel
theorem dJ2_checkIndex_2214a_0 : decode cJ2_checkIndex_2214a 0 = .ok (.iload_n 0, 1) := by decide +kernel
theorem dJ2_checkIndex_2214a_1 : decode cJ2_checkIndex_2214a 1 = .ok (.aload_n 1, 1) := by decide +kernel
theorem dJ2_checkIndex_2214a_2 : decode cJ2_checkIndex_2214a 2 = .ok (.invokestatic 48, 3) := by decide +kernel
theorem dJ2_checkIndex_2214a_5 : decode cJ2_checkIndex_2214a 5 = .ok (.invokestatic 414, 3) := by decide +kernel
theorem dJ2_checkIndex_2214a_8 : decode cJ2_checkIndex_2214a 8 = .ok (.return_, 1) := by decide +kernel
theorem dJ3_checkIndex_8e157_0 : decode cJ3_checkIndex_8e157 0 = .ok (.iload_n 0, 1) := by decide +kernel
theorem dJ3_checkIndex_8e157_1 : decode cJ3_checkIndex_8e157 1 = .ok (.ifCond .lt 8, 3) := by decide +kernel
theorem dJ3_checkIndex_8e157_4 : decode cJ3_checkIndex_8e157 4 = .ok (.iload_n 0, 1) := by decide +kernel
theorem dJ3_checkIndex_8e157_5 : decode cJ3_checkIndex_8e157 5 = .ok (.iload_n 1, 1) := by decide +kernel
theorem dJ3_checkIndex_8e157_6 : decode cJ3_checkIndex_8e157 6 = .ok (.if_icmp .lt 10, 3) := by decide +kernel
theorem dJ3_checkIndex_8e157_9 : decode cJ3_checkIndex_8e157 9 = .ok (.aload_n 2, 1) := by decide +kernel
theorem dJ3_checkIndex_8e157_10 : decode cJ3_checkIndex_8e157 10 = .ok (.iload_n 0, 1) := by decide +kernel
theorem dJ3_checkIndex_8e157_11 : decode cJ3_checkIndex_8e157 11 = .ok (.iload_n 1, 1) := by decide +kernel
theorem dJ3_checkIndex_8e157_12 : decode cJ3_checkIndex_8e157 12 = .ok (.invokestatic 95, 3) := by decide +kernel
theorem dJ3_checkIndex_8e157_15 : decode cJ3_checkIndex_8e157 15 = .ok (.athrow, 1) := by decide +kernel
theorem dJ3_checkIndex_8e157_16 : decode cJ3_checkIndex_8e157 16 = .ok (.iload_n 0, 1) := by decide +kernel
theorem dJ3_checkIndex_8e157_17 : decode cJ3_checkIndex_8e157 17 = .ok (.ireturn, 1) := by decide +kernel
theorem dJ6_lowestOneBit_0f7a4_0 : decode cJ6_lowestOneBit_0f7a4 0 = .ok (.iload_n 0, 1) := by decide +kernel
theorem dJ6_lowestOneBit_0f7a4_1 : decode cJ6_lowestOneBit_0f7a4 1 = .ok (.iload_n 0, 1) := by decide +kernel
theorem dJ6_lowestOneBit_0f7a4_2 : decode cJ6_lowestOneBit_0f7a4 2 = .ok (.ineg, 1) := by decide +kernel
theorem dJ6_lowestOneBit_0f7a4_3 : decode cJ6_lowestOneBit_0f7a4 3 = .ok (.iand, 1) := by decide +kernel
theorem dJ6_lowestOneBit_0f7a4_4 : decode cJ6_lowestOneBit_0f7a4 4 = .ok (.ireturn, 1) := by decide +kernel
theorem dJ6_bitCount_0f7a4_0 : decode cJ6_bitCount_0f7a4 0 = .ok (.iload_n 0, 1) := by decide +kernel
theorem dJ6_bitCount_0f7a4_1 : decode cJ6_bitCount_0f7a4 1 = .ok (.iload_n 0, 1) := by decide +kernel
theorem dJ6_bitCount_0f7a4_2 : decode cJ6_bitCount_0f7a4 2 = .ok (.iconst 1, 1) := by decide +kernel
theorem dJ6_bitCount_0f7a4_3 : decode cJ6_bitCount_0f7a4 3 = .ok (.iushr, 1) := by decide +kernel
theorem dJ6_bitCount_0f7a4_4 : decode cJ6_bitCount_0f7a4 4 = .ok (.ldc_w 265, 3) := by decide +kernel
theorem dJ6_bitCount_0f7a4_7 : decode cJ6_bitCount_0f7a4 7 = .ok (.iand, 1) := by decide +kernel
theorem dJ6_bitCount_0f7a4_8 : decode cJ6_bitCount_0f7a4 8 = .ok (.isub, 1) := by decide +kernel
theorem dJ6_bitCount_0f7a4_9 : decode cJ6_bitCount_0f7a4 9 = .ok (.istore_n 0, 1) := by decide +kernel
theorem dJ6_bitCount_0f7a4_10 : decode cJ6_bitCount_0f7a4 10 = .ok (.iload_n 0, 1) := by decide +kernel
theorem dJ6_bitCount_0f7a4_11 : decode cJ6_bitCount_0f7a4 11 = .ok (.ldc_w 266, 3) := by decide +kernel
theorem dJ6_bitCount_0f7a4_14 : decode cJ6_bitCount_0f7a4 14 = .ok (.iand, 1) := by decide +kernel
theorem dJ6_bitCount_0f7a4_15 : decode cJ6_bitCount_0f7a4 15 = .ok (.iload_n 0, 1) := by decide +kernel
theorem dJ6_bitCount_0f7a4_16 : decode cJ6_bitCount_0f7a4 16 = .ok (.iconst 2, 1) := by decide +kernel
theorem dJ6_bitCount_0f7a4_17 : decode cJ6_bitCount_0f7a4 17 = .ok (.iushr, 1) := by decide +kernel
theorem dJ6_bitCount_0f7a4_18 : decode cJ6_bitCount_0f7a4 18 = .ok (.ldc_w 266, 3) := by decide +kernel
theorem dJ6_bitCount_0f7a4_21 : decode cJ6_bitCount_0f7a4 21 = .ok (.iand, 1) := by decide +kernel
theorem dJ6_bitCount_0f7a4_22 : decode cJ6_bitCount_0f7a4 22 = .ok (.iadd, 1) := by decide +kernel
theorem dJ6_bitCount_0f7a4_23 : decode cJ6_bitCount_0f7a4 23 = .ok (.istore_n 0, 1) := by decide +kernel
theorem dJ6_bitCount_0f7a4_24 : decode cJ6_bitCount_0f7a4 24 = .ok (.iload_n 0, 1) := by decide +kernel
theorem dJ6_bitCount_0f7a4_25 : decode cJ6_bitCount_0f7a4 25 = .ok (.iload_n 0, 1) := by decide +kernel
theorem dJ6_bitCount_0f7a4_26 : decode cJ6_bitCount_0f7a4 26 = .ok (.iconst 4, 1) := by decide +kernel
theorem dJ6_bitCount_0f7a4_27 : decode cJ6_bitCount_0f7a4 27 = .ok (.iushr, 1) := by decide +kernel
theorem dJ6_bitCount_0f7a4_28 : decode cJ6_bitCount_0f7a4 28 = .ok (.iadd, 1) := by decide +kernel
theorem dJ6_bitCount_0f7a4_29 : decode cJ6_bitCount_0f7a4 29 = .ok (.ldc_w 267, 3) := by decide +kernel
theorem dJ6_bitCount_0f7a4_32 : decode cJ6_bitCount_0f7a4 32 = .ok (.iand, 1) := by decide +kernel
theorem dJ6_bitCount_0f7a4_33 : decode cJ6_bitCount_0f7a4 33 = .ok (.istore_n 0, 1) := by decide +kernel
theorem dJ6_bitCount_0f7a4_34 : decode cJ6_bitCount_0f7a4 34 = .ok (.iload_n 0, 1) := by decide +kernel
theorem dJ6_bitCount_0f7a4_35 : decode cJ6_bitCount_0f7a4 35 = .ok (.iload_n 0, 1) := by decide +kernel
theorem dJ6_bitCount_0f7a4_36 : decode cJ6_bitCount_0f7a4 36 = .ok (.bipush 8, 2) := by decide +kernel
theorem dJ6_bitCount_0f7a4_38 : decode cJ6_bitCount_0f7a4 38 = .ok (.iushr, 1) := by decide +kernel
theorem dJ6_bitCount_0f7a4_39 : decode cJ6_bitCount_0f7a4 39 = .ok (.iadd, 1) := by decide +kernel
theorem dJ6_bitCount_0f7a4_40 : decode cJ6_bitCount_0f7a4 40 = .ok (.istore_n 0, 1) := by decide +kernel
theorem dJ6_bitCount_0f7a4_41 : decode cJ6_bitCount_0f7a4 41 = .ok (.iload_n 0, 1) := by decide +kernel
theorem dJ6_bitCount_0f7a4_42 : decode cJ6_bitCount_0f7a4 42 = .ok (.iload_n 0, 1) := by decide +kernel
theorem dJ6_bitCount_0f7a4_43 : decode cJ6_bitCount_0f7a4 43 = .ok (.bipush 16, 2) := by decide +kernel
theorem dJ6_bitCount_0f7a4_45 : decode cJ6_bitCount_0f7a4 45 = .ok (.iushr, 1) := by decide +kernel
theorem dJ6_bitCount_0f7a4_46 : decode cJ6_bitCount_0f7a4 46 = .ok (.iadd, 1) := by decide +kernel
theorem dJ6_bitCount_0f7a4_47 : decode cJ6_bitCount_0f7a4 47 = .ok (.istore_n 0, 1) := by decide +kernel
theorem dJ6_bitCount_0f7a4_48 : decode cJ6_bitCount_0f7a4 48 = .ok (.iload_n 0, 1) := by decide +kernel
theorem dJ6_bitCount_0f7a4_49 : decode cJ6_bitCount_0f7a4 49 = .ok (.bipush 63, 2) := by decide +kernel
theorem dJ6_bitCount_0f7a4_51 : decode cJ6_bitCount_0f7a4 51 = .ok (.iand, 1) := by decide +kernel
theorem dJ6_bitCount_0f7a4_52 : decode cJ6_bitCount_0f7a4 52 = .ok (.ireturn, 1) := by decide +kernel
theorem dJ7_fill_53178_0 : decode cJ7_fill_53178 0 = .ok (.iconst 0, 1) := by decide +kernel
theorem dJ7_fill_53178_1 : decode cJ7_fill_53178 1 = .ok (.istore_n 2, 1) := by decide +kernel
theorem dJ7_fill_53178_2 : decode cJ7_fill_53178 2 = .ok (.aload_n 0, 1) := by decide +kernel
theorem dJ7_fill_53178_3 : decode cJ7_fill_53178 3 = .ok (.arraylength, 1) := by decide +kernel
theorem dJ7_fill_53178_4 : decode cJ7_fill_53178 4 = .ok (.istore_n 3, 1) := by decide +kernel
theorem dJ7_fill_53178_5 : decode cJ7_fill_53178 5 = .ok (.iload_n 2, 1) := by decide +kernel
theorem dJ7_fill_53178_6 : decode cJ7_fill_53178 6 = .ok (.iload_n 3, 1) := by decide +kernel
theorem dJ7_fill_53178_7 : decode cJ7_fill_53178 7 = .ok (.if_icmp .ge 13, 3) := by decide +kernel
theorem dJ7_fill_53178_10 : decode cJ7_fill_53178 10 = .ok (.aload_n 0, 1) := by decide +kernel
theorem dJ7_fill_53178_11 : decode cJ7_fill_53178 11 = .ok (.iload_n 2, 1) := by decide +kernel
theorem dJ7_fill_53178_12 : decode cJ7_fill_53178 12 = .ok (.iload_n 1, 1) := by decide +kernel
theorem dJ7_fill_53178_13 : decode cJ7_fill_53178 13 = .ok (.iastore, 1) := by decide +kernel
theorem dJ7_fill_53178_14 : decode cJ7_fill_53178 14 = .ok (.iinc 2 1, 3) := by decide +kernel
theorem dJ7_fill_53178_17 : decode cJ7_fill_53178 17 = .ok (.goto (-12), 3) := by decide +kernel
theorem dJ7_fill_53178_20 : decode cJ7_fill_53178 20 = .ok (.return_, 1) := by decide +kernel
theorem dJ9_abs_0f7a4_0 : decode cJ9_abs_0f7a4 0 = .ok (.iload_n 0, 1) := by decide +kernel
theorem dJ9_abs_0f7a4_1 : decode cJ9_abs_0f7a4 1 = .ok (.ifCond .ge 8, 3) := by decide +kernel
theorem dJ9_abs_0f7a4_4 : decode cJ9_abs_0f7a4 4 = .ok (.iload_n 0, 1) := by decide +kernel
theorem dJ9_abs_0f7a4_5 : decode cJ9_abs_0f7a4 5 = .ok (.ineg, 1) := by decide +kernel
theorem dJ9_abs_0f7a4_6 : decode cJ9_abs_0f7a4 6 = .ok (.goto 4, 3) := by decide +kernel
theorem dJ9_abs_0f7a4_9 : decode cJ9_abs_0f7a4 9 = .ok (.iload_n 0, 1) := by decide +kernel
theorem dJ9_abs_0f7a4_10 : decode cJ9_abs_0f7a4 10 = .ok (.ireturn, 1) := by decide +kernel
theorem dJ9_max_7cf53_0 : decode cJ9_max_7cf53 0 = .ok (.iload_n 0, 1) := by decide +kernel
theorem dJ9_max_7cf53_1 : decode cJ9_max_7cf53 1 = .ok (.iload_n 1, 1) := by decide +kernel
theorem dJ9_max_7cf53_2 : decode cJ9_max_7cf53 2 = .ok (.if_icmp .lt 7, 3) := by decide +kernel
theorem dJ9_max_7cf53_5 : decode cJ9_max_7cf53 5 = .ok (.iload_n 0, 1) := by decide +kernel
theorem dJ9_max_7cf53_6 : decode cJ9_max_7cf53 6 = .ok (.goto 4, 3) := by decide +kernel
theorem dJ9_max_7cf53_9 : decode cJ9_max_7cf53 9 = .ok (.iload_n 1, 1) := by decide +kernel
theorem dJ9_max_7cf53_10 : decode cJ9_max_7cf53 10 = .ok (.ireturn, 1) := by decide +kernel
theorem dJ9_min_7cf53_0 : decode cJ9_min_7cf53 0 = .ok (.iload_n 0, 1) := by decide +kernel
theorem dJ9_min_7cf53_1 : decode cJ9_min_7cf53 1 = .ok (.iload_n 1, 1) := by decide +kernel
theorem dJ9_min_7cf53_2 : decode cJ9_min_7cf53 2 = .ok (.if_icmp .gt 7, 3) := by decide +kernel
theorem dJ9_min_7cf53_5 : decode cJ9_min_7cf53 5 = .ok (.iload_n 0, 1) := by decide +kernel
theorem dJ9_min_7cf53_6 : decode cJ9_min_7cf53 6 = .ok (.goto 4, 3) := by decide +kernel
theorem dJ9_min_7cf53_9 : decode cJ9_min_7cf53 9 = .ok (.iload_n 1, 1) := by decide +kernel
theorem dJ9_min_7cf53_10 : decode cJ9_min_7cf53 10 = .ok (.ireturn, 1) := by decide +kernel
theorem dX0_init_0 : decode cX0_init 0 = .ok (.aload_n 0, 1) := by decide +kernel
theorem dX0_init_1 : decode cX0_init 1 = .ok (.invokespecial 3, 3) := by decide +kernel
theorem dX0_init_4 : decode cX0_init 4 = .ok (.aload_n 0, 1) := by decide +kernel
theorem dX0_init_5 : decode cX0_init 5 = .ok (.iconst 0, 1) := by decide +kernel
theorem dX0_init_6 : decode cX0_init 6 = .ok (.putfield 9, 3) := by decide +kernel
theorem dX0_init_9 : decode cX0_init 9 = .ok (.aload_n 0, 1) := by decide +kernel
theorem dX0_init_10 : decode cX0_init 10 = .ok (.bipush 20, 2) := by decide +kernel
theorem dX0_init_12 : decode cX0_init 12 = .ok (.newarray .int, 2) := by decide +kernel
theorem dX0_init_14 : decode cX0_init 14 = .ok (.putfield 15, 3) := by decide +kernel
theorem dX0_init_17 : decode cX0_init 17 = .ok (.aload_n 0, 1) := by decide +kernel
theorem dX0_init_18 : decode cX0_init 18 = .ok (.bipush 20, 2) := by decide +kernel
theorem dX0_init_20 : decode cX0_init 20 = .ok (.newarray .int, 2) := by decide +kernel
theorem dX0_init_22 : decode cX0_init 22 = .ok (.putfield 19, 3) := by decide +kernel
theorem dX0_init_25 : decode cX0_init 25 = .ok (.aload_n 0, 1) := by decide +kernel
theorem dX0_init_26 : decode cX0_init 26 = .ok (.bipush 20, 2) := by decide +kernel
theorem dX0_init_28 : decode cX0_init 28 = .ok (.newarray .int, 2) := by decide +kernel
theorem dX0_init_30 : decode cX0_init 30 = .ok (.putfield 22, 3) := by decide +kernel
theorem dX0_init_33 : decode cX0_init 33 = .ok (.return_, 1) := by decide +kernel
theorem dX0_add_0 : decode cX0_add 0 = .ok (.aload_n 0, 1) := by decide +kernel
theorem dX0_add_1 : decode cX0_add 1 = .ok (.getfield 9, 3) := by decide +kernel
theorem dX0_add_4 : decode cX0_add 4 = .ok (.bipush 20, 2) := by decide +kernel
theorem dX0_add_6 : decode cX0_add 6 = .ok (.if_icmp .ge 43, 3) := by decide +kernel
theorem dX0_add_9 : decode cX0_add 9 = .ok (.aload_n 0, 1) := by decide +kernel
theorem dX0_add_10 : decode cX0_add 10 = .ok (.getfield 15, 3) := by decide +kernel
theorem dX0_add_13 : decode cX0_add 13 = .ok (.aload_n 0, 1) := by decide +kernel
theorem dX0_add_14 : decode cX0_add 14 = .ok (.getfield 9, 3) := by decide +kernel
theorem dX0_add_17 : decode cX0_add 17 = .ok (.iload_n 1, 1) := by decide +kernel
theorem dX0_add_18 : decode cX0_add 18 = .ok (.iastore, 1) := by decide +kernel
theorem dX0_add_19 : decode cX0_add 19 = .ok (.aload_n 0, 1) := by decide +kernel
theorem dX0_add_20 : decode cX0_add 20 = .ok (.getfield 19, 3) := by decide +kernel
theorem dX0_add_23 : decode cX0_add 23 = .ok (.aload_n 0, 1) := by decide +kernel
theorem dX0_add_24 : decode cX0_add 24 = .ok (.getfield 9, 3) := by decide +kernel
theorem dX0_add_27 : decode cX0_add 27 = .ok (.iload_n 2, 1) := by decide +kernel
theorem dX0_add_28 : decode cX0_add 28 = .ok (.iastore, 1) := by decide +kernel
theorem dX0_add_29 : decode cX0_add 29 = .ok (.aload_n 0, 1) := by decide +kernel
theorem dX0_add_30 : decode cX0_add 30 = .ok (.getfield 22, 3) := by decide +kernel
theorem dX0_add_33 : decode cX0_add 33 = .ok (.aload_n 0, 1) := by decide +kernel
theorem dX0_add_34 : decode cX0_add 34 = .ok (.getfield 9, 3) := by decide +kernel
theorem dX0_add_37 : decode cX0_add 37 = .ok (.iload_n 3, 1) := by decide +kernel
theorem dX0_add_38 : decode cX0_add 38 = .ok (.iastore, 1) := by decide +kernel
theorem dX0_add_39 : decode cX0_add 39 = .ok (.aload_n 0, 1) := by decide +kernel
theorem dX0_add_40 : decode cX0_add 40 = .ok (.dup, 1) := by decide +kernel
theorem dX0_add_41 : decode cX0_add 41 = .ok (.getfield 9, 3) := by decide +kernel
theorem dX0_add_44 : decode cX0_add 44 = .ok (.iconst 1, 1) := by decide +kernel
theorem dX0_add_45 : decode cX0_add 45 = .ok (.iadd, 1) := by decide +kernel
theorem dX0_add_46 : decode cX0_add 46 = .ok (.putfield 9, 3) := by decide +kernel
theorem dX0_add_49 : decode cX0_add 49 = .ok (.return_, 1) := by decide +kernel
theorem dX0_lastUntil_0 : decode cX0_lastUntil 0 = .ok (.iconst (-1), 1) := by decide +kernel
theorem dX0_lastUntil_1 : decode cX0_lastUntil 1 = .ok (.istore_n 3, 1) := by decide +kernel
theorem dX0_lastUntil_2 : decode cX0_lastUntil 2 = .ok (.iconst 0, 1) := by decide +kernel
theorem dX0_lastUntil_3 : decode cX0_lastUntil 3 = .ok (.istore 4, 2) := by decide +kernel
theorem dX0_lastUntil_5 : decode cX0_lastUntil 5 = .ok (.iload 4, 2) := by decide +kernel
theorem dX0_lastUntil_7 : decode cX0_lastUntil 7 = .ok (.aload_n 0, 1) := by decide +kernel
theorem dX0_lastUntil_8 : decode cX0_lastUntil 8 = .ok (.getfield 9, 3) := by decide +kernel
theorem dX0_lastUntil_11 : decode cX0_lastUntil 11 = .ok (.if_icmp .ge 55, 3) := by decide +kernel
theorem dX0_lastUntil_14 : decode cX0_lastUntil 14 = .ok (.aload_n 0, 1) := by decide +kernel
theorem dX0_lastUntil_15 : decode cX0_lastUntil 15 = .ok (.getfield 15, 3) := by decide +kernel
theorem dX0_lastUntil_18 : decode cX0_lastUntil 18 = .ok (.iload 4, 2) := by decide +kernel
theorem dX0_lastUntil_20 : decode cX0_lastUntil 20 = .ok (.iaload, 1) := by decide +kernel
theorem dX0_lastUntil_21 : decode cX0_lastUntil 21 = .ok (.iload_n 1, 1) := by decide +kernel
theorem dX0_lastUntil_22 : decode cX0_lastUntil 22 = .ok (.if_icmp .ne 38, 3) := by decide +kernel
theorem dX0_lastUntil_25 : decode cX0_lastUntil 25 = .ok (.aload_n 0, 1) := by decide +kernel
theorem dX0_lastUntil_26 : decode cX0_lastUntil 26 = .ok (.getfield 22, 3) := by decide +kernel
theorem dX0_lastUntil_29 : decode cX0_lastUntil 29 = .ok (.iload 4, 2) := by decide +kernel
theorem dX0_lastUntil_31 : decode cX0_lastUntil 31 = .ok (.iaload, 1) := by decide +kernel
theorem dX0_lastUntil_32 : decode cX0_lastUntil 32 = .ok (.iload_n 2, 1) := by decide +kernel
theorem dX0_lastUntil_33 : decode cX0_lastUntil 33 = .ok (.if_icmp .gt 27, 3) := by decide +kernel
theorem dX0_lastUntil_36 : decode cX0_lastUntil 36 = .ok (.iload_n 3, 1) := by decide +kernel
theorem dX0_lastUntil_37 : decode cX0_lastUntil 37 = .ok (.iconst (-1), 1) := by decide +kernel
theorem dX0_lastUntil_38 : decode cX0_lastUntil 38 = .ok (.if_icmp .eq 19, 3) := by decide +kernel
theorem dX0_lastUntil_41 : decode cX0_lastUntil 41 = .ok (.aload_n 0, 1) := by decide +kernel
theorem dX0_lastUntil_42 : decode cX0_lastUntil 42 = .ok (.getfield 22, 3) := by decide +kernel
theorem dX0_lastUntil_45 : decode cX0_lastUntil 45 = .ok (.iload 4, 2) := by decide +kernel
theorem dX0_lastUntil_47 : decode cX0_lastUntil 47 = .ok (.iaload, 1) := by decide +kernel
theorem dX0_lastUntil_48 : decode cX0_lastUntil 48 = .ok (.aload_n 0, 1) := by decide +kernel
theorem dX0_lastUntil_49 : decode cX0_lastUntil 49 = .ok (.getfield 22, 3) := by decide +kernel
theorem dX0_lastUntil_52 : decode cX0_lastUntil 52 = .ok (.iload_n 3, 1) := by decide +kernel
theorem dX0_lastUntil_53 : decode cX0_lastUntil 53 = .ok (.iaload, 1) := by decide +kernel
theorem dX0_lastUntil_54 : decode cX0_lastUntil 54 = .ok (.if_icmp .lt 6, 3) := by decide +kernel
theorem dX0_lastUntil_57 : decode cX0_lastUntil 57 = .ok (.iload 4, 2) := by decide +kernel
theorem dX0_lastUntil_59 : decode cX0_lastUntil 59 = .ok (.istore_n 3, 1) := by decide +kernel
theorem dX0_lastUntil_60 : decode cX0_lastUntil 60 = .ok (.iinc 4 1, 3) := by decide +kernel
theorem dX0_lastUntil_63 : decode cX0_lastUntil 63 = .ok (.goto (-58), 3) := by decide +kernel
theorem dX0_lastUntil_66 : decode cX0_lastUntil 66 = .ok (.iload_n 3, 1) := by decide +kernel
theorem dX0_lastUntil_67 : decode cX0_lastUntil 67 = .ok (.ireturn, 1) := by decide +kernel
theorem dX0_firstAfter_0 : decode cX0_firstAfter 0 = .ok (.iconst (-1), 1) := by decide +kernel
theorem dX0_firstAfter_1 : decode cX0_firstAfter 1 = .ok (.istore_n 3, 1) := by decide +kernel
theorem dX0_firstAfter_2 : decode cX0_firstAfter 2 = .ok (.iconst 0, 1) := by decide +kernel
theorem dX0_firstAfter_3 : decode cX0_firstAfter 3 = .ok (.istore 4, 2) := by decide +kernel
theorem dX0_firstAfter_5 : decode cX0_firstAfter 5 = .ok (.iload 4, 2) := by decide +kernel
theorem dX0_firstAfter_7 : decode cX0_firstAfter 7 = .ok (.aload_n 0, 1) := by decide +kernel
theorem dX0_firstAfter_8 : decode cX0_firstAfter 8 = .ok (.getfield 9, 3) := by decide +kernel
theorem dX0_firstAfter_11 : decode cX0_firstAfter 11 = .ok (.if_icmp .ge 55, 3) := by decide +kernel
theorem dX0_firstAfter_14 : decode cX0_firstAfter 14 = .ok (.aload_n 0, 1) := by decide +kernel
theorem dX0_firstAfter_15 : decode cX0_firstAfter 15 = .ok (.getfield 15, 3) := by decide +kernel
theorem dX0_firstAfter_18 : decode cX0_firstAfter 18 = .ok (.iload 4, 2) := by decide +kernel
theorem dX0_firstAfter_20 : decode cX0_firstAfter 20 = .ok (.iaload, 1) := by decide +kernel
theorem dX0_firstAfter_21 : decode cX0_firstAfter 21 = .ok (.iload_n 1, 1) := by decide +kernel
theorem dX0_firstAfter_22 : decode cX0_firstAfter 22 = .ok (.if_icmp .ne 38, 3) := by decide +kernel
theorem dX0_firstAfter_25 : decode cX0_firstAfter 25 = .ok (.aload_n 0, 1) := by decide +kernel
theorem dX0_firstAfter_26 : decode cX0_firstAfter 26 = .ok (.getfield 22, 3) := by decide +kernel
theorem dX0_firstAfter_29 : decode cX0_firstAfter 29 = .ok (.iload 4, 2) := by decide +kernel
theorem dX0_firstAfter_31 : decode cX0_firstAfter 31 = .ok (.iaload, 1) := by decide +kernel
theorem dX0_firstAfter_32 : decode cX0_firstAfter 32 = .ok (.iload_n 2, 1) := by decide +kernel
theorem dX0_firstAfter_33 : decode cX0_firstAfter 33 = .ok (.if_icmp .le 27, 3) := by decide +kernel
theorem dX0_firstAfter_36 : decode cX0_firstAfter 36 = .ok (.iload_n 3, 1) := by decide +kernel
theorem dX0_firstAfter_37 : decode cX0_firstAfter 37 = .ok (.iconst (-1), 1) := by decide +kernel
theorem dX0_firstAfter_38 : decode cX0_firstAfter 38 = .ok (.if_icmp .eq 19, 3) := by decide +kernel
theorem dX0_firstAfter_41 : decode cX0_firstAfter 41 = .ok (.aload_n 0, 1) := by decide +kernel
theorem dX0_firstAfter_42 : decode cX0_firstAfter 42 = .ok (.getfield 22, 3) := by decide +kernel
theorem dX0_firstAfter_45 : decode cX0_firstAfter 45 = .ok (.iload 4, 2) := by decide +kernel
theorem dX0_firstAfter_47 : decode cX0_firstAfter 47 = .ok (.iaload, 1) := by decide +kernel
theorem dX0_firstAfter_48 : decode cX0_firstAfter 48 = .ok (.aload_n 0, 1) := by decide +kernel
theorem dX0_firstAfter_49 : decode cX0_firstAfter 49 = .ok (.getfield 22, 3) := by decide +kernel
theorem dX0_firstAfter_52 : decode cX0_firstAfter 52 = .ok (.iload_n 3, 1) := by decide +kernel
theorem dX0_firstAfter_53 : decode cX0_firstAfter 53 = .ok (.iaload, 1) := by decide +kernel
theorem dX0_firstAfter_54 : decode cX0_firstAfter 54 = .ok (.if_icmp .ge 6, 3) := by decide +kernel
theorem dX0_firstAfter_57 : decode cX0_firstAfter 57 = .ok (.iload 4, 2) := by decide +kernel
theorem dX0_firstAfter_59 : decode cX0_firstAfter 59 = .ok (.istore_n 3, 1) := by decide +kernel
theorem dX0_firstAfter_60 : decode cX0_firstAfter 60 = .ok (.iinc 4 1, 3) := by decide +kernel
theorem dX0_firstAfter_63 : decode cX0_firstAfter 63 = .ok (.goto (-58), 3) := by decide +kernel
theorem dX0_firstAfter_66 : decode cX0_firstAfter 66 = .ok (.iload_n 3, 1) := by decide +kernel
theorem dX0_firstAfter_67 : decode cX0_firstAfter 67 = .ok (.ireturn, 1) := by decide +kernel
theorem dX0_toldAhead_0 : decode cX0_toldAhead 0 = .ok (.iload_n 1, 1) := by decide +kernel
theorem dX0_toldAhead_1 : decode cX0_toldAhead 1 = .ok (.iconst 1, 1) := by decide +kernel
theorem dX0_toldAhead_2 : decode cX0_toldAhead 2 = .ok (.isub, 1) := by decide +kernel
theorem dX0_toldAhead_3 : decode cX0_toldAhead 3 = .ok (.istore_n 2, 1) := by decide +kernel
theorem dX0_toldAhead_4 : decode cX0_toldAhead 4 = .ok (.iload_n 2, 1) := by decide +kernel
theorem dX0_toldAhead_5 : decode cX0_toldAhead 5 = .ok (.ifCond .lt 26, 3) := by decide +kernel
theorem dX0_toldAhead_8 : decode cX0_toldAhead 8 = .ok (.aload_n 0, 1) := by decide +kernel
theorem dX0_toldAhead_9 : decode cX0_toldAhead 9 = .ok (.getfield 15, 3) := by decide +kernel
theorem dX0_toldAhead_12 : decode cX0_toldAhead 12 = .ok (.iload_n 2, 1) := by decide +kernel
theorem dX0_toldAhead_13 : decode cX0_toldAhead 13 = .ok (.iaload, 1) := by decide +kernel
theorem dX0_toldAhead_14 : decode cX0_toldAhead 14 = .ok (.aload_n 0, 1) := by decide +kernel
theorem dX0_toldAhead_15 : decode cX0_toldAhead 15 = .ok (.getfield 15, 3) := by decide +kernel
theorem dX0_toldAhead_18 : decode cX0_toldAhead 18 = .ok (.iload_n 1, 1) := by decide +kernel
theorem dX0_toldAhead_19 : decode cX0_toldAhead 19 = .ok (.iaload, 1) := by decide +kernel
theorem dX0_toldAhead_20 : decode cX0_toldAhead 20 = .ok (.if_icmp .ne 5, 3) := by decide +kernel
theorem dX0_toldAhead_23 : decode cX0_toldAhead 23 = .ok (.iload_n 2, 1) := by decide +kernel
theorem dX0_toldAhead_24 : decode cX0_toldAhead 24 = .ok (.ireturn, 1) := by decide +kernel
theorem dX0_toldAhead_25 : decode cX0_toldAhead 25 = .ok (.iinc 2 (-1), 3) := by decide +kernel
theorem dX0_toldAhead_28 : decode cX0_toldAhead 28 = .ok (.goto (-24), 3) := by decide +kernel
theorem dX0_toldAhead_31 : decode cX0_toldAhead 31 = .ok (.iconst (-1), 1) := by decide +kernel
theorem dX0_toldAhead_32 : decode cX0_toldAhead 32 = .ok (.ireturn, 1) := by decide +kernel
theorem dX1_init_0 : decode cX1_init 0 = .ok (.aload_n 0, 1) := by decide +kernel
theorem dX1_init_1 : decode cX1_init 1 = .ok (.invokespecial 3, 3) := by decide +kernel
theorem dX1_init_4 : decode cX1_init 4 = .ok (.aload_n 0, 1) := by decide +kernel
theorem dX1_init_5 : decode cX1_init 5 = .ok (.bipush 64, 2) := by decide +kernel
theorem dX1_init_7 : decode cX1_init 7 = .ok (.newarray .int, 2) := by decide +kernel
theorem dX1_init_9 : decode cX1_init 9 = .ok (.putfield 11, 3) := by decide +kernel
theorem dX1_init_12 : decode cX1_init 12 = .ok (.aload_n 0, 1) := by decide +kernel
theorem dX1_init_13 : decode cX1_init 13 = .ok (.iconst (-1), 1) := by decide +kernel
theorem dX1_init_14 : decode cX1_init 14 = .ok (.putfield 15, 3) := by decide +kernel
theorem dX1_init_17 : decode cX1_init 17 = .ok (.aload_n 0, 1) := by decide +kernel
theorem dX1_init_18 : decode cX1_init 18 = .ok (.ldc 19, 2) := by decide +kernel
theorem dX1_init_20 : decode cX1_init 20 = .ok (.putfield 20, 3) := by decide +kernel
theorem dX1_init_23 : decode cX1_init 23 = .ok (.return_, 1) := by decide +kernel
theorem dX1_setRound_0 : decode cX1_setRound 0 = .ok (.aload_n 0, 1) := by decide +kernel
theorem dX1_setRound_1 : decode cX1_setRound 1 = .ok (.getfield 11, 3) := by decide +kernel
theorem dX1_setRound_4 : decode cX1_setRound 4 = .ok (.iload_n 1, 1) := by decide +kernel
theorem dX1_setRound_5 : decode cX1_setRound 5 = .ok (.bipush 16, 2) := by decide +kernel
theorem dX1_setRound_7 : decode cX1_setRound 7 = .ok (.imul, 1) := by decide +kernel
theorem dX1_setRound_8 : decode cX1_setRound 8 = .ok (.iload_n 2, 1) := by decide +kernel
theorem dX1_setRound_9 : decode cX1_setRound 9 = .ok (.iadd, 1) := by decide +kernel
theorem dX1_setRound_10 : decode cX1_setRound 10 = .ok (.iload_n 3, 1) := by decide +kernel
theorem dX1_setRound_11 : decode cX1_setRound 11 = .ok (.iastore, 1) := by decide +kernel
theorem dX1_setRound_12 : decode cX1_setRound 12 = .ok (.return_, 1) := by decide +kernel
theorem dX1_deal_0 : decode cX1_deal 0 = .ok (.aload_n 0, 1) := by decide +kernel
theorem dX1_deal_1 : decode cX1_deal 1 = .ok (.iconst (-1), 1) := by decide +kernel
theorem dX1_deal_2 : decode cX1_deal 2 = .ok (.putfield 15, 3) := by decide +kernel
theorem dX1_deal_5 : decode cX1_deal 5 = .ok (.aload_n 0, 1) := by decide +kernel
theorem dX1_deal_6 : decode cX1_deal 6 = .ok (.ldc 19, 2) := by decide +kernel
theorem dX1_deal_8 : decode cX1_deal 8 = .ok (.putfield 20, 3) := by decide +kernel
theorem dX1_deal_11 : decode cX1_deal 11 = .ok (.iconst 0, 1) := by decide +kernel
theorem dX1_deal_12 : decode cX1_deal 12 = .ok (.istore_n 3, 1) := by decide +kernel
theorem dX1_deal_13 : decode cX1_deal 13 = .ok (.iload_n 3, 1) := by decide +kernel
theorem dX1_deal_14 : decode cX1_deal 14 = .ok (.sipush 256, 3) := by decide +kernel
theorem dX1_deal_17 : decode cX1_deal 17 = .ok (.if_icmp .ge 52, 3) := by decide +kernel
theorem dX1_deal_20 : decode cX1_deal 20 = .ok (.iload_n 3, 1) := by decide +kernel
theorem dX1_deal_21 : decode cX1_deal 21 = .ok (.iload_n 1, 1) := by decide +kernel
theorem dX1_deal_22 : decode cX1_deal 22 = .ok (.iload_n 2, 1) := by decide +kernel
theorem dX1_deal_23 : decode cX1_deal 23 = .ok (.invokestatic 23, 3) := by decide +kernel
theorem dX1_deal_26 : decode cX1_deal 26 = .ok (.ifCond .eq 13, 3) := by decide +kernel
theorem dX1_deal_29 : decode cX1_deal 29 = .ok (.aload_n 0, 1) := by decide +kernel
theorem dX1_deal_30 : decode cX1_deal 30 = .ok (.iload_n 3, 1) := by decide +kernel
theorem dX1_deal_31 : decode cX1_deal 31 = .ok (.iload_n 1, 1) := by decide +kernel
theorem dX1_deal_32 : decode cX1_deal 32 = .ok (.iload_n 2, 1) := by decide +kernel
theorem dX1_deal_33 : decode cX1_deal 33 = .ok (.invokevirtual 27, 3) := by decide +kernel
theorem dX1_deal_36 : decode cX1_deal 36 = .ok (.goto 5, 3) := by decide +kernel
theorem dX1_deal_39 : decode cX1_deal 39 = .ok (.ldc 19, 2) := by decide +kernel
theorem dX1_deal_41 : decode cX1_deal 41 = .ok (.istore 4, 2) := by decide +kernel
theorem dX1_deal_43 : decode cX1_deal 43 = .ok (.iload 4, 2) := by decide +kernel
theorem dX1_deal_45 : decode cX1_deal 45 = .ok (.aload_n 0, 1) := by decide +kernel
theorem dX1_deal_46 : decode cX1_deal 46 = .ok (.getfield 20, 3) := by decide +kernel
theorem dX1_deal_49 : decode cX1_deal 49 = .ok (.if_icmp .ge 14, 3) := by decide +kernel
theorem dX1_deal_52 : decode cX1_deal 52 = .ok (.aload_n 0, 1) := by decide +kernel
theorem dX1_deal_53 : decode cX1_deal 53 = .ok (.iload 4, 2) := by decide +kernel
theorem dX1_deal_55 : decode cX1_deal 55 = .ok (.putfield 20, 3) := by decide +kernel
theorem dX1_deal_58 : decode cX1_deal 58 = .ok (.aload_n 0, 1) := by decide +kernel
theorem dX1_deal_59 : decode cX1_deal 59 = .ok (.iload_n 3, 1) := by decide +kernel
theorem dX1_deal_60 : decode cX1_deal 60 = .ok (.putfield 15, 3) := by decide +kernel
theorem dX1_deal_63 : decode cX1_deal 63 = .ok (.iinc 3 1, 3) := by decide +kernel
theorem dX1_deal_66 : decode cX1_deal 66 = .ok (.goto (-53), 3) := by decide +kernel
theorem dX1_deal_69 : decode cX1_deal 69 = .ok (.return_, 1) := by decide +kernel
theorem dX1_boyOf_0 : decode cX1_boyOf 0 = .ok (.aload_n 0, 1) := by decide +kernel
theorem dX1_boyOf_1 : decode cX1_boyOf 1 = .ok (.getfield 15, 3) := by decide +kernel
theorem dX1_boyOf_4 : decode cX1_boyOf 4 = .ok (.iconst (-1), 1) := by decide +kernel
theorem dX1_boyOf_5 : decode cX1_boyOf 5 = .ok (.if_icmp .eq 11, 3) := by decide +kernel
theorem dX1_boyOf_8 : decode cX1_boyOf 8 = .ok (.iload_n 2, 1) := by decide +kernel
theorem dX1_boyOf_9 : decode cX1_boyOf 9 = .ok (.iload_n 1, 1) := by decide +kernel
theorem dX1_boyOf_10 : decode cX1_boyOf 10 = .ok (.invokestatic 31, 3) := by decide +kernel
theorem dX1_boyOf_13 : decode cX1_boyOf 13 = .ok (.ifCond .ne 7, 3) := by decide +kernel
theorem dX1_boyOf_16 : decode cX1_boyOf 16 = .ok (.iconst (-1), 1) := by decide +kernel
theorem dX1_boyOf_17 : decode cX1_boyOf 17 = .ok (.goto 11, 3) := by decide +kernel
theorem dX1_boyOf_20 : decode cX1_boyOf 20 = .ok (.aload_n 0, 1) := by decide +kernel
theorem dX1_boyOf_21 : decode cX1_boyOf 21 = .ok (.getfield 15, 3) := by decide +kernel
theorem dX1_boyOf_24 : decode cX1_boyOf 24 = .ok (.iload_n 1, 1) := by decide +kernel
theorem dX1_boyOf_25 : decode cX1_boyOf 25 = .ok (.invokestatic 35, 3) := by decide +kernel
theorem dX1_boyOf_28 : decode cX1_boyOf 28 = .ok (.ireturn, 1) := by decide +kernel
theorem dX1_boyIn_0 : decode cX1_boyIn 0 = .ok (.iload_n 0, 1) := by decide +kernel
theorem dX1_boyIn_1 : decode cX1_boyIn 1 = .ok (.iconst 2, 1) := by decide +kernel
theorem dX1_boyIn_2 : decode cX1_boyIn 2 = .ok (.iconst 3, 1) := by decide +kernel
theorem dX1_boyIn_3 : decode cX1_boyIn 3 = .ok (.iload_n 1, 1) := by decide +kernel
theorem dX1_boyIn_4 : decode cX1_boyIn 4 = .ok (.isub, 1) := by decide +kernel
theorem dX1_boyIn_5 : decode cX1_boyIn 5 = .ok (.imul, 1) := by decide +kernel
theorem dX1_boyIn_6 : decode cX1_boyIn 6 = .ok (.ishr, 1) := by decide +kernel
theorem dX1_boyIn_7 : decode cX1_boyIn 7 = .ok (.iconst 3, 1) := by decide +kernel
theorem dX1_boyIn_8 : decode cX1_boyIn 8 = .ok (.iand, 1) := by decide +kernel
theorem dX1_boyIn_9 : decode cX1_boyIn 9 = .ok (.ireturn, 1) := by decide +kernel
theorem dX1_isDeal_0 : decode cX1_isDeal 0 = .ok (.iconst 0, 1) := by decide +kernel
theorem dX1_isDeal_1 : decode cX1_isDeal 1 = .ok (.istore_n 3, 1) := by decide +kernel
theorem dX1_isDeal_2 : decode cX1_isDeal 2 = .ok (.iload_n 3, 1) := by decide +kernel
theorem dX1_isDeal_3 : decode cX1_isDeal 3 = .ok (.iconst 4, 1) := by decide +kernel
theorem dX1_isDeal_4 : decode cX1_isDeal 4 = .ok (.if_icmp .ge 32, 3) := by decide +kernel
theorem dX1_isDeal_7 : decode cX1_isDeal 7 = .ok (.iload_n 0, 1) := by decide +kernel
theorem dX1_isDeal_8 : decode cX1_isDeal 8 = .ok (.iload_n 3, 1) := by decide +kernel
theorem dX1_isDeal_9 : decode cX1_isDeal 9 = .ok (.invokestatic 35, 3) := by decide +kernel
theorem dX1_isDeal_12 : decode cX1_isDeal 12 = .ok (.iload_n 2, 1) := by decide +kernel
theorem dX1_isDeal_13 : decode cX1_isDeal 13 = .ok (.iload_n 3, 1) := by decide +kernel
theorem dX1_isDeal_14 : decode cX1_isDeal 14 = .ok (.invokestatic 31, 3) := by decide +kernel
theorem dX1_isDeal_17 : decode cX1_isDeal 17 = .ok (.ifCond .eq 7, 3) := by decide +kernel
theorem dX1_isDeal_20 : decode cX1_isDeal 20 = .ok (.iload_n 1, 1) := by decide +kernel
theorem dX1_isDeal_21 : decode cX1_isDeal 21 = .ok (.goto 4, 3) := by decide +kernel
theorem dX1_isDeal_24 : decode cX1_isDeal 24 = .ok (.iconst 1, 1) := by decide +kernel
theorem dX1_isDeal_25 : decode cX1_isDeal 25 = .ok (.if_icmp .lt 5, 3) := by decide +kernel
theorem dX1_isDeal_28 : decode cX1_isDeal 28 = .ok (.iconst 0, 1) := by decide +kernel
theorem dX1_isDeal_29 : decode cX1_isDeal 29 = .ok (.ireturn, 1) := by decide +kernel
theorem dX1_isDeal_30 : decode cX1_isDeal 30 = .ok (.iinc 3 1, 3) := by decide +kernel
theorem dX1_isDeal_33 : decode cX1_isDeal 33 = .ok (.goto (-31), 3) := by decide +kernel
theorem dX1_isDeal_36 : decode cX1_isDeal 36 = .ok (.iconst 1, 1) := by decide +kernel
theorem dX1_isDeal_37 : decode cX1_isDeal 37 = .ok (.ireturn, 1) := by decide +kernel
theorem dX1_longestOf_0 : decode cX1_longestOf 0 = .ok (.iconst 0, 1) := by decide +kernel
theorem dX1_longestOf_1 : decode cX1_longestOf 1 = .ok (.istore 4, 2) := by decide +kernel
theorem dX1_longestOf_3 : decode cX1_longestOf 3 = .ok (.iconst 0, 1) := by decide +kernel
theorem dX1_longestOf_4 : decode cX1_longestOf 4 = .ok (.istore 5, 2) := by decide +kernel
theorem dX1_longestOf_6 : decode cX1_longestOf 6 = .ok (.iload 5, 2) := by decide +kernel
theorem dX1_longestOf_8 : decode cX1_longestOf 8 = .ok (.iload_n 2, 1) := by decide +kernel
theorem dX1_longestOf_9 : decode cX1_longestOf 9 = .ok (.if_icmp .ge 80, 3) := by decide +kernel
theorem dX1_longestOf_12 : decode cX1_longestOf 12 = .ok (.iconst 0, 1) := by decide +kernel
theorem dX1_longestOf_13 : decode cX1_longestOf 13 = .ok (.istore 6, 2) := by decide +kernel
theorem dX1_longestOf_15 : decode cX1_longestOf 15 = .ok (.iconst 0, 1) := by decide +kernel
theorem dX1_longestOf_16 : decode cX1_longestOf 16 = .ok (.istore 7, 2) := by decide +kernel
theorem dX1_longestOf_18 : decode cX1_longestOf 18 = .ok (.iload 7, 2) := by decide +kernel
theorem dX1_longestOf_20 : decode cX1_longestOf 20 = .ok (.iconst 4, 1) := by decide +kernel
theorem dX1_longestOf_21 : decode cX1_longestOf 21 = .ok (.if_icmp .ge 42, 3) := by decide +kernel
theorem dX1_longestOf_24 : decode cX1_longestOf 24 = .ok (.iload 6, 2) := by decide +kernel
theorem dX1_longestOf_26 : decode cX1_longestOf 26 = .ok (.iload_n 3, 1) := by decide +kernel
theorem dX1_longestOf_27 : decode cX1_longestOf 27 = .ok (.iload 7, 2) := by decide +kernel
theorem dX1_longestOf_29 : decode cX1_longestOf 29 = .ok (.invokestatic 31, 3) := by decide +kernel
theorem dX1_longestOf_32 : decode cX1_longestOf 32 = .ok (.ifCond .eq 21, 3) := by decide +kernel
theorem dX1_longestOf_35 : decode cX1_longestOf 35 = .ok (.iload_n 1, 1) := by decide +kernel
theorem dX1_longestOf_36 : decode cX1_longestOf 36 = .ok (.iload 7, 2) := by decide +kernel
theorem dX1_longestOf_38 : decode cX1_longestOf 38 = .ok (.invokestatic 35, 3) := by decide +kernel
theorem dX1_longestOf_41 : decode cX1_longestOf 41 = .ok (.iload 5, 2) := by decide +kernel
theorem dX1_longestOf_43 : decode cX1_longestOf 43 = .ok (.if_icmp .ne 10, 3) := by decide +kernel
theorem dX1_longestOf_46 : decode cX1_longestOf 46 = .ok (.iconst 1, 1) := by decide +kernel
theorem dX1_longestOf_47 : decode cX1_longestOf 47 = .ok (.iload 7, 2) := by decide +kernel
theorem dX1_longestOf_49 : decode cX1_longestOf 49 = .ok (.ishl, 1) := by decide +kernel
theorem dX1_longestOf_50 : decode cX1_longestOf 50 = .ok (.goto 4, 3) := by decide +kernel
theorem dX1_longestOf_53 : decode cX1_longestOf 53 = .ok (.iconst 0, 1) := by decide +kernel
theorem dX1_longestOf_54 : decode cX1_longestOf 54 = .ok (.ior, 1) := by decide +kernel
theorem dX1_longestOf_55 : decode cX1_longestOf 55 = .ok (.istore 6, 2) := by decide +kernel
theorem dX1_longestOf_57 : decode cX1_longestOf 57 = .ok (.iinc 7 1, 3) := by decide +kernel
theorem dX1_longestOf_60 : decode cX1_longestOf 60 = .ok (.goto (-42), 3) := by decide +kernel
theorem dX1_longestOf_63 : decode cX1_longestOf 63 = .ok (.iload 4, 2) := by decide +kernel
theorem dX1_longestOf_65 : decode cX1_longestOf 65 = .ok (.aload_n 0, 1) := by decide +kernel
theorem dX1_longestOf_66 : decode cX1_longestOf 66 = .ok (.getfield 11, 3) := by decide +kernel
theorem dX1_longestOf_69 : decode cX1_longestOf 69 = .ok (.iload 5, 2) := by decide +kernel
theorem dX1_longestOf_71 : decode cX1_longestOf 71 = .ok (.bipush 16, 2) := by decide +kernel
theorem dX1_longestOf_73 : decode cX1_longestOf 73 = .ok (.imul, 1) := by decide +kernel
theorem dX1_longestOf_74 : decode cX1_longestOf 74 = .ok (.iload 6, 2) := by decide +kernel
theorem dX1_longestOf_76 : decode cX1_longestOf 76 = .ok (.iadd, 1) := by decide +kernel
theorem dX1_longestOf_77 : decode cX1_longestOf 77 = .ok (.iaload, 1) := by decide +kernel
theorem dX1_longestOf_78 : decode cX1_longestOf 78 = .ok (.invokestatic 39, 3) := by decide +kernel
theorem dX1_longestOf_81 : decode cX1_longestOf 81 = .ok (.istore 4, 2) := by decide +kernel
theorem dX1_longestOf_83 : decode cX1_longestOf 83 = .ok (.iinc 5 1, 3) := by decide +kernel
theorem dX1_longestOf_86 : decode cX1_longestOf 86 = .ok (.goto (-80), 3) := by decide +kernel
theorem dX1_longestOf_89 : decode cX1_longestOf 89 = .ok (.iload 4, 2) := by decide +kernel
theorem dX1_longestOf_91 : decode cX1_longestOf 91 = .ok (.ireturn, 1) := by decide +kernel
theorem dX2_init_0 : decode cX2_init 0 = .ok (.aload_n 0, 1) := by decide +kernel
theorem dX2_init_1 : decode cX2_init 1 = .ok (.invokespecial 3, 3) := by decide +kernel
theorem dX2_init_4 : decode cX2_init 4 = .ok (.aload_n 0, 1) := by decide +kernel
theorem dX2_init_5 : decode cX2_init 5 = .ok (.bipush 8, 2) := by decide +kernel
theorem dX2_init_7 : decode cX2_init 7 = .ok (.newarray .int, 2) := by decide +kernel
theorem dX2_init_9 : decode cX2_init 9 = .ok (.putfield 9, 3) := by decide +kernel
theorem dX2_init_12 : decode cX2_init 12 = .ok (.aload_n 0, 1) := by decide +kernel
theorem dX2_init_13 : decode cX2_init 13 = .ok (.bipush 8, 2) := by decide +kernel
theorem dX2_init_15 : decode cX2_init 15 = .ok (.newarray .int, 2) := by decide +kernel
theorem dX2_init_17 : decode cX2_init 17 = .ok (.putfield 15, 3) := by decide +kernel
theorem dX2_init_20 : decode cX2_init 20 = .ok (.aload_n 0, 1) := by decide +kernel
theorem dX2_init_21 : decode cX2_init 21 = .ok (.bipush 8, 2) := by decide +kernel
theorem dX2_init_23 : decode cX2_init 23 = .ok (.newarray .int, 2) := by decide +kernel
theorem dX2_init_25 : decode cX2_init 25 = .ok (.putfield 18, 3) := by decide +kernel
theorem dX2_init_28 : decode cX2_init 28 = .ok (.aload_n 0, 1) := by decide +kernel
theorem dX2_init_29 : decode cX2_init 29 = .ok (.bipush 8, 2) := by decide +kernel
theorem dX2_init_31 : decode cX2_init 31 = .ok (.newarray .int, 2) := by decide +kernel
theorem dX2_init_33 : decode cX2_init 33 = .ok (.putfield 21, 3) := by decide +kernel
theorem dX2_init_36 : decode cX2_init 36 = .ok (.aload_n 0, 1) := by decide +kernel
theorem dX2_init_37 : decode cX2_init 37 = .ok (.bipush 12, 2) := by decide +kernel
theorem dX2_init_39 : decode cX2_init 39 = .ok (.newarray .int, 2) := by decide +kernel
theorem dX2_init_41 : decode cX2_init 41 = .ok (.putfield 24, 3) := by decide +kernel
theorem dX2_init_44 : decode cX2_init 44 = .ok (.aload_n 0, 1) := by decide +kernel
theorem dX2_init_45 : decode cX2_init 45 = .ok (.bipush 12, 2) := by decide +kernel
theorem dX2_init_47 : decode cX2_init 47 = .ok (.newarray .int, 2) := by decide +kernel
theorem dX2_init_49 : decode cX2_init 49 = .ok (.putfield 27, 3) := by decide +kernel
theorem dX2_init_52 : decode cX2_init 52 = .ok (.aload_n 0, 1) := by decide +kernel
theorem dX2_init_53 : decode cX2_init 53 = .ok (.bipush 12, 2) := by decide +kernel
theorem dX2_init_55 : decode cX2_init 55 = .ok (.newarray .int, 2) := by decide +kernel
theorem dX2_init_57 : decode cX2_init 57 = .ok (.putfield 30, 3) := by decide +kernel
theorem dX2_init_60 : decode cX2_init 60 = .ok (.aload_n 0, 1) := by decide +kernel
theorem dX2_init_61 : decode cX2_init 61 = .ok (.bipush 12, 2) := by decide +kernel
theorem dX2_init_63 : decode cX2_init 63 = .ok (.newarray .int, 2) := by decide +kernel
theorem dX2_init_65 : decode cX2_init 65 = .ok (.putfield 33, 3) := by decide +kernel
theorem dX2_init_68 : decode cX2_init 68 = .ok (.aload_n 0, 1) := by decide +kernel
theorem dX2_init_69 : decode cX2_init 69 = .ok (.iconst 4, 1) := by decide +kernel
theorem dX2_init_70 : decode cX2_init 70 = .ok (.newarray .int, 2) := by decide +kernel
theorem dX2_init_72 : decode cX2_init 72 = .ok (.putfield 36, 3) := by decide +kernel
theorem dX2_init_75 : decode cX2_init 75 = .ok (.aload_n 0, 1) := by decide +kernel
theorem dX2_init_76 : decode cX2_init 76 = .ok (.iconst 4, 1) := by decide +kernel
theorem dX2_init_77 : decode cX2_init 77 = .ok (.newarray .int, 2) := by decide +kernel
theorem dX2_init_79 : decode cX2_init 79 = .ok (.putfield 39, 3) := by decide +kernel
theorem dX2_init_82 : decode cX2_init 82 = .ok (.aload_n 0, 1) := by decide +kernel
theorem dX2_init_83 : decode cX2_init 83 = .ok (.iconst 4, 1) := by decide +kernel
theorem dX2_init_84 : decode cX2_init 84 = .ok (.newarray .int, 2) := by decide +kernel
theorem dX2_init_86 : decode cX2_init 86 = .ok (.putfield 42, 3) := by decide +kernel
theorem dX2_init_89 : decode cX2_init 89 = .ok (.aload_n 0, 1) := by decide +kernel
theorem dX2_init_90 : decode cX2_init 90 = .ok (.iconst 4, 1) := by decide +kernel
theorem dX2_init_91 : decode cX2_init 91 = .ok (.newarray .int, 2) := by decide +kernel
theorem dX2_init_93 : decode cX2_init 93 = .ok (.putfield 45, 3) := by decide +kernel
theorem dX2_init_96 : decode cX2_init 96 = .ok (.aload_n 0, 1) := by decide +kernel
theorem dX2_init_97 : decode cX2_init 97 = .ok (.iconst 4, 1) := by decide +kernel
theorem dX2_init_98 : decode cX2_init 98 = .ok (.newarray .int, 2) := by decide +kernel
theorem dX2_init_100 : decode cX2_init 100 = .ok (.putfield 48, 3) := by decide +kernel
theorem dX2_init_103 : decode cX2_init 103 = .ok (.aload_n 0, 1) := by decide +kernel
theorem dX2_init_104 : decode cX2_init 104 = .ok (.iconst 4, 1) := by decide +kernel
theorem dX2_init_105 : decode cX2_init 105 = .ok (.newarray .int, 2) := by decide +kernel
theorem dX2_init_107 : decode cX2_init 107 = .ok (.putfield 51, 3) := by decide +kernel
theorem dX2_init_110 : decode cX2_init 110 = .ok (.aload_n 0, 1) := by decide +kernel
theorem dX2_init_111 : decode cX2_init 111 = .ok (.iconst 4, 1) := by decide +kernel
theorem dX2_init_112 : decode cX2_init 112 = .ok (.newarray .int, 2) := by decide +kernel
theorem dX2_init_114 : decode cX2_init 114 = .ok (.putfield 54, 3) := by decide +kernel
theorem dX2_init_117 : decode cX2_init 117 = .ok (.aload_n 0, 1) := by decide +kernel
theorem dX2_init_118 : decode cX2_init 118 = .ok (.iconst 4, 1) := by decide +kernel
theorem dX2_init_119 : decode cX2_init 119 = .ok (.newarray .int, 2) := by decide +kernel
theorem dX2_init_121 : decode cX2_init 121 = .ok (.putfield 57, 3) := by decide +kernel
theorem dX2_init_124 : decode cX2_init 124 = .ok (.return_, 1) := by decide +kernel
theorem dX2_clear_0 : decode cX2_clear 0 = .ok (.aload_n 0, 1) := by decide +kernel
theorem dX2_clear_1 : decode cX2_clear 1 = .ok (.iconst 0, 1) := by decide +kernel
theorem dX2_clear_2 : decode cX2_clear 2 = .ok (.putfield 60, 3) := by decide +kernel
theorem dX2_clear_5 : decode cX2_clear 5 = .ok (.aload_n 0, 1) := by decide +kernel
theorem dX2_clear_6 : decode cX2_clear 6 = .ok (.iconst 0, 1) := by decide +kernel
theorem dX2_clear_7 : decode cX2_clear 7 = .ok (.putfield 64, 3) := by decide +kernel
theorem dX2_clear_10 : decode cX2_clear 10 = .ok (.aload_n 0, 1) := by decide +kernel
theorem dX2_clear_11 : decode cX2_clear 11 = .ok (.iconst 0, 1) := by decide +kernel
theorem dX2_clear_12 : decode cX2_clear 12 = .ok (.putfield 67, 3) := by decide +kernel
theorem dX2_clear_15 : decode cX2_clear 15 = .ok (.aload_n 0, 1) := by decide +kernel
theorem dX2_clear_16 : decode cX2_clear 16 = .ok (.iconst 0, 1) := by decide +kernel
theorem dX2_clear_17 : decode cX2_clear 17 = .ok (.putfield 70, 3) := by decide +kernel
theorem dX2_clear_20 : decode cX2_clear 20 = .ok (.aload_n 0, 1) := by decide +kernel
theorem dX2_clear_21 : decode cX2_clear 21 = .ok (.getfield 21, 3) := by decide +kernel
theorem dX2_clear_24 : decode cX2_clear 24 = .ok (.iconst 0, 1) := by decide +kernel
theorem dX2_clear_25 : decode cX2_clear 25 = .ok (.invokestatic 73, 3) := by decide +kernel
theorem dX2_clear_28 : decode cX2_clear 28 = .ok (.return_, 1) := by decide +kernel
theorem dX2_endsOf_0 : decode cX2_endsOf 0 = .ok (.iconst 1, 1) := by decide +kernel
theorem dX2_endsOf_1 : decode cX2_endsOf 1 = .ok (.aload_n 0, 1) := by decide +kernel
theorem dX2_endsOf_2 : decode cX2_endsOf 2 = .ok (.getfield 24, 3) := by decide +kernel
theorem dX2_endsOf_5 : decode cX2_endsOf 5 = .ok (.iload_n 1, 1) := by decide +kernel
theorem dX2_endsOf_6 : decode cX2_endsOf 6 = .ok (.iaload, 1) := by decide +kernel
theorem dX2_endsOf_7 : decode cX2_endsOf 7 = .ok (.ishl, 1) := by decide +kernel
theorem dX2_endsOf_8 : decode cX2_endsOf 8 = .ok (.iconst 1, 1) := by decide +kernel
theorem dX2_endsOf_9 : decode cX2_endsOf 9 = .ok (.aload_n 0, 1) := by decide +kernel
theorem dX2_endsOf_10 : decode cX2_endsOf 10 = .ok (.getfield 27, 3) := by decide +kernel
theorem dX2_endsOf_13 : decode cX2_endsOf 13 = .ok (.iload_n 1, 1) := by decide +kernel
theorem dX2_endsOf_14 : decode cX2_endsOf 14 = .ok (.iaload, 1) := by decide +kernel
theorem dX2_endsOf_15 : decode cX2_endsOf 15 = .ok (.ishl, 1) := by decide +kernel
theorem dX2_endsOf_16 : decode cX2_endsOf 16 = .ok (.ior, 1) := by decide +kernel
theorem dX2_endsOf_17 : decode cX2_endsOf 17 = .ok (.ireturn, 1) := by decide +kernel
theorem dX2_otherEnd_0 : decode cX2_otherEnd 0 = .ok (.aload_n 0, 1) := by decide +kernel
theorem dX2_otherEnd_1 : decode cX2_otherEnd 1 = .ok (.getfield 24, 3) := by decide +kernel
theorem dX2_otherEnd_4 : decode cX2_otherEnd 4 = .ok (.iload_n 1, 1) := by decide +kernel
theorem dX2_otherEnd_5 : decode cX2_otherEnd 5 = .ok (.iaload, 1) := by decide +kernel
theorem dX2_otherEnd_6 : decode cX2_otherEnd 6 = .ok (.iload_n 2, 1) := by decide +kernel
theorem dX2_otherEnd_7 : decode cX2_otherEnd 7 = .ok (.if_icmp .ne 10, 3) := by decide +kernel
theorem dX2_otherEnd_10 : decode cX2_otherEnd 10 = .ok (.aload_n 0, 1) := by decide +kernel
theorem dX2_otherEnd_11 : decode cX2_otherEnd 11 = .ok (.getfield 27, 3) := by decide +kernel
theorem dX2_otherEnd_14 : decode cX2_otherEnd 14 = .ok (.iload_n 1, 1) := by decide +kernel
theorem dX2_otherEnd_15 : decode cX2_otherEnd 15 = .ok (.iaload, 1) := by decide +kernel
theorem dX2_otherEnd_16 : decode cX2_otherEnd 16 = .ok (.ireturn, 1) := by decide +kernel
theorem dX2_otherEnd_17 : decode cX2_otherEnd 17 = .ok (.aload_n 0, 1) := by decide +kernel
theorem dX2_otherEnd_18 : decode cX2_otherEnd 18 = .ok (.getfield 27, 3) := by decide +kernel
theorem dX2_otherEnd_21 : decode cX2_otherEnd 21 = .ok (.iload_n 1, 1) := by decide +kernel
theorem dX2_otherEnd_22 : decode cX2_otherEnd 22 = .ok (.iaload, 1) := by decide +kernel
theorem dX2_otherEnd_23 : decode cX2_otherEnd 23 = .ok (.iload_n 2, 1) := by decide +kernel
theorem dX2_otherEnd_24 : decode cX2_otherEnd 24 = .ok (.if_icmp .ne 12, 3) := by decide +kernel
theorem dX2_otherEnd_27 : decode cX2_otherEnd 27 = .ok (.aload_n 0, 1) := by decide +kernel
theorem dX2_otherEnd_28 : decode cX2_otherEnd 28 = .ok (.getfield 24, 3) := by decide +kernel
theorem dX2_otherEnd_31 : decode cX2_otherEnd 31 = .ok (.iload_n 1, 1) := by decide +kernel
theorem dX2_otherEnd_32 : decode cX2_otherEnd 32 = .ok (.iaload, 1) := by decide +kernel
theorem dX2_otherEnd_33 : decode cX2_otherEnd 33 = .ok (.goto 4, 3) := by decide +kernel
theorem dX2_otherEnd_36 : decode cX2_otherEnd 36 = .ok (.iconst (-1), 1) := by decide +kernel
theorem dX2_otherEnd_37 : decode cX2_otherEnd 37 = .ok (.ireturn, 1) := by decide +kernel
theorem dX2_boysTold_0 : decode cX2_boysTold 0 = .ok (.iconst 0, 1) := by decide +kernel
theorem dX2_boysTold_1 : decode cX2_boysTold 1 = .ok (.istore_n 2, 1) := by decide +kernel
theorem dX2_boysTold_2 : decode cX2_boysTold 2 = .ok (.iconst 0, 1) := by decide +kernel
theorem dX2_boysTold_3 : decode cX2_boysTold 3 = .ok (.istore_n 3, 1) := by decide +kernel
theorem dX2_boysTold_4 : decode cX2_boysTold 4 = .ok (.iload_n 3, 1) := by decide +kernel
theorem dX2_boysTold_5 : decode cX2_boysTold 5 = .ok (.aload_n 0, 1) := by decide +kernel
theorem dX2_boysTold_6 : decode cX2_boysTold 6 = .ok (.getfield 67, 3) := by decide +kernel
theorem dX2_boysTold_9 : decode cX2_boysTold 9 = .ok (.if_icmp .ge 27, 3) := by decide +kernel
theorem dX2_boysTold_12 : decode cX2_boysTold 12 = .ok (.iload_n 2, 1) := by decide +kernel
theorem dX2_boysTold_13 : decode cX2_boysTold 13 = .ok (.aload_n 0, 1) := by decide +kernel
theorem dX2_boysTold_14 : decode cX2_boysTold 14 = .ok (.getfield 36, 3) := by decide +kernel
theorem dX2_boysTold_17 : decode cX2_boysTold 17 = .ok (.iload_n 3, 1) := by decide +kernel
theorem dX2_boysTold_18 : decode cX2_boysTold 18 = .ok (.iaload, 1) := by decide +kernel
theorem dX2_boysTold_19 : decode cX2_boysTold 19 = .ok (.iload_n 1, 1) := by decide +kernel
theorem dX2_boysTold_20 : decode cX2_boysTold 20 = .ok (.if_icmp .ne 7, 3) := by decide +kernel
theorem dX2_boysTold_23 : decode cX2_boysTold 23 = .ok (.iconst 1, 1) := by decide +kernel
theorem dX2_boysTold_24 : decode cX2_boysTold 24 = .ok (.goto 4, 3) := by decide +kernel
theorem dX2_boysTold_27 : decode cX2_boysTold 27 = .ok (.iconst 0, 1) := by decide +kernel
theorem dX2_boysTold_28 : decode cX2_boysTold 28 = .ok (.iadd, 1) := by decide +kernel
theorem dX2_boysTold_29 : decode cX2_boysTold 29 = .ok (.istore_n 2, 1) := by decide +kernel
theorem dX2_boysTold_30 : decode cX2_boysTold 30 = .ok (.iinc 3 1, 3) := by decide +kernel
theorem dX2_boysTold_33 : decode cX2_boysTold 33 = .ok (.goto (-29), 3) := by decide +kernel
theorem dX2_boysTold_36 : decode cX2_boysTold 36 = .ok (.iload_n 2, 1) := by decide +kernel
theorem dX2_boysTold_37 : decode cX2_boysTold 37 = .ok (.ireturn, 1) := by decide +kernel
theorem dX2_poundsOf_0 : decode cX2_poundsOf 0 = .ok (.iconst 0, 1) := by decide +kernel
theorem dX2_poundsOf_1 : decode cX2_poundsOf 1 = .ok (.istore_n 2, 1) := by decide +kernel
theorem dX2_poundsOf_2 : decode cX2_poundsOf 2 = .ok (.iconst 0, 1) := by decide +kernel
theorem dX2_poundsOf_3 : decode cX2_poundsOf 3 = .ok (.istore_n 3, 1) := by decide +kernel
theorem dX2_poundsOf_4 : decode cX2_poundsOf 4 = .ok (.iload_n 3, 1) := by decide +kernel
theorem dX2_poundsOf_5 : decode cX2_poundsOf 5 = .ok (.aload_n 0, 1) := by decide +kernel
theorem dX2_poundsOf_6 : decode cX2_poundsOf 6 = .ok (.getfield 70, 3) := by decide +kernel
theorem dX2_poundsOf_9 : decode cX2_poundsOf 9 = .ok (.if_icmp .ge 30, 3) := by decide +kernel
theorem dX2_poundsOf_12 : decode cX2_poundsOf 12 = .ok (.iload_n 2, 1) := by decide +kernel
theorem dX2_poundsOf_13 : decode cX2_poundsOf 13 = .ok (.iload_n 1, 1) := by decide +kernel
theorem dX2_poundsOf_14 : decode cX2_poundsOf 14 = .ok (.iload_n 3, 1) := by decide +kernel
theorem dX2_poundsOf_15 : decode cX2_poundsOf 15 = .ok (.invokestatic 79, 3) := by decide +kernel
theorem dX2_poundsOf_18 : decode cX2_poundsOf 18 = .ok (.ifCond .eq 12, 3) := by decide +kernel
theorem dX2_poundsOf_21 : decode cX2_poundsOf 21 = .ok (.aload_n 0, 1) := by decide +kernel
theorem dX2_poundsOf_22 : decode cX2_poundsOf 22 = .ok (.getfield 51, 3) := by decide +kernel
theorem dX2_poundsOf_25 : decode cX2_poundsOf 25 = .ok (.iload_n 3, 1) := by decide +kernel
theorem dX2_poundsOf_26 : decode cX2_poundsOf 26 = .ok (.iaload, 1) := by decide +kernel
theorem dX2_poundsOf_27 : decode cX2_poundsOf 27 = .ok (.goto 4, 3) := by decide +kernel
theorem dX2_poundsOf_30 : decode cX2_poundsOf 30 = .ok (.iconst 0, 1) := by decide +kernel
theorem dX2_poundsOf_31 : decode cX2_poundsOf 31 = .ok (.iadd, 1) := by decide +kernel
theorem dX2_poundsOf_32 : decode cX2_poundsOf 32 = .ok (.istore_n 2, 1) := by decide +kernel
theorem dX2_poundsOf_33 : decode cX2_poundsOf 33 = .ok (.iinc 3 1, 3) := by decide +kernel
theorem dX2_poundsOf_36 : decode cX2_poundsOf 36 = .ok (.goto (-32), 3) := by decide +kernel
theorem dX2_poundsOf_39 : decode cX2_poundsOf 39 = .ok (.iload_n 2, 1) := by decide +kernel
theorem dX2_poundsOf_40 : decode cX2_poundsOf 40 = .ok (.ireturn, 1) := by decide +kernel
theorem dX2_anyOfKind_0 : decode cX2_anyOfKind 0 = .ok (.iconst 0, 1) := by decide +kernel
theorem dX2_anyOfKind_1 : decode cX2_anyOfKind 1 = .ok (.istore_n 3, 1) := by decide +kernel
theorem dX2_anyOfKind_2 : decode cX2_anyOfKind 2 = .ok (.iload_n 3, 1) := by decide +kernel
theorem dX2_anyOfKind_3 : decode cX2_anyOfKind 3 = .ok (.aload_n 0, 1) := by decide +kernel
theorem dX2_anyOfKind_4 : decode cX2_anyOfKind 4 = .ok (.getfield 70, 3) := by decide +kernel
theorem dX2_anyOfKind_7 : decode cX2_anyOfKind 7 = .ok (.if_icmp .ge 29, 3) := by decide +kernel
theorem dX2_anyOfKind_10 : decode cX2_anyOfKind 10 = .ok (.iload_n 1, 1) := by decide +kernel
theorem dX2_anyOfKind_11 : decode cX2_anyOfKind 11 = .ok (.iload_n 3, 1) := by decide +kernel
theorem dX2_anyOfKind_12 : decode cX2_anyOfKind 12 = .ok (.invokestatic 79, 3) := by decide +kernel
theorem dX2_anyOfKind_15 : decode cX2_anyOfKind 15 = .ok (.ifCond .eq 15, 3) := by decide +kernel
theorem dX2_anyOfKind_18 : decode cX2_anyOfKind 18 = .ok (.aload_n 0, 1) := by decide +kernel
theorem dX2_anyOfKind_19 : decode cX2_anyOfKind 19 = .ok (.getfield 57, 3) := by decide +kernel
theorem dX2_anyOfKind_22 : decode cX2_anyOfKind 22 = .ok (.iload_n 3, 1) := by decide +kernel
theorem dX2_anyOfKind_23 : decode cX2_anyOfKind 23 = .ok (.iaload, 1) := by decide +kernel
theorem dX2_anyOfKind_24 : decode cX2_anyOfKind 24 = .ok (.iload_n 2, 1) := by decide +kernel
theorem dX2_anyOfKind_25 : decode cX2_anyOfKind 25 = .ok (.if_icmp .ne 5, 3) := by decide +kernel
theorem dX2_anyOfKind_28 : decode cX2_anyOfKind 28 = .ok (.iconst 1, 1) := by decide +kernel
theorem dX2_anyOfKind_29 : decode cX2_anyOfKind 29 = .ok (.ireturn, 1) := by decide +kernel
theorem dX2_anyOfKind_30 : decode cX2_anyOfKind 30 = .ok (.iinc 3 1, 3) := by decide +kernel
theorem dX2_anyOfKind_33 : decode cX2_anyOfKind 33 = .ok (.goto (-31), 3) := by decide +kernel
theorem dX2_anyOfKind_36 : decode cX2_anyOfKind 36 = .ok (.iconst 0, 1) := by decide +kernel
theorem dX2_anyOfKind_37 : decode cX2_anyOfKind 37 = .ok (.ireturn, 1) := by decide +kernel
theorem dX2_feetApart_0 : decode cX2_feetApart 0 = .ok (.aload_n 0, 1) := by decide +kernel
theorem dX2_feetApart_1 : decode cX2_feetApart 1 = .ok (.getfield 9, 3) := by decide +kernel
theorem dX2_feetApart_4 : decode cX2_feetApart 4 = .ok (.iload_n 1, 1) := by decide +kernel
theorem dX2_feetApart_5 : decode cX2_feetApart 5 = .ok (.iaload, 1) := by decide +kernel
theorem dX2_feetApart_6 : decode cX2_feetApart 6 = .ok (.aload_n 0, 1) := by decide +kernel
theorem dX2_feetApart_7 : decode cX2_feetApart 7 = .ok (.getfield 9, 3) := by decide +kernel
theorem dX2_feetApart_10 : decode cX2_feetApart 10 = .ok (.iload_n 2, 1) := by decide +kernel
theorem dX2_feetApart_11 : decode cX2_feetApart 11 = .ok (.iaload, 1) := by decide +kernel
theorem dX2_feetApart_12 : decode cX2_feetApart 12 = .ok (.isub, 1) := by decide +kernel
theorem dX2_feetApart_13 : decode cX2_feetApart 13 = .ok (.invokestatic 83, 3) := by decide +kernel
theorem dX2_feetApart_16 : decode cX2_feetApart 16 = .ok (.aload_n 0, 1) := by decide +kernel
theorem dX2_feetApart_17 : decode cX2_feetApart 17 = .ok (.getfield 15, 3) := by decide +kernel
theorem dX2_feetApart_20 : decode cX2_feetApart 20 = .ok (.iload_n 1, 1) := by decide +kernel
theorem dX2_feetApart_21 : decode cX2_feetApart 21 = .ok (.iaload, 1) := by decide +kernel
theorem dX2_feetApart_22 : decode cX2_feetApart 22 = .ok (.aload_n 0, 1) := by decide +kernel
theorem dX2_feetApart_23 : decode cX2_feetApart 23 = .ok (.getfield 15, 3) := by decide +kernel
theorem dX2_feetApart_26 : decode cX2_feetApart 26 = .ok (.iload_n 2, 1) := by decide +kernel
theorem dX2_feetApart_27 : decode cX2_feetApart 27 = .ok (.iaload, 1) := by decide +kernel
theorem dX2_feetApart_28 : decode cX2_feetApart 28 = .ok (.isub, 1) := by decide +kernel
theorem dX2_feetApart_29 : decode cX2_feetApart 29 = .ok (.invokestatic 83, 3) := by decide +kernel
theorem dX2_feetApart_32 : decode cX2_feetApart 32 = .ok (.iadd, 1) := by decide +kernel
theorem dX2_feetApart_33 : decode cX2_feetApart 33 = .ok (.ireturn, 1) := by decide +kernel
theorem dX4_init_0 : decode cX4_init 0 = .ok (.aload_n 0, 1) := by decide +kernel
theorem dX4_init_1 : decode cX4_init 1 = .ok (.invokespecial 3, 3) := by decide +kernel
theorem dX4_init_4 : decode cX4_init 4 = .ok (.aload_n 0, 1) := by decide +kernel
theorem dX4_init_5 : decode cX4_init 5 = .ok (.iconst 4, 1) := by decide +kernel
theorem dX4_init_6 : decode cX4_init 6 = .ok (.newarray .int, 2) := by decide +kernel
theorem dX4_init_8 : decode cX4_init 8 = .ok (.putfield 9, 3) := by decide +kernel
theorem dX4_init_11 : decode cX4_init 11 = .ok (.aload_n 0, 1) := by decide +kernel
theorem dX4_init_12 : decode cX4_init 12 = .ok (.iconst 4, 1) := by decide +kernel
theorem dX4_init_13 : decode cX4_init 13 = .ok (.newarray .int, 2) := by decide +kernel
theorem dX4_init_15 : decode cX4_init 15 = .ok (.putfield 15, 3) := by decide +kernel
theorem dX4_init_18 : decode cX4_init 18 = .ok (.aload_n 0, 1) := by decide +kernel
theorem dX4_init_19 : decode cX4_init 19 = .ok (.sipush 1024, 3) := by decide +kernel
theorem dX4_init_22 : decode cX4_init 22 = .ok (.newarray .int, 2) := by decide +kernel
theorem dX4_init_24 : decode cX4_init 24 = .ok (.putfield 18, 3) := by decide +kernel
theorem dX4_init_27 : decode cX4_init 27 = .ok (.aload_n 0, 1) := by decide +kernel
theorem dX4_init_28 : decode cX4_init 28 = .ok (.sipush 2048, 3) := by decide +kernel
theorem dX4_init_31 : decode cX4_init 31 = .ok (.newarray .int, 2) := by decide +kernel
theorem dX4_init_33 : decode cX4_init 33 = .ok (.putfield 21, 3) := by decide +kernel
theorem dX4_init_36 : decode cX4_init 36 = .ok (.return_, 1) := by decide +kernel
theorem dX4_canBeCarried_0 : decode cX4_canBeCarried 0 = .ok (.iload_n 0, 1) := by decide +kernel
theorem dX4_canBeCarried_1 : decode cX4_canBeCarried 1 = .ok (.iload_n 1, 1) := by decide +kernel
theorem dX4_canBeCarried_2 : decode cX4_canBeCarried 2 = .ok (.iconst (-1), 1) := by decide +kernel
theorem dX4_canBeCarried_3 : decode cX4_canBeCarried 3 = .ok (.ixor, 1) := by decide +kernel
theorem dX4_canBeCarried_4 : decode cX4_canBeCarried 4 = .ok (.iand, 1) := by decide +kernel
theorem dX4_canBeCarried_5 : decode cX4_canBeCarried 5 = .ok (.ifCond .ne 15, 3) := by decide +kernel
theorem dX4_canBeCarried_8 : decode cX4_canBeCarried 8 = .ok (.iload_n 0, 1) := by decide +kernel
theorem dX4_canBeCarried_9 : decode cX4_canBeCarried 9 = .ok (.invokestatic 24, 3) := by decide +kernel
theorem dX4_canBeCarried_12 : decode cX4_canBeCarried 12 = .ok (.iconst 2, 1) := by decide +kernel
theorem dX4_canBeCarried_13 : decode cX4_canBeCarried 13 = .ok (.if_icmp .gt 7, 3) := by decide +kernel
theorem dX4_canBeCarried_16 : decode cX4_canBeCarried 16 = .ok (.iconst 1, 1) := by decide +kernel
theorem dX4_canBeCarried_17 : decode cX4_canBeCarried 17 = .ok (.goto 4, 3) := by decide +kernel
theorem dX4_canBeCarried_20 : decode cX4_canBeCarried 20 = .ok (.iconst 0, 1) := by decide +kernel
theorem dX4_canBeCarried_21 : decode cX4_canBeCarried 21 = .ok (.ireturn, 1) := by decide +kernel
theorem dX4_setWays_0 : decode cX4_setWays 0 = .ok (.aload_n 2, 1) := by decide +kernel
theorem dX4_setWays_1 : decode cX4_setWays 1 = .ok (.getfield 30, 3) := by decide +kernel
theorem dX4_setWays_4 : decode cX4_setWays 4 = .ok (.iconst 0, 1) := by decide +kernel
theorem dX4_setWays_5 : decode cX4_setWays 5 = .ok (.aload_n 0, 1) := by decide +kernel
theorem dX4_setWays_6 : decode cX4_setWays 6 = .ok (.getfield 18, 3) := by decide +kernel
theorem dX4_setWays_9 : decode cX4_setWays 9 = .ok (.iload_n 1, 1) := by decide +kernel
theorem dX4_setWays_10 : decode cX4_setWays 10 = .ok (.bipush 8, 2) := by decide +kernel
theorem dX4_setWays_12 : decode cX4_setWays 12 = .ok (.imul, 1) := by decide +kernel
theorem dX4_setWays_13 : decode cX4_setWays 13 = .ok (.bipush 8, 2) := by decide +kernel
theorem dX4_setWays_15 : decode cX4_setWays 15 = .ok (.imul, 1) := by decide +kernel
theorem dX4_setWays_16 : decode cX4_setWays 16 = .ok (.bipush 64, 2) := by decide +kernel
theorem dX4_setWays_18 : decode cX4_setWays 18 = .ok (.invokestatic 35, 3) := by decide +kernel
theorem dX4_setWays_21 : decode cX4_setWays 21 = .ok (.return_, 1) := by decide +kernel
theorem dX4_rest_0 : decode cX4_rest 0 = .ok (.aload_n 0, 1) := by decide +kernel
theorem dX4_rest_1 : decode cX4_rest 1 = .ok (.getfield 21, 3) := by decide +kernel
theorem dX4_rest_4 : decode cX4_rest 4 = .ok (.iload_n 1, 1) := by decide +kernel
theorem dX4_rest_5 : decode cX4_rest 5 = .ok (.bipush 16, 2) := by decide +kernel
theorem dX4_rest_7 : decode cX4_rest 7 = .ok (.imul, 1) := by decide +kernel
theorem dX4_rest_8 : decode cX4_rest 8 = .ok (.iload_n 2, 1) := by decide +kernel
theorem dX4_rest_9 : decode cX4_rest 9 = .ok (.iadd, 1) := by decide +kernel
theorem dX4_rest_10 : decode cX4_rest 10 = .ok (.bipush 8, 2) := by decide +kernel
theorem dX4_rest_12 : decode cX4_rest 12 = .ok (.imul, 1) := by decide +kernel
theorem dX4_rest_13 : decode cX4_rest 13 = .ok (.iload_n 3, 1) := by decide +kernel
theorem dX4_rest_14 : decode cX4_rest 14 = .ok (.iadd, 1) := by decide +kernel
theorem dX4_rest_15 : decode cX4_rest 15 = .ok (.iaload, 1) := by decide +kernel
theorem dX4_rest_16 : decode cX4_rest 16 = .ok (.ireturn, 1) := by decide +kernel
theorem dX4_solve_0 : decode cX4_solve 0 = .ok (.iconst 0, 1) := by decide +kernel
theorem dX4_solve_1 : decode cX4_solve 1 = .ok (.istore_n 3, 1) := by decide +kernel
theorem dX4_solve_2 : decode cX4_solve 2 = .ok (.iload_n 3, 1) := by decide +kernel
theorem dX4_solve_3 : decode cX4_solve 3 = .ok (.iload_n 2, 1) := by decide +kernel
theorem dX4_solve_4 : decode cX4_solve 4 = .ok (.if_icmp .gt 96, 3) := by decide +kernel
theorem dX4_solve_7 : decode cX4_solve 7 = .ok (.iload_n 3, 1) := by decide +kernel
theorem dX4_solve_8 : decode cX4_solve 8 = .ok (.iload_n 2, 1) := by decide +kernel
theorem dX4_solve_9 : decode cX4_solve 9 = .ok (.iconst (-1), 1) := by decide +kernel
theorem dX4_solve_10 : decode cX4_solve 10 = .ok (.ixor, 1) := by decide +kernel
theorem dX4_solve_11 : decode cX4_solve 11 = .ok (.iand, 1) := by decide +kernel
theorem dX4_solve_12 : decode cX4_solve 12 = .ok (.ifCond .eq 6, 3) := by decide +kernel
theorem dX4_solve_15 : decode cX4_solve 15 = .ok (.goto 79, 3) := by decide +kernel
theorem dX4_solve_18 : decode cX4_solve 18 = .ok (.iconst 0, 1) := by decide +kernel
theorem dX4_solve_19 : decode cX4_solve 19 = .ok (.istore 4, 2) := by decide +kernel
theorem dX4_solve_21 : decode cX4_solve 21 = .ok (.iload 4, 2) := by decide +kernel
theorem dX4_solve_23 : decode cX4_solve 23 = .ok (.iload_n 2, 1) := by decide +kernel
theorem dX4_solve_24 : decode cX4_solve 24 = .ok (.if_icmp .gt 70, 3) := by decide +kernel
theorem dX4_solve_27 : decode cX4_solve 27 = .ok (.iload 4, 2) := by decide +kernel
theorem dX4_solve_29 : decode cX4_solve 29 = .ok (.iload_n 3, 1) := by decide +kernel
theorem dX4_solve_30 : decode cX4_solve 30 = .ok (.iand, 1) := by decide +kernel
theorem dX4_solve_31 : decode cX4_solve 31 = .ok (.ifCond .ne 57, 3) := by decide +kernel
theorem dX4_solve_34 : decode cX4_solve 34 = .ok (.iload 4, 2) := by decide +kernel
theorem dX4_solve_36 : decode cX4_solve 36 = .ok (.iload_n 2, 1) := by decide +kernel
theorem dX4_solve_37 : decode cX4_solve 37 = .ok (.invokestatic 41, 3) := by decide +kernel
theorem dX4_solve_40 : decode cX4_solve 40 = .ok (.ifCond .ne 6, 3) := by decide +kernel
theorem dX4_solve_43 : decode cX4_solve 43 = .ok (.goto 45, 3) := by decide +kernel
theorem dX4_solve_46 : decode cX4_solve 46 = .ok (.iconst 0, 1) := by decide +kernel
theorem dX4_solve_47 : decode cX4_solve 47 = .ok (.istore 5, 2) := by decide +kernel
theorem dX4_solve_49 : decode cX4_solve 49 = .ok (.iload 5, 2) := by decide +kernel
theorem dX4_solve_51 : decode cX4_solve 51 = .ok (.iload_n 1, 1) := by decide +kernel
theorem dX4_solve_52 : decode cX4_solve 52 = .ok (.if_icmp .ge 36, 3) := by decide +kernel
theorem dX4_solve_55 : decode cX4_solve 55 = .ok (.aload_n 0, 1) := by decide +kernel
theorem dX4_solve_56 : decode cX4_solve 56 = .ok (.getfield 21, 3) := by decide +kernel
theorem dX4_solve_59 : decode cX4_solve 59 = .ok (.iload_n 3, 1) := by decide +kernel
theorem dX4_solve_60 : decode cX4_solve 60 = .ok (.bipush 16, 2) := by decide +kernel
theorem dX4_solve_62 : decode cX4_solve 62 = .ok (.imul, 1) := by decide +kernel
theorem dX4_solve_63 : decode cX4_solve 63 = .ok (.iload 4, 2) := by decide +kernel
theorem dX4_solve_65 : decode cX4_solve 65 = .ok (.iadd, 1) := by decide +kernel
theorem dX4_solve_66 : decode cX4_solve 66 = .ok (.bipush 8, 2) := by decide +kernel
theorem dX4_solve_68 : decode cX4_solve 68 = .ok (.imul, 1) := by decide +kernel
theorem dX4_solve_69 : decode cX4_solve 69 = .ok (.iload 5, 2) := by decide +kernel
theorem dX4_solve_71 : decode cX4_solve 71 = .ok (.iadd, 1) := by decide +kernel
theorem dX4_solve_72 : decode cX4_solve 72 = .ok (.aload_n 0, 1) := by decide +kernel
theorem dX4_solve_73 : decode cX4_solve 73 = .ok (.iload_n 3, 1) := by decide +kernel
theorem dX4_solve_74 : decode cX4_solve 74 = .ok (.iload 4, 2) := by decide +kernel
theorem dX4_solve_76 : decode cX4_solve 76 = .ok (.iload 5, 2) := by decide +kernel
theorem dX4_solve_78 : decode cX4_solve 78 = .ok (.invokevirtual 45, 3) := by decide +kernel
theorem dX4_solve_81 : decode cX4_solve 81 = .ok (.iastore, 1) := by decide +kernel
theorem dX4_solve_82 : decode cX4_solve 82 = .ok (.iinc 5 1, 3) := by decide +kernel
theorem dX4_solve_85 : decode cX4_solve 85 = .ok (.goto (-36), 3) := by decide +kernel
theorem dX4_solve_88 : decode cX4_solve 88 = .ok (.iinc 4 1, 3) := by decide +kernel
theorem dX4_solve_91 : decode cX4_solve 91 = .ok (.goto (-70), 3) := by decide +kernel
theorem dX4_solve_94 : decode cX4_solve 94 = .ok (.iinc 3 1, 3) := by decide +kernel
theorem dX4_solve_97 : decode cX4_solve 97 = .ok (.goto (-95), 3) := by decide +kernel
theorem dX4_solve_100 : decode cX4_solve 100 = .ok (.return_, 1) := by decide +kernel
theorem dX4_leastFrom_0 : decode cX4_leastFrom 0 = .ok (.iload_n 1, 1) := by decide +kernel
theorem dX4_leastFrom_1 : decode cX4_leastFrom 1 = .ok (.ifCond .ne 9, 3) := by decide +kernel
theorem dX4_leastFrom_4 : decode cX4_leastFrom 4 = .ok (.iload_n 2, 1) := by decide +kernel
theorem dX4_leastFrom_5 : decode cX4_leastFrom 5 = .ok (.ifCond .ne 5, 3) := by decide +kernel
theorem dX4_leastFrom_8 : decode cX4_leastFrom 8 = .ok (.iconst 0, 1) := by decide +kernel
theorem dX4_leastFrom_9 : decode cX4_leastFrom 9 = .ok (.ireturn, 1) := by decide +kernel
theorem dX4_leastFrom_10 : decode cX4_leastFrom 10 = .ok (.iload_n 2, 1) := by decide +kernel
theorem dX4_leastFrom_11 : decode cX4_leastFrom 11 = .ok (.invokestatic 24, 3) := by decide +kernel
theorem dX4_leastFrom_14 : decode cX4_leastFrom 14 = .ok (.iconst 2, 1) := by decide +kernel
theorem dX4_leastFrom_15 : decode cX4_leastFrom 15 = .ok (.if_icmp .ge 7, 3) := by decide +kernel
theorem dX4_leastFrom_18 : decode cX4_leastFrom 18 = .ok (.iconst 1, 1) := by decide +kernel
theorem dX4_leastFrom_19 : decode cX4_leastFrom 19 = .ok (.goto 4, 3) := by decide +kernel
theorem dX4_leastFrom_22 : decode cX4_leastFrom 22 = .ok (.iconst 0, 1) := by decide +kernel
theorem dX4_leastFrom_23 : decode cX4_leastFrom 23 = .ok (.istore 4, 2) := by decide +kernel
theorem dX4_leastFrom_25 : decode cX4_leastFrom 25 = .ok (.ldc 49, 2) := by decide +kernel
theorem dX4_leastFrom_27 : decode cX4_leastFrom 27 = .ok (.istore 5, 2) := by decide +kernel
theorem dX4_leastFrom_29 : decode cX4_leastFrom 29 = .ok (.iconst 0, 1) := by decide +kernel
theorem dX4_leastFrom_30 : decode cX4_leastFrom 30 = .ok (.istore 6, 2) := by decide +kernel
theorem dX4_leastFrom_32 : decode cX4_leastFrom 32 = .ok (.iload 6, 2) := by decide +kernel
theorem dX4_leastFrom_34 : decode cX4_leastFrom 34 = .ok (.iconst 4, 1) := by decide +kernel
theorem dX4_leastFrom_35 : decode cX4_leastFrom 35 = .ok (.if_icmp .ge 122, 3) := by decide +kernel
theorem dX4_leastFrom_38 : decode cX4_leastFrom 38 = .ok (.iconst 1, 1) := by decide +kernel
theorem dX4_leastFrom_39 : decode cX4_leastFrom 39 = .ok (.iload 6, 2) := by decide +kernel
theorem dX4_leastFrom_41 : decode cX4_leastFrom 41 = .ok (.ishl, 1) := by decide +kernel
theorem dX4_leastFrom_42 : decode cX4_leastFrom 42 = .ok (.istore 7, 2) := by decide +kernel
theorem dX4_leastFrom_44 : decode cX4_leastFrom 44 = .ok (.iload_n 2, 1) := by decide +kernel
theorem dX4_leastFrom_45 : decode cX4_leastFrom 45 = .ok (.iload 6, 2) := by decide +kernel
theorem dX4_leastFrom_47 : decode cX4_leastFrom 47 = .ok (.invokestatic 50, 3) := by decide +kernel
theorem dX4_leastFrom_50 : decode cX4_leastFrom 50 = .ok (.ifCond .eq 45, 3) := by decide +kernel
theorem dX4_leastFrom_53 : decode cX4_leastFrom 53 = .ok (.iload 5, 2) := by decide +kernel
theorem dX4_leastFrom_55 : decode cX4_leastFrom 55 = .ok (.aload_n 0, 1) := by decide +kernel
theorem dX4_leastFrom_56 : decode cX4_leastFrom 56 = .ok (.iload_n 2, 1) := by decide +kernel
theorem dX4_leastFrom_57 : decode cX4_leastFrom 57 = .ok (.iload_n 3, 1) := by decide +kernel
theorem dX4_leastFrom_58 : decode cX4_leastFrom 58 = .ok (.aload_n 0, 1) := by decide +kernel
theorem dX4_leastFrom_59 : decode cX4_leastFrom 59 = .ok (.getfield 15, 3) := by decide +kernel
theorem dX4_leastFrom_62 : decode cX4_leastFrom 62 = .ok (.iload 6, 2) := by decide +kernel
theorem dX4_leastFrom_64 : decode cX4_leastFrom 64 = .ok (.iaload, 1) := by decide +kernel
theorem dX4_leastFrom_65 : decode cX4_leastFrom 65 = .ok (.invokevirtual 53, 3) := by decide +kernel
theorem dX4_leastFrom_68 : decode cX4_leastFrom 68 = .ok (.aload_n 0, 1) := by decide +kernel
theorem dX4_leastFrom_69 : decode cX4_leastFrom 69 = .ok (.iload_n 1, 1) := by decide +kernel
theorem dX4_leastFrom_70 : decode cX4_leastFrom 70 = .ok (.iload_n 2, 1) := by decide +kernel
theorem dX4_leastFrom_71 : decode cX4_leastFrom 71 = .ok (.iload 7, 2) := by decide +kernel
theorem dX4_leastFrom_73 : decode cX4_leastFrom 73 = .ok (.iconst (-1), 1) := by decide +kernel
theorem dX4_leastFrom_74 : decode cX4_leastFrom 74 = .ok (.ixor, 1) := by decide +kernel
theorem dX4_leastFrom_75 : decode cX4_leastFrom 75 = .ok (.iand, 1) := by decide +kernel
theorem dX4_leastFrom_76 : decode cX4_leastFrom 76 = .ok (.aload_n 0, 1) := by decide +kernel
theorem dX4_leastFrom_77 : decode cX4_leastFrom 77 = .ok (.getfield 15, 3) := by decide +kernel
theorem dX4_leastFrom_80 : decode cX4_leastFrom 80 = .ok (.iload 6, 2) := by decide +kernel
theorem dX4_leastFrom_82 : decode cX4_leastFrom 82 = .ok (.iaload, 1) := by decide +kernel
theorem dX4_leastFrom_83 : decode cX4_leastFrom 83 = .ok (.invokevirtual 56, 3) := by decide +kernel
theorem dX4_leastFrom_86 : decode cX4_leastFrom 86 = .ok (.iadd, 1) := by decide +kernel
theorem dX4_leastFrom_87 : decode cX4_leastFrom 87 = .ok (.invokestatic 58, 3) := by decide +kernel
theorem dX4_leastFrom_90 : decode cX4_leastFrom 90 = .ok (.istore 5, 2) := by decide +kernel
theorem dX4_leastFrom_92 : decode cX4_leastFrom 92 = .ok (.goto 59, 3) := by decide +kernel
theorem dX4_leastFrom_95 : decode cX4_leastFrom 95 = .ok (.iload_n 1, 1) := by decide +kernel
theorem dX4_leastFrom_96 : decode cX4_leastFrom 96 = .ok (.iload 6, 2) := by decide +kernel
theorem dX4_leastFrom_98 : decode cX4_leastFrom 98 = .ok (.invokestatic 50, 3) := by decide +kernel
theorem dX4_leastFrom_101 : decode cX4_leastFrom 101 = .ok (.ifCond .eq 50, 3) := by decide +kernel
theorem dX4_leastFrom_104 : decode cX4_leastFrom 104 = .ok (.iload 4, 2) := by decide +kernel
theorem dX4_leastFrom_106 : decode cX4_leastFrom 106 = .ok (.ifCond .eq 45, 3) := by decide +kernel
theorem dX4_leastFrom_109 : decode cX4_leastFrom 109 = .ok (.iload 5, 2) := by decide +kernel
theorem dX4_leastFrom_111 : decode cX4_leastFrom 111 = .ok (.aload_n 0, 1) := by decide +kernel
theorem dX4_leastFrom_112 : decode cX4_leastFrom 112 = .ok (.iload_n 2, 1) := by decide +kernel
theorem dX4_leastFrom_113 : decode cX4_leastFrom 113 = .ok (.iload_n 3, 1) := by decide +kernel
theorem dX4_leastFrom_114 : decode cX4_leastFrom 114 = .ok (.aload_n 0, 1) := by decide +kernel
theorem dX4_leastFrom_115 : decode cX4_leastFrom 115 = .ok (.getfield 9, 3) := by decide +kernel
theorem dX4_leastFrom_118 : decode cX4_leastFrom 118 = .ok (.iload 6, 2) := by decide +kernel
theorem dX4_leastFrom_120 : decode cX4_leastFrom 120 = .ok (.iaload, 1) := by decide +kernel
theorem dX4_leastFrom_121 : decode cX4_leastFrom 121 = .ok (.invokevirtual 53, 3) := by decide +kernel
theorem dX4_leastFrom_124 : decode cX4_leastFrom 124 = .ok (.aload_n 0, 1) := by decide +kernel
theorem dX4_leastFrom_125 : decode cX4_leastFrom 125 = .ok (.iload_n 1, 1) := by decide +kernel
theorem dX4_leastFrom_126 : decode cX4_leastFrom 126 = .ok (.iload 7, 2) := by decide +kernel
theorem dX4_leastFrom_128 : decode cX4_leastFrom 128 = .ok (.iconst (-1), 1) := by decide +kernel
theorem dX4_leastFrom_129 : decode cX4_leastFrom 129 = .ok (.ixor, 1) := by decide +kernel
theorem dX4_leastFrom_130 : decode cX4_leastFrom 130 = .ok (.iand, 1) := by decide +kernel
theorem dX4_leastFrom_131 : decode cX4_leastFrom 131 = .ok (.iload_n 2, 1) := by decide +kernel
theorem dX4_leastFrom_132 : decode cX4_leastFrom 132 = .ok (.iload 7, 2) := by decide +kernel
theorem dX4_leastFrom_134 : decode cX4_leastFrom 134 = .ok (.ior, 1) := by decide +kernel
theorem dX4_leastFrom_135 : decode cX4_leastFrom 135 = .ok (.aload_n 0, 1) := by decide +kernel
theorem dX4_leastFrom_136 : decode cX4_leastFrom 136 = .ok (.getfield 9, 3) := by decide +kernel
theorem dX4_leastFrom_139 : decode cX4_leastFrom 139 = .ok (.iload 6, 2) := by decide +kernel
theorem dX4_leastFrom_141 : decode cX4_leastFrom 141 = .ok (.iaload, 1) := by decide +kernel
theorem dX4_leastFrom_142 : decode cX4_leastFrom 142 = .ok (.invokevirtual 56, 3) := by decide +kernel
theorem dX4_leastFrom_145 : decode cX4_leastFrom 145 = .ok (.iadd, 1) := by decide +kernel
theorem dX4_leastFrom_146 : decode cX4_leastFrom 146 = .ok (.invokestatic 58, 3) := by decide +kernel
theorem dX4_leastFrom_149 : decode cX4_leastFrom 149 = .ok (.istore 5, 2) := by decide +kernel
theorem dX4_leastFrom_151 : decode cX4_leastFrom 151 = .ok (.iinc 6 1, 3) := by decide +kernel
theorem dX4_leastFrom_154 : decode cX4_leastFrom 154 = .ok (.goto (-122), 3) := by decide +kernel
theorem dX4_leastFrom_157 : decode cX4_leastFrom 157 = .ok (.iload 5, 2) := by decide +kernel
theorem dX4_leastFrom_159 : decode cX4_leastFrom 159 = .ok (.ireturn, 1) := by decide +kernel
theorem dX4_way_0 : decode cX4_way 0 = .ok (.aload_n 0, 1) := by decide +kernel
theorem dX4_way_1 : decode cX4_way 1 = .ok (.getfield 18, 3) := by decide +kernel
theorem dX4_way_4 : decode cX4_way 4 = .ok (.iload_n 1, 1) := by decide +kernel
theorem dX4_way_5 : decode cX4_way 5 = .ok (.bipush 8, 2) := by decide +kernel
theorem dX4_way_7 : decode cX4_way 7 = .ok (.imul, 1) := by decide +kernel
theorem dX4_way_8 : decode cX4_way 8 = .ok (.iload_n 2, 1) := by decide +kernel
theorem dX4_way_9 : decode cX4_way 9 = .ok (.iadd, 1) := by decide +kernel
theorem dX4_way_10 : decode cX4_way 10 = .ok (.bipush 8, 2) := by decide +kernel
theorem dX4_way_12 : decode cX4_way 12 = .ok (.imul, 1) := by decide +kernel
theorem dX4_way_13 : decode cX4_way 13 = .ok (.iload_n 3, 1) := by decide +kernel
theorem dX4_way_14 : decode cX4_way 14 = .ok (.iadd, 1) := by decide +kernel
theorem dX4_way_15 : decode cX4_way 15 = .ok (.iaload, 1) := by decide +kernel
theorem dX4_way_16 : decode cX4_way 16 = .ok (.ireturn, 1) := by decide +kernel
theorem dX5_init_0 : decode cX5_init 0 = .ok (.aload_n 0, 1) := by decide +kernel
theorem dX5_init_1 : decode cX5_init 1 = .ok (.invokespecial 3, 3) := by decide +kernel
theorem dX5_init_4 : decode cX5_init 4 = .ok (.aload_n 0, 1) := by decide +kernel
theorem dX5_init_5 : decode cX5_init 5 = .ok (.bipush 12, 2) := by decide +kernel
theorem dX5_init_7 : decode cX5_init 7 = .ok (.newarray .int, 2) := by decide +kernel
theorem dX5_init_9 : decode cX5_init 9 = .ok (.putfield 9, 3) := by decide +kernel
theorem dX5_init_12 : decode cX5_init 12 = .ok (.aload_n 0, 1) := by decide +kernel
theorem dX5_init_13 : decode cX5_init 13 = .ok (.iconst 4, 1) := by decide +kernel
theorem dX5_init_14 : decode cX5_init 14 = .ok (.newarray .int, 2) := by decide +kernel
theorem dX5_init_16 : decode cX5_init 16 = .ok (.putfield 15, 3) := by decide +kernel
theorem dX5_init_19 : decode cX5_init 19 = .ok (.aload_n 0, 1) := by decide +kernel
theorem dX5_init_20 : decode cX5_init 20 = .ok (.iconst 4, 1) := by decide +kernel
theorem dX5_init_21 : decode cX5_init 21 = .ok (.newarray .int, 2) := by decide +kernel
theorem dX5_init_23 : decode cX5_init 23 = .ok (.putfield 18, 3) := by decide +kernel
theorem dX5_init_26 : decode cX5_init 26 = .ok (.aload_n 0, 1) := by decide +kernel
theorem dX5_init_27 : decode cX5_init 27 = .ok (.iconst 4, 1) := by decide +kernel
theorem dX5_init_28 : decode cX5_init 28 = .ok (.newarray .int, 2) := by decide +kernel
theorem dX5_init_30 : decode cX5_init 30 = .ok (.putfield 21, 3) := by decide +kernel
theorem dX5_init_33 : decode cX5_init 33 = .ok (.aload_n 0, 1) := by decide +kernel
theorem dX5_init_34 : decode cX5_init 34 = .ok (.iconst 4, 1) := by decide +kernel
theorem dX5_init_35 : decode cX5_init 35 = .ok (.newarray .int, 2) := by decide +kernel
theorem dX5_init_37 : decode cX5_init 37 = .ok (.putfield 24, 3) := by decide +kernel
theorem dX5_init_40 : decode cX5_init 40 = .ok (.aload_n 0, 1) := by decide +kernel
theorem dX5_init_41 : decode cX5_init 41 = .ok (.iconst 4, 1) := by decide +kernel
theorem dX5_init_42 : decode cX5_init 42 = .ok (.newarray .int, 2) := by decide +kernel
theorem dX5_init_44 : decode cX5_init 44 = .ok (.putfield 27, 3) := by decide +kernel
theorem dX5_init_47 : decode cX5_init 47 = .ok (.aload_n 0, 1) := by decide +kernel
theorem dX5_init_48 : decode cX5_init 48 = .ok (.sipush 200, 3) := by decide +kernel
theorem dX5_init_51 : decode cX5_init 51 = .ok (.newarray .int, 2) := by decide +kernel
theorem dX5_init_53 : decode cX5_init 53 = .ok (.putfield 30, 3) := by decide +kernel
theorem dX5_init_56 : decode cX5_init 56 = .ok (.aload_n 0, 1) := by decide +kernel
theorem dX5_init_57 : decode cX5_init 57 = .ok (.sipush 200, 3) := by decide +kernel
theorem dX5_init_60 : decode cX5_init 60 = .ok (.newarray .int, 2) := by decide +kernel
theorem dX5_init_62 : decode cX5_init 62 = .ok (.putfield 33, 3) := by decide +kernel
theorem dX5_init_65 : decode cX5_init 65 = .ok (.return_, 1) := by decide +kernel
theorem dX5_begin_0 : decode cX5_begin 0 = .ok (.aload_n 0, 1) := by decide +kernel
theorem dX5_begin_1 : decode cX5_begin 1 = .ok (.iconst 0, 1) := by decide +kernel
theorem dX5_begin_2 : decode cX5_begin 2 = .ok (.putfield 36, 3) := by decide +kernel
theorem dX5_begin_5 : decode cX5_begin 5 = .ok (.aload_n 0, 1) := by decide +kernel
theorem dX5_begin_6 : decode cX5_begin 6 = .ok (.iconst 0, 1) := by decide +kernel
theorem dX5_begin_7 : decode cX5_begin 7 = .ok (.putfield 40, 3) := by decide +kernel
theorem dX5_begin_10 : decode cX5_begin 10 = .ok (.aload_n 0, 1) := by decide +kernel
theorem dX5_begin_11 : decode cX5_begin 11 = .ok (.iconst 1, 1) := by decide +kernel
theorem dX5_begin_12 : decode cX5_begin 12 = .ok (.aload_n 1, 1) := by decide +kernel
theorem dX5_begin_13 : decode cX5_begin 13 = .ok (.getfield 43, 3) := by decide +kernel
theorem dX5_begin_16 : decode cX5_begin 16 = .ok (.ishl, 1) := by decide +kernel
theorem dX5_begin_17 : decode cX5_begin 17 = .ok (.iconst 1, 1) := by decide +kernel
theorem dX5_begin_18 : decode cX5_begin 18 = .ok (.isub, 1) := by decide +kernel
theorem dX5_begin_19 : decode cX5_begin 19 = .ok (.putfield 48, 3) := by decide +kernel
theorem dX5_begin_22 : decode cX5_begin 22 = .ok (.aload_n 0, 1) := by decide +kernel
theorem dX5_begin_23 : decode cX5_begin 23 = .ok (.iconst 0, 1) := by decide +kernel
theorem dX5_begin_24 : decode cX5_begin 24 = .ok (.putfield 51, 3) := by decide +kernel
theorem dX5_begin_27 : decode cX5_begin 27 = .ok (.aload_n 0, 1) := by decide +kernel
theorem dX5_begin_28 : decode cX5_begin 28 = .ok (.iconst 0, 1) := by decide +kernel
theorem dX5_begin_29 : decode cX5_begin 29 = .ok (.putfield 54, 3) := by decide +kernel
theorem dX5_begin_32 : decode cX5_begin 32 = .ok (.aload_n 0, 1) := by decide +kernel
theorem dX5_begin_33 : decode cX5_begin 33 = .ok (.iconst 0, 1) := by decide +kernel
theorem dX5_begin_34 : decode cX5_begin 34 = .ok (.putfield 57, 3) := by decide +kernel
theorem dX5_begin_37 : decode cX5_begin 37 = .ok (.aload_n 0, 1) := by decide +kernel
theorem dX5_begin_38 : decode cX5_begin 38 = .ok (.getfield 9, 3) := by decide +kernel
theorem dX5_begin_41 : decode cX5_begin 41 = .ok (.iconst 0, 1) := by decide +kernel
theorem dX5_begin_42 : decode cX5_begin 42 = .ok (.invokestatic 60, 3) := by decide +kernel
theorem dX5_begin_45 : decode cX5_begin 45 = .ok (.aload_n 0, 1) := by decide +kernel
theorem dX5_begin_46 : decode cX5_begin 46 = .ok (.getfield 18, 3) := by decide +kernel
theorem dX5_begin_49 : decode cX5_begin 49 = .ok (.iconst (-1), 1) := by decide +kernel
theorem dX5_begin_50 : decode cX5_begin 50 = .ok (.invokestatic 60, 3) := by decide +kernel
theorem dX5_begin_53 : decode cX5_begin 53 = .ok (.aload_n 0, 1) := by decide +kernel
theorem dX5_begin_54 : decode cX5_begin 54 = .ok (.getfield 21, 3) := by decide +kernel
theorem dX5_begin_57 : decode cX5_begin 57 = .ok (.iconst 0, 1) := by decide +kernel
theorem dX5_begin_58 : decode cX5_begin 58 = .ok (.invokestatic 60, 3) := by decide +kernel
theorem dX5_begin_61 : decode cX5_begin 61 = .ok (.aload_n 0, 1) := by decide +kernel
theorem dX5_begin_62 : decode cX5_begin 62 = .ok (.getfield 27, 3) := by decide +kernel
theorem dX5_begin_65 : decode cX5_begin 65 = .ok (.iconst (-1), 1) := by decide +kernel
theorem dX5_begin_66 : decode cX5_begin 66 = .ok (.invokestatic 60, 3) := by decide +kernel
theorem dX5_begin_69 : decode cX5_begin 69 = .ok (.aload_n 1, 1) := by decide +kernel
theorem dX5_begin_70 : decode cX5_begin 70 = .ok (.getfield 66, 3) := by decide +kernel
theorem dX5_begin_73 : decode cX5_begin 73 = .ok (.iconst 0, 1) := by decide +kernel
theorem dX5_begin_74 : decode cX5_begin 74 = .ok (.aload_n 0, 1) := by decide +kernel
theorem dX5_begin_75 : decode cX5_begin 75 = .ok (.getfield 15, 3) := by decide +kernel
theorem dX5_begin_78 : decode cX5_begin 78 = .ok (.iconst 0, 1) := by decide +kernel
theorem dX5_begin_79 : decode cX5_begin 79 = .ok (.iconst 4, 1) := by decide +kernel
theorem dX5_begin_80 : decode cX5_begin 80 = .ok (.invokestatic 69, 3) := by decide +kernel
theorem dX5_begin_83 : decode cX5_begin 83 = .ok (.aload_n 1, 1) := by decide +kernel
theorem dX5_begin_84 : decode cX5_begin 84 = .ok (.getfield 75, 3) := by decide +kernel
theorem dX5_begin_87 : decode cX5_begin 87 = .ok (.iconst 0, 1) := by decide +kernel
theorem dX5_begin_88 : decode cX5_begin 88 = .ok (.aload_n 0, 1) := by decide +kernel
theorem dX5_begin_89 : decode cX5_begin 89 = .ok (.getfield 24, 3) := by decide +kernel
theorem dX5_begin_92 : decode cX5_begin 92 = .ok (.iconst 0, 1) := by decide +kernel
theorem dX5_begin_93 : decode cX5_begin 93 = .ok (.iconst 4, 1) := by decide +kernel
theorem dX5_begin_94 : decode cX5_begin 94 = .ok (.invokestatic 69, 3) := by decide +kernel
theorem dX5_begin_97 : decode cX5_begin 97 = .ok (.return_, 1) := by decide +kernel
theorem dX5_copy_0 : decode cX5_copy 0 = .ok (.aload_n 0, 1) := by decide +kernel
theorem dX5_copy_1 : decode cX5_copy 1 = .ok (.aload_n 1, 1) := by decide +kernel
theorem dX5_copy_2 : decode cX5_copy 2 = .ok (.getfield 36, 3) := by decide +kernel
theorem dX5_copy_5 : decode cX5_copy 5 = .ok (.putfield 36, 3) := by decide +kernel
theorem dX5_copy_8 : decode cX5_copy 8 = .ok (.aload_n 0, 1) := by decide +kernel
theorem dX5_copy_9 : decode cX5_copy 9 = .ok (.aload_n 1, 1) := by decide +kernel
theorem dX5_copy_10 : decode cX5_copy 10 = .ok (.getfield 40, 3) := by decide +kernel
theorem dX5_copy_13 : decode cX5_copy 13 = .ok (.putfield 40, 3) := by decide +kernel
theorem dX5_copy_16 : decode cX5_copy 16 = .ok (.aload_n 0, 1) := by decide +kernel
theorem dX5_copy_17 : decode cX5_copy 17 = .ok (.aload_n 1, 1) := by decide +kernel
theorem dX5_copy_18 : decode cX5_copy 18 = .ok (.getfield 78, 3) := by decide +kernel
theorem dX5_copy_21 : decode cX5_copy 21 = .ok (.putfield 78, 3) := by decide +kernel
theorem dX5_copy_24 : decode cX5_copy 24 = .ok (.aload_n 0, 1) := by decide +kernel
theorem dX5_copy_25 : decode cX5_copy 25 = .ok (.aload_n 1, 1) := by decide +kernel
theorem dX5_copy_26 : decode cX5_copy 26 = .ok (.getfield 48, 3) := by decide +kernel
theorem dX5_copy_29 : decode cX5_copy 29 = .ok (.putfield 48, 3) := by decide +kernel
theorem dX5_copy_32 : decode cX5_copy 32 = .ok (.aload_n 0, 1) := by decide +kernel
theorem dX5_copy_33 : decode cX5_copy 33 = .ok (.aload_n 1, 1) := by decide +kernel
theorem dX5_copy_34 : decode cX5_copy 34 = .ok (.getfield 51, 3) := by decide +kernel
theorem dX5_copy_37 : decode cX5_copy 37 = .ok (.putfield 51, 3) := by decide +kernel
theorem dX5_copy_40 : decode cX5_copy 40 = .ok (.aload_n 0, 1) := by decide +kernel
theorem dX5_copy_41 : decode cX5_copy 41 = .ok (.aload_n 1, 1) := by decide +kernel
theorem dX5_copy_42 : decode cX5_copy 42 = .ok (.getfield 54, 3) := by decide +kernel
theorem dX5_copy_45 : decode cX5_copy 45 = .ok (.putfield 54, 3) := by decide +kernel
theorem dX5_copy_48 : decode cX5_copy 48 = .ok (.aload_n 0, 1) := by decide +kernel
theorem dX5_copy_49 : decode cX5_copy 49 = .ok (.aload_n 1, 1) := by decide +kernel
theorem dX5_copy_50 : decode cX5_copy 50 = .ok (.getfield 57, 3) := by decide +kernel
theorem dX5_copy_53 : decode cX5_copy 53 = .ok (.putfield 57, 3) := by decide +kernel
theorem dX5_copy_56 : decode cX5_copy 56 = .ok (.aload_n 1, 1) := by decide +kernel
theorem dX5_copy_57 : decode cX5_copy 57 = .ok (.getfield 9, 3) := by decide +kernel
theorem dX5_copy_60 : decode cX5_copy 60 = .ok (.iconst 0, 1) := by decide +kernel
theorem dX5_copy_61 : decode cX5_copy 61 = .ok (.aload_n 0, 1) := by decide +kernel
theorem dX5_copy_62 : decode cX5_copy 62 = .ok (.getfield 9, 3) := by decide +kernel
theorem dX5_copy_65 : decode cX5_copy 65 = .ok (.iconst 0, 1) := by decide +kernel
theorem dX5_copy_66 : decode cX5_copy 66 = .ok (.bipush 12, 2) := by decide +kernel
theorem dX5_copy_68 : decode cX5_copy 68 = .ok (.invokestatic 69, 3) := by decide +kernel
theorem dX5_copy_71 : decode cX5_copy 71 = .ok (.aload_n 1, 1) := by decide +kernel
theorem dX5_copy_72 : decode cX5_copy 72 = .ok (.getfield 15, 3) := by decide +kernel
theorem dX5_copy_75 : decode cX5_copy 75 = .ok (.iconst 0, 1) := by decide +kernel
theorem dX5_copy_76 : decode cX5_copy 76 = .ok (.aload_n 0, 1) := by decide +kernel
theorem dX5_copy_77 : decode cX5_copy 77 = .ok (.getfield 15, 3) := by decide +kernel
theorem dX5_copy_80 : decode cX5_copy 80 = .ok (.iconst 0, 1) := by decide +kernel
theorem dX5_copy_81 : decode cX5_copy 81 = .ok (.iconst 4, 1) := by decide +kernel
theorem dX5_copy_82 : decode cX5_copy 82 = .ok (.invokestatic 69, 3) := by decide +kernel
theorem dX5_copy_85 : decode cX5_copy 85 = .ok (.aload_n 1, 1) := by decide +kernel
theorem dX5_copy_86 : decode cX5_copy 86 = .ok (.getfield 18, 3) := by decide +kernel
theorem dX5_copy_89 : decode cX5_copy 89 = .ok (.iconst 0, 1) := by decide +kernel
theorem dX5_copy_90 : decode cX5_copy 90 = .ok (.aload_n 0, 1) := by decide +kernel
theorem dX5_copy_91 : decode cX5_copy 91 = .ok (.getfield 18, 3) := by decide +kernel
theorem dX5_copy_94 : decode cX5_copy 94 = .ok (.iconst 0, 1) := by decide +kernel
theorem dX5_copy_95 : decode cX5_copy 95 = .ok (.iconst 4, 1) := by decide +kernel
theorem dX5_copy_96 : decode cX5_copy 96 = .ok (.invokestatic 69, 3) := by decide +kernel
theorem dX5_copy_99 : decode cX5_copy 99 = .ok (.aload_n 1, 1) := by decide +kernel
theorem dX5_copy_100 : decode cX5_copy 100 = .ok (.getfield 21, 3) := by decide +kernel
theorem dX5_copy_103 : decode cX5_copy 103 = .ok (.iconst 0, 1) := by decide +kernel
theorem dX5_copy_104 : decode cX5_copy 104 = .ok (.aload_n 0, 1) := by decide +kernel
theorem dX5_copy_105 : decode cX5_copy 105 = .ok (.getfield 21, 3) := by decide +kernel
theorem dX5_copy_108 : decode cX5_copy 108 = .ok (.iconst 0, 1) := by decide +kernel
theorem dX5_copy_109 : decode cX5_copy 109 = .ok (.iconst 4, 1) := by decide +kernel
theorem dX5_copy_110 : decode cX5_copy 110 = .ok (.invokestatic 69, 3) := by decide +kernel
theorem dX5_copy_113 : decode cX5_copy 113 = .ok (.aload_n 1, 1) := by decide +kernel
theorem dX5_copy_114 : decode cX5_copy 114 = .ok (.getfield 24, 3) := by decide +kernel
theorem dX5_copy_117 : decode cX5_copy 117 = .ok (.iconst 0, 1) := by decide +kernel
theorem dX5_copy_118 : decode cX5_copy 118 = .ok (.aload_n 0, 1) := by decide +kernel
theorem dX5_copy_119 : decode cX5_copy 119 = .ok (.getfield 24, 3) := by decide +kernel
theorem dX5_copy_122 : decode cX5_copy 122 = .ok (.iconst 0, 1) := by decide +kernel
theorem dX5_copy_123 : decode cX5_copy 123 = .ok (.iconst 4, 1) := by decide +kernel
theorem dX5_copy_124 : decode cX5_copy 124 = .ok (.invokestatic 69, 3) := by decide +kernel
theorem dX5_copy_127 : decode cX5_copy 127 = .ok (.aload_n 1, 1) := by decide +kernel
theorem dX5_copy_128 : decode cX5_copy 128 = .ok (.getfield 27, 3) := by decide +kernel
theorem dX5_copy_131 : decode cX5_copy 131 = .ok (.iconst 0, 1) := by decide +kernel
theorem dX5_copy_132 : decode cX5_copy 132 = .ok (.aload_n 0, 1) := by decide +kernel
theorem dX5_copy_133 : decode cX5_copy 133 = .ok (.getfield 27, 3) := by decide +kernel
theorem dX5_copy_136 : decode cX5_copy 136 = .ok (.iconst 0, 1) := by decide +kernel
theorem dX5_copy_137 : decode cX5_copy 137 = .ok (.iconst 4, 1) := by decide +kernel
theorem dX5_copy_138 : decode cX5_copy 138 = .ok (.invokestatic 69, 3) := by decide +kernel
theorem dX5_copy_141 : decode cX5_copy 141 = .ok (.aload_n 1, 1) := by decide +kernel
theorem dX5_copy_142 : decode cX5_copy 142 = .ok (.getfield 30, 3) := by decide +kernel
theorem dX5_copy_145 : decode cX5_copy 145 = .ok (.iconst 0, 1) := by decide +kernel
theorem dX5_copy_146 : decode cX5_copy 146 = .ok (.aload_n 0, 1) := by decide +kernel
theorem dX5_copy_147 : decode cX5_copy 147 = .ok (.getfield 30, 3) := by decide +kernel
theorem dX5_copy_150 : decode cX5_copy 150 = .ok (.iconst 0, 1) := by decide +kernel
theorem dX5_copy_151 : decode cX5_copy 151 = .ok (.sipush 200, 3) := by decide +kernel
theorem dX5_copy_154 : decode cX5_copy 154 = .ok (.invokestatic 69, 3) := by decide +kernel
theorem dX5_copy_157 : decode cX5_copy 157 = .ok (.aload_n 1, 1) := by decide +kernel
theorem dX5_copy_158 : decode cX5_copy 158 = .ok (.getfield 33, 3) := by decide +kernel
theorem dX5_copy_161 : decode cX5_copy 161 = .ok (.iconst 0, 1) := by decide +kernel
theorem dX5_copy_162 : decode cX5_copy 162 = .ok (.aload_n 0, 1) := by decide +kernel
theorem dX5_copy_163 : decode cX5_copy 163 = .ok (.getfield 33, 3) := by decide +kernel
theorem dX5_copy_166 : decode cX5_copy 166 = .ok (.iconst 0, 1) := by decide +kernel
theorem dX5_copy_167 : decode cX5_copy 167 = .ok (.sipush 200, 3) := by decide +kernel
theorem dX5_copy_170 : decode cX5_copy 170 = .ok (.invokestatic 69, 3) := by decide +kernel
theorem dX5_copy_173 : decode cX5_copy 173 = .ok (.return_, 1) := by decide +kernel
theorem dX5_isOnRope_0 : decode cX5_isOnRope 0 = .ok (.aload_n 0, 1) := by decide +kernel
theorem dX5_isOnRope_1 : decode cX5_isOnRope 1 = .ok (.getfield 18, 3) := by decide +kernel
theorem dX5_isOnRope_4 : decode cX5_isOnRope 4 = .ok (.iload_n 1, 1) := by decide +kernel
theorem dX5_isOnRope_5 : decode cX5_isOnRope 5 = .ok (.iaload, 1) := by decide +kernel
theorem dX5_isOnRope_6 : decode cX5_isOnRope 6 = .ok (.iconst (-1), 1) := by decide +kernel
theorem dX5_isOnRope_7 : decode cX5_isOnRope 7 = .ok (.if_icmp .eq 7, 3) := by decide +kernel
theorem dX5_isOnRope_10 : decode cX5_isOnRope 10 = .ok (.iconst 1, 1) := by decide +kernel
theorem dX5_isOnRope_11 : decode cX5_isOnRope 11 = .ok (.goto 4, 3) := by decide +kernel
theorem dX5_isOnRope_14 : decode cX5_isOnRope 14 = .ok (.iconst 0, 1) := by decide +kernel
theorem dX5_isOnRope_15 : decode cX5_isOnRope 15 = .ok (.ireturn, 1) := by decide +kernel
theorem dX5_boyOn_0 : decode cX5_boyOn 0 = .ok (.iconst 0, 1) := by decide +kernel
theorem dX5_boyOn_1 : decode cX5_boyOn 1 = .ok (.istore_n 3, 1) := by decide +kernel
theorem dX5_boyOn_2 : decode cX5_boyOn 2 = .ok (.iload_n 3, 1) := by decide +kernel
theorem dX5_boyOn_3 : decode cX5_boyOn 3 = .ok (.iload_n 2, 1) := by decide +kernel
theorem dX5_boyOn_4 : decode cX5_boyOn 4 = .ok (.if_icmp .ge 21, 3) := by decide +kernel
theorem dX5_boyOn_7 : decode cX5_boyOn 7 = .ok (.aload_n 0, 1) := by decide +kernel
theorem dX5_boyOn_8 : decode cX5_boyOn 8 = .ok (.getfield 18, 3) := by decide +kernel
theorem dX5_boyOn_11 : decode cX5_boyOn 11 = .ok (.iload_n 3, 1) := by decide +kernel
theorem dX5_boyOn_12 : decode cX5_boyOn 12 = .ok (.iaload, 1) := by decide +kernel
theorem dX5_boyOn_13 : decode cX5_boyOn 13 = .ok (.iload_n 1, 1) := by decide +kernel
theorem dX5_boyOn_14 : decode cX5_boyOn 14 = .ok (.if_icmp .ne 5, 3) := by decide +kernel
theorem dX5_boyOn_17 : decode cX5_boyOn 17 = .ok (.iload_n 3, 1) := by decide +kernel
theorem dX5_boyOn_18 : decode cX5_boyOn 18 = .ok (.ireturn, 1) := by decide +kernel
theorem dX5_boyOn_19 : decode cX5_boyOn 19 = .ok (.iinc 3 1, 3) := by decide +kernel
theorem dX5_boyOn_22 : decode cX5_boyOn 22 = .ok (.goto (-20), 3) := by decide +kernel
theorem dX5_boyOn_25 : decode cX5_boyOn 25 = .ok (.iconst (-1), 1) := by decide +kernel
theorem dX5_boyOn_26 : decode cX5_boyOn 26 = .ok (.ireturn, 1) := by decide +kernel
theorem dX5_boysAt_0 : decode cX5_boysAt 0 = .ok (.iconst 0, 1) := by decide +kernel
theorem dX5_boysAt_1 : decode cX5_boysAt 1 = .ok (.istore_n 3, 1) := by decide +kernel
theorem dX5_boysAt_2 : decode cX5_boysAt 2 = .ok (.iconst 0, 1) := by decide +kernel
theorem dX5_boysAt_3 : decode cX5_boysAt 3 = .ok (.istore 4, 2) := by decide +kernel
theorem dX5_boysAt_5 : decode cX5_boysAt 5 = .ok (.iload 4, 2) := by decide +kernel
theorem dX5_boysAt_7 : decode cX5_boysAt 7 = .ok (.iload_n 2, 1) := by decide +kernel
theorem dX5_boysAt_8 : decode cX5_boysAt 8 = .ok (.if_icmp .ge 38, 3) := by decide +kernel
theorem dX5_boysAt_11 : decode cX5_boysAt 11 = .ok (.aload_n 0, 1) := by decide +kernel
theorem dX5_boysAt_12 : decode cX5_boysAt 12 = .ok (.getfield 18, 3) := by decide +kernel
theorem dX5_boysAt_15 : decode cX5_boysAt 15 = .ok (.iload 4, 2) := by decide +kernel
theorem dX5_boysAt_17 : decode cX5_boysAt 17 = .ok (.iaload, 1) := by decide +kernel
theorem dX5_boysAt_18 : decode cX5_boysAt 18 = .ok (.iconst (-1), 1) := by decide +kernel
theorem dX5_boysAt_19 : decode cX5_boysAt 19 = .ok (.if_icmp .ne 21, 3) := by decide +kernel
theorem dX5_boysAt_22 : decode cX5_boysAt 22 = .ok (.aload_n 0, 1) := by decide +kernel
theorem dX5_boysAt_23 : decode cX5_boysAt 23 = .ok (.getfield 15, 3) := by decide +kernel
theorem dX5_boysAt_26 : decode cX5_boysAt 26 = .ok (.iload 4, 2) := by decide +kernel
theorem dX5_boysAt_28 : decode cX5_boysAt 28 = .ok (.iaload, 1) := by decide +kernel
theorem dX5_boysAt_29 : decode cX5_boysAt 29 = .ok (.iload_n 1, 1) := by decide +kernel
theorem dX5_boysAt_30 : decode cX5_boysAt 30 = .ok (.if_icmp .ne 10, 3) := by decide +kernel
theorem dX5_boysAt_33 : decode cX5_boysAt 33 = .ok (.iload_n 3, 1) := by decide +kernel
theorem dX5_boysAt_34 : decode cX5_boysAt 34 = .ok (.iconst 1, 1) := by decide +kernel
theorem dX5_boysAt_35 : decode cX5_boysAt 35 = .ok (.iload 4, 2) := by decide +kernel
theorem dX5_boysAt_37 : decode cX5_boysAt 37 = .ok (.ishl, 1) := by decide +kernel
theorem dX5_boysAt_38 : decode cX5_boysAt 38 = .ok (.ior, 1) := by decide +kernel
theorem dX5_boysAt_39 : decode cX5_boysAt 39 = .ok (.istore_n 3, 1) := by decide +kernel
theorem dX5_boysAt_40 : decode cX5_boysAt 40 = .ok (.iinc 4 1, 3) := by decide +kernel
theorem dX5_boysAt_43 : decode cX5_boysAt 43 = .ok (.goto (-38), 3) := by decide +kernel
theorem dX5_boysAt_46 : decode cX5_boysAt 46 = .ok (.iload_n 3, 1) := by decide +kernel
theorem dX5_boysAt_47 : decode cX5_boysAt 47 = .ok (.ireturn, 1) := by decide +kernel
theorem dX5_loadsAt_0 : decode cX5_loadsAt 0 = .ok (.iconst 0, 1) := by decide +kernel
theorem dX5_loadsAt_1 : decode cX5_loadsAt 1 = .ok (.istore_n 3, 1) := by decide +kernel
theorem dX5_loadsAt_2 : decode cX5_loadsAt 2 = .ok (.iconst 0, 1) := by decide +kernel
theorem dX5_loadsAt_3 : decode cX5_loadsAt 3 = .ok (.istore 4, 2) := by decide +kernel
theorem dX5_loadsAt_5 : decode cX5_loadsAt 5 = .ok (.iload 4, 2) := by decide +kernel
theorem dX5_loadsAt_7 : decode cX5_loadsAt 7 = .ok (.iload_n 2, 1) := by decide +kernel
theorem dX5_loadsAt_8 : decode cX5_loadsAt 8 = .ok (.if_icmp .ge 27, 3) := by decide +kernel
theorem dX5_loadsAt_11 : decode cX5_loadsAt 11 = .ok (.aload_n 0, 1) := by decide +kernel
theorem dX5_loadsAt_12 : decode cX5_loadsAt 12 = .ok (.getfield 24, 3) := by decide +kernel
theorem dX5_loadsAt_15 : decode cX5_loadsAt 15 = .ok (.iload 4, 2) := by decide +kernel
theorem dX5_loadsAt_17 : decode cX5_loadsAt 17 = .ok (.iaload, 1) := by decide +kernel
theorem dX5_loadsAt_18 : decode cX5_loadsAt 18 = .ok (.iload_n 1, 1) := by decide +kernel
theorem dX5_loadsAt_19 : decode cX5_loadsAt 19 = .ok (.if_icmp .ne 10, 3) := by decide +kernel
theorem dX5_loadsAt_22 : decode cX5_loadsAt 22 = .ok (.iload_n 3, 1) := by decide +kernel
theorem dX5_loadsAt_23 : decode cX5_loadsAt 23 = .ok (.iconst 1, 1) := by decide +kernel
theorem dX5_loadsAt_24 : decode cX5_loadsAt 24 = .ok (.iload 4, 2) := by decide +kernel
theorem dX5_loadsAt_26 : decode cX5_loadsAt 26 = .ok (.ishl, 1) := by decide +kernel
theorem dX5_loadsAt_27 : decode cX5_loadsAt 27 = .ok (.ior, 1) := by decide +kernel
theorem dX5_loadsAt_28 : decode cX5_loadsAt 28 = .ok (.istore_n 3, 1) := by decide +kernel
theorem dX5_loadsAt_29 : decode cX5_loadsAt 29 = .ok (.iinc 4 1, 3) := by decide +kernel
theorem dX5_loadsAt_32 : decode cX5_loadsAt 32 = .ok (.goto (-27), 3) := by decide +kernel
theorem dX5_loadsAt_35 : decode cX5_loadsAt 35 = .ok (.iload_n 3, 1) := by decide +kernel
theorem dX5_loadsAt_36 : decode cX5_loadsAt 36 = .ok (.ireturn, 1) := by decide +kernel
theorem dX5_carriedBy_0 : decode cX5_carriedBy 0 = .ok (.iconst 0, 1) := by decide +kernel
theorem dX5_carriedBy_1 : decode cX5_carriedBy 1 = .ok (.istore_n 3, 1) := by decide +kernel
theorem dX5_carriedBy_2 : decode cX5_carriedBy 2 = .ok (.iconst 0, 1) := by decide +kernel
theorem dX5_carriedBy_3 : decode cX5_carriedBy 3 = .ok (.istore 4, 2) := by decide +kernel
theorem dX5_carriedBy_5 : decode cX5_carriedBy 5 = .ok (.iload 4, 2) := by decide +kernel
theorem dX5_carriedBy_7 : decode cX5_carriedBy 7 = .ok (.iload_n 2, 1) := by decide +kernel
theorem dX5_carriedBy_8 : decode cX5_carriedBy 8 = .ok (.if_icmp .ge 27, 3) := by decide +kernel
theorem dX5_carriedBy_11 : decode cX5_carriedBy 11 = .ok (.aload_n 0, 1) := by decide +kernel
theorem dX5_carriedBy_12 : decode cX5_carriedBy 12 = .ok (.getfield 27, 3) := by decide +kernel
theorem dX5_carriedBy_15 : decode cX5_carriedBy 15 = .ok (.iload 4, 2) := by decide +kernel
theorem dX5_carriedBy_17 : decode cX5_carriedBy 17 = .ok (.iaload, 1) := by decide +kernel
theorem dX5_carriedBy_18 : decode cX5_carriedBy 18 = .ok (.iload_n 1, 1) := by decide +kernel
theorem dX5_carriedBy_19 : decode cX5_carriedBy 19 = .ok (.if_icmp .ne 10, 3) := by decide +kernel
theorem dX5_carriedBy_22 : decode cX5_carriedBy 22 = .ok (.iload_n 3, 1) := by decide +kernel
theorem dX5_carriedBy_23 : decode cX5_carriedBy 23 = .ok (.iconst 1, 1) := by decide +kernel
theorem dX5_carriedBy_24 : decode cX5_carriedBy 24 = .ok (.iload 4, 2) := by decide +kernel
theorem dX5_carriedBy_26 : decode cX5_carriedBy 26 = .ok (.ishl, 1) := by decide +kernel
theorem dX5_carriedBy_27 : decode cX5_carriedBy 27 = .ok (.ior, 1) := by decide +kernel
theorem dX5_carriedBy_28 : decode cX5_carriedBy 28 = .ok (.istore_n 3, 1) := by decide +kernel
theorem dX5_carriedBy_29 : decode cX5_carriedBy 29 = .ok (.iinc 4 1, 3) := by decide +kernel
theorem dX5_carriedBy_32 : decode cX5_carriedBy 32 = .ok (.goto (-27), 3) := by decide +kernel
theorem dX5_carriedBy_35 : decode cX5_carriedBy 35 = .ok (.iload_n 3, 1) := by decide +kernel
theorem dX5_carriedBy_36 : decode cX5_carriedBy 36 = .ok (.ireturn, 1) := by decide +kernel
theorem dX5_addRing_0 : decode cX5_addRing 0 = .ok (.aload_n 0, 1) := by decide +kernel
theorem dX5_addRing_1 : decode cX5_addRing 1 = .ok (.getfield 57, 3) := by decide +kernel
theorem dX5_addRing_4 : decode cX5_addRing 4 = .ok (.sipush 200, 3) := by decide +kernel
theorem dX5_addRing_7 : decode cX5_addRing 7 = .ok (.if_icmp .ge 36, 3) := by decide +kernel
theorem dX5_addRing_10 : decode cX5_addRing 10 = .ok (.aload_n 0, 1) := by decide +kernel
theorem dX5_addRing_11 : decode cX5_addRing 11 = .ok (.getfield 30, 3) := by decide +kernel
theorem dX5_addRing_14 : decode cX5_addRing 14 = .ok (.aload_n 0, 1) := by decide +kernel
theorem dX5_addRing_15 : decode cX5_addRing 15 = .ok (.getfield 57, 3) := by decide +kernel
theorem dX5_addRing_18 : decode cX5_addRing 18 = .ok (.aload_n 0, 1) := by decide +kernel
theorem dX5_addRing_19 : decode cX5_addRing 19 = .ok (.getfield 36, 3) := by decide +kernel
theorem dX5_addRing_22 : decode cX5_addRing 22 = .ok (.iastore, 1) := by decide +kernel
theorem dX5_addRing_23 : decode cX5_addRing 23 = .ok (.aload_n 0, 1) := by decide +kernel
theorem dX5_addRing_24 : decode cX5_addRing 24 = .ok (.getfield 33, 3) := by decide +kernel
theorem dX5_addRing_27 : decode cX5_addRing 27 = .ok (.aload_n 0, 1) := by decide +kernel
theorem dX5_addRing_28 : decode cX5_addRing 28 = .ok (.getfield 57, 3) := by decide +kernel
theorem dX5_addRing_31 : decode cX5_addRing 31 = .ok (.iload_n 1, 1) := by decide +kernel
theorem dX5_addRing_32 : decode cX5_addRing 32 = .ok (.iastore, 1) := by decide +kernel
theorem dX5_addRing_33 : decode cX5_addRing 33 = .ok (.aload_n 0, 1) := by decide +kernel
theorem dX5_addRing_34 : decode cX5_addRing 34 = .ok (.dup, 1) := by decide +kernel
theorem dX5_addRing_35 : decode cX5_addRing 35 = .ok (.getfield 57, 3) := by decide +kernel
theorem dX5_addRing_38 : decode cX5_addRing 38 = .ok (.iconst 1, 1) := by decide +kernel
theorem dX5_addRing_39 : decode cX5_addRing 39 = .ok (.iadd, 1) := by decide +kernel
theorem dX5_addRing_40 : decode cX5_addRing 40 = .ok (.putfield 57, 3) := by decide +kernel
theorem dX5_addRing_43 : decode cX5_addRing 43 = .ok (.return_, 1) := by decide +kernel
theorem dX5_addWear_0 : decode cX5_addWear 0 = .ok (.aload_n 0, 1) := by decide +kernel
theorem dX5_addWear_1 : decode cX5_addWear 1 = .ok (.getfield 9, 3) := by decide +kernel
theorem dX5_addWear_4 : decode cX5_addWear 4 = .ok (.iload_n 1, 1) := by decide +kernel
theorem dX5_addWear_5 : decode cX5_addWear 5 = .ok (.dup2, 1) := by decide +kernel
theorem dX5_addWear_6 : decode cX5_addWear 6 = .ok (.iaload, 1) := by decide +kernel
theorem dX5_addWear_7 : decode cX5_addWear 7 = .ok (.iload_n 2, 1) := by decide +kernel
theorem dX5_addWear_8 : decode cX5_addWear 8 = .ok (.iadd, 1) := by decide +kernel
theorem dX5_addWear_9 : decode cX5_addWear 9 = .ok (.iastore, 1) := by decide +kernel
theorem dX5_addWear_10 : decode cX5_addWear 10 = .ok (.aload_n 0, 1) := by decide +kernel
theorem dX5_addWear_11 : decode cX5_addWear 11 = .ok (.getfield 9, 3) := by decide +kernel
theorem dX5_addWear_14 : decode cX5_addWear 14 = .ok (.iload_n 1, 1) := by decide +kernel
theorem dX5_addWear_15 : decode cX5_addWear 15 = .ok (.iaload, 1) := by decide +kernel
theorem dX5_addWear_16 : decode cX5_addWear 16 = .ok (.bipush 100, 2) := by decide +kernel
theorem dX5_addWear_18 : decode cX5_addWear 18 = .ok (.if_icmp .lt 17, 3) := by decide +kernel
theorem dX5_addWear_21 : decode cX5_addWear 21 = .ok (.aload_n 0, 1) := by decide +kernel
theorem dX5_addWear_22 : decode cX5_addWear 22 = .ok (.dup, 1) := by decide +kernel
theorem dX5_addWear_23 : decode cX5_addWear 23 = .ok (.getfield 48, 3) := by decide +kernel
theorem dX5_addWear_26 : decode cX5_addWear 26 = .ok (.iconst 1, 1) := by decide +kernel
theorem dX5_addWear_27 : decode cX5_addWear 27 = .ok (.iload_n 1, 1) := by decide +kernel
theorem dX5_addWear_28 : decode cX5_addWear 28 = .ok (.ishl, 1) := by decide +kernel
theorem dX5_addWear_29 : decode cX5_addWear 29 = .ok (.iconst (-1), 1) := by decide +kernel
theorem dX5_addWear_30 : decode cX5_addWear 30 = .ok (.ixor, 1) := by decide +kernel
theorem dX5_addWear_31 : decode cX5_addWear 31 = .ok (.iand, 1) := by decide +kernel
theorem dX5_addWear_32 : decode cX5_addWear 32 = .ok (.putfield 48, 3) := by decide +kernel
theorem dX5_addWear_35 : decode cX5_addWear 35 = .ok (.return_, 1) := by decide +kernel
theorem dX5_setWet_0 : decode cX5_setWet 0 = .ok (.aload_n 0, 1) := by decide +kernel
theorem dX5_setWet_1 : decode cX5_setWet 1 = .ok (.iload_n 2, 1) := by decide +kernel
theorem dX5_setWet_2 : decode cX5_setWet 2 = .ok (.ifCond .eq 14, 3) := by decide +kernel
theorem dX5_setWet_5 : decode cX5_setWet 5 = .ok (.aload_n 0, 1) := by decide +kernel
theorem dX5_setWet_6 : decode cX5_setWet 6 = .ok (.getfield 51, 3) := by decide +kernel
theorem dX5_setWet_9 : decode cX5_setWet 9 = .ok (.iconst 1, 1) := by decide +kernel
theorem dX5_setWet_10 : decode cX5_setWet 10 = .ok (.iload_n 1, 1) := by decide +kernel
theorem dX5_setWet_11 : decode cX5_setWet 11 = .ok (.ishl, 1) := by decide +kernel
theorem dX5_setWet_12 : decode cX5_setWet 12 = .ok (.ior, 1) := by decide +kernel
theorem dX5_setWet_13 : decode cX5_setWet 13 = .ok (.goto 13, 3) := by decide +kernel
theorem dX5_setWet_16 : decode cX5_setWet 16 = .ok (.aload_n 0, 1) := by decide +kernel
theorem dX5_setWet_17 : decode cX5_setWet 17 = .ok (.getfield 51, 3) := by decide +kernel
theorem dX5_setWet_20 : decode cX5_setWet 20 = .ok (.iconst 1, 1) := by decide +kernel
theorem dX5_setWet_21 : decode cX5_setWet 21 = .ok (.iload_n 1, 1) := by decide +kernel
theorem dX5_setWet_22 : decode cX5_setWet 22 = .ok (.ishl, 1) := by decide +kernel
theorem dX5_setWet_23 : decode cX5_setWet 23 = .ok (.iconst (-1), 1) := by decide +kernel
theorem dX5_setWet_24 : decode cX5_setWet 24 = .ok (.ixor, 1) := by decide +kernel
theorem dX5_setWet_25 : decode cX5_setWet 25 = .ok (.iand, 1) := by decide +kernel
theorem dX5_setWet_26 : decode cX5_setWet 26 = .ok (.putfield 51, 3) := by decide +kernel
theorem dX5_setWet_29 : decode cX5_setWet 29 = .ok (.return_, 1) := by decide +kernel
theorem dX5_draw_0 : decode cX5_draw 0 = .ok (.aload_n 0, 1) := by decide +kernel
theorem dX5_draw_1 : decode cX5_draw 1 = .ok (.aload_n 0, 1) := by decide +kernel
theorem dX5_draw_2 : decode cX5_draw 2 = .ok (.getfield 78, 3) := by decide +kernel
theorem dX5_draw_5 : decode cX5_draw 5 = .ok (.i2l, 1) := by decide +kernel
theorem dX5_draw_6 : decode cX5_draw 6 = .ok (.ldc2_w 81, 3) := by decide +kernel
theorem dX5_draw_9 : decode cX5_draw 9 = .ok (.lmul, 1) := by decide +kernel
theorem dX5_draw_10 : decode cX5_draw 10 = .ok (.ldc2_w 83, 3) := by decide +kernel
theorem dX5_draw_13 : decode cX5_draw 13 = .ok (.ladd, 1) := by decide +kernel
theorem dX5_draw_14 : decode cX5_draw 14 = .ok (.ldc2_w 85, 3) := by decide +kernel
theorem dX5_draw_17 : decode cX5_draw 17 = .ok (.land, 1) := by decide +kernel
theorem dX5_draw_18 : decode cX5_draw 18 = .ok (.l2i, 1) := by decide +kernel
theorem dX5_draw_19 : decode cX5_draw 19 = .ok (.putfield 78, 3) := by decide +kernel
theorem dX5_draw_22 : decode cX5_draw 22 = .ok (.iload_n 1, 1) := by decide +kernel
theorem dX5_draw_23 : decode cX5_draw 23 = .ok (.iconst 1, 1) := by decide +kernel
theorem dX5_draw_24 : decode cX5_draw 24 = .ok (.if_icmp .ge 7, 3) := by decide +kernel
theorem dX5_draw_27 : decode cX5_draw 27 = .ok (.iconst 0, 1) := by decide +kernel
theorem dX5_draw_28 : decode cX5_draw 28 = .ok (.goto 12, 3) := by decide +kernel
theorem dX5_draw_31 : decode cX5_draw 31 = .ok (.aload_n 0, 1) := by decide +kernel
theorem dX5_draw_32 : decode cX5_draw 32 = .ok (.getfield 78, 3) := by decide +kernel
theorem dX5_draw_35 : decode cX5_draw 35 = .ok (.ldc 87, 2) := by decide +kernel
theorem dX5_draw_37 : decode cX5_draw 37 = .ok (.idiv, 1) := by decide +kernel
theorem dX5_draw_38 : decode cX5_draw 38 = .ok (.iload_n 1, 1) := by decide +kernel
theorem dX5_draw_39 : decode cX5_draw 39 = .ok (.irem, 1) := by decide +kernel
theorem dX5_draw_40 : decode cX5_draw 40 = .ok (.ireturn, 1) := by decide +kernel
theorem dX6_init_0 : decode cX6_init 0 = .ok (.aload_n 0, 1) := by decide +kernel
theorem dX6_init_1 : decode cX6_init 1 = .ok (.invokespecial 3, 3) := by decide +kernel
theorem dX6_init_4 : decode cX6_init 4 = .ok (.aload_n 0, 1) := by decide +kernel
theorem dX6_init_5 : decode cX6_init 5 = .ok (.bipush 12, 2) := by decide +kernel
theorem dX6_init_7 : decode cX6_init 7 = .ok (.newarray .int, 2) := by decide +kernel
theorem dX6_init_9 : decode cX6_init 9 = .ok (.putfield 9, 3) := by decide +kernel
theorem dX6_init_12 : decode cX6_init 12 = .ok (.aload_n 0, 1) := by decide +kernel
theorem dX6_init_13 : decode cX6_init 13 = .ok (.bipush 64, 2) := by decide +kernel
theorem dX6_init_15 : decode cX6_init 15 = .ok (.newarray .int, 2) := by decide +kernel
theorem dX6_init_17 : decode cX6_init 17 = .ok (.putfield 15, 3) := by decide +kernel
theorem dX6_init_20 : decode cX6_init 20 = .ok (.aload_n 0, 1) := by decide +kernel
theorem dX6_init_21 : decode cX6_init 21 = .ok (.iconst 0, 1) := by decide +kernel
theorem dX6_init_22 : decode cX6_init 22 = .ok (.putfield 18, 3) := by decide +kernel
theorem dX6_init_25 : decode cX6_init 25 = .ok (.return_, 1) := by decide +kernel
theorem dX6_spread_0 : decode cX6_spread 0 = .ok (.aload_n 0, 1) := by decide +kernel
theorem dX6_spread_1 : decode cX6_spread 1 = .ok (.aload_n 1, 1) := by decide +kernel
theorem dX6_spread_2 : decode cX6_spread 2 = .ok (.getfield 22, 3) := by decide +kernel
theorem dX6_spread_5 : decode cX6_spread 5 = .ok (.putfield 18, 3) := by decide +kernel
theorem dX6_spread_8 : decode cX6_spread 8 = .ok (.aload_n 0, 1) := by decide +kernel
theorem dX6_spread_9 : decode cX6_spread 9 = .ok (.getfield 15, 3) := by decide +kernel
theorem dX6_spread_12 : decode cX6_spread 12 = .ok (.ldc 25, 2) := by decide +kernel
theorem dX6_spread_14 : decode cX6_spread 14 = .ok (.invokestatic 26, 3) := by decide +kernel
theorem dX6_spread_17 : decode cX6_spread 17 = .ok (.iconst 0, 1) := by decide +kernel
theorem dX6_spread_18 : decode cX6_spread 18 = .ok (.istore_n 2, 1) := by decide +kernel
theorem dX6_spread_19 : decode cX6_spread 19 = .ok (.iload_n 2, 1) := by decide +kernel
theorem dX6_spread_20 : decode cX6_spread 20 = .ok (.aload_n 0, 1) := by decide +kernel
theorem dX6_spread_21 : decode cX6_spread 21 = .ok (.getfield 18, 3) := by decide +kernel
theorem dX6_spread_24 : decode cX6_spread 24 = .ok (.if_icmp .ge 21, 3) := by decide +kernel
theorem dX6_spread_27 : decode cX6_spread 27 = .ok (.aload_n 0, 1) := by decide +kernel
theorem dX6_spread_28 : decode cX6_spread 28 = .ok (.getfield 15, 3) := by decide +kernel
theorem dX6_spread_31 : decode cX6_spread 31 = .ok (.iload_n 2, 1) := by decide +kernel
theorem dX6_spread_32 : decode cX6_spread 32 = .ok (.bipush 8, 2) := by decide +kernel
theorem dX6_spread_34 : decode cX6_spread 34 = .ok (.imul, 1) := by decide +kernel
theorem dX6_spread_35 : decode cX6_spread 35 = .ok (.iload_n 2, 1) := by decide +kernel
theorem dX6_spread_36 : decode cX6_spread 36 = .ok (.iadd, 1) := by decide +kernel
theorem dX6_spread_37 : decode cX6_spread 37 = .ok (.iconst 0, 1) := by decide +kernel
theorem dX6_spread_38 : decode cX6_spread 38 = .ok (.iastore, 1) := by decide +kernel
theorem dX6_spread_39 : decode cX6_spread 39 = .ok (.iinc 2 1, 3) := by decide +kernel
theorem dX6_spread_42 : decode cX6_spread 42 = .ok (.goto (-23), 3) := by decide +kernel
theorem dX6_spread_45 : decode cX6_spread 45 = .ok (.iconst 0, 1) := by decide +kernel
theorem dX6_spread_46 : decode cX6_spread 46 = .ok (.istore_n 2, 1) := by decide +kernel
theorem dX6_spread_47 : decode cX6_spread 47 = .ok (.iload_n 2, 1) := by decide +kernel
theorem dX6_spread_48 : decode cX6_spread 48 = .ok (.aload_n 1, 1) := by decide +kernel
theorem dX6_spread_49 : decode cX6_spread 49 = .ok (.getfield 32, 3) := by decide +kernel
theorem dX6_spread_52 : decode cX6_spread 52 = .ok (.if_icmp .ge 63, 3) := by decide +kernel
theorem dX6_spread_55 : decode cX6_spread 55 = .ok (.aload_n 0, 1) := by decide +kernel
theorem dX6_spread_56 : decode cX6_spread 56 = .ok (.getfield 9, 3) := by decide +kernel
theorem dX6_spread_59 : decode cX6_spread 59 = .ok (.iload_n 2, 1) := by decide +kernel
theorem dX6_spread_60 : decode cX6_spread 60 = .ok (.iaload, 1) := by decide +kernel
theorem dX6_spread_61 : decode cX6_spread 61 = .ok (.iconst (-1), 1) := by decide +kernel
theorem dX6_spread_62 : decode cX6_spread 62 = .ok (.if_icmp .eq 47, 3) := by decide +kernel
theorem dX6_spread_65 : decode cX6_spread 65 = .ok (.aload_n 0, 1) := by decide +kernel
theorem dX6_spread_66 : decode cX6_spread 66 = .ok (.aload_n 1, 1) := by decide +kernel
theorem dX6_spread_67 : decode cX6_spread 67 = .ok (.getfield 35, 3) := by decide +kernel
theorem dX6_spread_70 : decode cX6_spread 70 = .ok (.iload_n 2, 1) := by decide +kernel
theorem dX6_spread_71 : decode cX6_spread 71 = .ok (.iaload, 1) := by decide +kernel
theorem dX6_spread_72 : decode cX6_spread 72 = .ok (.aload_n 1, 1) := by decide +kernel
theorem dX6_spread_73 : decode cX6_spread 73 = .ok (.getfield 38, 3) := by decide +kernel
theorem dX6_spread_76 : decode cX6_spread 76 = .ok (.iload_n 2, 1) := by decide +kernel
theorem dX6_spread_77 : decode cX6_spread 77 = .ok (.iaload, 1) := by decide +kernel
theorem dX6_spread_78 : decode cX6_spread 78 = .ok (.aload_n 0, 1) := by decide +kernel
theorem dX6_spread_79 : decode cX6_spread 79 = .ok (.getfield 9, 3) := by decide +kernel
theorem dX6_spread_82 : decode cX6_spread 82 = .ok (.iload_n 2, 1) := by decide +kernel
theorem dX6_spread_83 : decode cX6_spread 83 = .ok (.iaload, 1) := by decide +kernel
theorem dX6_spread_84 : decode cX6_spread 84 = .ok (.invokevirtual 41, 3) := by decide +kernel
theorem dX6_spread_87 : decode cX6_spread 87 = .ok (.aload_n 0, 1) := by decide +kernel
theorem dX6_spread_88 : decode cX6_spread 88 = .ok (.aload_n 1, 1) := by decide +kernel
theorem dX6_spread_89 : decode cX6_spread 89 = .ok (.getfield 38, 3) := by decide +kernel
theorem dX6_spread_92 : decode cX6_spread 92 = .ok (.iload_n 2, 1) := by decide +kernel
theorem dX6_spread_93 : decode cX6_spread 93 = .ok (.iaload, 1) := by decide +kernel
theorem dX6_spread_94 : decode cX6_spread 94 = .ok (.aload_n 1, 1) := by decide +kernel
theorem dX6_spread_95 : decode cX6_spread 95 = .ok (.getfield 35, 3) := by decide +kernel
theorem dX6_spread_98 : decode cX6_spread 98 = .ok (.iload_n 2, 1) := by decide +kernel
theorem dX6_spread_99 : decode cX6_spread 99 = .ok (.iaload, 1) := by decide +kernel
theorem dX6_spread_100 : decode cX6_spread 100 = .ok (.aload_n 0, 1) := by decide +kernel
theorem dX6_spread_101 : decode cX6_spread 101 = .ok (.getfield 9, 3) := by decide +kernel
theorem dX6_spread_104 : decode cX6_spread 104 = .ok (.iload_n 2, 1) := by decide +kernel
theorem dX6_spread_105 : decode cX6_spread 105 = .ok (.iaload, 1) := by decide +kernel
theorem dX6_spread_106 : decode cX6_spread 106 = .ok (.invokevirtual 41, 3) := by decide +kernel
theorem dX6_spread_109 : decode cX6_spread 109 = .ok (.iinc 2 1, 3) := by decide +kernel
theorem dX6_spread_112 : decode cX6_spread 112 = .ok (.goto (-65), 3) := by decide +kernel
theorem dX6_spread_115 : decode cX6_spread 115 = .ok (.iconst 0, 1) := by decide +kernel
theorem dX6_spread_116 : decode cX6_spread 116 = .ok (.istore_n 2, 1) := by decide +kernel
theorem dX6_spread_117 : decode cX6_spread 117 = .ok (.iload_n 2, 1) := by decide +kernel
theorem dX6_spread_118 : decode cX6_spread 118 = .ok (.aload_n 0, 1) := by decide +kernel
theorem dX6_spread_119 : decode cX6_spread 119 = .ok (.getfield 18, 3) := by decide +kernel
theorem dX6_spread_122 : decode cX6_spread 122 = .ok (.if_icmp .ge 14, 3) := by decide +kernel
theorem dX6_spread_125 : decode cX6_spread 125 = .ok (.aload_n 0, 1) := by decide +kernel
theorem dX6_spread_126 : decode cX6_spread 126 = .ok (.iload_n 2, 1) := by decide +kernel
theorem dX6_spread_127 : decode cX6_spread 127 = .ok (.invokevirtual 45, 3) := by decide +kernel
theorem dX6_spread_130 : decode cX6_spread 130 = .ok (.iinc 2 1, 3) := by decide +kernel
theorem dX6_spread_133 : decode cX6_spread 133 = .ok (.goto (-16), 3) := by decide +kernel
theorem dX6_spread_136 : decode cX6_spread 136 = .ok (.return_, 1) := by decide +kernel
theorem dX6_spreadBy_0 : decode cX6_spreadBy 0 = .ok (.iconst 0, 1) := by decide +kernel
theorem dX6_spreadBy_1 : decode cX6_spreadBy 1 = .ok (.istore_n 2, 1) := by decide +kernel
theorem dX6_spreadBy_2 : decode cX6_spreadBy 2 = .ok (.iload_n 2, 1) := by decide +kernel
theorem dX6_spreadBy_3 : decode cX6_spreadBy 3 = .ok (.aload_n 0, 1) := by decide +kernel
theorem dX6_spreadBy_4 : decode cX6_spreadBy 4 = .ok (.getfield 18, 3) := by decide +kernel
theorem dX6_spreadBy_7 : decode cX6_spreadBy 7 = .ok (.if_icmp .ge 66, 3) := by decide +kernel
theorem dX6_spreadBy_10 : decode cX6_spreadBy 10 = .ok (.aload_n 0, 1) := by decide +kernel
theorem dX6_spreadBy_11 : decode cX6_spreadBy 11 = .ok (.getfield 15, 3) := by decide +kernel
theorem dX6_spreadBy_14 : decode cX6_spreadBy 14 = .ok (.iload_n 2, 1) := by decide +kernel
theorem dX6_spreadBy_15 : decode cX6_spreadBy 15 = .ok (.bipush 8, 2) := by decide +kernel
theorem dX6_spreadBy_17 : decode cX6_spreadBy 17 = .ok (.imul, 1) := by decide +kernel
theorem dX6_spreadBy_18 : decode cX6_spreadBy 18 = .ok (.iload_n 1, 1) := by decide +kernel
theorem dX6_spreadBy_19 : decode cX6_spreadBy 19 = .ok (.iadd, 1) := by decide +kernel
theorem dX6_spreadBy_20 : decode cX6_spreadBy 20 = .ok (.iaload, 1) := by decide +kernel
theorem dX6_spreadBy_21 : decode cX6_spreadBy 21 = .ok (.istore_n 3, 1) := by decide +kernel
theorem dX6_spreadBy_22 : decode cX6_spreadBy 22 = .ok (.iconst 0, 1) := by decide +kernel
theorem dX6_spreadBy_23 : decode cX6_spreadBy 23 = .ok (.istore 4, 2) := by decide +kernel
theorem dX6_spreadBy_25 : decode cX6_spreadBy 25 = .ok (.iload 4, 2) := by decide +kernel
theorem dX6_spreadBy_27 : decode cX6_spreadBy 27 = .ok (.aload_n 0, 1) := by decide +kernel
theorem dX6_spreadBy_28 : decode cX6_spreadBy 28 = .ok (.getfield 18, 3) := by decide +kernel
theorem dX6_spreadBy_31 : decode cX6_spreadBy 31 = .ok (.if_icmp .ge 36, 3) := by decide +kernel
theorem dX6_spreadBy_34 : decode cX6_spreadBy 34 = .ok (.iload_n 3, 1) := by decide +kernel
theorem dX6_spreadBy_35 : decode cX6_spreadBy 35 = .ok (.ldc 25, 2) := by decide +kernel
theorem dX6_spreadBy_37 : decode cX6_spreadBy 37 = .ok (.if_icmp .ge 30, 3) := by decide +kernel
theorem dX6_spreadBy_40 : decode cX6_spreadBy 40 = .ok (.aload_n 0, 1) := by decide +kernel
theorem dX6_spreadBy_41 : decode cX6_spreadBy 41 = .ok (.iload_n 2, 1) := by decide +kernel
theorem dX6_spreadBy_42 : decode cX6_spreadBy 42 = .ok (.iload 4, 2) := by decide +kernel
theorem dX6_spreadBy_44 : decode cX6_spreadBy 44 = .ok (.iload_n 3, 1) := by decide +kernel
theorem dX6_spreadBy_45 : decode cX6_spreadBy 45 = .ok (.aload_n 0, 1) := by decide +kernel
theorem dX6_spreadBy_46 : decode cX6_spreadBy 46 = .ok (.getfield 15, 3) := by decide +kernel
theorem dX6_spreadBy_49 : decode cX6_spreadBy 49 = .ok (.iload_n 1, 1) := by decide +kernel
theorem dX6_spreadBy_50 : decode cX6_spreadBy 50 = .ok (.bipush 8, 2) := by decide +kernel
theorem dX6_spreadBy_52 : decode cX6_spreadBy 52 = .ok (.imul, 1) := by decide +kernel
theorem dX6_spreadBy_53 : decode cX6_spreadBy 53 = .ok (.iload 4, 2) := by decide +kernel
theorem dX6_spreadBy_55 : decode cX6_spreadBy 55 = .ok (.iadd, 1) := by decide +kernel
theorem dX6_spreadBy_56 : decode cX6_spreadBy 56 = .ok (.iaload, 1) := by decide +kernel
theorem dX6_spreadBy_57 : decode cX6_spreadBy 57 = .ok (.iadd, 1) := by decide +kernel
theorem dX6_spreadBy_58 : decode cX6_spreadBy 58 = .ok (.invokevirtual 41, 3) := by decide +kernel
theorem dX6_spreadBy_61 : decode cX6_spreadBy 61 = .ok (.iinc 4 1, 3) := by decide +kernel
theorem dX6_spreadBy_64 : decode cX6_spreadBy 64 = .ok (.goto (-39), 3) := by decide +kernel
theorem dX6_spreadBy_67 : decode cX6_spreadBy 67 = .ok (.iinc 2 1, 3) := by decide +kernel
theorem dX6_spreadBy_70 : decode cX6_spreadBy 70 = .ok (.goto (-68), 3) := by decide +kernel
theorem dX6_spreadBy_73 : decode cX6_spreadBy 73 = .ok (.return_, 1) := by decide +kernel
theorem dX6_shorten_0 : decode cX6_shorten 0 = .ok (.iload_n 3, 1) := by decide +kernel
theorem dX6_shorten_1 : decode cX6_shorten 1 = .ok (.aload_n 0, 1) := by decide +kernel
theorem dX6_shorten_2 : decode cX6_shorten 2 = .ok (.getfield 15, 3) := by decide +kernel
theorem dX6_shorten_5 : decode cX6_shorten 5 = .ok (.iload_n 1, 1) := by decide +kernel
theorem dX6_shorten_6 : decode cX6_shorten 6 = .ok (.bipush 8, 2) := by decide +kernel
theorem dX6_shorten_8 : decode cX6_shorten 8 = .ok (.imul, 1) := by decide +kernel
theorem dX6_shorten_9 : decode cX6_shorten 9 = .ok (.iload_n 2, 1) := by decide +kernel
theorem dX6_shorten_10 : decode cX6_shorten 10 = .ok (.iadd, 1) := by decide +kernel
theorem dX6_shorten_11 : decode cX6_shorten 11 = .ok (.iaload, 1) := by decide +kernel
theorem dX6_shorten_12 : decode cX6_shorten 12 = .ok (.if_icmp .ge 15, 3) := by decide +kernel
theorem dX6_shorten_15 : decode cX6_shorten 15 = .ok (.aload_n 0, 1) := by decide +kernel
theorem dX6_shorten_16 : decode cX6_shorten 16 = .ok (.getfield 15, 3) := by decide +kernel
theorem dX6_shorten_19 : decode cX6_shorten 19 = .ok (.iload_n 1, 1) := by decide +kernel
theorem dX6_shorten_20 : decode cX6_shorten 20 = .ok (.bipush 8, 2) := by decide +kernel
theorem dX6_shorten_22 : decode cX6_shorten 22 = .ok (.imul, 1) := by decide +kernel
theorem dX6_shorten_23 : decode cX6_shorten 23 = .ok (.iload_n 2, 1) := by decide +kernel
theorem dX6_shorten_24 : decode cX6_shorten 24 = .ok (.iadd, 1) := by decide +kernel
theorem dX6_shorten_25 : decode cX6_shorten 25 = .ok (.iload_n 3, 1) := by decide +kernel
theorem dX6_shorten_26 : decode cX6_shorten 26 = .ok (.iastore, 1) := by decide +kernel
theorem dX6_shorten_27 : decode cX6_shorten 27 = .ok (.return_, 1) := by decide +kernel
theorem dX6_between_0 : decode cX6_between 0 = .ok (.aload_n 0, 1) := by decide +kernel
theorem dX6_between_1 : decode cX6_between 1 = .ok (.getfield 15, 3) := by decide +kernel
theorem dX6_between_4 : decode cX6_between 4 = .ok (.iload_n 1, 1) := by decide +kernel
theorem dX6_between_5 : decode cX6_between 5 = .ok (.bipush 8, 2) := by decide +kernel
theorem dX6_between_7 : decode cX6_between 7 = .ok (.imul, 1) := by decide +kernel
theorem dX6_between_8 : decode cX6_between 8 = .ok (.iload_n 2, 1) := by decide +kernel
theorem dX6_between_9 : decode cX6_between 9 = .ok (.iadd, 1) := by decide +kernel
theorem dX6_between_10 : decode cX6_between 10 = .ok (.iaload, 1) := by decide +kernel
theorem dX6_between_11 : decode cX6_between 11 = .ok (.ireturn, 1) := by decide +kernel
theorem dX6_sumWith_0 : decode cX6_sumWith 0 = .ok (.iconst 0, 1) := by decide +kernel
theorem dX6_sumWith_1 : decode cX6_sumWith 1 = .ok (.istore 4, 2) := by decide +kernel
theorem dX6_sumWith_3 : decode cX6_sumWith 3 = .ok (.iconst 0, 1) := by decide +kernel
theorem dX6_sumWith_4 : decode cX6_sumWith 4 = .ok (.istore 5, 2) := by decide +kernel
theorem dX6_sumWith_6 : decode cX6_sumWith 6 = .ok (.iload 5, 2) := by decide +kernel
theorem dX6_sumWith_8 : decode cX6_sumWith 8 = .ok (.aload_n 0, 1) := by decide +kernel
theorem dX6_sumWith_9 : decode cX6_sumWith 9 = .ok (.getfield 18, 3) := by decide +kernel
theorem dX6_sumWith_12 : decode cX6_sumWith 12 = .ok (.if_icmp .ge 108, 3) := by decide +kernel
theorem dX6_sumWith_15 : decode cX6_sumWith 15 = .ok (.iload 5, 2) := by decide +kernel
theorem dX6_sumWith_17 : decode cX6_sumWith 17 = .ok (.iconst 1, 1) := by decide +kernel
theorem dX6_sumWith_18 : decode cX6_sumWith 18 = .ok (.iadd, 1) := by decide +kernel
theorem dX6_sumWith_19 : decode cX6_sumWith 19 = .ok (.istore 6, 2) := by decide +kernel
theorem dX6_sumWith_21 : decode cX6_sumWith 21 = .ok (.iload 6, 2) := by decide +kernel
theorem dX6_sumWith_23 : decode cX6_sumWith 23 = .ok (.aload_n 0, 1) := by decide +kernel
theorem dX6_sumWith_24 : decode cX6_sumWith 24 = .ok (.getfield 18, 3) := by decide +kernel
theorem dX6_sumWith_27 : decode cX6_sumWith 27 = .ok (.if_icmp .ge 87, 3) := by decide +kernel
theorem dX6_sumWith_30 : decode cX6_sumWith 30 = .ok (.aload_n 0, 1) := by decide +kernel
theorem dX6_sumWith_31 : decode cX6_sumWith 31 = .ok (.iload 5, 2) := by decide +kernel
theorem dX6_sumWith_33 : decode cX6_sumWith 33 = .ok (.iload_n 1, 1) := by decide +kernel
theorem dX6_sumWith_34 : decode cX6_sumWith 34 = .ok (.invokevirtual 49, 3) := by decide +kernel
theorem dX6_sumWith_37 : decode cX6_sumWith 37 = .ok (.iload_n 3, 1) := by decide +kernel
theorem dX6_sumWith_38 : decode cX6_sumWith 38 = .ok (.iadd, 1) := by decide +kernel
theorem dX6_sumWith_39 : decode cX6_sumWith 39 = .ok (.aload_n 0, 1) := by decide +kernel
theorem dX6_sumWith_40 : decode cX6_sumWith 40 = .ok (.iload_n 2, 1) := by decide +kernel
theorem dX6_sumWith_41 : decode cX6_sumWith 41 = .ok (.iload 6, 2) := by decide +kernel
theorem dX6_sumWith_43 : decode cX6_sumWith 43 = .ok (.invokevirtual 49, 3) := by decide +kernel
theorem dX6_sumWith_46 : decode cX6_sumWith 46 = .ok (.iadd, 1) := by decide +kernel
theorem dX6_sumWith_47 : decode cX6_sumWith 47 = .ok (.istore 7, 2) := by decide +kernel
theorem dX6_sumWith_49 : decode cX6_sumWith 49 = .ok (.aload_n 0, 1) := by decide +kernel
theorem dX6_sumWith_50 : decode cX6_sumWith 50 = .ok (.iload 5, 2) := by decide +kernel
theorem dX6_sumWith_52 : decode cX6_sumWith 52 = .ok (.iload_n 2, 1) := by decide +kernel
theorem dX6_sumWith_53 : decode cX6_sumWith 53 = .ok (.invokevirtual 49, 3) := by decide +kernel
theorem dX6_sumWith_56 : decode cX6_sumWith 56 = .ok (.iload_n 3, 1) := by decide +kernel
theorem dX6_sumWith_57 : decode cX6_sumWith 57 = .ok (.iadd, 1) := by decide +kernel
theorem dX6_sumWith_58 : decode cX6_sumWith 58 = .ok (.aload_n 0, 1) := by decide +kernel
theorem dX6_sumWith_59 : decode cX6_sumWith 59 = .ok (.iload_n 1, 1) := by decide +kernel
theorem dX6_sumWith_60 : decode cX6_sumWith 60 = .ok (.iload 6, 2) := by decide +kernel
theorem dX6_sumWith_62 : decode cX6_sumWith 62 = .ok (.invokevirtual 49, 3) := by decide +kernel
theorem dX6_sumWith_65 : decode cX6_sumWith 65 = .ok (.iadd, 1) := by decide +kernel
theorem dX6_sumWith_66 : decode cX6_sumWith 66 = .ok (.istore 8, 2) := by decide +kernel
theorem dX6_sumWith_68 : decode cX6_sumWith 68 = .ok (.aload_n 0, 1) := by decide +kernel
theorem dX6_sumWith_69 : decode cX6_sumWith 69 = .ok (.iload 5, 2) := by decide +kernel
theorem dX6_sumWith_71 : decode cX6_sumWith 71 = .ok (.iload 6, 2) := by decide +kernel
theorem dX6_sumWith_73 : decode cX6_sumWith 73 = .ok (.invokevirtual 49, 3) := by decide +kernel
theorem dX6_sumWith_76 : decode cX6_sumWith 76 = .ok (.iload 7, 2) := by decide +kernel
theorem dX6_sumWith_78 : decode cX6_sumWith 78 = .ok (.iload 8, 2) := by decide +kernel
theorem dX6_sumWith_80 : decode cX6_sumWith 80 = .ok (.invokestatic 53, 3) := by decide +kernel
theorem dX6_sumWith_83 : decode cX6_sumWith 83 = .ok (.invokestatic 53, 3) := by decide +kernel
theorem dX6_sumWith_86 : decode cX6_sumWith 86 = .ok (.istore 9, 2) := by decide +kernel
theorem dX6_sumWith_88 : decode cX6_sumWith 88 = .ok (.iload 4, 2) := by decide +kernel
theorem dX6_sumWith_90 : decode cX6_sumWith 90 = .ok (.iload 9, 2) := by decide +kernel
theorem dX6_sumWith_92 : decode cX6_sumWith 92 = .ok (.ldc 25, 2) := by decide +kernel
theorem dX6_sumWith_94 : decode cX6_sumWith 94 = .ok (.if_icmp .lt 9, 3) := by decide +kernel
theorem dX6_sumWith_97 : decode cX6_sumWith 97 = .ok (.sipush 999, 3) := by decide +kernel
theorem dX6_sumWith_100 : decode cX6_sumWith 100 = .ok (.goto 5, 3) := by decide +kernel
theorem dX6_sumWith_103 : decode cX6_sumWith 103 = .ok (.iload 9, 2) := by decide +kernel
theorem dX6_sumWith_105 : decode cX6_sumWith 105 = .ok (.iadd, 1) := by decide +kernel
theorem dX6_sumWith_106 : decode cX6_sumWith 106 = .ok (.istore 4, 2) := by decide +kernel
theorem dX6_sumWith_108 : decode cX6_sumWith 108 = .ok (.iinc 6 1, 3) := by decide +kernel
theorem dX6_sumWith_111 : decode cX6_sumWith 111 = .ok (.goto (-90), 3) := by decide +kernel
theorem dX6_sumWith_114 : decode cX6_sumWith 114 = .ok (.iinc 5 1, 3) := by decide +kernel
theorem dX6_sumWith_117 : decode cX6_sumWith 117 = .ok (.goto (-111), 3) := by decide +kernel
theorem dX6_sumWith_120 : decode cX6_sumWith 120 = .ok (.iload 4, 2) := by decide +kernel
theorem dX6_sumWith_122 : decode cX6_sumWith 122 = .ok (.ireturn, 1) := by decide +kernel
