theorem dJx00060_init_a7421_0 : decode cJx00060_init_a7421 0 = .ok (.aload_n 0, 1) := by decide +kernel
theorem dJx00060_init_a7421_1 : decode cJx00060_init_a7421 1 = .ok (.aload_n 1, 1) := by decide +kernel
theorem dJx00060_init_a7421_2 : decode cJx00060_init_a7421 2 = .ok (.invokespecial 7, 3) := by decide +kernel
theorem dJx00060_init_a7421_5 : decode cJx00060_init_a7421 5 = .ok (.return_, 1) := by decide +kernel
theorem dJxf58ca_isNaN_12338_0 : decode cJxf58ca_isNaN_12338 0 = .ok (.fload_n 0, 1) := by decide +kernel
theorem dJxf58ca_isNaN_12338_1 : decode cJxf58ca_isNaN_12338 1 = .ok (.fload_n 0, 1) := by decide +kernel
theorem dJxf58ca_isNaN_12338_2 : decode cJxf58ca_isNaN_12338 2 = .ok (.fcmp .l, 1) := by decide +kernel
theorem dJxf58ca_isNaN_12338_3 : decode cJxf58ca_isNaN_12338 3 = .ok (.ifCond .eq 7, 3) := by decide +kernel
theorem dJxf58ca_isNaN_12338_6 : decode cJxf58ca_isNaN_12338 6 = .ok (.iconst 1, 1) := by decide +kernel
theorem dJxf58ca_isNaN_12338_7 : decode cJxf58ca_isNaN_12338 7 = .ok (.goto 4, 3) := by decide +kernel
theorem dJxf58ca_isNaN_12338_10 : decode cJxf58ca_isNaN_12338 10 = .ok (.iconst 0, 1) := by decide +kernel
theorem dJxf58ca_isNaN_12338_11 : decode cJxf58ca_isNaN_12338 11 = .ok (.ireturn, 1) := by decide +kernel
theorem dJxf58ca_floatToIntBits_5c35a_0 : decode cJxf58ca_floatToIntBits_5c35a 0 = .ok (.fload_n 0, 1) := by decide +kernel
theorem dJxf58ca_floatToIntBits_5c35a_1 : decode cJxf58ca_floatToIntBits_5c35a 1 = .ok (.invokestatic 59, 3) := by decide +kernel
theorem dJxf58ca_floatToIntBits_5c35a_4 : decode cJxf58ca_floatToIntBits_5c35a 4 = .ok (.ifCond .ne 8, 3) := by decide +kernel
theorem dJxf58ca_floatToIntBits_5c35a_7 : decode cJxf58ca_floatToIntBits_5c35a 7 = .ok (.fload_n 0, 1) := by decide +kernel
theorem dJxf58ca_floatToIntBits_5c35a_8 : decode cJxf58ca_floatToIntBits_5c35a 8 = .ok (.invokestatic 74, 3) := by decide +kernel
theorem dJxf58ca_floatToIntBits_5c35a_11 : decode cJxf58ca_floatToIntBits_5c35a 11 = .ok (.ireturn, 1) := by decide +kernel
theorem dJxf58ca_floatToIntBits_5c35a_12 : decode cJxf58ca_floatToIntBits_5c35a 12 = .ok (.ldc 77, 2) := by decide +kernel
theorem dJxf58ca_floatToIntBits_5c35a_14 : decode cJxf58ca_floatToIntBits_5c35a 14 = .ok (.ireturn, 1) := by decide +kernel
theorem dJ9_min_7cf53_0 : decode cJ9_min_7cf53 0 = .ok (.iload_n 0, 1) := by decide +kernel
theorem dJ9_min_7cf53_1 : decode cJ9_min_7cf53 1 = .ok (.iload_n 1, 1) := by decide +kernel
theorem dJ9_min_7cf53_2 : decode cJ9_min_7cf53 2 = .ok (.if_icmp .gt 7, 3) := by decide +kernel
theorem dJ9_min_7cf53_5 : decode cJ9_min_7cf53 5 = .ok (.iload_n 0, 1) := by decide +kernel
theorem dJ9_min_7cf53_6 : decode cJ9_min_7cf53 6 = .ok (.goto 4, 3) := by decide +kernel
theorem dJ9_min_7cf53_9 : decode cJ9_min_7cf53 9 = .ok (.iload_n 1, 1) := by decide +kernel
theorem dJ9_min_7cf53_10 : decode cJ9_min_7cf53 10 = .ok (.ireturn, 1) := by decide +kernel
theorem dJ9_min_f86c9_0 : decode cJ9_min_f86c9 0 = .ok (.lload_n 0, 1) := by decide +kernel
theorem dJ9_min_f86c9_1 : decode cJ9_min_f86c9 1 = .ok (.lload_n 2, 1) := by decide +kernel
theorem dJ9_min_f86c9_2 : decode cJ9_min_f86c9 2 = .ok (.lcmp, 1) := by decide +kernel
theorem dJ9_min_f86c9_3 : decode cJ9_min_f86c9 3 = .ok (.ifCond .gt 7, 3) := by decide +kernel
theorem dJ9_min_f86c9_6 : decode cJ9_min_f86c9 6 = .ok (.lload_n 0, 1) := by decide +kernel
theorem dJ9_min_f86c9_7 : decode cJ9_min_f86c9 7 = .ok (.goto 4, 3) := by decide +kernel
theorem dJ9_min_f86c9_10 : decode cJ9_min_f86c9 10 = .ok (.lload_n 2, 1) := by decide +kernel
theorem dJ9_min_f86c9_11 : decode cJ9_min_f86c9 11 = .ok (.lreturn, 1) := by decide +kernel
theorem dJ0_length_8abf5_0 : decode cJ0_length_8abf5 0 = .ok (.aload_n 0, 1) := by decide +kernel
theorem dJ0_length_8abf5_1 : decode cJ0_length_8abf5 1 = .ok (.getfield 9, 3) := by decide +kernel
theorem dJ0_length_8abf5_4 : decode cJ0_length_8abf5 4 = .ok (.arraylength, 1) := by decide +kernel
theorem dJ0_length_8abf5_5 : decode cJ0_length_8abf5 5 = .ok (.aload_n 0, 1) := by decide +kernel
theorem dJ0_length_8abf5_6 : decode cJ0_length_8abf5 6 = .ok (.invokevirtual 335, 3) := by decide +kernel
theorem dJ0_length_8abf5_9 : decode cJ0_length_8abf5 9 = .ok (.ishr, 1) := by decide +kernel
theorem dJ0_length_8abf5_10 : decode cJ0_length_8abf5 10 = .ok (.ireturn, 1) := by decide +kernel
theorem dJ0_charAt_5068e_0 : decode cJ0_charAt_5068e 0 = .ok (.aload_n 0, 1) := by decide +kernel
theorem dJ0_charAt_5068e_1 : decode cJ0_charAt_5068e 1 = .ok (.invokevirtual 492, 3) := by decide +kernel
theorem dJ0_charAt_5068e_4 : decode cJ0_charAt_5068e 4 = .ok (.ifCond .eq 12, 3) := by decide +kernel
theorem dJ0_charAt_5068e_7 : decode cJ0_charAt_5068e 7 = .ok (.aload_n 0, 1) := by decide +kernel
theorem dJ0_charAt_5068e_8 : decode cJ0_charAt_5068e 8 = .ok (.getfield 9, 3) := by decide +kernel
theorem dJ0_charAt_5068e_11 : decode cJ0_charAt_5068e 11 = .ok (.iload_n 1, 1) := by decide +kernel
theorem dJ0_charAt_5068e_12 : decode cJ0_charAt_5068e 12 = .ok (.invokestatic 495, 3) := by decide +kernel
theorem dJ0_charAt_5068e_15 : decode cJ0_charAt_5068e 15 = .ok (.ireturn, 1) := by decide +kernel
theorem dJ0_charAt_5068e_16 : decode cJ0_charAt_5068e 16 = .ok (.aload_n 0, 1) := by decide +kernel
theorem dJ0_charAt_5068e_17 : decode cJ0_charAt_5068e 17 = .ok (.getfield 9, 3) := by decide +kernel
theorem dJ0_charAt_5068e_20 : decode cJ0_charAt_5068e 20 = .ok (.iload_n 1, 1) := by decide +kernel
theorem dJ0_charAt_5068e_21 : decode cJ0_charAt_5068e 21 = .ok (.invokestatic 498, 3) := by decide +kernel
theorem dJ0_charAt_5068e_24 : decode cJ0_charAt_5068e 24 = .ok (.ireturn, 1) := by decide +kernel
theorem dJ0_coder_7d493_0 : decode cJ0_coder_7d493 0 = .ok (.getstatic 38, 3) := by decide +kernel
theorem dJ0_coder_7d493_3 : decode cJ0_coder_7d493 3 = .ok (.ifCond .eq 10, 3) := by decide +kernel
theorem dJ0_coder_7d493_6 : decode cJ0_coder_7d493 6 = .ok (.aload_n 0, 1) := by decide +kernel
theorem dJ0_coder_7d493_7 : decode cJ0_coder_7d493 7 = .ok (.getfield 15, 3) := by decide +kernel
theorem dJ0_coder_7d493_10 : decode cJ0_coder_7d493 10 = .ok (.goto 4, 3) := by decide +kernel
theorem dJ0_coder_7d493_13 : decode cJ0_coder_7d493 13 = .ok (.iconst 1, 1) := by decide +kernel
theorem dJ0_coder_7d493_14 : decode cJ0_coder_7d493 14 = .ok (.ireturn, 1) := by decide +kernel
theorem dJ0_isLatin1_aae02_0 : decode cJ0_isLatin1_aae02 0 = .ok (.getstatic 38, 3) := by decide +kernel
theorem dJ0_isLatin1_aae02_3 : decode cJ0_isLatin1_aae02 3 = .ok (.ifCond .eq 14, 3) := by decide +kernel
theorem dJ0_isLatin1_aae02_6 : decode cJ0_isLatin1_aae02 6 = .ok (.aload_n 0, 1) := by decide +kernel
theorem dJ0_isLatin1_aae02_7 : decode cJ0_isLatin1_aae02 7 = .ok (.getfield 15, 3) := by decide +kernel
theorem dJ0_isLatin1_aae02_10 : decode cJ0_isLatin1_aae02 10 = .ok (.ifCond .ne 7, 3) := by decide +kernel
theorem dJ0_isLatin1_aae02_13 : decode cJ0_isLatin1_aae02 13 = .ok (.iconst 1, 1) := by decide +kernel
theorem dJ0_isLatin1_aae02_14 : decode cJ0_isLatin1_aae02 14 = .ok (.goto 4, 3) := by decide +kernel
theorem dJ0_isLatin1_aae02_17 : decode cJ0_isLatin1_aae02 17 = .ok (.iconst 0, 1) := by decide +kernel
theorem dJ0_isLatin1_aae02_18 : decode cJ0_isLatin1_aae02 18 = .ok (.ireturn, 1) := by decide +kernel
theorem dJ0_checkIndex_df160_0 : decode cJ0_checkIndex_df160 0 = .ok (.iload_n 0, 1) := by decide +kernel
theorem dJ0_checkIndex_df160_1 : decode cJ0_checkIndex_df160 1 = .ok (.iload_n 1, 1) := by decide +kernel
theorem dJ0_checkIndex_df160_2 : decode cJ0_checkIndex_df160 2 = .ok (.getstatic 1053, 3) := by decide +kernel
theorem dJ0_checkIndex_df160_5 : decode cJ0_checkIndex_df160 5 = .ok (.invokestatic 1059, 3) := by decide +kernel
theorem dJ0_checkIndex_df160_8 : decode cJ0_checkIndex_df160 8 = .ok (.pop, 1) := by decide +kernel
theorem dJ0_checkIndex_df160_9 : decode cJ0_checkIndex_df160 9 = .ok (.return_, 1) := by decide +kernel
theorem dJ1_charAt_3b067_0 : decode cJ1_charAt_3b067 0 = .ok (.iload_n 1, 1) := by decide +kernel
theorem dJ1_charAt_3b067_1 : decode cJ1_charAt_3b067 1 = .ok (.aload_n 0, 1) := by decide +kernel
theorem dJ1_charAt_3b067_2 : decode cJ1_charAt_3b067 2 = .ok (.arraylength, 1) := by decide +kernel
theorem dJ1_charAt_3b067_3 : decode cJ1_charAt_3b067 3 = .ok (.invokestatic 9, 3) := by decide +kernel
theorem dJ1_charAt_3b067_6 : decode cJ1_charAt_3b067 6 = .ok (.aload_n 0, 1) := by decide +kernel
theorem dJ1_charAt_3b067_7 : decode cJ1_charAt_3b067 7 = .ok (.iload_n 1, 1) := by decide +kernel
theorem dJ1_charAt_3b067_8 : decode cJ1_charAt_3b067 8 = .ok (.baload, 1) := by decide +kernel
theorem dJ1_charAt_3b067_9 : decode cJ1_charAt_3b067 9 = .ok (.sipush 255, 3) := by decide +kernel
theorem dJ1_charAt_3b067_12 : decode cJ1_charAt_3b067 12 = .ok (.iand, 1) := by decide +kernel
theorem dJ1_charAt_3b067_13 : decode cJ1_charAt_3b067 13 = .ok (.i2c, 1) := by decide +kernel
theorem dJ1_charAt_3b067_14 : decode cJ1_charAt_3b067 14 = .ok (.ireturn, 1) := by decide +kernel
theorem dJ2_getChar_3b067_0 : decode cJ2_getChar_3b067 0 = .ok (.getstatic 44, 3) := by decide +kernel
theorem dJ2_getChar_3b067_3 : decode cJ2_getChar_3b067 3 = .ok (.ifCond .ne 25, 3) := by decide +kernel
theorem dJ2_getChar_3b067_6 : decode cJ2_getChar_3b067 6 = .ok (.iload_n 1, 1) := by decide +kernel
theorem dJ2_getChar_3b067_7 : decode cJ2_getChar_3b067 7 = .ok (.ifCond .lt 11, 3) := by decide +kernel
theorem dJ2_getChar_3b067_10 : decode cJ2_getChar_3b067 10 = .ok (.iload_n 1, 1) := by decide +kernel
theorem dJ2_getChar_3b067_11 : decode cJ2_getChar_3b067 11 = .ok (.aload_n 0, 1) := by decide +kernel
theorem dJ2_getChar_3b067_12 : decode cJ2_getChar_3b067 12 = .ok (.invokestatic 48, 3) := by decide +kernel
theorem dJ2_getChar_3b067_15 : decode cJ2_getChar_3b067 15 = .ok (.if_icmp .lt 13, 3) := by decide +kernel
theorem dJ2_getChar_3b067_18 : decode cJ2_getChar_3b067 18 = .ok (.new 52, 3) := by decide +kernel
theorem dJ2_getChar_3b067_21 : decode cJ2_getChar_3b067 21 = .ok (.dup, 1) := by decide +kernel
theorem dJ2_getChar_3b067_22 : decode cJ2_getChar_3b067 22 = .ok (.ldc 54, 2) := by decide +kernel
theorem dJ2_getChar_3b067_24 : decode cJ2_getChar_3b067 24 = .ok (.invokespecial 56, 3) := by decide +kernel
theorem dJ2_getChar_3b067_27 : decode cJ2_getChar_3b067 27 = .ok (.athrow, 1) := by decide +kernel
theorem dJ2_getChar_3b067_28 : decode cJ2_getChar_3b067 28 = .ok (.iload_n 1, 1) := by decide +kernel
theorem dJ2_getChar_3b067_29 : decode cJ2_getChar_3b067 29 = .ok (.iconst 1, 1) := by decide +kernel
theorem dJ2_getChar_3b067_30 : decode cJ2_getChar_3b067 30 = .ok (.ishl, 1) := by decide +kernel
theorem dJ2_getChar_3b067_31 : decode cJ2_getChar_3b067 31 = .ok (.istore_n 1, 1) := by decide +kernel
theorem dJ2_getChar_3b067_32 : decode cJ2_getChar_3b067 32 = .ok (.aload_n 0, 1) := by decide +kernel
theorem dJ2_getChar_3b067_33 : decode cJ2_getChar_3b067 33 = .ok (.iload_n 1, 1) := by decide +kernel
theorem dJ2_getChar_3b067_34 : decode cJ2_getChar_3b067 34 = .ok (.iinc 1 1, 3) := by decide +kernel
theorem dJ2_getChar_3b067_37 : decode cJ2_getChar_3b067 37 = .ok (.baload, 1) := by decide +kernel
theorem dJ2_getChar_3b067_38 : decode cJ2_getChar_3b067 38 = .ok (.sipush 255, 3) := by decide +kernel
theorem dJ2_getChar_3b067_41 : decode cJ2_getChar_3b067 41 = .ok (.iand, 1) := by decide +kernel
theorem dJ2_getChar_3b067_42 : decode cJ2_getChar_3b067 42 = .ok (.getstatic 59, 3) := by decide +kernel
theorem dJ2_getChar_3b067_45 : decode cJ2_getChar_3b067 45 = .ok (.ishl, 1) := by decide +kernel
theorem dJ2_getChar_3b067_46 : decode cJ2_getChar_3b067 46 = .ok (.aload_n 0, 1) := by decide +kernel
theorem dJ2_getChar_3b067_47 : decode cJ2_getChar_3b067 47 = .ok (.iload_n 1, 1) := by decide +kernel
theorem dJ2_getChar_3b067_48 : decode cJ2_getChar_3b067 48 = .ok (.baload, 1) := by decide +kernel
theorem dJ2_getChar_3b067_49 : decode cJ2_getChar_3b067 49 = .ok (.sipush 255, 3) := by decide +kernel
theorem dJ2_getChar_3b067_52 : decode cJ2_getChar_3b067 52 = .ok (.iand, 1) := by decide +kernel
theorem dJ2_getChar_3b067_53 : decode cJ2_getChar_3b067 53 = .ok (.getstatic 63, 3) := by decide +kernel
theorem dJ2_getChar_3b067_56 : decode cJ2_getChar_3b067 56 = .ok (.ishl, 1) := by decide +kernel
theorem dJ2_getChar_3b067_57 : decode cJ2_getChar_3b067 57 = .ok (.ior, 1) := by decide +kernel
theorem dJ2_getChar_3b067_58 : decode cJ2_getChar_3b067 58 = .ok (.i2c, 1) := by decide +kernel
theorem dJ2_getChar_3b067_59 : decode cJ2_getChar_3b067 59 = .ok (.ireturn, 1) := by decide +kernel
theorem dJ2_length_9d52b_0 : decode cJ2_length_9d52b 0 = .ok (.aload_n 0, 1) := by decide +kernel
theorem dJ2_length_9d52b_1 : decode cJ2_length_9d52b 1 = .ok (.arraylength, 1) := by decide +kernel
theorem dJ2_length_9d52b_2 : decode cJ2_length_9d52b 2 = .ok (.iconst 1, 1) := by decide +kernel
theorem dJ2_length_9d52b_3 : decode cJ2_length_9d52b 3 = .ok (.ishr, 1) := by decide +kernel
theorem dJ2_length_9d52b_4 : decode cJ2_length_9d52b 4 = .ok (.ireturn, 1) := by decide +kernel
theorem dJ2_charAt_3b067_0 : decode cJ2_charAt_3b067 0 = .ok (.iload_n 1, 1) := by decide +kernel
theorem dJ2_charAt_3b067_1 : decode cJ2_charAt_3b067 1 = .ok (.aload_n 0, 1) := by decide +kernel
theorem dJ2_charAt_3b067_2 : decode cJ2_charAt_3b067 2 = .ok (.invokestatic 67, 3) := by decide +kernel
theorem dJ2_charAt_3b067_5 : decode cJ2_charAt_3b067 5 = .ok (.aload_n 0, 1) := by decide +kernel
theorem dJ2_charAt_3b067_6 : decode cJ2_charAt_3b067 6 = .ok (.iload_n 1, 1) := by decide +kernel
theorem dJ2_charAt_3b067_7 : decode cJ2_charAt_3b067 7 = .ok (.invokestatic 71, 3) := by decide +kernel
theorem dJ2_charAt_3b067_10 : decode cJ2_charAt_3b067 10 = .ok (.ireturn, 1) := by decide +kernel
theorem dJ2_checkIndex_2214a_0 : decode cJ2_checkIndex_2214a 0 = .ok (.iload_n 0, 1) := by decide +kernel
theorem dJ2_checkIndex_2214a_1 : decode cJ2_checkIndex_2214a 1 = .ok (.aload_n 1, 1) := by decide +kernel
theorem dJ2_checkIndex_2214a_2 : decode cJ2_checkIndex_2214a 2 = .ok (.invokestatic 48, 3) := by decide +kernel
theorem dJ2_checkIndex_2214a_5 : decode cJ2_checkIndex_2214a 5 = .ok (.invokestatic 414, 3) := by decide +kernel
theorem dJ2_checkIndex_2214a_8 : decode cJ2_checkIndex_2214a 8 = .ok (.return_, 1) := by decide +kernel
theorem dJ7_fill_53178_0 : decode cJ7_fill_53178 0 = .ok (.iconst 0, 1) := by decide +kernel
theorem dJ7_fill_53178_1 : decode cJ7_fill_53178 1 = .ok (.istore_n 2, 1) := by decide +kernel
theorem dJ7_fill_53178_2 : decode cJ7_fill_53178 2 = .ok (.aload_n 0, 1) := by decide +kernel
theorem dJ7_fill_53178_3 : decode cJ7_fill_53178 3 = .ok (.arraylength, 1) := by decide +kernel
theorem dJ7_fill_53178_4 : decode cJ7_fill_53178 4 = .ok (.istore_n 3, 1) := by decide +kernel
theorem dJ7_fill_53178_5 : decode cJ7_fill_53178 5 = .ok (.iload_n 2, 1) := by decide +kernel
theorem dJ7_fill_53178_6 : decode cJ7_fill_53178 6 = .ok (.iload_n 3, 1) := by decide +kernel
theorem dJ7_fill_53178_7 : decode cJ7_fill_53178 7 = .ok (.if_icmp .ge 13, 3) := by decide +kernel
theorem dJ7_fill_53178_10 : decode cJ7_fill_53178 10 = .ok (.aload_n 0, 1) := by decide +kernel
theorem dJ7_fill_53178_11 : decode cJ7_fill_53178 11 = .ok (.iload_n 2, 1) := by decide +kernel
theorem dJ7_fill_53178_12 : decode cJ7_fill_53178 12 = .ok (.iload_n 1, 1) := by decide +kernel
theorem dJ7_fill_53178_13 : decode cJ7_fill_53178 13 = .ok (.iastore, 1) := by decide +kernel
theorem dJ7_fill_53178_14 : decode cJ7_fill_53178 14 = .ok (.iinc 2 1, 3) := by decide +kernel
theorem dJ7_fill_53178_17 : decode cJ7_fill_53178 17 = .ok (.goto (-12), 3) := by decide +kernel
theorem dJ7_fill_53178_20 : decode cJ7_fill_53178 20 = .ok (.return_, 1) := by decide +kernel
theorem dJ3_checkIndex_8e157_0 : decode cJ3_checkIndex_8e157 0 = .ok (.iload_n 0, 1) := by decide +kernel
theorem dJ3_checkIndex_8e157_1 : decode cJ3_checkIndex_8e157 1 = .ok (.ifCond .lt 8, 3) := by decide +kernel
theorem dJ3_checkIndex_8e157_4 : decode cJ3_checkIndex_8e157 4 = .ok (.iload_n 0, 1) := by decide +kernel
theorem dJ3_checkIndex_8e157_5 : decode cJ3_checkIndex_8e157 5 = .ok (.iload_n 1, 1) := by decide +kernel
theorem dJ3_checkIndex_8e157_6 : decode cJ3_checkIndex_8e157 6 = .ok (.if_icmp .lt 10, 3) := by decide +kernel
theorem dJ3_checkIndex_8e157_9 : decode cJ3_checkIndex_8e157 9 = .ok (.aload_n 2, 1) := by decide +kernel
theorem dJ3_checkIndex_8e157_10 : decode cJ3_checkIndex_8e157 10 = .ok (.iload_n 0, 1) := by decide +kernel
theorem dJ3_checkIndex_8e157_11 : decode cJ3_checkIndex_8e157 11 = .ok (.iload_n 1, 1) := by decide +kernel
theorem dJ3_checkIndex_8e157_12 : decode cJ3_checkIndex_8e157 12 = .ok (.invokestatic 95, 3) := by decide +kernel
theorem dJ3_checkIndex_8e157_15 : decode cJ3_checkIndex_8e157 15 = .ok (.athrow, 1) := by decide +kernel
theorem dJ3_checkIndex_8e157_16 : decode cJ3_checkIndex_8e157 16 = .ok (.iload_n 0, 1) := by decide +kernel
theorem dJ3_checkIndex_8e157_17 : decode cJ3_checkIndex_8e157 17 = .ok (.ireturn, 1) := by decide +kernel
theorem dX0_ofFloat_0 : decode cX0_ofFloat 0 = .ok (.fload_n 0, 1) := by decide +kernel
theorem dX0_ofFloat_1 : decode cX0_ofFloat 1 = .ok (.fconst 0, 1) := by decide +kernel
theorem dX0_ofFloat_2 : decode cX0_ofFloat 2 = .ok (.fcmp .g, 1) := by decide +kernel
theorem dX0_ofFloat_3 : decode cX0_ofFloat 3 = .ok (.ifCond .gt 5, 3) := by decide +kernel
theorem dX0_ofFloat_6 : decode cX0_ofFloat 6 = .ok (.iconst 0, 1) := by decide +kernel
theorem dX0_ofFloat_7 : decode cX0_ofFloat 7 = .ok (.ireturn, 1) := by decide +kernel
theorem dX0_ofFloat_8 : decode cX0_ofFloat 8 = .ok (.fload_n 0, 1) := by decide +kernel
theorem dX0_ofFloat_9 : decode cX0_ofFloat 9 = .ok (.fstore_n 1, 1) := by decide +kernel
theorem dX0_ofFloat_10 : decode cX0_ofFloat 10 = .ok (.bipush 127, 2) := by decide +kernel
theorem dX0_ofFloat_12 : decode cX0_ofFloat 12 = .ok (.istore_n 2, 1) := by decide +kernel
theorem dX0_ofFloat_13 : decode cX0_ofFloat 13 = .ok (.iload_n 2, 1) := by decide +kernel
theorem dX0_ofFloat_14 : decode cX0_ofFloat 14 = .ok (.sipush 254, 3) := by decide +kernel
theorem dX0_ofFloat_17 : decode cX0_ofFloat 17 = .ok (.if_icmp .ge 20, 3) := by decide +kernel
theorem dX0_ofFloat_20 : decode cX0_ofFloat 20 = .ok (.fload_n 1, 1) := by decide +kernel
theorem dX0_ofFloat_21 : decode cX0_ofFloat 21 = .ok (.fconst 2, 1) := by decide +kernel
theorem dX0_ofFloat_22 : decode cX0_ofFloat 22 = .ok (.fcmp .l, 1) := by decide +kernel
theorem dX0_ofFloat_23 : decode cX0_ofFloat 23 = .ok (.ifCond .lt 14, 3) := by decide +kernel
theorem dX0_ofFloat_26 : decode cX0_ofFloat 26 = .ok (.fload_n 1, 1) := by decide +kernel
theorem dX0_ofFloat_27 : decode cX0_ofFloat 27 = .ok (.ldc 7, 2) := by decide +kernel
theorem dX0_ofFloat_29 : decode cX0_ofFloat 29 = .ok (.fmul, 1) := by decide +kernel
theorem dX0_ofFloat_30 : decode cX0_ofFloat 30 = .ok (.fstore_n 1, 1) := by decide +kernel
theorem dX0_ofFloat_31 : decode cX0_ofFloat 31 = .ok (.iinc 2 1, 3) := by decide +kernel
theorem dX0_ofFloat_34 : decode cX0_ofFloat 34 = .ok (.goto (-21), 3) := by decide +kernel
theorem dX0_ofFloat_37 : decode cX0_ofFloat 37 = .ok (.iload_n 2, 1) := by decide +kernel
theorem dX0_ofFloat_38 : decode cX0_ofFloat 38 = .ok (.iconst 1, 1) := by decide +kernel
theorem dX0_ofFloat_39 : decode cX0_ofFloat 39 = .ok (.if_icmp .le 19, 3) := by decide +kernel
theorem dX0_ofFloat_42 : decode cX0_ofFloat 42 = .ok (.fload_n 1, 1) := by decide +kernel
theorem dX0_ofFloat_43 : decode cX0_ofFloat 43 = .ok (.fconst 1, 1) := by decide +kernel
theorem dX0_ofFloat_44 : decode cX0_ofFloat 44 = .ok (.fcmp .g, 1) := by decide +kernel
theorem dX0_ofFloat_45 : decode cX0_ofFloat 45 = .ok (.ifCond .ge 13, 3) := by decide +kernel
theorem dX0_ofFloat_48 : decode cX0_ofFloat 48 = .ok (.fload_n 1, 1) := by decide +kernel
theorem dX0_ofFloat_49 : decode cX0_ofFloat 49 = .ok (.fconst 2, 1) := by decide +kernel
theorem dX0_ofFloat_50 : decode cX0_ofFloat 50 = .ok (.fmul, 1) := by decide +kernel
theorem dX0_ofFloat_51 : decode cX0_ofFloat 51 = .ok (.fstore_n 1, 1) := by decide +kernel
theorem dX0_ofFloat_52 : decode cX0_ofFloat 52 = .ok (.iinc 2 (-1), 3) := by decide +kernel
theorem dX0_ofFloat_55 : decode cX0_ofFloat 55 = .ok (.goto (-18), 3) := by decide +kernel
theorem dX0_ofFloat_58 : decode cX0_ofFloat 58 = .ok (.iload_n 2, 1) := by decide +kernel
theorem dX0_ofFloat_59 : decode cX0_ofFloat 59 = .ok (.bipush 23, 2) := by decide +kernel
theorem dX0_ofFloat_61 : decode cX0_ofFloat 61 = .ok (.ishl, 1) := by decide +kernel
theorem dX0_ofFloat_62 : decode cX0_ofFloat 62 = .ok (.fload_n 1, 1) := by decide +kernel
theorem dX0_ofFloat_63 : decode cX0_ofFloat 63 = .ok (.fconst 1, 1) := by decide +kernel
theorem dX0_ofFloat_64 : decode cX0_ofFloat 64 = .ok (.fsub, 1) := by decide +kernel
theorem dX0_ofFloat_65 : decode cX0_ofFloat 65 = .ok (.ldc 8, 2) := by decide +kernel
theorem dX0_ofFloat_67 : decode cX0_ofFloat 67 = .ok (.fmul, 1) := by decide +kernel
theorem dX0_ofFloat_68 : decode cX0_ofFloat 68 = .ok (.f2i, 1) := by decide +kernel
theorem dX0_ofFloat_69 : decode cX0_ofFloat 69 = .ok (.iadd, 1) := by decide +kernel
theorem dX0_ofFloat_70 : decode cX0_ofFloat 70 = .ok (.ireturn, 1) := by decide +kernel
theorem dX1_init_0 : decode cX1_init 0 = .ok (.aload_n 0, 1) := by decide +kernel
theorem dX1_init_1 : decode cX1_init 1 = .ok (.invokespecial 3, 3) := by decide +kernel
theorem dX1_init_4 : decode cX1_init 4 = .ok (.aload_n 0, 1) := by decide +kernel
theorem dX1_init_5 : decode cX1_init 5 = .ok (.new 9, 3) := by decide +kernel
theorem dX1_init_8 : decode cX1_init 8 = .ok (.dup, 1) := by decide +kernel
theorem dX1_init_9 : decode cX1_init 9 = .ok (.invokespecial 11, 3) := by decide +kernel
theorem dX1_init_12 : decode cX1_init 12 = .ok (.putfield 12, 3) := by decide +kernel
theorem dX1_init_15 : decode cX1_init 15 = .ok (.aload_n 0, 1) := by decide +kernel
theorem dX1_init_16 : decode cX1_init 16 = .ok (.iconst 0, 1) := by decide +kernel
theorem dX1_init_17 : decode cX1_init 17 = .ok (.putfield 18, 3) := by decide +kernel
theorem dX1_init_20 : decode cX1_init 20 = .ok (.return_, 1) := by decide +kernel
theorem dX1_refuse_0 : decode cX1_refuse 0 = .ok (.aload_n 0, 1) := by decide +kernel
theorem dX1_refuse_1 : decode cX1_refuse 1 = .ok (.iload_n 1, 1) := by decide +kernel
theorem dX1_refuse_2 : decode cX1_refuse 2 = .ok (.putfield 18, 3) := by decide +kernel
theorem dX1_refuse_5 : decode cX1_refuse 5 = .ok (.aload_n 0, 1) := by decide +kernel
theorem dX1_refuse_6 : decode cX1_refuse 6 = .ok (.iload_n 2, 1) := by decide +kernel
theorem dX1_refuse_7 : decode cX1_refuse 7 = .ok (.putfield 22, 3) := by decide +kernel
theorem dX1_refuse_10 : decode cX1_refuse 10 = .ok (.iload_n 1, 1) := by decide +kernel
theorem dX1_refuse_11 : decode cX1_refuse 11 = .ok (.ireturn, 1) := by decide +kernel
theorem dX1_mayAddCrayon_0 : decode cX1_mayAddCrayon 0 = .ok (.iload_n 1, 1) := by decide +kernel
theorem dX1_mayAddCrayon_1 : decode cX1_mayAddCrayon 1 = .ok (.bipush 10, 2) := by decide +kernel
theorem dX1_mayAddCrayon_3 : decode cX1_mayAddCrayon 3 = .ok (.bipush 120, 2) := by decide +kernel
theorem dX1_mayAddCrayon_5 : decode cX1_mayAddCrayon 5 = .ok (.invokestatic 25, 3) := by decide +kernel
theorem dX1_mayAddCrayon_8 : decode cX1_mayAddCrayon 8 = .ok (.ifCond .ne 6, 3) := by decide +kernel
theorem dX1_mayAddCrayon_11 : decode cX1_mayAddCrayon 11 = .ok (.bipush (-2), 2) := by decide +kernel
theorem dX1_mayAddCrayon_13 : decode cX1_mayAddCrayon 13 = .ok (.ireturn, 1) := by decide +kernel
theorem dX1_mayAddCrayon_14 : decode cX1_mayAddCrayon 14 = .ok (.aload_n 0, 1) := by decide +kernel
theorem dX1_mayAddCrayon_15 : decode cX1_mayAddCrayon 15 = .ok (.getfield 12, 3) := by decide +kernel
theorem dX1_mayAddCrayon_18 : decode cX1_mayAddCrayon 18 = .ok (.getfield 29, 3) := by decide +kernel
theorem dX1_mayAddCrayon_21 : decode cX1_mayAddCrayon 21 = .ok (.getfield 33, 3) := by decide +kernel
theorem dX1_mayAddCrayon_24 : decode cX1_mayAddCrayon 24 = .ok (.bipush 8, 2) := by decide +kernel
theorem dX1_mayAddCrayon_26 : decode cX1_mayAddCrayon 26 = .ok (.if_icmp .lt 13, 3) := by decide +kernel
theorem dX1_mayAddCrayon_29 : decode cX1_mayAddCrayon 29 = .ok (.aload_n 0, 1) := by decide +kernel
theorem dX1_mayAddCrayon_30 : decode cX1_mayAddCrayon 30 = .ok (.iconst 1, 1) := by decide +kernel
theorem dX1_mayAddCrayon_31 : decode cX1_mayAddCrayon 31 = .ok (.bipush 8, 2) := by decide +kernel
theorem dX1_mayAddCrayon_33 : decode cX1_mayAddCrayon 33 = .ok (.invokevirtual 38, 3) := by decide +kernel
theorem dX1_mayAddCrayon_36 : decode cX1_mayAddCrayon 36 = .ok (.goto 4, 3) := by decide +kernel
theorem dX1_mayAddCrayon_39 : decode cX1_mayAddCrayon 39 = .ok (.iconst 0, 1) := by decide +kernel
theorem dX1_mayAddCrayon_40 : decode cX1_mayAddCrayon 40 = .ok (.ireturn, 1) := by decide +kernel
theorem dX1_mayCut_0 : decode cX1_mayCut 0 = .ok (.aload_n 0, 1) := by decide +kernel
theorem dX1_mayCut_1 : decode cX1_mayCut 1 = .ok (.getfield 12, 3) := by decide +kernel
theorem dX1_mayCut_4 : decode cX1_mayCut 4 = .ok (.getfield 29, 3) := by decide +kernel
theorem dX1_mayCut_7 : decode cX1_mayCut 7 = .ok (.getfield 42, 3) := by decide +kernel
theorem dX1_mayCut_10 : decode cX1_mayCut 10 = .ok (.iconst 5, 1) := by decide +kernel
theorem dX1_mayCut_11 : decode cX1_mayCut 11 = .ok (.if_icmp .lt 12, 3) := by decide +kernel
theorem dX1_mayCut_14 : decode cX1_mayCut 14 = .ok (.aload_n 0, 1) := by decide +kernel
theorem dX1_mayCut_15 : decode cX1_mayCut 15 = .ok (.iconst 1, 1) := by decide +kernel
theorem dX1_mayCut_16 : decode cX1_mayCut 16 = .ok (.iconst 5, 1) := by decide +kernel
theorem dX1_mayCut_17 : decode cX1_mayCut 17 = .ok (.invokevirtual 38, 3) := by decide +kernel
theorem dX1_mayCut_20 : decode cX1_mayCut 20 = .ok (.goto 4, 3) := by decide +kernel
theorem dX1_mayCut_23 : decode cX1_mayCut 23 = .ok (.iconst 0, 1) := by decide +kernel
theorem dX1_mayCut_24 : decode cX1_mayCut 24 = .ok (.ireturn, 1) := by decide +kernel
theorem dX1_mayMake_0 : decode cX1_mayMake 0 = .ok (.aload_n 0, 1) := by decide +kernel
theorem dX1_mayMake_1 : decode cX1_mayMake 1 = .ok (.getfield 12, 3) := by decide +kernel
theorem dX1_mayMake_4 : decode cX1_mayMake 4 = .ok (.getfield 45, 3) := by decide +kernel
theorem dX1_mayMake_7 : decode cX1_mayMake 7 = .ok (.getfield 49, 3) := by decide +kernel
theorem dX1_mayMake_10 : decode cX1_mayMake 10 = .ok (.bipush 20, 2) := by decide +kernel
theorem dX1_mayMake_12 : decode cX1_mayMake 12 = .ok (.if_icmp .lt 11, 3) := by decide +kernel
theorem dX1_mayMake_15 : decode cX1_mayMake 15 = .ok (.aload_n 0, 1) := by decide +kernel
theorem dX1_mayMake_16 : decode cX1_mayMake 16 = .ok (.iconst 1, 1) := by decide +kernel
theorem dX1_mayMake_17 : decode cX1_mayMake 17 = .ok (.bipush 20, 2) := by decide +kernel
theorem dX1_mayMake_19 : decode cX1_mayMake 19 = .ok (.invokevirtual 38, 3) := by decide +kernel
theorem dX1_mayMake_22 : decode cX1_mayMake 22 = .ok (.ireturn, 1) := by decide +kernel
theorem dX1_mayMake_23 : decode cX1_mayMake 23 = .ok (.iload_n 1, 1) := by decide +kernel
theorem dX1_mayMake_24 : decode cX1_mayMake 24 = .ok (.iload_n 2, 1) := by decide +kernel
theorem dX1_mayMake_25 : decode cX1_mayMake 25 = .ok (.if_icmp .ne 12, 3) := by decide +kernel
theorem dX1_mayMake_28 : decode cX1_mayMake 28 = .ok (.aload_n 0, 1) := by decide +kernel
theorem dX1_mayMake_29 : decode cX1_mayMake 29 = .ok (.iconst 2, 1) := by decide +kernel
theorem dX1_mayMake_30 : decode cX1_mayMake 30 = .ok (.iload_n 1, 1) := by decide +kernel
theorem dX1_mayMake_31 : decode cX1_mayMake 31 = .ok (.invokevirtual 38, 3) := by decide +kernel
theorem dX1_mayMake_34 : decode cX1_mayMake 34 = .ok (.goto 4, 3) := by decide +kernel
theorem dX1_mayMake_37 : decode cX1_mayMake 37 = .ok (.iconst 0, 1) := by decide +kernel
theorem dX1_mayMake_38 : decode cX1_mayMake 38 = .ok (.ireturn, 1) := by decide +kernel
theorem dX1_mayWrite_0 : decode cX1_mayWrite 0 = .ok (.iload_n 1, 1) := by decide +kernel
theorem dX1_mayWrite_1 : decode cX1_mayWrite 1 = .ok (.invokestatic 54, 3) := by decide +kernel
theorem dX1_mayWrite_4 : decode cX1_mayWrite 4 = .ok (.ifCond .eq 25, 3) := by decide +kernel
theorem dX1_mayWrite_7 : decode cX1_mayWrite 7 = .ok (.iload_n 2, 1) := by decide +kernel
theorem dX1_mayWrite_8 : decode cX1_mayWrite 8 = .ok (.invokestatic 54, 3) := by decide +kernel
theorem dX1_mayWrite_11 : decode cX1_mayWrite 11 = .ok (.ifCond .eq 18, 3) := by decide +kernel
theorem dX1_mayWrite_14 : decode cX1_mayWrite 14 = .ok (.aload_n 0, 1) := by decide +kernel
theorem dX1_mayWrite_15 : decode cX1_mayWrite 15 = .ok (.getfield 12, 3) := by decide +kernel
theorem dX1_mayWrite_18 : decode cX1_mayWrite 18 = .ok (.getfield 29, 3) := by decide +kernel
theorem dX1_mayWrite_21 : decode cX1_mayWrite 21 = .ok (.iload 4, 2) := by decide +kernel
theorem dX1_mayWrite_23 : decode cX1_mayWrite 23 = .ok (.invokevirtual 58, 3) := by decide +kernel
theorem dX1_mayWrite_26 : decode cX1_mayWrite 26 = .ok (.ifCond .ne 5, 3) := by decide +kernel
theorem dX1_mayWrite_29 : decode cX1_mayWrite 29 = .ok (.iconst (-1), 1) := by decide +kernel
theorem dX1_mayWrite_30 : decode cX1_mayWrite 30 = .ok (.ireturn, 1) := by decide +kernel
theorem dX1_mayWrite_31 : decode cX1_mayWrite 31 = .ok (.iload_n 3, 1) := by decide +kernel
theorem dX1_mayWrite_32 : decode cX1_mayWrite 32 = .ok (.iconst 1, 1) := by decide +kernel
theorem dX1_mayWrite_33 : decode cX1_mayWrite 33 = .ok (.bipush 40, 2) := by decide +kernel
theorem dX1_mayWrite_35 : decode cX1_mayWrite 35 = .ok (.invokestatic 25, 3) := by decide +kernel
theorem dX1_mayWrite_38 : decode cX1_mayWrite 38 = .ok (.ifCond .ne 6, 3) := by decide +kernel
theorem dX1_mayWrite_41 : decode cX1_mayWrite 41 = .ok (.bipush (-2), 2) := by decide +kernel
theorem dX1_mayWrite_43 : decode cX1_mayWrite 43 = .ok (.ireturn, 1) := by decide +kernel
theorem dX1_mayWrite_44 : decode cX1_mayWrite 44 = .ok (.aload_n 0, 1) := by decide +kernel
theorem dX1_mayWrite_45 : decode cX1_mayWrite 45 = .ok (.iload_n 1, 1) := by decide +kernel
theorem dX1_mayWrite_46 : decode cX1_mayWrite 46 = .ok (.iload_n 2, 1) := by decide +kernel
theorem dX1_mayWrite_47 : decode cX1_mayWrite 47 = .ok (.invokevirtual 61, 3) := by decide +kernel
theorem dX1_mayWrite_50 : decode cX1_mayWrite 50 = .ok (.istore 5, 2) := by decide +kernel
theorem dX1_mayWrite_52 : decode cX1_mayWrite 52 = .ok (.iload 5, 2) := by decide +kernel
theorem dX1_mayWrite_54 : decode cX1_mayWrite 54 = .ok (.ifCond .ne 32, 3) := by decide +kernel
theorem dX1_mayWrite_57 : decode cX1_mayWrite 57 = .ok (.aload_n 0, 1) := by decide +kernel
theorem dX1_mayWrite_58 : decode cX1_mayWrite 58 = .ok (.getfield 12, 3) := by decide +kernel
theorem dX1_mayWrite_61 : decode cX1_mayWrite 61 = .ok (.getfield 29, 3) := by decide +kernel
theorem dX1_mayWrite_64 : decode cX1_mayWrite 64 = .ok (.getfield 64, 3) := by decide +kernel
theorem dX1_mayWrite_67 : decode cX1_mayWrite 67 = .ok (.iload 4, 2) := by decide +kernel
theorem dX1_mayWrite_69 : decode cX1_mayWrite 69 = .ok (.faload, 1) := by decide +kernel
theorem dX1_mayWrite_70 : decode cX1_mayWrite 70 = .ok (.iload_n 3, 1) := by decide +kernel
theorem dX1_mayWrite_71 : decode cX1_mayWrite 71 = .ok (.invokestatic 68, 3) := by decide +kernel
theorem dX1_mayWrite_74 : decode cX1_mayWrite 74 = .ok (.fcmp .g, 1) := by decide +kernel
theorem dX1_mayWrite_75 : decode cX1_mayWrite 75 = .ok (.ifCond .ge 11, 3) := by decide +kernel
theorem dX1_mayWrite_78 : decode cX1_mayWrite 78 = .ok (.aload_n 0, 1) := by decide +kernel
theorem dX1_mayWrite_79 : decode cX1_mayWrite 79 = .ok (.iconst 3, 1) := by decide +kernel
theorem dX1_mayWrite_80 : decode cX1_mayWrite 80 = .ok (.iload 4, 2) := by decide +kernel
theorem dX1_mayWrite_82 : decode cX1_mayWrite 82 = .ok (.invokevirtual 38, 3) := by decide +kernel
theorem dX1_mayWrite_85 : decode cX1_mayWrite 85 = .ok (.ireturn, 1) := by decide +kernel
theorem dX1_mayWrite_86 : decode cX1_mayWrite 86 = .ok (.iload 5, 2) := by decide +kernel
theorem dX1_mayWrite_88 : decode cX1_mayWrite 88 = .ok (.ireturn, 1) := by decide +kernel
theorem dX1_mayWrap_0 : decode cX1_mayWrap 0 = .ok (.iload_n 1, 1) := by decide +kernel
theorem dX1_mayWrap_1 : decode cX1_mayWrap 1 = .ok (.invokestatic 54, 3) := by decide +kernel
theorem dX1_mayWrap_4 : decode cX1_mayWrap 4 = .ok (.ifCond .eq 10, 3) := by decide +kernel
theorem dX1_mayWrap_7 : decode cX1_mayWrap 7 = .ok (.iload_n 2, 1) := by decide +kernel
theorem dX1_mayWrap_8 : decode cX1_mayWrap 8 = .ok (.invokestatic 54, 3) := by decide +kernel
theorem dX1_mayWrap_11 : decode cX1_mayWrap 11 = .ok (.ifCond .ne 5, 3) := by decide +kernel
theorem dX1_mayWrap_14 : decode cX1_mayWrap 14 = .ok (.iconst (-1), 1) := by decide +kernel
theorem dX1_mayWrap_15 : decode cX1_mayWrap 15 = .ok (.ireturn, 1) := by decide +kernel
theorem dX1_mayWrap_16 : decode cX1_mayWrap 16 = .ok (.iload_n 3, 1) := by decide +kernel
theorem dX1_mayWrap_17 : decode cX1_mayWrap 17 = .ok (.iload 4, 2) := by decide +kernel
theorem dX1_mayWrap_19 : decode cX1_mayWrap 19 = .ok (.iload 5, 2) := by decide +kernel
theorem dX1_mayWrap_21 : decode cX1_mayWrap 21 = .ok (.invokestatic 72, 3) := by decide +kernel
theorem dX1_mayWrap_24 : decode cX1_mayWrap 24 = .ok (.ifCond .ne 6, 3) := by decide +kernel
theorem dX1_mayWrap_27 : decode cX1_mayWrap 27 = .ok (.bipush (-2), 2) := by decide +kernel
theorem dX1_mayWrap_29 : decode cX1_mayWrap 29 = .ok (.ireturn, 1) := by decide +kernel
theorem dX1_mayWrap_30 : decode cX1_mayWrap 30 = .ok (.aload_n 0, 1) := by decide +kernel
theorem dX1_mayWrap_31 : decode cX1_mayWrap 31 = .ok (.iload_n 1, 1) := by decide +kernel
theorem dX1_mayWrap_32 : decode cX1_mayWrap 32 = .ok (.iload_n 2, 1) := by decide +kernel
theorem dX1_mayWrap_33 : decode cX1_mayWrap 33 = .ok (.invokevirtual 61, 3) := by decide +kernel
theorem dX1_mayWrap_36 : decode cX1_mayWrap 36 = .ok (.istore 6, 2) := by decide +kernel
theorem dX1_mayWrap_38 : decode cX1_mayWrap 38 = .ok (.iload 6, 2) := by decide +kernel
theorem dX1_mayWrap_40 : decode cX1_mayWrap 40 = .ok (.ifCond .ne 42, 3) := by decide +kernel
theorem dX1_mayWrap_43 : decode cX1_mayWrap 43 = .ok (.aload_n 0, 1) := by decide +kernel
theorem dX1_mayWrap_44 : decode cX1_mayWrap 44 = .ok (.getfield 12, 3) := by decide +kernel
theorem dX1_mayWrap_47 : decode cX1_mayWrap 47 = .ok (.getfield 29, 3) := by decide +kernel
theorem dX1_mayWrap_50 : decode cX1_mayWrap 50 = .ok (.getfield 75, 3) := by decide +kernel
theorem dX1_mayWrap_53 : decode cX1_mayWrap 53 = .ok (.iload_n 3, 1) := by decide +kernel
theorem dX1_mayWrap_54 : decode cX1_mayWrap 54 = .ok (.iload 4, 2) := by decide +kernel
theorem dX1_mayWrap_56 : decode cX1_mayWrap 56 = .ok (.iload 5, 2) := by decide +kernel
theorem dX1_mayWrap_58 : decode cX1_mayWrap 58 = .ok (.invokestatic 79, 3) := by decide +kernel
theorem dX1_mayWrap_61 : decode cX1_mayWrap 61 = .ok (.fcmp .g, 1) := by decide +kernel
theorem dX1_mayWrap_62 : decode cX1_mayWrap 62 = .ok (.ifCond .ge 20, 3) := by decide +kernel
theorem dX1_mayWrap_65 : decode cX1_mayWrap 65 = .ok (.aload_n 0, 1) := by decide +kernel
theorem dX1_mayWrap_66 : decode cX1_mayWrap 66 = .ok (.iconst 4, 1) := by decide +kernel
theorem dX1_mayWrap_67 : decode cX1_mayWrap 67 = .ok (.aload_n 0, 1) := by decide +kernel
theorem dX1_mayWrap_68 : decode cX1_mayWrap 68 = .ok (.getfield 12, 3) := by decide +kernel
theorem dX1_mayWrap_71 : decode cX1_mayWrap 71 = .ok (.getfield 29, 3) := by decide +kernel
theorem dX1_mayWrap_74 : decode cX1_mayWrap 74 = .ok (.getfield 75, 3) := by decide +kernel
theorem dX1_mayWrap_77 : decode cX1_mayWrap 77 = .ok (.f2i, 1) := by decide +kernel
theorem dX1_mayWrap_78 : decode cX1_mayWrap 78 = .ok (.invokevirtual 38, 3) := by decide +kernel
theorem dX1_mayWrap_81 : decode cX1_mayWrap 81 = .ok (.ireturn, 1) := by decide +kernel
theorem dX1_mayWrap_82 : decode cX1_mayWrap 82 = .ok (.iload 6, 2) := by decide +kernel
theorem dX1_mayWrap_84 : decode cX1_mayWrap 84 = .ok (.ireturn, 1) := by decide +kernel
theorem dX1_mayStamp_0 : decode cX1_mayStamp 0 = .ok (.aload_n 0, 1) := by decide +kernel
theorem dX1_mayStamp_1 : decode cX1_mayStamp 1 = .ok (.getfield 12, 3) := by decide +kernel
theorem dX1_mayStamp_4 : decode cX1_mayStamp 4 = .ok (.getfield 45, 3) := by decide +kernel
theorem dX1_mayStamp_7 : decode cX1_mayStamp 7 = .ok (.iload_n 1, 1) := by decide +kernel
theorem dX1_mayStamp_8 : decode cX1_mayStamp 8 = .ok (.invokevirtual 83, 3) := by decide +kernel
theorem dX1_mayStamp_11 : decode cX1_mayStamp 11 = .ok (.ifCond .eq 17, 3) := by decide +kernel
theorem dX1_mayStamp_14 : decode cX1_mayStamp 14 = .ok (.aload_n 0, 1) := by decide +kernel
theorem dX1_mayStamp_15 : decode cX1_mayStamp 15 = .ok (.getfield 12, 3) := by decide +kernel
theorem dX1_mayStamp_18 : decode cX1_mayStamp 18 = .ok (.getfield 29, 3) := by decide +kernel
theorem dX1_mayStamp_21 : decode cX1_mayStamp 21 = .ok (.iload_n 2, 1) := by decide +kernel
theorem dX1_mayStamp_22 : decode cX1_mayStamp 22 = .ok (.invokevirtual 86, 3) := by decide +kernel
theorem dX1_mayStamp_25 : decode cX1_mayStamp 25 = .ok (.ifCond .ne 5, 3) := by decide +kernel
theorem dX1_mayStamp_28 : decode cX1_mayStamp 28 = .ok (.iconst (-1), 1) := by decide +kernel
theorem dX1_mayStamp_29 : decode cX1_mayStamp 29 = .ok (.ireturn, 1) := by decide +kernel
theorem dX1_mayStamp_30 : decode cX1_mayStamp 30 = .ok (.aload_n 0, 1) := by decide +kernel
theorem dX1_mayStamp_31 : decode cX1_mayStamp 31 = .ok (.getfield 12, 3) := by decide +kernel
theorem dX1_mayStamp_34 : decode cX1_mayStamp 34 = .ok (.getfield 45, 3) := by decide +kernel
theorem dX1_mayStamp_37 : decode cX1_mayStamp 37 = .ok (.getfield 89, 3) := by decide +kernel
theorem dX1_mayStamp_40 : decode cX1_mayStamp 40 = .ok (.iload_n 1, 1) := by decide +kernel
theorem dX1_mayStamp_41 : decode cX1_mayStamp 41 = .ok (.iaload, 1) := by decide +kernel
theorem dX1_mayStamp_42 : decode cX1_mayStamp 42 = .ok (.ifCond .eq 21, 3) := by decide +kernel
theorem dX1_mayStamp_45 : decode cX1_mayStamp 45 = .ok (.aload_n 0, 1) := by decide +kernel
theorem dX1_mayStamp_46 : decode cX1_mayStamp 46 = .ok (.iconst 5, 1) := by decide +kernel
theorem dX1_mayStamp_47 : decode cX1_mayStamp 47 = .ok (.aload_n 0, 1) := by decide +kernel
theorem dX1_mayStamp_48 : decode cX1_mayStamp 48 = .ok (.getfield 12, 3) := by decide +kernel
theorem dX1_mayStamp_51 : decode cX1_mayStamp 51 = .ok (.getfield 45, 3) := by decide +kernel
theorem dX1_mayStamp_54 : decode cX1_mayStamp 54 = .ok (.getfield 89, 3) := by decide +kernel
theorem dX1_mayStamp_57 : decode cX1_mayStamp 57 = .ok (.iload_n 1, 1) := by decide +kernel
theorem dX1_mayStamp_58 : decode cX1_mayStamp 58 = .ok (.iaload, 1) := by decide +kernel
theorem dX1_mayStamp_59 : decode cX1_mayStamp 59 = .ok (.invokevirtual 38, 3) := by decide +kernel
theorem dX1_mayStamp_62 : decode cX1_mayStamp 62 = .ok (.ireturn, 1) := by decide +kernel
theorem dX1_mayStamp_63 : decode cX1_mayStamp 63 = .ok (.aload_n 0, 1) := by decide +kernel
theorem dX1_mayStamp_64 : decode cX1_mayStamp 64 = .ok (.getfield 12, 3) := by decide +kernel
theorem dX1_mayStamp_67 : decode cX1_mayStamp 67 = .ok (.getfield 29, 3) := by decide +kernel
theorem dX1_mayStamp_70 : decode cX1_mayStamp 70 = .ok (.iload_n 2, 1) := by decide +kernel
theorem dX1_mayStamp_71 : decode cX1_mayStamp 71 = .ok (.invokevirtual 93, 3) := by decide +kernel
theorem dX1_mayStamp_74 : decode cX1_mayStamp 74 = .ok (.invokestatic 96, 3) := by decide +kernel
theorem dX1_mayStamp_77 : decode cX1_mayStamp 77 = .ok (.ifCond .eq 7, 3) := by decide +kernel
theorem dX1_mayStamp_80 : decode cX1_mayStamp 80 = .ok (.iconst 0, 1) := by decide +kernel
theorem dX1_mayStamp_81 : decode cX1_mayStamp 81 = .ok (.goto 10, 3) := by decide +kernel
theorem dX1_mayStamp_84 : decode cX1_mayStamp 84 = .ok (.aload_n 0, 1) := by decide +kernel
theorem dX1_mayStamp_85 : decode cX1_mayStamp 85 = .ok (.bipush 6, 2) := by decide +kernel
theorem dX1_mayStamp_87 : decode cX1_mayStamp 87 = .ok (.iload_n 2, 1) := by decide +kernel
theorem dX1_mayStamp_88 : decode cX1_mayStamp 88 = .ok (.invokevirtual 38, 3) := by decide +kernel
theorem dX1_mayStamp_91 : decode cX1_mayStamp 91 = .ok (.ireturn, 1) := by decide +kernel
theorem dX1_mayShelve_0 : decode cX1_mayShelve 0 = .ok (.aload_n 0, 1) := by decide +kernel
theorem dX1_mayShelve_1 : decode cX1_mayShelve 1 = .ok (.getfield 12, 3) := by decide +kernel
theorem dX1_mayShelve_4 : decode cX1_mayShelve 4 = .ok (.getfield 45, 3) := by decide +kernel
theorem dX1_mayShelve_7 : decode cX1_mayShelve 7 = .ok (.iload_n 1, 1) := by decide +kernel
theorem dX1_mayShelve_8 : decode cX1_mayShelve 8 = .ok (.invokevirtual 83, 3) := by decide +kernel
theorem dX1_mayShelve_11 : decode cX1_mayShelve 11 = .ok (.ifCond .eq 12, 3) := by decide +kernel
theorem dX1_mayShelve_14 : decode cX1_mayShelve 14 = .ok (.iload_n 2, 1) := by decide +kernel
theorem dX1_mayShelve_15 : decode cX1_mayShelve 15 = .ok (.iconst 0, 1) := by decide +kernel
theorem dX1_mayShelve_16 : decode cX1_mayShelve 16 = .ok (.iconst 1, 1) := by decide +kernel
theorem dX1_mayShelve_17 : decode cX1_mayShelve 17 = .ok (.invokestatic 25, 3) := by decide +kernel
theorem dX1_mayShelve_20 : decode cX1_mayShelve 20 = .ok (.ifCond .ne 5, 3) := by decide +kernel
theorem dX1_mayShelve_23 : decode cX1_mayShelve 23 = .ok (.iconst (-1), 1) := by decide +kernel
theorem dX1_mayShelve_24 : decode cX1_mayShelve 24 = .ok (.ireturn, 1) := by decide +kernel
theorem dX1_mayShelve_25 : decode cX1_mayShelve 25 = .ok (.aload_n 0, 1) := by decide +kernel
theorem dX1_mayShelve_26 : decode cX1_mayShelve 26 = .ok (.getfield 12, 3) := by decide +kernel
theorem dX1_mayShelve_29 : decode cX1_mayShelve 29 = .ok (.getfield 45, 3) := by decide +kernel
theorem dX1_mayShelve_32 : decode cX1_mayShelve 32 = .ok (.getfield 89, 3) := by decide +kernel
theorem dX1_mayShelve_35 : decode cX1_mayShelve 35 = .ok (.iload_n 1, 1) := by decide +kernel
theorem dX1_mayShelve_36 : decode cX1_mayShelve 36 = .ok (.iaload, 1) := by decide +kernel
theorem dX1_mayShelve_37 : decode cX1_mayShelve 37 = .ok (.iconst 1, 1) := by decide +kernel
theorem dX1_mayShelve_38 : decode cX1_mayShelve 38 = .ok (.if_icmp .eq 22, 3) := by decide +kernel
theorem dX1_mayShelve_41 : decode cX1_mayShelve 41 = .ok (.aload_n 0, 1) := by decide +kernel
theorem dX1_mayShelve_42 : decode cX1_mayShelve 42 = .ok (.bipush 7, 2) := by decide +kernel
theorem dX1_mayShelve_44 : decode cX1_mayShelve 44 = .ok (.aload_n 0, 1) := by decide +kernel
theorem dX1_mayShelve_45 : decode cX1_mayShelve 45 = .ok (.getfield 12, 3) := by decide +kernel
theorem dX1_mayShelve_48 : decode cX1_mayShelve 48 = .ok (.getfield 45, 3) := by decide +kernel
theorem dX1_mayShelve_51 : decode cX1_mayShelve 51 = .ok (.getfield 89, 3) := by decide +kernel
theorem dX1_mayShelve_54 : decode cX1_mayShelve 54 = .ok (.iload_n 1, 1) := by decide +kernel
theorem dX1_mayShelve_55 : decode cX1_mayShelve 55 = .ok (.iaload, 1) := by decide +kernel
theorem dX1_mayShelve_56 : decode cX1_mayShelve 56 = .ok (.invokevirtual 38, 3) := by decide +kernel
theorem dX1_mayShelve_59 : decode cX1_mayShelve 59 = .ok (.ireturn, 1) := by decide +kernel
theorem dX1_mayShelve_60 : decode cX1_mayShelve 60 = .ok (.aload_n 0, 1) := by decide +kernel
theorem dX1_mayShelve_61 : decode cX1_mayShelve 61 = .ok (.getfield 12, 3) := by decide +kernel
theorem dX1_mayShelve_64 : decode cX1_mayShelve 64 = .ok (.getfield 100, 3) := by decide +kernel
theorem dX1_mayShelve_67 : decode cX1_mayShelve 67 = .ok (.aload_n 0, 1) := by decide +kernel
theorem dX1_mayShelve_68 : decode cX1_mayShelve 68 = .ok (.getfield 12, 3) := by decide +kernel
theorem dX1_mayShelve_71 : decode cX1_mayShelve 71 = .ok (.getfield 45, 3) := by decide +kernel
theorem dX1_mayShelve_74 : decode cX1_mayShelve 74 = .ok (.getfield 104, 3) := by decide +kernel
theorem dX1_mayShelve_77 : decode cX1_mayShelve 77 = .ok (.iload_n 1, 1) := by decide +kernel
theorem dX1_mayShelve_78 : decode cX1_mayShelve 78 = .ok (.iaload, 1) := by decide +kernel
theorem dX1_mayShelve_79 : decode cX1_mayShelve 79 = .ok (.iload_n 2, 1) := by decide +kernel
theorem dX1_mayShelve_80 : decode cX1_mayShelve 80 = .ok (.invokevirtual 107, 3) := by decide +kernel
theorem dX1_mayShelve_83 : decode cX1_mayShelve 83 = .ok (.iconst (-1), 1) := by decide +kernel
theorem dX1_mayShelve_84 : decode cX1_mayShelve 84 = .ok (.if_icmp .ne 11, 3) := by decide +kernel
theorem dX1_mayShelve_87 : decode cX1_mayShelve 87 = .ok (.aload_n 0, 1) := by decide +kernel
theorem dX1_mayShelve_88 : decode cX1_mayShelve 88 = .ok (.bipush 8, 2) := by decide +kernel
theorem dX1_mayShelve_90 : decode cX1_mayShelve 90 = .ok (.iload_n 2, 1) := by decide +kernel
theorem dX1_mayShelve_91 : decode cX1_mayShelve 91 = .ok (.invokevirtual 38, 3) := by decide +kernel
theorem dX1_mayShelve_94 : decode cX1_mayShelve 94 = .ok (.ireturn, 1) := by decide +kernel
theorem dX1_mayShelve_95 : decode cX1_mayShelve 95 = .ok (.aload_n 0, 1) := by decide +kernel
theorem dX1_mayShelve_96 : decode cX1_mayShelve 96 = .ok (.getfield 12, 3) := by decide +kernel
theorem dX1_mayShelve_99 : decode cX1_mayShelve 99 = .ok (.getfield 45, 3) := by decide +kernel
theorem dX1_mayShelve_102 : decode cX1_mayShelve 102 = .ok (.getfield 112, 3) := by decide +kernel
theorem dX1_mayShelve_105 : decode cX1_mayShelve 105 = .ok (.iload_n 1, 1) := by decide +kernel
theorem dX1_mayShelve_106 : decode cX1_mayShelve 106 = .ok (.iaload, 1) := by decide +kernel
theorem dX1_mayShelve_107 : decode cX1_mayShelve 107 = .ok (.iload_n 2, 1) := by decide +kernel
theorem dX1_mayShelve_108 : decode cX1_mayShelve 108 = .ok (.if_icmp .eq 13, 3) := by decide +kernel
theorem dX1_mayShelve_111 : decode cX1_mayShelve 111 = .ok (.aload_n 0, 1) := by decide +kernel
theorem dX1_mayShelve_112 : decode cX1_mayShelve 112 = .ok (.bipush 9, 2) := by decide +kernel
theorem dX1_mayShelve_114 : decode cX1_mayShelve 114 = .ok (.iload_n 2, 1) := by decide +kernel
theorem dX1_mayShelve_115 : decode cX1_mayShelve 115 = .ok (.invokevirtual 38, 3) := by decide +kernel
theorem dX1_mayShelve_118 : decode cX1_mayShelve 118 = .ok (.goto 4, 3) := by decide +kernel
theorem dX1_mayShelve_121 : decode cX1_mayShelve 121 = .ok (.iconst 0, 1) := by decide +kernel
theorem dX1_mayShelve_122 : decode cX1_mayShelve 122 = .ok (.ireturn, 1) := by decide +kernel
theorem dX1_mayTake_0 : decode cX1_mayTake 0 = .ok (.iload_n 1, 1) := by decide +kernel
theorem dX1_mayTake_1 : decode cX1_mayTake 1 = .ok (.invokestatic 54, 3) := by decide +kernel
theorem dX1_mayTake_4 : decode cX1_mayTake 4 = .ok (.ifCond .ne 5, 3) := by decide +kernel
theorem dX1_mayTake_7 : decode cX1_mayTake 7 = .ok (.iconst (-1), 1) := by decide +kernel
theorem dX1_mayTake_8 : decode cX1_mayTake 8 = .ok (.ireturn, 1) := by decide +kernel
theorem dX1_mayTake_9 : decode cX1_mayTake 9 = .ok (.aload_n 0, 1) := by decide +kernel
theorem dX1_mayTake_10 : decode cX1_mayTake 10 = .ok (.getfield 12, 3) := by decide +kernel
theorem dX1_mayTake_13 : decode cX1_mayTake 13 = .ok (.getfield 100, 3) := by decide +kernel
theorem dX1_mayTake_16 : decode cX1_mayTake 16 = .ok (.iload_n 1, 1) := by decide +kernel
theorem dX1_mayTake_17 : decode cX1_mayTake 17 = .ok (.invokevirtual 115, 3) := by decide +kernel
theorem dX1_mayTake_20 : decode cX1_mayTake 20 = .ok (.ifCond .eq 13, 3) := by decide +kernel
theorem dX1_mayTake_23 : decode cX1_mayTake 23 = .ok (.aload_n 0, 1) := by decide +kernel
theorem dX1_mayTake_24 : decode cX1_mayTake 24 = .ok (.bipush 10, 2) := by decide +kernel
theorem dX1_mayTake_26 : decode cX1_mayTake 26 = .ok (.iload_n 1, 1) := by decide +kernel
theorem dX1_mayTake_27 : decode cX1_mayTake 27 = .ok (.invokevirtual 38, 3) := by decide +kernel
theorem dX1_mayTake_30 : decode cX1_mayTake 30 = .ok (.goto 4, 3) := by decide +kernel
theorem dX1_mayTake_33 : decode cX1_mayTake 33 = .ok (.iconst 0, 1) := by decide +kernel
theorem dX1_mayTake_34 : decode cX1_mayTake 34 = .ok (.ireturn, 1) := by decide +kernel
theorem dX1_mayFeed_0 : decode cX1_mayFeed 0 = .ok (.iload_n 1, 1) := by decide +kernel
theorem dX1_mayFeed_1 : decode cX1_mayFeed 1 = .ok (.iconst 1, 1) := by decide +kernel
theorem dX1_mayFeed_2 : decode cX1_mayFeed 2 = .ok (.bipush 9, 2) := by decide +kernel
theorem dX1_mayFeed_4 : decode cX1_mayFeed 4 = .ok (.invokestatic 25, 3) := by decide +kernel
theorem dX1_mayFeed_7 : decode cX1_mayFeed 7 = .ok (.ifCond .ne 6, 3) := by decide +kernel
theorem dX1_mayFeed_10 : decode cX1_mayFeed 10 = .ok (.bipush (-2), 2) := by decide +kernel
theorem dX1_mayFeed_12 : decode cX1_mayFeed 12 = .ok (.ireturn, 1) := by decide +kernel
theorem dX1_mayFeed_13 : decode cX1_mayFeed 13 = .ok (.aload_n 0, 1) := by decide +kernel
theorem dX1_mayFeed_14 : decode cX1_mayFeed 14 = .ok (.getfield 12, 3) := by decide +kernel
theorem dX1_mayFeed_17 : decode cX1_mayFeed 17 = .ok (.getfield 118, 3) := by decide +kernel
theorem dX1_mayFeed_20 : decode cX1_mayFeed 20 = .ok (.getfield 122, 3) := by decide +kernel
theorem dX1_mayFeed_23 : decode cX1_mayFeed 23 = .ok (.istore_n 2, 1) := by decide +kernel
theorem dX1_mayFeed_24 : decode cX1_mayFeed 24 = .ok (.iload_n 2, 1) := by decide +kernel
theorem dX1_mayFeed_25 : decode cX1_mayFeed 25 = .ok (.iload_n 1, 1) := by decide +kernel
theorem dX1_mayFeed_26 : decode cX1_mayFeed 26 = .ok (.if_icmp .ge 13, 3) := by decide +kernel
theorem dX1_mayFeed_29 : decode cX1_mayFeed 29 = .ok (.aload_n 0, 1) := by decide +kernel
theorem dX1_mayFeed_30 : decode cX1_mayFeed 30 = .ok (.bipush 11, 2) := by decide +kernel
theorem dX1_mayFeed_32 : decode cX1_mayFeed 32 = .ok (.iload_n 2, 1) := by decide +kernel
theorem dX1_mayFeed_33 : decode cX1_mayFeed 33 = .ok (.invokevirtual 38, 3) := by decide +kernel
theorem dX1_mayFeed_36 : decode cX1_mayFeed 36 = .ok (.goto 4, 3) := by decide +kernel
theorem dX1_mayFeed_39 : decode cX1_mayFeed 39 = .ok (.iconst 0, 1) := by decide +kernel
theorem dX1_mayFeed_40 : decode cX1_mayFeed 40 = .ok (.ireturn, 1) := by decide +kernel
theorem dX1_mayPass_0 : decode cX1_mayPass 0 = .ok (.iload_n 1, 1) := by decide +kernel
theorem dX1_mayPass_1 : decode cX1_mayPass 1 = .ok (.iconst 1, 1) := by decide +kernel
theorem dX1_mayPass_2 : decode cX1_mayPass 2 = .ok (.bipush 60, 2) := by decide +kernel
theorem dX1_mayPass_4 : decode cX1_mayPass 4 = .ok (.invokestatic 25, 3) := by decide +kernel
theorem dX1_mayPass_7 : decode cX1_mayPass 7 = .ok (.ifCond .eq 7, 3) := by decide +kernel
theorem dX1_mayPass_10 : decode cX1_mayPass 10 = .ok (.iconst 0, 1) := by decide +kernel
theorem dX1_mayPass_11 : decode cX1_mayPass 11 = .ok (.goto 5, 3) := by decide +kernel
theorem dX1_mayPass_14 : decode cX1_mayPass 14 = .ok (.bipush (-2), 2) := by decide +kernel
theorem dX1_mayPass_16 : decode cX1_mayPass 16 = .ok (.ireturn, 1) := by decide +kernel
theorem dX2_init_0 : decode cX2_init 0 = .ok (.aload_n 0, 1) := by decide +kernel
theorem dX2_init_1 : decode cX2_init 1 = .ok (.invokespecial 3, 3) := by decide +kernel
theorem dX2_init_4 : decode cX2_init 4 = .ok (.aload_n 0, 1) := by decide +kernel
theorem dX2_init_5 : decode cX2_init 5 = .ok (.bipush 8, 2) := by decide +kernel
theorem dX2_init_7 : decode cX2_init 7 = .ok (.newarray .float, 2) := by decide +kernel
theorem dX2_init_9 : decode cX2_init 9 = .ok (.putfield 9, 3) := by decide +kernel
theorem dX2_init_12 : decode cX2_init 12 = .ok (.aload_n 0, 1) := by decide +kernel
theorem dX2_init_13 : decode cX2_init 13 = .ok (.iconst 5, 1) := by decide +kernel
theorem dX2_init_14 : decode cX2_init 14 = .ok (.newarray .float, 2) := by decide +kernel
theorem dX2_init_16 : decode cX2_init 16 = .ok (.putfield 15, 3) := by decide +kernel
theorem dX2_init_19 : decode cX2_init 19 = .ok (.aload_n 0, 1) := by decide +kernel
theorem dX2_init_20 : decode cX2_init 20 = .ok (.ldc 18, 2) := by decide +kernel
theorem dX2_init_22 : decode cX2_init 22 = .ok (.putfield 19, 3) := by decide +kernel
theorem dX2_init_25 : decode cX2_init 25 = .ok (.aload_n 0, 1) := by decide +kernel
theorem dX2_init_26 : decode cX2_init 26 = .ok (.fconst 2, 1) := by decide +kernel
theorem dX2_init_27 : decode cX2_init 27 = .ok (.putfield 23, 3) := by decide +kernel
theorem dX2_init_30 : decode cX2_init 30 = .ok (.return_, 1) := by decide +kernel
theorem dX2_copyFrom_0 : decode cX2_copyFrom 0 = .ok (.aload_n 1, 1) := by decide +kernel
theorem dX2_copyFrom_1 : decode cX2_copyFrom 1 = .ok (.getfield 9, 3) := by decide +kernel
theorem dX2_copyFrom_4 : decode cX2_copyFrom 4 = .ok (.iconst 0, 1) := by decide +kernel
theorem dX2_copyFrom_5 : decode cX2_copyFrom 5 = .ok (.aload_n 0, 1) := by decide +kernel
theorem dX2_copyFrom_6 : decode cX2_copyFrom 6 = .ok (.getfield 9, 3) := by decide +kernel
theorem dX2_copyFrom_9 : decode cX2_copyFrom 9 = .ok (.iconst 0, 1) := by decide +kernel
theorem dX2_copyFrom_10 : decode cX2_copyFrom 10 = .ok (.bipush 8, 2) := by decide +kernel
theorem dX2_copyFrom_12 : decode cX2_copyFrom 12 = .ok (.invokestatic 26, 3) := by decide +kernel
theorem dX2_copyFrom_15 : decode cX2_copyFrom 15 = .ok (.aload_n 1, 1) := by decide +kernel
theorem dX2_copyFrom_16 : decode cX2_copyFrom 16 = .ok (.getfield 15, 3) := by decide +kernel
theorem dX2_copyFrom_19 : decode cX2_copyFrom 19 = .ok (.iconst 0, 1) := by decide +kernel
theorem dX2_copyFrom_20 : decode cX2_copyFrom 20 = .ok (.aload_n 0, 1) := by decide +kernel
theorem dX2_copyFrom_21 : decode cX2_copyFrom 21 = .ok (.getfield 15, 3) := by decide +kernel
theorem dX2_copyFrom_24 : decode cX2_copyFrom 24 = .ok (.iconst 0, 1) := by decide +kernel
theorem dX2_copyFrom_25 : decode cX2_copyFrom 25 = .ok (.iconst 5, 1) := by decide +kernel
theorem dX2_copyFrom_26 : decode cX2_copyFrom 26 = .ok (.invokestatic 26, 3) := by decide +kernel
theorem dX2_copyFrom_29 : decode cX2_copyFrom 29 = .ok (.aload_n 0, 1) := by decide +kernel
theorem dX2_copyFrom_30 : decode cX2_copyFrom 30 = .ok (.aload_n 1, 1) := by decide +kernel
theorem dX2_copyFrom_31 : decode cX2_copyFrom 31 = .ok (.getfield 32, 3) := by decide +kernel
theorem dX2_copyFrom_34 : decode cX2_copyFrom 34 = .ok (.putfield 32, 3) := by decide +kernel
theorem dX2_copyFrom_37 : decode cX2_copyFrom 37 = .ok (.aload_n 0, 1) := by decide +kernel
theorem dX2_copyFrom_38 : decode cX2_copyFrom 38 = .ok (.aload_n 1, 1) := by decide +kernel
theorem dX2_copyFrom_39 : decode cX2_copyFrom 39 = .ok (.getfield 36, 3) := by decide +kernel
theorem dX2_copyFrom_42 : decode cX2_copyFrom 42 = .ok (.putfield 36, 3) := by decide +kernel
theorem dX2_copyFrom_45 : decode cX2_copyFrom 45 = .ok (.aload_n 0, 1) := by decide +kernel
theorem dX2_copyFrom_46 : decode cX2_copyFrom 46 = .ok (.aload_n 1, 1) := by decide +kernel
theorem dX2_copyFrom_47 : decode cX2_copyFrom 47 = .ok (.getfield 19, 3) := by decide +kernel
theorem dX2_copyFrom_50 : decode cX2_copyFrom 50 = .ok (.putfield 19, 3) := by decide +kernel
theorem dX2_copyFrom_53 : decode cX2_copyFrom 53 = .ok (.aload_n 0, 1) := by decide +kernel
theorem dX2_copyFrom_54 : decode cX2_copyFrom 54 = .ok (.aload_n 1, 1) := by decide +kernel
theorem dX2_copyFrom_55 : decode cX2_copyFrom 55 = .ok (.getfield 23, 3) := by decide +kernel
theorem dX2_copyFrom_58 : decode cX2_copyFrom 58 = .ok (.putfield 23, 3) := by decide +kernel
theorem dX2_copyFrom_61 : decode cX2_copyFrom 61 = .ok (.return_, 1) := by decide +kernel
theorem dX2_hasCrayon_0 : decode cX2_hasCrayon 0 = .ok (.iload_n 1, 1) := by decide +kernel
theorem dX2_hasCrayon_1 : decode cX2_hasCrayon 1 = .ok (.ifCond .lt 15, 3) := by decide +kernel
theorem dX2_hasCrayon_4 : decode cX2_hasCrayon 4 = .ok (.iload_n 1, 1) := by decide +kernel
theorem dX2_hasCrayon_5 : decode cX2_hasCrayon 5 = .ok (.aload_n 0, 1) := by decide +kernel
theorem dX2_hasCrayon_6 : decode cX2_hasCrayon 6 = .ok (.getfield 32, 3) := by decide +kernel
theorem dX2_hasCrayon_9 : decode cX2_hasCrayon 9 = .ok (.if_icmp .ge 7, 3) := by decide +kernel
theorem dX2_hasCrayon_12 : decode cX2_hasCrayon 12 = .ok (.iconst 1, 1) := by decide +kernel
theorem dX2_hasCrayon_13 : decode cX2_hasCrayon 13 = .ok (.goto 4, 3) := by decide +kernel
theorem dX2_hasCrayon_16 : decode cX2_hasCrayon 16 = .ok (.iconst 0, 1) := by decide +kernel
theorem dX2_hasCrayon_17 : decode cX2_hasCrayon 17 = .ok (.ireturn, 1) := by decide +kernel
theorem dX2_hasPotato_0 : decode cX2_hasPotato 0 = .ok (.iload_n 1, 1) := by decide +kernel
theorem dX2_hasPotato_1 : decode cX2_hasPotato 1 = .ok (.ifCond .lt 15, 3) := by decide +kernel
theorem dX2_hasPotato_4 : decode cX2_hasPotato 4 = .ok (.iload_n 1, 1) := by decide +kernel
theorem dX2_hasPotato_5 : decode cX2_hasPotato 5 = .ok (.aload_n 0, 1) := by decide +kernel
theorem dX2_hasPotato_6 : decode cX2_hasPotato 6 = .ok (.getfield 36, 3) := by decide +kernel
theorem dX2_hasPotato_9 : decode cX2_hasPotato 9 = .ok (.if_icmp .ge 7, 3) := by decide +kernel
theorem dX2_hasPotato_12 : decode cX2_hasPotato 12 = .ok (.iconst 1, 1) := by decide +kernel
theorem dX2_hasPotato_13 : decode cX2_hasPotato 13 = .ok (.goto 4, 3) := by decide +kernel
theorem dX2_hasPotato_16 : decode cX2_hasPotato 16 = .ok (.iconst 0, 1) := by decide +kernel
theorem dX2_hasPotato_17 : decode cX2_hasPotato 17 = .ok (.ireturn, 1) := by decide +kernel
theorem dX2_addCrayon_0 : decode cX2_addCrayon 0 = .ok (.aload_n 0, 1) := by decide +kernel
theorem dX2_addCrayon_1 : decode cX2_addCrayon 1 = .ok (.getfield 32, 3) := by decide +kernel
theorem dX2_addCrayon_4 : decode cX2_addCrayon 4 = .ok (.istore_n 2, 1) := by decide +kernel
theorem dX2_addCrayon_5 : decode cX2_addCrayon 5 = .ok (.aload_n 0, 1) := by decide +kernel
theorem dX2_addCrayon_6 : decode cX2_addCrayon 6 = .ok (.getfield 9, 3) := by decide +kernel
theorem dX2_addCrayon_9 : decode cX2_addCrayon 9 = .ok (.iload_n 2, 1) := by decide +kernel
theorem dX2_addCrayon_10 : decode cX2_addCrayon 10 = .ok (.fload_n 1, 1) := by decide +kernel
theorem dX2_addCrayon_11 : decode cX2_addCrayon 11 = .ok (.fastore, 1) := by decide +kernel
theorem dX2_addCrayon_12 : decode cX2_addCrayon 12 = .ok (.aload_n 0, 1) := by decide +kernel
theorem dX2_addCrayon_13 : decode cX2_addCrayon 13 = .ok (.dup, 1) := by decide +kernel
theorem dX2_addCrayon_14 : decode cX2_addCrayon 14 = .ok (.getfield 32, 3) := by decide +kernel
theorem dX2_addCrayon_17 : decode cX2_addCrayon 17 = .ok (.iconst 1, 1) := by decide +kernel
theorem dX2_addCrayon_18 : decode cX2_addCrayon 18 = .ok (.iadd, 1) := by decide +kernel
theorem dX2_addCrayon_19 : decode cX2_addCrayon 19 = .ok (.putfield 32, 3) := by decide +kernel
theorem dX2_addCrayon_22 : decode cX2_addCrayon 22 = .ok (.iload_n 2, 1) := by decide +kernel
theorem dX2_addCrayon_23 : decode cX2_addCrayon 23 = .ok (.ireturn, 1) := by decide +kernel
theorem dX2_addPotato_0 : decode cX2_addPotato 0 = .ok (.aload_n 0, 1) := by decide +kernel
theorem dX2_addPotato_1 : decode cX2_addPotato 1 = .ok (.getfield 36, 3) := by decide +kernel
theorem dX2_addPotato_4 : decode cX2_addPotato 4 = .ok (.istore_n 1, 1) := by decide +kernel
theorem dX2_addPotato_5 : decode cX2_addPotato 5 = .ok (.aload_n 0, 1) := by decide +kernel
theorem dX2_addPotato_6 : decode cX2_addPotato 6 = .ok (.getfield 15, 3) := by decide +kernel
theorem dX2_addPotato_9 : decode cX2_addPotato 9 = .ok (.iload_n 1, 1) := by decide +kernel
theorem dX2_addPotato_10 : decode cX2_addPotato 10 = .ok (.fconst 1, 1) := by decide +kernel
theorem dX2_addPotato_11 : decode cX2_addPotato 11 = .ok (.fastore, 1) := by decide +kernel
theorem dX2_addPotato_12 : decode cX2_addPotato 12 = .ok (.aload_n 0, 1) := by decide +kernel
theorem dX2_addPotato_13 : decode cX2_addPotato 13 = .ok (.dup, 1) := by decide +kernel
theorem dX2_addPotato_14 : decode cX2_addPotato 14 = .ok (.getfield 36, 3) := by decide +kernel
theorem dX2_addPotato_17 : decode cX2_addPotato 17 = .ok (.iconst 1, 1) := by decide +kernel
theorem dX2_addPotato_18 : decode cX2_addPotato 18 = .ok (.iadd, 1) := by decide +kernel
theorem dX2_addPotato_19 : decode cX2_addPotato 19 = .ok (.putfield 36, 3) := by decide +kernel
theorem dX2_addPotato_22 : decode cX2_addPotato 22 = .ok (.iload_n 1, 1) := by decide +kernel
theorem dX2_addPotato_23 : decode cX2_addPotato 23 = .ok (.ireturn, 1) := by decide +kernel
theorem dX2_addString_0 : decode cX2_addString 0 = .ok (.aload_n 0, 1) := by decide +kernel
theorem dX2_addString_1 : decode cX2_addString 1 = .ok (.getfield 19, 3) := by decide +kernel
theorem dX2_addString_4 : decode cX2_addString 4 = .ok (.fload_n 1, 1) := by decide +kernel
theorem dX2_addString_5 : decode cX2_addString 5 = .ok (.fadd, 1) := by decide +kernel
theorem dX2_addString_6 : decode cX2_addString 6 = .ok (.fstore_n 2, 1) := by decide +kernel
theorem dX2_addString_7 : decode cX2_addString 7 = .ok (.aload_n 0, 1) := by decide +kernel
theorem dX2_addString_8 : decode cX2_addString 8 = .ok (.fload_n 2, 1) := by decide +kernel
theorem dX2_addString_9 : decode cX2_addString 9 = .ok (.ldc 39, 2) := by decide +kernel
theorem dX2_addString_11 : decode cX2_addString 11 = .ok (.fcmp .l, 1) := by decide +kernel
theorem dX2_addString_12 : decode cX2_addString 12 = .ok (.ifCond .le 8, 3) := by decide +kernel
theorem dX2_addString_15 : decode cX2_addString 15 = .ok (.ldc 39, 2) := by decide +kernel
theorem dX2_addString_17 : decode cX2_addString 17 = .ok (.goto 4, 3) := by decide +kernel
theorem dX2_addString_20 : decode cX2_addString 20 = .ok (.fload_n 2, 1) := by decide +kernel
theorem dX2_addString_21 : decode cX2_addString 21 = .ok (.putfield 19, 3) := by decide +kernel
theorem dX2_addString_24 : decode cX2_addString 24 = .ok (.return_, 1) := by decide +kernel
theorem dX2_addInk_0 : decode cX2_addInk 0 = .ok (.aload_n 0, 1) := by decide +kernel
theorem dX2_addInk_1 : decode cX2_addInk 1 = .ok (.getfield 23, 3) := by decide +kernel
theorem dX2_addInk_4 : decode cX2_addInk 4 = .ok (.fload_n 1, 1) := by decide +kernel
theorem dX2_addInk_5 : decode cX2_addInk 5 = .ok (.fadd, 1) := by decide +kernel
theorem dX2_addInk_6 : decode cX2_addInk 6 = .ok (.fstore_n 2, 1) := by decide +kernel
theorem dX2_addInk_7 : decode cX2_addInk 7 = .ok (.aload_n 0, 1) := by decide +kernel
theorem dX2_addInk_8 : decode cX2_addInk 8 = .ok (.fload_n 2, 1) := by decide +kernel
theorem dX2_addInk_9 : decode cX2_addInk 9 = .ok (.ldc 40, 2) := by decide +kernel
theorem dX2_addInk_11 : decode cX2_addInk 11 = .ok (.fcmp .l, 1) := by decide +kernel
theorem dX2_addInk_12 : decode cX2_addInk 12 = .ok (.ifCond .le 8, 3) := by decide +kernel
theorem dX2_addInk_15 : decode cX2_addInk 15 = .ok (.ldc 40, 2) := by decide +kernel
theorem dX2_addInk_17 : decode cX2_addInk 17 = .ok (.goto 4, 3) := by decide +kernel
theorem dX2_addInk_20 : decode cX2_addInk 20 = .ok (.fload_n 2, 1) := by decide +kernel
theorem dX2_addInk_21 : decode cX2_addInk 21 = .ok (.putfield 23, 3) := by decide +kernel
theorem dX2_addInk_24 : decode cX2_addInk 24 = .ok (.return_, 1) := by decide +kernel
theorem dX2_printNow_0 : decode cX2_printNow 0 = .ok (.aload_n 0, 1) := by decide +kernel
theorem dX2_printNow_1 : decode cX2_printNow 1 = .ok (.getfield 15, 3) := by decide +kernel
theorem dX2_printNow_4 : decode cX2_printNow 4 = .ok (.iload_n 1, 1) := by decide +kernel
theorem dX2_printNow_5 : decode cX2_printNow 5 = .ok (.faload, 1) := by decide +kernel
theorem dX2_printNow_6 : decode cX2_printNow 6 = .ok (.aload_n 0, 1) := by decide +kernel
theorem dX2_printNow_7 : decode cX2_printNow 7 = .ok (.getfield 23, 3) := by decide +kernel
theorem dX2_printNow_10 : decode cX2_printNow 10 = .ok (.invokestatic 41, 3) := by decide +kernel
theorem dX2_printNow_13 : decode cX2_printNow 13 = .ok (.freturn, 1) := by decide +kernel
theorem dX3_init_0 : decode cX3_init 0 = .ok (.aload_n 0, 1) := by decide +kernel
theorem dX3_init_1 : decode cX3_init 1 = .ok (.invokespecial 3, 3) := by decide +kernel
theorem dX3_init_4 : decode cX3_init 4 = .ok (.return_, 1) := by decide +kernel
theorem dX3_copyFrom_0 : decode cX3_copyFrom 0 = .ok (.aload_n 0, 1) := by decide +kernel
theorem dX3_copyFrom_1 : decode cX3_copyFrom 1 = .ok (.aload_n 1, 1) := by decide +kernel
theorem dX3_copyFrom_2 : decode cX3_copyFrom 2 = .ok (.getfield 9, 3) := by decide +kernel
theorem dX3_copyFrom_5 : decode cX3_copyFrom 5 = .ok (.putfield 9, 3) := by decide +kernel
theorem dX3_copyFrom_8 : decode cX3_copyFrom 8 = .ok (.aload_n 0, 1) := by decide +kernel
theorem dX3_copyFrom_9 : decode cX3_copyFrom 9 = .ok (.aload_n 1, 1) := by decide +kernel
theorem dX3_copyFrom_10 : decode cX3_copyFrom 10 = .ok (.getfield 15, 3) := by decide +kernel
theorem dX3_copyFrom_13 : decode cX3_copyFrom 13 = .ok (.putfield 15, 3) := by decide +kernel
theorem dX3_copyFrom_16 : decode cX3_copyFrom 16 = .ok (.aload_n 0, 1) := by decide +kernel
theorem dX3_copyFrom_17 : decode cX3_copyFrom 17 = .ok (.aload_n 1, 1) := by decide +kernel
theorem dX3_copyFrom_18 : decode cX3_copyFrom 18 = .ok (.getfield 19, 3) := by decide +kernel
theorem dX3_copyFrom_21 : decode cX3_copyFrom 21 = .ok (.putfield 19, 3) := by decide +kernel
theorem dX3_copyFrom_24 : decode cX3_copyFrom 24 = .ok (.aload_n 0, 1) := by decide +kernel
theorem dX3_copyFrom_25 : decode cX3_copyFrom 25 = .ok (.aload_n 1, 1) := by decide +kernel
theorem dX3_copyFrom_26 : decode cX3_copyFrom 26 = .ok (.getfield 22, 3) := by decide +kernel
theorem dX3_copyFrom_29 : decode cX3_copyFrom 29 = .ok (.putfield 22, 3) := by decide +kernel
theorem dX3_copyFrom_32 : decode cX3_copyFrom 32 = .ok (.return_, 1) := by decide +kernel
theorem dX3_addSnacks_0 : decode cX3_addSnacks 0 = .ok (.aload_n 0, 1) := by decide +kernel
theorem dX3_addSnacks_1 : decode cX3_addSnacks 1 = .ok (.aload_n 0, 1) := by decide +kernel
theorem dX3_addSnacks_2 : decode cX3_addSnacks 2 = .ok (.getfield 15, 3) := by decide +kernel
theorem dX3_addSnacks_5 : decode cX3_addSnacks 5 = .ok (.iload_n 1, 1) := by decide +kernel
theorem dX3_addSnacks_6 : decode cX3_addSnacks 6 = .ok (.iadd, 1) := by decide +kernel
theorem dX3_addSnacks_7 : decode cX3_addSnacks 7 = .ok (.bipush 50, 2) := by decide +kernel
theorem dX3_addSnacks_9 : decode cX3_addSnacks 9 = .ok (.invokestatic 25, 3) := by decide +kernel
theorem dX3_addSnacks_12 : decode cX3_addSnacks 12 = .ok (.putfield 15, 3) := by decide +kernel
theorem dX3_addSnacks_15 : decode cX3_addSnacks 15 = .ok (.return_, 1) := by decide +kernel
theorem dX3_eatSnacks_0 : decode cX3_eatSnacks 0 = .ok (.iconst 0, 1) := by decide +kernel
theorem dX3_eatSnacks_1 : decode cX3_eatSnacks 1 = .ok (.istore_n 2, 1) := by decide +kernel
theorem dX3_eatSnacks_2 : decode cX3_eatSnacks 2 = .ok (.iload_n 2, 1) := by decide +kernel
theorem dX3_eatSnacks_3 : decode cX3_eatSnacks 3 = .ok (.iload_n 1, 1) := by decide +kernel
theorem dX3_eatSnacks_4 : decode cX3_eatSnacks 4 = .ok (.if_icmp .ge 31, 3) := by decide +kernel
theorem dX3_eatSnacks_7 : decode cX3_eatSnacks 7 = .ok (.aload_n 0, 1) := by decide +kernel
theorem dX3_eatSnacks_8 : decode cX3_eatSnacks 8 = .ok (.getfield 9, 3) := by decide +kernel
theorem dX3_eatSnacks_11 : decode cX3_eatSnacks 11 = .ok (.fconst 2, 1) := by decide +kernel
theorem dX3_eatSnacks_12 : decode cX3_eatSnacks 12 = .ok (.fsub, 1) := by decide +kernel
theorem dX3_eatSnacks_13 : decode cX3_eatSnacks 13 = .ok (.fstore_n 3, 1) := by decide +kernel
theorem dX3_eatSnacks_14 : decode cX3_eatSnacks 14 = .ok (.aload_n 0, 1) := by decide +kernel
theorem dX3_eatSnacks_15 : decode cX3_eatSnacks 15 = .ok (.fload_n 3, 1) := by decide +kernel
theorem dX3_eatSnacks_16 : decode cX3_eatSnacks 16 = .ok (.fconst 0, 1) := by decide +kernel
theorem dX3_eatSnacks_17 : decode cX3_eatSnacks 17 = .ok (.fcmp .g, 1) := by decide +kernel
theorem dX3_eatSnacks_18 : decode cX3_eatSnacks 18 = .ok (.ifCond .ge 7, 3) := by decide +kernel
theorem dX3_eatSnacks_21 : decode cX3_eatSnacks 21 = .ok (.fconst 0, 1) := by decide +kernel
theorem dX3_eatSnacks_22 : decode cX3_eatSnacks 22 = .ok (.goto 4, 3) := by decide +kernel
theorem dX3_eatSnacks_25 : decode cX3_eatSnacks 25 = .ok (.fload_n 3, 1) := by decide +kernel
theorem dX3_eatSnacks_26 : decode cX3_eatSnacks 26 = .ok (.putfield 9, 3) := by decide +kernel
theorem dX3_eatSnacks_29 : decode cX3_eatSnacks 29 = .ok (.iinc 2 1, 3) := by decide +kernel
theorem dX3_eatSnacks_32 : decode cX3_eatSnacks 32 = .ok (.goto (-30), 3) := by decide +kernel
theorem dX3_eatSnacks_35 : decode cX3_eatSnacks 35 = .ok (.aload_n 0, 1) := by decide +kernel
theorem dX3_eatSnacks_36 : decode cX3_eatSnacks 36 = .ok (.dup, 1) := by decide +kernel
theorem dX3_eatSnacks_37 : decode cX3_eatSnacks 37 = .ok (.getfield 15, 3) := by decide +kernel
theorem dX3_eatSnacks_40 : decode cX3_eatSnacks 40 = .ok (.iload_n 1, 1) := by decide +kernel
theorem dX3_eatSnacks_41 : decode cX3_eatSnacks 41 = .ok (.isub, 1) := by decide +kernel
theorem dX3_eatSnacks_42 : decode cX3_eatSnacks 42 = .ok (.putfield 15, 3) := by decide +kernel
theorem dX3_eatSnacks_45 : decode cX3_eatSnacks 45 = .ok (.aload_n 0, 1) := by decide +kernel
theorem dX3_eatSnacks_46 : decode cX3_eatSnacks 46 = .ok (.dup, 1) := by decide +kernel
theorem dX3_eatSnacks_47 : decode cX3_eatSnacks 47 = .ok (.getfield 19, 3) := by decide +kernel
theorem dX3_eatSnacks_50 : decode cX3_eatSnacks 50 = .ok (.iload_n 1, 1) := by decide +kernel
theorem dX3_eatSnacks_51 : decode cX3_eatSnacks 51 = .ok (.iadd, 1) := by decide +kernel
theorem dX3_eatSnacks_52 : decode cX3_eatSnacks 52 = .ok (.putfield 19, 3) := by decide +kernel
theorem dX3_eatSnacks_55 : decode cX3_eatSnacks 55 = .ok (.return_, 1) := by decide +kernel
theorem dX4_init_0 : decode cX4_init 0 = .ok (.aload_n 0, 1) := by decide +kernel
theorem dX4_init_1 : decode cX4_init 1 = .ok (.invokespecial 3, 3) := by decide +kernel
theorem dX4_init_4 : decode cX4_init 4 = .ok (.aload_n 0, 1) := by decide +kernel
theorem dX4_init_5 : decode cX4_init 5 = .ok (.bipush 8, 2) := by decide +kernel
theorem dX4_init_7 : decode cX4_init 7 = .ok (.anewarray 9, 3) := by decide +kernel
theorem dX4_init_10 : decode cX4_init 10 = .ok (.putfield 11, 3) := by decide +kernel
theorem dX4_init_13 : decode cX4_init 13 = .ok (.iconst 0, 1) := by decide +kernel
theorem dX4_init_14 : decode cX4_init 14 = .ok (.istore_n 1, 1) := by decide +kernel
theorem dX4_init_15 : decode cX4_init 15 = .ok (.iload_n 1, 1) := by decide +kernel
theorem dX4_init_16 : decode cX4_init 16 = .ok (.bipush 8, 2) := by decide +kernel
theorem dX4_init_18 : decode cX4_init 18 = .ok (.if_icmp .ge 22, 3) := by decide +kernel
theorem dX4_init_21 : decode cX4_init 21 = .ok (.aload_n 0, 1) := by decide +kernel
theorem dX4_init_22 : decode cX4_init 22 = .ok (.getfield 11, 3) := by decide +kernel
theorem dX4_init_25 : decode cX4_init 25 = .ok (.iload_n 1, 1) := by decide +kernel
theorem dX4_init_26 : decode cX4_init 26 = .ok (.new 9, 3) := by decide +kernel
theorem dX4_init_29 : decode cX4_init 29 = .ok (.dup, 1) := by decide +kernel
theorem dX4_init_30 : decode cX4_init 30 = .ok (.invokespecial 17, 3) := by decide +kernel
theorem dX4_init_33 : decode cX4_init 33 = .ok (.aastore, 1) := by decide +kernel
theorem dX4_init_34 : decode cX4_init 34 = .ok (.iinc 1 1, 3) := by decide +kernel
theorem dX4_init_37 : decode cX4_init 37 = .ok (.goto (-22), 3) := by decide +kernel
theorem dX4_init_40 : decode cX4_init 40 = .ok (.return_, 1) := by decide +kernel
theorem dX4_remember_0 : decode cX4_remember 0 = .ok (.aload_n 0, 1) := by decide +kernel
theorem dX4_remember_1 : decode cX4_remember 1 = .ok (.getfield 11, 3) := by decide +kernel
theorem dX4_remember_4 : decode cX4_remember 4 = .ok (.aload_n 0, 1) := by decide +kernel
theorem dX4_remember_5 : decode cX4_remember 5 = .ok (.getfield 18, 3) := by decide +kernel
theorem dX4_remember_8 : decode cX4_remember 8 = .ok (.aaload, 1) := by decide +kernel
theorem dX4_remember_9 : decode cX4_remember 9 = .ok (.aload_n 1, 1) := by decide +kernel
theorem dX4_remember_10 : decode cX4_remember 10 = .ok (.invokevirtual 22, 3) := by decide +kernel
theorem dX4_remember_13 : decode cX4_remember 13 = .ok (.aload_n 0, 1) := by decide +kernel
theorem dX4_remember_14 : decode cX4_remember 14 = .ok (.aload_n 0, 1) := by decide +kernel
theorem dX4_remember_15 : decode cX4_remember 15 = .ok (.getfield 18, 3) := by decide +kernel
theorem dX4_remember_18 : decode cX4_remember 18 = .ok (.iconst 1, 1) := by decide +kernel
theorem dX4_remember_19 : decode cX4_remember 19 = .ok (.iadd, 1) := by decide +kernel
theorem dX4_remember_20 : decode cX4_remember 20 = .ok (.bipush 8, 2) := by decide +kernel
theorem dX4_remember_22 : decode cX4_remember 22 = .ok (.irem, 1) := by decide +kernel
theorem dX4_remember_23 : decode cX4_remember 23 = .ok (.putfield 18, 3) := by decide +kernel
theorem dX4_remember_26 : decode cX4_remember 26 = .ok (.aload_n 0, 1) := by decide +kernel
theorem dX4_remember_27 : decode cX4_remember 27 = .ok (.aload_n 0, 1) := by decide +kernel
theorem dX4_remember_28 : decode cX4_remember 28 = .ok (.getfield 26, 3) := by decide +kernel
theorem dX4_remember_31 : decode cX4_remember 31 = .ok (.iconst 1, 1) := by decide +kernel
theorem dX4_remember_32 : decode cX4_remember 32 = .ok (.iadd, 1) := by decide +kernel
theorem dX4_remember_33 : decode cX4_remember 33 = .ok (.bipush 8, 2) := by decide +kernel
theorem dX4_remember_35 : decode cX4_remember 35 = .ok (.invokestatic 29, 3) := by decide +kernel
theorem dX4_remember_38 : decode cX4_remember 38 = .ok (.putfield 26, 3) := by decide +kernel
theorem dX4_remember_41 : decode cX4_remember 41 = .ok (.return_, 1) := by decide +kernel
theorem dX4_bringBack_0 : decode cX4_bringBack 0 = .ok (.aload_n 0, 1) := by decide +kernel
theorem dX4_bringBack_1 : decode cX4_bringBack 1 = .ok (.aload_n 0, 1) := by decide +kernel
theorem dX4_bringBack_2 : decode cX4_bringBack 2 = .ok (.getfield 18, 3) := by decide +kernel
theorem dX4_bringBack_5 : decode cX4_bringBack 5 = .ok (.bipush 8, 2) := by decide +kernel
theorem dX4_bringBack_7 : decode cX4_bringBack 7 = .ok (.iadd, 1) := by decide +kernel
theorem dX4_bringBack_8 : decode cX4_bringBack 8 = .ok (.iconst 1, 1) := by decide +kernel
theorem dX4_bringBack_9 : decode cX4_bringBack 9 = .ok (.isub, 1) := by decide +kernel
theorem dX4_bringBack_10 : decode cX4_bringBack 10 = .ok (.bipush 8, 2) := by decide +kernel
theorem dX4_bringBack_12 : decode cX4_bringBack 12 = .ok (.irem, 1) := by decide +kernel
theorem dX4_bringBack_13 : decode cX4_bringBack 13 = .ok (.putfield 18, 3) := by decide +kernel
theorem dX4_bringBack_16 : decode cX4_bringBack 16 = .ok (.aload_n 0, 1) := by decide +kernel
theorem dX4_bringBack_17 : decode cX4_bringBack 17 = .ok (.dup, 1) := by decide +kernel
theorem dX4_bringBack_18 : decode cX4_bringBack 18 = .ok (.getfield 26, 3) := by decide +kernel
theorem dX4_bringBack_21 : decode cX4_bringBack 21 = .ok (.iconst 1, 1) := by decide +kernel
theorem dX4_bringBack_22 : decode cX4_bringBack 22 = .ok (.isub, 1) := by decide +kernel
theorem dX4_bringBack_23 : decode cX4_bringBack 23 = .ok (.putfield 26, 3) := by decide +kernel
theorem dX4_bringBack_26 : decode cX4_bringBack 26 = .ok (.aload_n 1, 1) := by decide +kernel
theorem dX4_bringBack_27 : decode cX4_bringBack 27 = .ok (.aload_n 0, 1) := by decide +kernel
theorem dX4_bringBack_28 : decode cX4_bringBack 28 = .ok (.getfield 11, 3) := by decide +kernel
theorem dX4_bringBack_31 : decode cX4_bringBack 31 = .ok (.aload_n 0, 1) := by decide +kernel
theorem dX4_bringBack_32 : decode cX4_bringBack 32 = .ok (.getfield 18, 3) := by decide +kernel
theorem dX4_bringBack_35 : decode cX4_bringBack 35 = .ok (.aaload, 1) := by decide +kernel
theorem dX4_bringBack_36 : decode cX4_bringBack 36 = .ok (.invokevirtual 22, 3) := by decide +kernel
theorem dX4_bringBack_39 : decode cX4_bringBack 39 = .ok (.return_, 1) := by decide +kernel
theorem dX4_forget_0 : decode cX4_forget 0 = .ok (.aload_n 0, 1) := by decide +kernel
theorem dX4_forget_1 : decode cX4_forget 1 = .ok (.iconst 0, 1) := by decide +kernel
theorem dX4_forget_2 : decode cX4_forget 2 = .ok (.putfield 26, 3) := by decide +kernel
theorem dX4_forget_5 : decode cX4_forget 5 = .ok (.return_, 1) := by decide +kernel
theorem dX5_init_0 : decode cX5_init 0 = .ok (.aload_n 0, 1) := by decide +kernel
theorem dX5_init_1 : decode cX5_init 1 = .ok (.invokespecial 3, 3) := by decide +kernel
theorem dX5_init_4 : decode cX5_init 4 = .ok (.aload_n 0, 1) := by decide +kernel
theorem dX5_init_5 : decode cX5_init 5 = .ok (.bipush 20, 2) := by decide +kernel
theorem dX5_init_7 : decode cX5_init 7 = .ok (.newarray .int, 2) := by decide +kernel
theorem dX5_init_9 : decode cX5_init 9 = .ok (.putfield 9, 3) := by decide +kernel
theorem dX5_init_12 : decode cX5_init 12 = .ok (.aload_n 0, 1) := by decide +kernel
theorem dX5_init_13 : decode cX5_init 13 = .ok (.bipush 20, 2) := by decide +kernel
theorem dX5_init_15 : decode cX5_init 15 = .ok (.newarray .int, 2) := by decide +kernel
theorem dX5_init_17 : decode cX5_init 17 = .ok (.putfield 15, 3) := by decide +kernel
theorem dX5_init_20 : decode cX5_init 20 = .ok (.aload_n 0, 1) := by decide +kernel
theorem dX5_init_21 : decode cX5_init 21 = .ok (.bipush 20, 2) := by decide +kernel
theorem dX5_init_23 : decode cX5_init 23 = .ok (.newarray .int, 2) := by decide +kernel
theorem dX5_init_25 : decode cX5_init 25 = .ok (.putfield 18, 3) := by decide +kernel
theorem dX5_init_28 : decode cX5_init 28 = .ok (.aload_n 0, 1) := by decide +kernel
theorem dX5_init_29 : decode cX5_init 29 = .ok (.bipush 20, 2) := by decide +kernel
theorem dX5_init_31 : decode cX5_init 31 = .ok (.newarray .int, 2) := by decide +kernel
theorem dX5_init_33 : decode cX5_init 33 = .ok (.putfield 21, 3) := by decide +kernel
theorem dX5_init_36 : decode cX5_init 36 = .ok (.aload_n 0, 1) := by decide +kernel
theorem dX5_init_37 : decode cX5_init 37 = .ok (.bipush 20, 2) := by decide +kernel
theorem dX5_init_39 : decode cX5_init 39 = .ok (.newarray .int, 2) := by decide +kernel
theorem dX5_init_41 : decode cX5_init 41 = .ok (.putfield 24, 3) := by decide +kernel
theorem dX5_init_44 : decode cX5_init 44 = .ok (.aload_n 0, 1) := by decide +kernel
theorem dX5_init_45 : decode cX5_init 45 = .ok (.bipush 20, 2) := by decide +kernel
theorem dX5_init_47 : decode cX5_init 47 = .ok (.newarray .int, 2) := by decide +kernel
theorem dX5_init_49 : decode cX5_init 49 = .ok (.putfield 27, 3) := by decide +kernel
theorem dX5_init_52 : decode cX5_init 52 = .ok (.aload_n 0, 1) := by decide +kernel
theorem dX5_init_53 : decode cX5_init 53 = .ok (.bipush 20, 2) := by decide +kernel
theorem dX5_init_55 : decode cX5_init 55 = .ok (.newarray .int, 2) := by decide +kernel
theorem dX5_init_57 : decode cX5_init 57 = .ok (.putfield 30, 3) := by decide +kernel
theorem dX5_init_60 : decode cX5_init 60 = .ok (.aload_n 0, 1) := by decide +kernel
theorem dX5_init_61 : decode cX5_init 61 = .ok (.bipush 20, 2) := by decide +kernel
theorem dX5_init_63 : decode cX5_init 63 = .ok (.newarray .float, 2) := by decide +kernel
theorem dX5_init_65 : decode cX5_init 65 = .ok (.putfield 33, 3) := by decide +kernel
theorem dX5_init_68 : decode cX5_init 68 = .ok (.return_, 1) := by decide +kernel
theorem dX5_copyFrom_0 : decode cX5_copyFrom 0 = .ok (.aload_n 1, 1) := by decide +kernel
theorem dX5_copyFrom_1 : decode cX5_copyFrom 1 = .ok (.getfield 9, 3) := by decide +kernel
theorem dX5_copyFrom_4 : decode cX5_copyFrom 4 = .ok (.iconst 0, 1) := by decide +kernel
theorem dX5_copyFrom_5 : decode cX5_copyFrom 5 = .ok (.aload_n 0, 1) := by decide +kernel
theorem dX5_copyFrom_6 : decode cX5_copyFrom 6 = .ok (.getfield 9, 3) := by decide +kernel
theorem dX5_copyFrom_9 : decode cX5_copyFrom 9 = .ok (.iconst 0, 1) := by decide +kernel
theorem dX5_copyFrom_10 : decode cX5_copyFrom 10 = .ok (.bipush 20, 2) := by decide +kernel
theorem dX5_copyFrom_12 : decode cX5_copyFrom 12 = .ok (.invokestatic 37, 3) := by decide +kernel
theorem dX5_copyFrom_15 : decode cX5_copyFrom 15 = .ok (.aload_n 1, 1) := by decide +kernel
theorem dX5_copyFrom_16 : decode cX5_copyFrom 16 = .ok (.getfield 15, 3) := by decide +kernel
theorem dX5_copyFrom_19 : decode cX5_copyFrom 19 = .ok (.iconst 0, 1) := by decide +kernel
theorem dX5_copyFrom_20 : decode cX5_copyFrom 20 = .ok (.aload_n 0, 1) := by decide +kernel
theorem dX5_copyFrom_21 : decode cX5_copyFrom 21 = .ok (.getfield 15, 3) := by decide +kernel
theorem dX5_copyFrom_24 : decode cX5_copyFrom 24 = .ok (.iconst 0, 1) := by decide +kernel
theorem dX5_copyFrom_25 : decode cX5_copyFrom 25 = .ok (.bipush 20, 2) := by decide +kernel
theorem dX5_copyFrom_27 : decode cX5_copyFrom 27 = .ok (.invokestatic 37, 3) := by decide +kernel
theorem dX5_copyFrom_30 : decode cX5_copyFrom 30 = .ok (.aload_n 1, 1) := by decide +kernel
theorem dX5_copyFrom_31 : decode cX5_copyFrom 31 = .ok (.getfield 18, 3) := by decide +kernel
theorem dX5_copyFrom_34 : decode cX5_copyFrom 34 = .ok (.iconst 0, 1) := by decide +kernel
theorem dX5_copyFrom_35 : decode cX5_copyFrom 35 = .ok (.aload_n 0, 1) := by decide +kernel
theorem dX5_copyFrom_36 : decode cX5_copyFrom 36 = .ok (.getfield 18, 3) := by decide +kernel
theorem dX5_copyFrom_39 : decode cX5_copyFrom 39 = .ok (.iconst 0, 1) := by decide +kernel
theorem dX5_copyFrom_40 : decode cX5_copyFrom 40 = .ok (.bipush 20, 2) := by decide +kernel
theorem dX5_copyFrom_42 : decode cX5_copyFrom 42 = .ok (.invokestatic 37, 3) := by decide +kernel
theorem dX5_copyFrom_45 : decode cX5_copyFrom 45 = .ok (.aload_n 1, 1) := by decide +kernel
theorem dX5_copyFrom_46 : decode cX5_copyFrom 46 = .ok (.getfield 21, 3) := by decide +kernel
theorem dX5_copyFrom_49 : decode cX5_copyFrom 49 = .ok (.iconst 0, 1) := by decide +kernel
theorem dX5_copyFrom_50 : decode cX5_copyFrom 50 = .ok (.aload_n 0, 1) := by decide +kernel
theorem dX5_copyFrom_51 : decode cX5_copyFrom 51 = .ok (.getfield 21, 3) := by decide +kernel
theorem dX5_copyFrom_54 : decode cX5_copyFrom 54 = .ok (.iconst 0, 1) := by decide +kernel
theorem dX5_copyFrom_55 : decode cX5_copyFrom 55 = .ok (.bipush 20, 2) := by decide +kernel
theorem dX5_copyFrom_57 : decode cX5_copyFrom 57 = .ok (.invokestatic 37, 3) := by decide +kernel
theorem dX5_copyFrom_60 : decode cX5_copyFrom 60 = .ok (.aload_n 1, 1) := by decide +kernel
theorem dX5_copyFrom_61 : decode cX5_copyFrom 61 = .ok (.getfield 24, 3) := by decide +kernel
theorem dX5_copyFrom_64 : decode cX5_copyFrom 64 = .ok (.iconst 0, 1) := by decide +kernel
theorem dX5_copyFrom_65 : decode cX5_copyFrom 65 = .ok (.aload_n 0, 1) := by decide +kernel
theorem dX5_copyFrom_66 : decode cX5_copyFrom 66 = .ok (.getfield 24, 3) := by decide +kernel
theorem dX5_copyFrom_69 : decode cX5_copyFrom 69 = .ok (.iconst 0, 1) := by decide +kernel
theorem dX5_copyFrom_70 : decode cX5_copyFrom 70 = .ok (.bipush 20, 2) := by decide +kernel
theorem dX5_copyFrom_72 : decode cX5_copyFrom 72 = .ok (.invokestatic 37, 3) := by decide +kernel
theorem dX5_copyFrom_75 : decode cX5_copyFrom 75 = .ok (.aload_n 1, 1) := by decide +kernel
theorem dX5_copyFrom_76 : decode cX5_copyFrom 76 = .ok (.getfield 27, 3) := by decide +kernel
theorem dX5_copyFrom_79 : decode cX5_copyFrom 79 = .ok (.iconst 0, 1) := by decide +kernel
theorem dX5_copyFrom_80 : decode cX5_copyFrom 80 = .ok (.aload_n 0, 1) := by decide +kernel
theorem dX5_copyFrom_81 : decode cX5_copyFrom 81 = .ok (.getfield 27, 3) := by decide +kernel
theorem dX5_copyFrom_84 : decode cX5_copyFrom 84 = .ok (.iconst 0, 1) := by decide +kernel
theorem dX5_copyFrom_85 : decode cX5_copyFrom 85 = .ok (.bipush 20, 2) := by decide +kernel
theorem dX5_copyFrom_87 : decode cX5_copyFrom 87 = .ok (.invokestatic 37, 3) := by decide +kernel
theorem dX5_copyFrom_90 : decode cX5_copyFrom 90 = .ok (.aload_n 1, 1) := by decide +kernel
theorem dX5_copyFrom_91 : decode cX5_copyFrom 91 = .ok (.getfield 30, 3) := by decide +kernel
theorem dX5_copyFrom_94 : decode cX5_copyFrom 94 = .ok (.iconst 0, 1) := by decide +kernel
theorem dX5_copyFrom_95 : decode cX5_copyFrom 95 = .ok (.aload_n 0, 1) := by decide +kernel
theorem dX5_copyFrom_96 : decode cX5_copyFrom 96 = .ok (.getfield 30, 3) := by decide +kernel
theorem dX5_copyFrom_99 : decode cX5_copyFrom 99 = .ok (.iconst 0, 1) := by decide +kernel
theorem dX5_copyFrom_100 : decode cX5_copyFrom 100 = .ok (.bipush 20, 2) := by decide +kernel
theorem dX5_copyFrom_102 : decode cX5_copyFrom 102 = .ok (.invokestatic 37, 3) := by decide +kernel
theorem dX5_copyFrom_105 : decode cX5_copyFrom 105 = .ok (.aload_n 1, 1) := by decide +kernel
theorem dX5_copyFrom_106 : decode cX5_copyFrom 106 = .ok (.getfield 33, 3) := by decide +kernel
theorem dX5_copyFrom_109 : decode cX5_copyFrom 109 = .ok (.iconst 0, 1) := by decide +kernel
theorem dX5_copyFrom_110 : decode cX5_copyFrom 110 = .ok (.aload_n 0, 1) := by decide +kernel
theorem dX5_copyFrom_111 : decode cX5_copyFrom 111 = .ok (.getfield 33, 3) := by decide +kernel
theorem dX5_copyFrom_114 : decode cX5_copyFrom 114 = .ok (.iconst 0, 1) := by decide +kernel
theorem dX5_copyFrom_115 : decode cX5_copyFrom 115 = .ok (.bipush 20, 2) := by decide +kernel
theorem dX5_copyFrom_117 : decode cX5_copyFrom 117 = .ok (.invokestatic 37, 3) := by decide +kernel
theorem dX5_copyFrom_120 : decode cX5_copyFrom 120 = .ok (.aload_n 0, 1) := by decide +kernel
theorem dX5_copyFrom_121 : decode cX5_copyFrom 121 = .ok (.aload_n 1, 1) := by decide +kernel
theorem dX5_copyFrom_122 : decode cX5_copyFrom 122 = .ok (.getfield 43, 3) := by decide +kernel
theorem dX5_copyFrom_125 : decode cX5_copyFrom 125 = .ok (.putfield 43, 3) := by decide +kernel
theorem dX5_copyFrom_128 : decode cX5_copyFrom 128 = .ok (.return_, 1) := by decide +kernel
theorem dX5_has_0 : decode cX5_has 0 = .ok (.iload_n 1, 1) := by decide +kernel
theorem dX5_has_1 : decode cX5_has 1 = .ok (.ifCond .lt 15, 3) := by decide +kernel
theorem dX5_has_4 : decode cX5_has 4 = .ok (.iload_n 1, 1) := by decide +kernel
theorem dX5_has_5 : decode cX5_has 5 = .ok (.aload_n 0, 1) := by decide +kernel
theorem dX5_has_6 : decode cX5_has 6 = .ok (.getfield 43, 3) := by decide +kernel
theorem dX5_has_9 : decode cX5_has 9 = .ok (.if_icmp .ge 7, 3) := by decide +kernel
theorem dX5_has_12 : decode cX5_has 12 = .ok (.iconst 1, 1) := by decide +kernel
theorem dX5_has_13 : decode cX5_has 13 = .ok (.goto 4, 3) := by decide +kernel
theorem dX5_has_16 : decode cX5_has 16 = .ok (.iconst 0, 1) := by decide +kernel
theorem dX5_has_17 : decode cX5_has 17 = .ok (.ireturn, 1) := by decide +kernel
theorem dX5_add_0 : decode cX5_add 0 = .ok (.aload_n 0, 1) := by decide +kernel
theorem dX5_add_1 : decode cX5_add 1 = .ok (.getfield 43, 3) := by decide +kernel
theorem dX5_add_4 : decode cX5_add 4 = .ok (.istore 5, 2) := by decide +kernel
theorem dX5_add_6 : decode cX5_add 6 = .ok (.aload_n 0, 1) := by decide +kernel
theorem dX5_add_7 : decode cX5_add 7 = .ok (.getfield 9, 3) := by decide +kernel
theorem dX5_add_10 : decode cX5_add 10 = .ok (.iload 5, 2) := by decide +kernel
theorem dX5_add_12 : decode cX5_add 12 = .ok (.iload_n 1, 1) := by decide +kernel
theorem dX5_add_13 : decode cX5_add 13 = .ok (.iastore, 1) := by decide +kernel
theorem dX5_add_14 : decode cX5_add 14 = .ok (.aload_n 0, 1) := by decide +kernel
theorem dX5_add_15 : decode cX5_add 15 = .ok (.getfield 15, 3) := by decide +kernel
theorem dX5_add_18 : decode cX5_add 18 = .ok (.iload 5, 2) := by decide +kernel
theorem dX5_add_20 : decode cX5_add 20 = .ok (.iload_n 2, 1) := by decide +kernel
theorem dX5_add_21 : decode cX5_add 21 = .ok (.iastore, 1) := by decide +kernel
theorem dX5_add_22 : decode cX5_add 22 = .ok (.aload_n 0, 1) := by decide +kernel
theorem dX5_add_23 : decode cX5_add 23 = .ok (.getfield 18, 3) := by decide +kernel
theorem dX5_add_26 : decode cX5_add 26 = .ok (.iload 5, 2) := by decide +kernel
theorem dX5_add_28 : decode cX5_add 28 = .ok (.iload_n 3, 1) := by decide +kernel
theorem dX5_add_29 : decode cX5_add 29 = .ok (.iastore, 1) := by decide +kernel
theorem dX5_add_30 : decode cX5_add 30 = .ok (.aload_n 0, 1) := by decide +kernel
theorem dX5_add_31 : decode cX5_add 31 = .ok (.getfield 21, 3) := by decide +kernel
theorem dX5_add_34 : decode cX5_add 34 = .ok (.iload 5, 2) := by decide +kernel
theorem dX5_add_36 : decode cX5_add 36 = .ok (.iload 4, 2) := by decide +kernel
theorem dX5_add_38 : decode cX5_add 38 = .ok (.iastore, 1) := by decide +kernel
theorem dX5_add_39 : decode cX5_add 39 = .ok (.aload_n 0, 1) := by decide +kernel
theorem dX5_add_40 : decode cX5_add 40 = .ok (.getfield 24, 3) := by decide +kernel
theorem dX5_add_43 : decode cX5_add 43 = .ok (.iload 5, 2) := by decide +kernel
theorem dX5_add_45 : decode cX5_add 45 = .ok (.iconst 0, 1) := by decide +kernel
theorem dX5_add_46 : decode cX5_add 46 = .ok (.iastore, 1) := by decide +kernel
theorem dX5_add_47 : decode cX5_add 47 = .ok (.aload_n 0, 1) := by decide +kernel
theorem dX5_add_48 : decode cX5_add 48 = .ok (.getfield 27, 3) := by decide +kernel
theorem dX5_add_51 : decode cX5_add 51 = .ok (.iload 5, 2) := by decide +kernel
theorem dX5_add_53 : decode cX5_add 53 = .ok (.iconst (-1), 1) := by decide +kernel
theorem dX5_add_54 : decode cX5_add 54 = .ok (.iastore, 1) := by decide +kernel
theorem dX5_add_55 : decode cX5_add 55 = .ok (.aload_n 0, 1) := by decide +kernel
theorem dX5_add_56 : decode cX5_add 56 = .ok (.getfield 30, 3) := by decide +kernel
theorem dX5_add_59 : decode cX5_add 59 = .ok (.iload 5, 2) := by decide +kernel
theorem dX5_add_61 : decode cX5_add 61 = .ok (.iconst (-1), 1) := by decide +kernel
theorem dX5_add_62 : decode cX5_add 62 = .ok (.iastore, 1) := by decide +kernel
theorem dX5_add_63 : decode cX5_add 63 = .ok (.aload_n 0, 1) := by decide +kernel
theorem dX5_add_64 : decode cX5_add 64 = .ok (.getfield 33, 3) := by decide +kernel
theorem dX5_add_67 : decode cX5_add 67 = .ok (.iload 5, 2) := by decide +kernel
theorem dX5_add_69 : decode cX5_add 69 = .ok (.fconst 0, 1) := by decide +kernel
theorem dX5_add_70 : decode cX5_add 70 = .ok (.fastore, 1) := by decide +kernel
theorem dX5_add_71 : decode cX5_add 71 = .ok (.aload_n 0, 1) := by decide +kernel
theorem dX5_add_72 : decode cX5_add 72 = .ok (.dup, 1) := by decide +kernel
theorem dX5_add_73 : decode cX5_add 73 = .ok (.getfield 43, 3) := by decide +kernel
theorem dX5_add_76 : decode cX5_add 76 = .ok (.iconst 1, 1) := by decide +kernel
theorem dX5_add_77 : decode cX5_add 77 = .ok (.iadd, 1) := by decide +kernel
theorem dX5_add_78 : decode cX5_add 78 = .ok (.putfield 43, 3) := by decide +kernel
theorem dX5_add_81 : decode cX5_add 81 = .ok (.iload 5, 2) := by decide +kernel
theorem dX5_add_83 : decode cX5_add 83 = .ok (.ireturn, 1) := by decide +kernel
theorem dX5_numberOf_0 : decode cX5_numberOf 0 = .ok (.iload_n 2, 1) := by decide +kernel
theorem dX5_numberOf_1 : decode cX5_numberOf 1 = .ok (.tableswitch 81 0 5 #[39, 46, 53, 60, 67, 74], 39) := by decide +kernel
theorem dX5_numberOf_40 : decode cX5_numberOf 40 = .ok (.aload_n 0, 1) := by decide +kernel
theorem dX5_numberOf_41 : decode cX5_numberOf 41 = .ok (.getfield 9, 3) := by decide +kernel
theorem dX5_numberOf_44 : decode cX5_numberOf 44 = .ok (.iload_n 1, 1) := by decide +kernel
theorem dX5_numberOf_45 : decode cX5_numberOf 45 = .ok (.iaload, 1) := by decide +kernel
theorem dX5_numberOf_46 : decode cX5_numberOf 46 = .ok (.ireturn, 1) := by decide +kernel
theorem dX5_numberOf_47 : decode cX5_numberOf 47 = .ok (.aload_n 0, 1) := by decide +kernel
theorem dX5_numberOf_48 : decode cX5_numberOf 48 = .ok (.getfield 15, 3) := by decide +kernel
theorem dX5_numberOf_51 : decode cX5_numberOf 51 = .ok (.iload_n 1, 1) := by decide +kernel
theorem dX5_numberOf_52 : decode cX5_numberOf 52 = .ok (.iaload, 1) := by decide +kernel
theorem dX5_numberOf_53 : decode cX5_numberOf 53 = .ok (.ireturn, 1) := by decide +kernel
theorem dX5_numberOf_54 : decode cX5_numberOf 54 = .ok (.aload_n 0, 1) := by decide +kernel
theorem dX5_numberOf_55 : decode cX5_numberOf 55 = .ok (.getfield 18, 3) := by decide +kernel
theorem dX5_numberOf_58 : decode cX5_numberOf 58 = .ok (.iload_n 1, 1) := by decide +kernel
theorem dX5_numberOf_59 : decode cX5_numberOf 59 = .ok (.iaload, 1) := by decide +kernel
theorem dX5_numberOf_60 : decode cX5_numberOf 60 = .ok (.ireturn, 1) := by decide +kernel
theorem dX5_numberOf_61 : decode cX5_numberOf 61 = .ok (.aload_n 0, 1) := by decide +kernel
theorem dX5_numberOf_62 : decode cX5_numberOf 62 = .ok (.getfield 21, 3) := by decide +kernel
theorem dX5_numberOf_65 : decode cX5_numberOf 65 = .ok (.iload_n 1, 1) := by decide +kernel
theorem dX5_numberOf_66 : decode cX5_numberOf 66 = .ok (.iaload, 1) := by decide +kernel
theorem dX5_numberOf_67 : decode cX5_numberOf 67 = .ok (.ireturn, 1) := by decide +kernel
theorem dX5_numberOf_68 : decode cX5_numberOf 68 = .ok (.aload_n 0, 1) := by decide +kernel
theorem dX5_numberOf_69 : decode cX5_numberOf 69 = .ok (.getfield 24, 3) := by decide +kernel
theorem dX5_numberOf_72 : decode cX5_numberOf 72 = .ok (.iload_n 1, 1) := by decide +kernel
theorem dX5_numberOf_73 : decode cX5_numberOf 73 = .ok (.iaload, 1) := by decide +kernel
theorem dX5_numberOf_74 : decode cX5_numberOf 74 = .ok (.ireturn, 1) := by decide +kernel
theorem dX5_numberOf_75 : decode cX5_numberOf 75 = .ok (.aload_n 0, 1) := by decide +kernel
theorem dX5_numberOf_76 : decode cX5_numberOf 76 = .ok (.getfield 27, 3) := by decide +kernel
theorem dX5_numberOf_79 : decode cX5_numberOf 79 = .ok (.iload_n 1, 1) := by decide +kernel
theorem dX5_numberOf_80 : decode cX5_numberOf 80 = .ok (.iaload, 1) := by decide +kernel
theorem dX5_numberOf_81 : decode cX5_numberOf 81 = .ok (.ireturn, 1) := by decide +kernel
theorem dX5_numberOf_82 : decode cX5_numberOf 82 = .ok (.aload_n 0, 1) := by decide +kernel
theorem dX5_numberOf_83 : decode cX5_numberOf 83 = .ok (.getfield 30, 3) := by decide +kernel
theorem dX5_numberOf_86 : decode cX5_numberOf 86 = .ok (.iload_n 1, 1) := by decide +kernel
theorem dX5_numberOf_87 : decode cX5_numberOf 87 = .ok (.iaload, 1) := by decide +kernel
theorem dX5_numberOf_88 : decode cX5_numberOf 88 = .ok (.ireturn, 1) := by decide +kernel
theorem dX5_leaveShelf_0 : decode cX5_leaveShelf 0 = .ok (.aload_n 0, 1) := by decide +kernel
theorem dX5_leaveShelf_1 : decode cX5_leaveShelf 1 = .ok (.getfield 24, 3) := by decide +kernel
theorem dX5_leaveShelf_4 : decode cX5_leaveShelf 4 = .ok (.iload_n 1, 1) := by decide +kernel
theorem dX5_leaveShelf_5 : decode cX5_leaveShelf 5 = .ok (.iload_n 2, 1) := by decide +kernel
theorem dX5_leaveShelf_6 : decode cX5_leaveShelf 6 = .ok (.iastore, 1) := by decide +kernel
theorem dX5_leaveShelf_7 : decode cX5_leaveShelf 7 = .ok (.aload_n 0, 1) := by decide +kernel
theorem dX5_leaveShelf_8 : decode cX5_leaveShelf 8 = .ok (.getfield 27, 3) := by decide +kernel
theorem dX5_leaveShelf_11 : decode cX5_leaveShelf 11 = .ok (.iload_n 1, 1) := by decide +kernel
theorem dX5_leaveShelf_12 : decode cX5_leaveShelf 12 = .ok (.iconst (-1), 1) := by decide +kernel
theorem dX5_leaveShelf_13 : decode cX5_leaveShelf 13 = .ok (.iastore, 1) := by decide +kernel
theorem dX5_leaveShelf_14 : decode cX5_leaveShelf 14 = .ok (.return_, 1) := by decide +kernel
theorem dX5_letters_0 : decode cX5_letters 0 = .ok (.iconst 0, 1) := by decide +kernel
theorem dX5_letters_1 : decode cX5_letters 1 = .ok (.istore_n 1, 1) := by decide +kernel
theorem dX5_letters_2 : decode cX5_letters 2 = .ok (.iconst 0, 1) := by decide +kernel
theorem dX5_letters_3 : decode cX5_letters 3 = .ok (.istore_n 2, 1) := by decide +kernel
theorem dX5_letters_4 : decode cX5_letters 4 = .ok (.iload_n 2, 1) := by decide +kernel
theorem dX5_letters_5 : decode cX5_letters 5 = .ok (.aload_n 0, 1) := by decide +kernel
theorem dX5_letters_6 : decode cX5_letters 6 = .ok (.getfield 43, 3) := by decide +kernel
theorem dX5_letters_9 : decode cX5_letters 9 = .ok (.if_icmp .ge 21, 3) := by decide +kernel
theorem dX5_letters_12 : decode cX5_letters 12 = .ok (.aload_n 0, 1) := by decide +kernel
theorem dX5_letters_13 : decode cX5_letters 13 = .ok (.getfield 9, 3) := by decide +kernel
theorem dX5_letters_16 : decode cX5_letters 16 = .ok (.iload_n 2, 1) := by decide +kernel
theorem dX5_letters_17 : decode cX5_letters 17 = .ok (.iaload, 1) := by decide +kernel
theorem dX5_letters_18 : decode cX5_letters 18 = .ok (.ifCond .ne 6, 3) := by decide +kernel
theorem dX5_letters_21 : decode cX5_letters 21 = .ok (.iinc 1 1, 3) := by decide +kernel
theorem dX5_letters_24 : decode cX5_letters 24 = .ok (.iinc 2 1, 3) := by decide +kernel
theorem dX5_letters_27 : decode cX5_letters 27 = .ok (.goto (-23), 3) := by decide +kernel
theorem dX5_letters_30 : decode cX5_letters 30 = .ok (.iload_n 1, 1) := by decide +kernel
theorem dX5_letters_31 : decode cX5_letters 31 = .ok (.ireturn, 1) := by decide +kernel
theorem dX5_inState_0 : decode cX5_inState 0 = .ok (.iconst 0, 1) := by decide +kernel
theorem dX5_inState_1 : decode cX5_inState 1 = .ok (.istore_n 2, 1) := by decide +kernel
theorem dX5_inState_2 : decode cX5_inState 2 = .ok (.iconst 0, 1) := by decide +kernel
theorem dX5_inState_3 : decode cX5_inState 3 = .ok (.istore_n 3, 1) := by decide +kernel
theorem dX5_inState_4 : decode cX5_inState 4 = .ok (.iload_n 3, 1) := by decide +kernel
theorem dX5_inState_5 : decode cX5_inState 5 = .ok (.aload_n 0, 1) := by decide +kernel
theorem dX5_inState_6 : decode cX5_inState 6 = .ok (.getfield 43, 3) := by decide +kernel
theorem dX5_inState_9 : decode cX5_inState 9 = .ok (.if_icmp .ge 22, 3) := by decide +kernel
theorem dX5_inState_12 : decode cX5_inState 12 = .ok (.aload_n 0, 1) := by decide +kernel
theorem dX5_inState_13 : decode cX5_inState 13 = .ok (.getfield 24, 3) := by decide +kernel
theorem dX5_inState_16 : decode cX5_inState 16 = .ok (.iload_n 3, 1) := by decide +kernel
theorem dX5_inState_17 : decode cX5_inState 17 = .ok (.iaload, 1) := by decide +kernel
theorem dX5_inState_18 : decode cX5_inState 18 = .ok (.iload_n 1, 1) := by decide +kernel
theorem dX5_inState_19 : decode cX5_inState 19 = .ok (.if_icmp .ne 6, 3) := by decide +kernel
theorem dX5_inState_22 : decode cX5_inState 22 = .ok (.iinc 2 1, 3) := by decide +kernel
theorem dX5_inState_25 : decode cX5_inState 25 = .ok (.iinc 3 1, 3) := by decide +kernel
theorem dX5_inState_28 : decode cX5_inState 28 = .ok (.goto (-24), 3) := by decide +kernel
theorem dX5_inState_31 : decode cX5_inState 31 = .ok (.iload_n 2, 1) := by decide +kernel
theorem dX5_inState_32 : decode cX5_inState 32 = .ok (.ireturn, 1) := by decide +kernel
theorem dX5_allWords_0 : decode cX5_allWords 0 = .ok (.iconst 0, 1) := by decide +kernel
theorem dX5_allWords_1 : decode cX5_allWords 1 = .ok (.istore_n 1, 1) := by decide +kernel
theorem dX5_allWords_2 : decode cX5_allWords 2 = .ok (.iconst 0, 1) := by decide +kernel
theorem dX5_allWords_3 : decode cX5_allWords 3 = .ok (.istore_n 2, 1) := by decide +kernel
theorem dX5_allWords_4 : decode cX5_allWords 4 = .ok (.iload_n 2, 1) := by decide +kernel
theorem dX5_allWords_5 : decode cX5_allWords 5 = .ok (.aload_n 0, 1) := by decide +kernel
theorem dX5_allWords_6 : decode cX5_allWords 6 = .ok (.getfield 43, 3) := by decide +kernel
theorem dX5_allWords_9 : decode cX5_allWords 9 = .ok (.if_icmp .ge 27, 3) := by decide +kernel
theorem dX5_allWords_12 : decode cX5_allWords 12 = .ok (.aload_n 0, 1) := by decide +kernel
theorem dX5_allWords_13 : decode cX5_allWords 13 = .ok (.getfield 9, 3) := by decide +kernel
theorem dX5_allWords_16 : decode cX5_allWords 16 = .ok (.iload_n 2, 1) := by decide +kernel
theorem dX5_allWords_17 : decode cX5_allWords 17 = .ok (.iaload, 1) := by decide +kernel
theorem dX5_allWords_18 : decode cX5_allWords 18 = .ok (.ifCond .ne 12, 3) := by decide +kernel
theorem dX5_allWords_21 : decode cX5_allWords 21 = .ok (.iload_n 1, 1) := by decide +kernel
theorem dX5_allWords_22 : decode cX5_allWords 22 = .ok (.aload_n 0, 1) := by decide +kernel
theorem dX5_allWords_23 : decode cX5_allWords 23 = .ok (.getfield 21, 3) := by decide +kernel
theorem dX5_allWords_26 : decode cX5_allWords 26 = .ok (.iload_n 2, 1) := by decide +kernel
theorem dX5_allWords_27 : decode cX5_allWords 27 = .ok (.iaload, 1) := by decide +kernel
theorem dX5_allWords_28 : decode cX5_allWords 28 = .ok (.iadd, 1) := by decide +kernel
theorem dX5_allWords_29 : decode cX5_allWords 29 = .ok (.istore_n 1, 1) := by decide +kernel
theorem dX5_allWords_30 : decode cX5_allWords 30 = .ok (.iinc 2 1, 3) := by decide +kernel
theorem dX5_allWords_33 : decode cX5_allWords 33 = .ok (.goto (-29), 3) := by decide +kernel
theorem dX5_allWords_36 : decode cX5_allWords 36 = .ok (.iload_n 1, 1) := by decide +kernel
theorem dX5_allWords_37 : decode cX5_allWords 37 = .ok (.ireturn, 1) := by decide +kernel
theorem dX5_takenLettersTo_0 : decode cX5_takenLettersTo 0 = .ok (.iconst 0, 1) := by decide +kernel
theorem dX5_takenLettersTo_1 : decode cX5_takenLettersTo 1 = .ok (.istore_n 2, 1) := by decide +kernel
theorem dX5_takenLettersTo_2 : decode cX5_takenLettersTo 2 = .ok (.iconst 0, 1) := by decide +kernel
theorem dX5_takenLettersTo_3 : decode cX5_takenLettersTo 3 = .ok (.istore_n 3, 1) := by decide +kernel
theorem dX5_takenLettersTo_4 : decode cX5_takenLettersTo 4 = .ok (.iload_n 3, 1) := by decide +kernel
theorem dX5_takenLettersTo_5 : decode cX5_takenLettersTo 5 = .ok (.aload_n 0, 1) := by decide +kernel
theorem dX5_takenLettersTo_6 : decode cX5_takenLettersTo 6 = .ok (.getfield 43, 3) := by decide +kernel
theorem dX5_takenLettersTo_9 : decode cX5_takenLettersTo 9 = .ok (.if_icmp .ge 41, 3) := by decide +kernel
theorem dX5_takenLettersTo_12 : decode cX5_takenLettersTo 12 = .ok (.aload_n 0, 1) := by decide +kernel
theorem dX5_takenLettersTo_13 : decode cX5_takenLettersTo 13 = .ok (.getfield 9, 3) := by decide +kernel
theorem dX5_takenLettersTo_16 : decode cX5_takenLettersTo 16 = .ok (.iload_n 3, 1) := by decide +kernel
theorem dX5_takenLettersTo_17 : decode cX5_takenLettersTo 17 = .ok (.iaload, 1) := by decide +kernel
theorem dX5_takenLettersTo_18 : decode cX5_takenLettersTo 18 = .ok (.ifCond .ne 26, 3) := by decide +kernel
theorem dX5_takenLettersTo_21 : decode cX5_takenLettersTo 21 = .ok (.aload_n 0, 1) := by decide +kernel
theorem dX5_takenLettersTo_22 : decode cX5_takenLettersTo 22 = .ok (.getfield 24, 3) := by decide +kernel
theorem dX5_takenLettersTo_25 : decode cX5_takenLettersTo 25 = .ok (.iload_n 3, 1) := by decide +kernel
theorem dX5_takenLettersTo_26 : decode cX5_takenLettersTo 26 = .ok (.iaload, 1) := by decide +kernel
theorem dX5_takenLettersTo_27 : decode cX5_takenLettersTo 27 = .ok (.iconst 3, 1) := by decide +kernel
theorem dX5_takenLettersTo_28 : decode cX5_takenLettersTo 28 = .ok (.if_icmp .ne 16, 3) := by decide +kernel
theorem dX5_takenLettersTo_31 : decode cX5_takenLettersTo 31 = .ok (.aload_n 0, 1) := by decide +kernel
theorem dX5_takenLettersTo_32 : decode cX5_takenLettersTo 32 = .ok (.getfield 18, 3) := by decide +kernel
theorem dX5_takenLettersTo_35 : decode cX5_takenLettersTo 35 = .ok (.iload_n 3, 1) := by decide +kernel
theorem dX5_takenLettersTo_36 : decode cX5_takenLettersTo 36 = .ok (.iaload, 1) := by decide +kernel
theorem dX5_takenLettersTo_37 : decode cX5_takenLettersTo 37 = .ok (.iload_n 1, 1) := by decide +kernel
theorem dX5_takenLettersTo_38 : decode cX5_takenLettersTo 38 = .ok (.if_icmp .ne 6, 3) := by decide +kernel
theorem dX5_takenLettersTo_41 : decode cX5_takenLettersTo 41 = .ok (.iinc 2 1, 3) := by decide +kernel
theorem dX5_takenLettersTo_44 : decode cX5_takenLettersTo 44 = .ok (.iinc 3 1, 3) := by decide +kernel
theorem dX5_takenLettersTo_47 : decode cX5_takenLettersTo 47 = .ok (.goto (-43), 3) := by decide +kernel
theorem dX5_takenLettersTo_50 : decode cX5_takenLettersTo 50 = .ok (.iload_n 2, 1) := by decide +kernel
theorem dX5_takenLettersTo_51 : decode cX5_takenLettersTo 51 = .ok (.ireturn, 1) := by decide +kernel
theorem dX5_worstOnShelf_0 : decode cX5_worstOnShelf 0 = .ok (.iconst (-1), 1) := by decide +kernel
theorem dX5_worstOnShelf_1 : decode cX5_worstOnShelf 1 = .ok (.istore_n 1, 1) := by decide +kernel
theorem dX5_worstOnShelf_2 : decode cX5_worstOnShelf 2 = .ok (.iconst 0, 1) := by decide +kernel
theorem dX5_worstOnShelf_3 : decode cX5_worstOnShelf 3 = .ok (.istore_n 2, 1) := by decide +kernel
theorem dX5_worstOnShelf_4 : decode cX5_worstOnShelf 4 = .ok (.iload_n 2, 1) := by decide +kernel
theorem dX5_worstOnShelf_5 : decode cX5_worstOnShelf 5 = .ok (.aload_n 0, 1) := by decide +kernel
theorem dX5_worstOnShelf_6 : decode cX5_worstOnShelf 6 = .ok (.getfield 43, 3) := by decide +kernel
theorem dX5_worstOnShelf_9 : decode cX5_worstOnShelf 9 = .ok (.if_icmp .ge 51, 3) := by decide +kernel
theorem dX5_worstOnShelf_12 : decode cX5_worstOnShelf 12 = .ok (.aload_n 0, 1) := by decide +kernel
theorem dX5_worstOnShelf_13 : decode cX5_worstOnShelf 13 = .ok (.getfield 9, 3) := by decide +kernel
theorem dX5_worstOnShelf_16 : decode cX5_worstOnShelf 16 = .ok (.iload_n 2, 1) := by decide +kernel
theorem dX5_worstOnShelf_17 : decode cX5_worstOnShelf 17 = .ok (.iaload, 1) := by decide +kernel
theorem dX5_worstOnShelf_18 : decode cX5_worstOnShelf 18 = .ok (.ifCond .ne 36, 3) := by decide +kernel
theorem dX5_worstOnShelf_21 : decode cX5_worstOnShelf 21 = .ok (.aload_n 0, 1) := by decide +kernel
theorem dX5_worstOnShelf_22 : decode cX5_worstOnShelf 22 = .ok (.getfield 24, 3) := by decide +kernel
theorem dX5_worstOnShelf_25 : decode cX5_worstOnShelf 25 = .ok (.iload_n 2, 1) := by decide +kernel
theorem dX5_worstOnShelf_26 : decode cX5_worstOnShelf 26 = .ok (.iaload, 1) := by decide +kernel
theorem dX5_worstOnShelf_27 : decode cX5_worstOnShelf 27 = .ok (.iconst 2, 1) := by decide +kernel
theorem dX5_worstOnShelf_28 : decode cX5_worstOnShelf 28 = .ok (.if_icmp .ne 26, 3) := by decide +kernel
theorem dX5_worstOnShelf_31 : decode cX5_worstOnShelf 31 = .ok (.iload_n 1, 1) := by decide +kernel
theorem dX5_worstOnShelf_32 : decode cX5_worstOnShelf 32 = .ok (.iconst (-1), 1) := by decide +kernel
theorem dX5_worstOnShelf_33 : decode cX5_worstOnShelf 33 = .ok (.if_icmp .eq 19, 3) := by decide +kernel
theorem dX5_worstOnShelf_36 : decode cX5_worstOnShelf 36 = .ok (.aload_n 0, 1) := by decide +kernel
theorem dX5_worstOnShelf_37 : decode cX5_worstOnShelf 37 = .ok (.getfield 33, 3) := by decide +kernel
theorem dX5_worstOnShelf_40 : decode cX5_worstOnShelf 40 = .ok (.iload_n 2, 1) := by decide +kernel
theorem dX5_worstOnShelf_41 : decode cX5_worstOnShelf 41 = .ok (.faload, 1) := by decide +kernel
theorem dX5_worstOnShelf_42 : decode cX5_worstOnShelf 42 = .ok (.aload_n 0, 1) := by decide +kernel
theorem dX5_worstOnShelf_43 : decode cX5_worstOnShelf 43 = .ok (.getfield 33, 3) := by decide +kernel
theorem dX5_worstOnShelf_46 : decode cX5_worstOnShelf 46 = .ok (.iload_n 1, 1) := by decide +kernel
theorem dX5_worstOnShelf_47 : decode cX5_worstOnShelf 47 = .ok (.faload, 1) := by decide +kernel
theorem dX5_worstOnShelf_48 : decode cX5_worstOnShelf 48 = .ok (.fcmp .g, 1) := by decide +kernel
theorem dX5_worstOnShelf_49 : decode cX5_worstOnShelf 49 = .ok (.ifCond .ge 5, 3) := by decide +kernel
theorem dX5_worstOnShelf_52 : decode cX5_worstOnShelf 52 = .ok (.iload_n 2, 1) := by decide +kernel
theorem dX5_worstOnShelf_53 : decode cX5_worstOnShelf 53 = .ok (.istore_n 1, 1) := by decide +kernel
theorem dX5_worstOnShelf_54 : decode cX5_worstOnShelf 54 = .ok (.iinc 2 1, 3) := by decide +kernel
theorem dX5_worstOnShelf_57 : decode cX5_worstOnShelf 57 = .ok (.goto (-53), 3) := by decide +kernel
theorem dX5_worstOnShelf_60 : decode cX5_worstOnShelf 60 = .ok (.iload_n 1, 1) := by decide +kernel
theorem dX5_worstOnShelf_61 : decode cX5_worstOnShelf 61 = .ok (.ireturn, 1) := by decide +kernel
theorem dX5_letterAt_0 : decode cX5_letterAt 0 = .ok (.iconst 0, 1) := by decide +kernel
theorem dX5_letterAt_1 : decode cX5_letterAt 1 = .ok (.istore_n 2, 1) := by decide +kernel
theorem dX5_letterAt_2 : decode cX5_letterAt 2 = .ok (.iload_n 2, 1) := by decide +kernel
theorem dX5_letterAt_3 : decode cX5_letterAt 3 = .ok (.aload_n 0, 1) := by decide +kernel
theorem dX5_letterAt_4 : decode cX5_letterAt 4 = .ok (.getfield 43, 3) := by decide +kernel
theorem dX5_letterAt_7 : decode cX5_letterAt 7 = .ok (.if_icmp .ge 29, 3) := by decide +kernel
theorem dX5_letterAt_10 : decode cX5_letterAt 10 = .ok (.aload_n 0, 1) := by decide +kernel
theorem dX5_letterAt_11 : decode cX5_letterAt 11 = .ok (.getfield 9, 3) := by decide +kernel
theorem dX5_letterAt_14 : decode cX5_letterAt 14 = .ok (.iload_n 2, 1) := by decide +kernel
theorem dX5_letterAt_15 : decode cX5_letterAt 15 = .ok (.iaload, 1) := by decide +kernel
theorem dX5_letterAt_16 : decode cX5_letterAt 16 = .ok (.ifCond .ne 14, 3) := by decide +kernel
theorem dX5_letterAt_19 : decode cX5_letterAt 19 = .ok (.aload_n 0, 1) := by decide +kernel
theorem dX5_letterAt_20 : decode cX5_letterAt 20 = .ok (.iload_n 2, 1) := by decide +kernel
theorem dX5_letterAt_21 : decode cX5_letterAt 21 = .ok (.invokevirtual 47, 3) := by decide +kernel
theorem dX5_letterAt_24 : decode cX5_letterAt 24 = .ok (.iload_n 1, 1) := by decide +kernel
theorem dX5_letterAt_25 : decode cX5_letterAt 25 = .ok (.if_icmp .ne 5, 3) := by decide +kernel
theorem dX5_letterAt_28 : decode cX5_letterAt 28 = .ok (.iload_n 2, 1) := by decide +kernel
theorem dX5_letterAt_29 : decode cX5_letterAt 29 = .ok (.ireturn, 1) := by decide +kernel
theorem dX5_letterAt_30 : decode cX5_letterAt 30 = .ok (.iinc 2 1, 3) := by decide +kernel
theorem dX5_letterAt_33 : decode cX5_letterAt 33 = .ok (.goto (-31), 3) := by decide +kernel
theorem dX5_letterAt_36 : decode cX5_letterAt 36 = .ok (.iconst (-1), 1) := by decide +kernel
theorem dX5_letterAt_37 : decode cX5_letterAt 37 = .ok (.ireturn, 1) := by decide +kernel
theorem dX5_lettersAhead_0 : decode cX5_lettersAhead 0 = .ok (.iconst 0, 1) := by decide +kernel
theorem dX5_lettersAhead_1 : decode cX5_lettersAhead 1 = .ok (.istore_n 2, 1) := by decide +kernel
theorem dX5_lettersAhead_2 : decode cX5_lettersAhead 2 = .ok (.iconst 0, 1) := by decide +kernel
theorem dX5_lettersAhead_3 : decode cX5_lettersAhead 3 = .ok (.istore_n 3, 1) := by decide +kernel
theorem dX5_lettersAhead_4 : decode cX5_lettersAhead 4 = .ok (.iload_n 3, 1) := by decide +kernel
theorem dX5_lettersAhead_5 : decode cX5_lettersAhead 5 = .ok (.aload_n 0, 1) := by decide +kernel
theorem dX5_lettersAhead_6 : decode cX5_lettersAhead 6 = .ok (.getfield 43, 3) := by decide +kernel
theorem dX5_lettersAhead_9 : decode cX5_lettersAhead 9 = .ok (.if_icmp .ge 30, 3) := by decide +kernel
theorem dX5_lettersAhead_12 : decode cX5_lettersAhead 12 = .ok (.aload_n 0, 1) := by decide +kernel
theorem dX5_lettersAhead_13 : decode cX5_lettersAhead 13 = .ok (.getfield 9, 3) := by decide +kernel
theorem dX5_lettersAhead_16 : decode cX5_lettersAhead 16 = .ok (.iload_n 3, 1) := by decide +kernel
theorem dX5_lettersAhead_17 : decode cX5_lettersAhead 17 = .ok (.iaload, 1) := by decide +kernel
theorem dX5_lettersAhead_18 : decode cX5_lettersAhead 18 = .ok (.ifCond .ne 15, 3) := by decide +kernel
theorem dX5_lettersAhead_21 : decode cX5_lettersAhead 21 = .ok (.aload_n 0, 1) := by decide +kernel
theorem dX5_lettersAhead_22 : decode cX5_lettersAhead 22 = .ok (.iload_n 3, 1) := by decide +kernel
theorem dX5_lettersAhead_23 : decode cX5_lettersAhead 23 = .ok (.iload_n 1, 1) := by decide +kernel
theorem dX5_lettersAhead_24 : decode cX5_lettersAhead 24 = .ok (.invokevirtual 51, 3) := by decide +kernel
theorem dX5_lettersAhead_27 : decode cX5_lettersAhead 27 = .ok (.ifCond .eq 6, 3) := by decide +kernel
theorem dX5_lettersAhead_30 : decode cX5_lettersAhead 30 = .ok (.iinc 2 1, 3) := by decide +kernel
theorem dX5_lettersAhead_33 : decode cX5_lettersAhead 33 = .ok (.iinc 3 1, 3) := by decide +kernel
theorem dX5_lettersAhead_36 : decode cX5_lettersAhead 36 = .ok (.goto (-32), 3) := by decide +kernel
theorem dX5_lettersAhead_39 : decode cX5_lettersAhead 39 = .ok (.iload_n 2, 1) := by decide +kernel
theorem dX5_lettersAhead_40 : decode cX5_lettersAhead 40 = .ok (.ireturn, 1) := by decide +kernel
theorem dX5_isAhead_0 : decode cX5_isAhead 0 = .ok (.aload_n 0, 1) := by decide +kernel
theorem dX5_isAhead_1 : decode cX5_isAhead 1 = .ok (.getfield 33, 3) := by decide +kernel
theorem dX5_isAhead_4 : decode cX5_isAhead 4 = .ok (.iload_n 1, 1) := by decide +kernel
theorem dX5_isAhead_5 : decode cX5_isAhead 5 = .ok (.faload, 1) := by decide +kernel
theorem dX5_isAhead_6 : decode cX5_isAhead 6 = .ok (.aload_n 0, 1) := by decide +kernel
theorem dX5_isAhead_7 : decode cX5_isAhead 7 = .ok (.getfield 33, 3) := by decide +kernel
theorem dX5_isAhead_10 : decode cX5_isAhead 10 = .ok (.iload_n 2, 1) := by decide +kernel
theorem dX5_isAhead_11 : decode cX5_isAhead 11 = .ok (.faload, 1) := by decide +kernel
theorem dX5_isAhead_12 : decode cX5_isAhead 12 = .ok (.fcmp .l, 1) := by decide +kernel
theorem dX5_isAhead_13 : decode cX5_isAhead 13 = .ok (.ifCond .gt 24, 3) := by decide +kernel
theorem dX5_isAhead_16 : decode cX5_isAhead 16 = .ok (.aload_n 0, 1) := by decide +kernel
theorem dX5_isAhead_17 : decode cX5_isAhead 17 = .ok (.getfield 33, 3) := by decide +kernel
theorem dX5_isAhead_20 : decode cX5_isAhead 20 = .ok (.iload_n 1, 1) := by decide +kernel
theorem dX5_isAhead_21 : decode cX5_isAhead 21 = .ok (.faload, 1) := by decide +kernel
theorem dX5_isAhead_22 : decode cX5_isAhead 22 = .ok (.aload_n 0, 1) := by decide +kernel
theorem dX5_isAhead_23 : decode cX5_isAhead 23 = .ok (.getfield 33, 3) := by decide +kernel
theorem dX5_isAhead_26 : decode cX5_isAhead 26 = .ok (.iload_n 2, 1) := by decide +kernel
theorem dX5_isAhead_27 : decode cX5_isAhead 27 = .ok (.faload, 1) := by decide +kernel
theorem dX5_isAhead_28 : decode cX5_isAhead 28 = .ok (.fcmp .l, 1) := by decide +kernel
theorem dX5_isAhead_29 : decode cX5_isAhead 29 = .ok (.ifCond .ne 12, 3) := by decide +kernel
theorem dX5_isAhead_32 : decode cX5_isAhead 32 = .ok (.iload_n 1, 1) := by decide +kernel
theorem dX5_isAhead_33 : decode cX5_isAhead 33 = .ok (.iload_n 2, 1) := by decide +kernel
theorem dX5_isAhead_34 : decode cX5_isAhead 34 = .ok (.if_icmp .ge 7, 3) := by decide +kernel
theorem dX5_isAhead_37 : decode cX5_isAhead 37 = .ok (.iconst 1, 1) := by decide +kernel
theorem dX5_isAhead_38 : decode cX5_isAhead 38 = .ok (.goto 4, 3) := by decide +kernel
theorem dX5_isAhead_41 : decode cX5_isAhead 41 = .ok (.iconst 0, 1) := by decide +kernel
theorem dX5_isAhead_42 : decode cX5_isAhead 42 = .ok (.ireturn, 1) := by decide +kernel
theorem dX6_init_0 : decode cX6_init 0 = .ok (.aload_n 0, 1) := by decide +kernel
theorem dX6_init_1 : decode cX6_init 1 = .ok (.invokespecial 3, 3) := by decide +kernel
theorem dX6_init_4 : decode cX6_init 4 = .ok (.aload_n 0, 1) := by decide +kernel
theorem dX6_init_5 : decode cX6_init 5 = .ok (.new 9, 3) := by decide +kernel
theorem dX6_init_8 : decode cX6_init 8 = .ok (.dup, 1) := by decide +kernel
theorem dX6_init_9 : decode cX6_init 9 = .ok (.invokespecial 11, 3) := by decide +kernel
theorem dX6_init_12 : decode cX6_init 12 = .ok (.putfield 12, 3) := by decide +kernel
theorem dX6_init_15 : decode cX6_init 15 = .ok (.aload_n 0, 1) := by decide +kernel
theorem dX6_init_16 : decode cX6_init 16 = .ok (.new 18, 3) := by decide +kernel
theorem dX6_init_19 : decode cX6_init 19 = .ok (.dup, 1) := by decide +kernel
theorem dX6_init_20 : decode cX6_init 20 = .ok (.invokespecial 20, 3) := by decide +kernel
theorem dX6_init_23 : decode cX6_init 23 = .ok (.putfield 21, 3) := by decide +kernel
theorem dX6_init_26 : decode cX6_init 26 = .ok (.aload_n 0, 1) := by decide +kernel
theorem dX6_init_27 : decode cX6_init 27 = .ok (.new 25, 3) := by decide +kernel
theorem dX6_init_30 : decode cX6_init 30 = .ok (.dup, 1) := by decide +kernel
theorem dX6_init_31 : decode cX6_init 31 = .ok (.invokespecial 27, 3) := by decide +kernel
theorem dX6_init_34 : decode cX6_init 34 = .ok (.putfield 28, 3) := by decide +kernel
theorem dX6_init_37 : decode cX6_init 37 = .ok (.aload_n 0, 1) := by decide +kernel
theorem dX6_init_38 : decode cX6_init 38 = .ok (.new 32, 3) := by decide +kernel
theorem dX6_init_41 : decode cX6_init 41 = .ok (.dup, 1) := by decide +kernel
theorem dX6_init_42 : decode cX6_init 42 = .ok (.invokespecial 34, 3) := by decide +kernel
theorem dX6_init_45 : decode cX6_init 45 = .ok (.putfield 35, 3) := by decide +kernel
theorem dX6_init_48 : decode cX6_init 48 = .ok (.return_, 1) := by decide +kernel
theorem dX6_copyFrom_0 : decode cX6_copyFrom 0 = .ok (.aload_n 0, 1) := by decide +kernel
theorem dX6_copyFrom_1 : decode cX6_copyFrom 1 = .ok (.getfield 12, 3) := by decide +kernel
theorem dX6_copyFrom_4 : decode cX6_copyFrom 4 = .ok (.aload_n 1, 1) := by decide +kernel
theorem dX6_copyFrom_5 : decode cX6_copyFrom 5 = .ok (.getfield 12, 3) := by decide +kernel
theorem dX6_copyFrom_8 : decode cX6_copyFrom 8 = .ok (.invokevirtual 39, 3) := by decide +kernel
theorem dX6_copyFrom_11 : decode cX6_copyFrom 11 = .ok (.aload_n 0, 1) := by decide +kernel
theorem dX6_copyFrom_12 : decode cX6_copyFrom 12 = .ok (.getfield 21, 3) := by decide +kernel
theorem dX6_copyFrom_15 : decode cX6_copyFrom 15 = .ok (.aload_n 1, 1) := by decide +kernel
theorem dX6_copyFrom_16 : decode cX6_copyFrom 16 = .ok (.getfield 21, 3) := by decide +kernel
theorem dX6_copyFrom_19 : decode cX6_copyFrom 19 = .ok (.invokevirtual 43, 3) := by decide +kernel
theorem dX6_copyFrom_22 : decode cX6_copyFrom 22 = .ok (.aload_n 0, 1) := by decide +kernel
theorem dX6_copyFrom_23 : decode cX6_copyFrom 23 = .ok (.getfield 28, 3) := by decide +kernel
theorem dX6_copyFrom_26 : decode cX6_copyFrom 26 = .ok (.aload_n 1, 1) := by decide +kernel
theorem dX6_copyFrom_27 : decode cX6_copyFrom 27 = .ok (.getfield 28, 3) := by decide +kernel
theorem dX6_copyFrom_30 : decode cX6_copyFrom 30 = .ok (.invokevirtual 46, 3) := by decide +kernel
theorem dX6_copyFrom_33 : decode cX6_copyFrom 33 = .ok (.aload_n 0, 1) := by decide +kernel
theorem dX6_copyFrom_34 : decode cX6_copyFrom 34 = .ok (.getfield 35, 3) := by decide +kernel
theorem dX6_copyFrom_37 : decode cX6_copyFrom 37 = .ok (.aload_n 1, 1) := by decide +kernel
theorem dX6_copyFrom_38 : decode cX6_copyFrom 38 = .ok (.getfield 35, 3) := by decide +kernel
theorem dX6_copyFrom_41 : decode cX6_copyFrom 41 = .ok (.invokevirtual 49, 3) := by decide +kernel
theorem dX6_copyFrom_44 : decode cX6_copyFrom 44 = .ok (.return_, 1) := by decide +kernel
theorem dX6_writeLetter_0 : decode cX6_writeLetter 0 = .ok (.aload_n 0, 1) := by decide +kernel
theorem dX6_writeLetter_1 : decode cX6_writeLetter 1 = .ok (.getfield 12, 3) := by decide +kernel
theorem dX6_writeLetter_4 : decode cX6_writeLetter 4 = .ok (.getfield 52, 3) := by decide +kernel
theorem dX6_writeLetter_7 : decode cX6_writeLetter 7 = .ok (.iload 4, 2) := by decide +kernel
theorem dX6_writeLetter_9 : decode cX6_writeLetter 9 = .ok (.faload, 1) := by decide +kernel
theorem dX6_writeLetter_10 : decode cX6_writeLetter 10 = .ok (.iload_n 3, 1) := by decide +kernel
theorem dX6_writeLetter_11 : decode cX6_writeLetter 11 = .ok (.invokestatic 56, 3) := by decide +kernel
theorem dX6_writeLetter_14 : decode cX6_writeLetter 14 = .ok (.fsub, 1) := by decide +kernel
theorem dX6_writeLetter_15 : decode cX6_writeLetter 15 = .ok (.fstore 5, 2) := by decide +kernel
theorem dX6_writeLetter_17 : decode cX6_writeLetter 17 = .ok (.aload_n 0, 1) := by decide +kernel
theorem dX6_writeLetter_18 : decode cX6_writeLetter 18 = .ok (.getfield 12, 3) := by decide +kernel
theorem dX6_writeLetter_21 : decode cX6_writeLetter 21 = .ok (.getfield 52, 3) := by decide +kernel
theorem dX6_writeLetter_24 : decode cX6_writeLetter 24 = .ok (.iload 4, 2) := by decide +kernel
theorem dX6_writeLetter_26 : decode cX6_writeLetter 26 = .ok (.fload 5, 2) := by decide +kernel
theorem dX6_writeLetter_28 : decode cX6_writeLetter 28 = .ok (.fastore, 1) := by decide +kernel
theorem dX6_writeLetter_29 : decode cX6_writeLetter 29 = .ok (.aload_n 0, 1) := by decide +kernel
theorem dX6_writeLetter_30 : decode cX6_writeLetter 30 = .ok (.getfield 21, 3) := by decide +kernel
theorem dX6_writeLetter_33 : decode cX6_writeLetter 33 = .ok (.iconst 0, 1) := by decide +kernel
theorem dX6_writeLetter_34 : decode cX6_writeLetter 34 = .ok (.iload_n 1, 1) := by decide +kernel
theorem dX6_writeLetter_35 : decode cX6_writeLetter 35 = .ok (.iload_n 2, 1) := by decide +kernel
theorem dX6_writeLetter_36 : decode cX6_writeLetter 36 = .ok (.iload_n 3, 1) := by decide +kernel
theorem dX6_writeLetter_37 : decode cX6_writeLetter 37 = .ok (.invokevirtual 60, 3) := by decide +kernel
theorem dX6_writeLetter_40 : decode cX6_writeLetter 40 = .ok (.istore 6, 2) := by decide +kernel
theorem dX6_writeLetter_42 : decode cX6_writeLetter 42 = .ok (.aload_n 0, 1) := by decide +kernel
theorem dX6_writeLetter_43 : decode cX6_writeLetter 43 = .ok (.getfield 21, 3) := by decide +kernel
theorem dX6_writeLetter_46 : decode cX6_writeLetter 46 = .ok (.getfield 64, 3) := by decide +kernel
theorem dX6_writeLetter_49 : decode cX6_writeLetter 49 = .ok (.iload 6, 2) := by decide +kernel
theorem dX6_writeLetter_51 : decode cX6_writeLetter 51 = .ok (.fload 5, 2) := by decide +kernel
theorem dX6_writeLetter_53 : decode cX6_writeLetter 53 = .ok (.fconst 1, 1) := by decide +kernel
theorem dX6_writeLetter_54 : decode cX6_writeLetter 54 = .ok (.fadd, 1) := by decide +kernel
theorem dX6_writeLetter_55 : decode cX6_writeLetter 55 = .ok (.fload 5, 2) := by decide +kernel
theorem dX6_writeLetter_57 : decode cX6_writeLetter 57 = .ok (.fconst 1, 1) := by decide +kernel
theorem dX6_writeLetter_58 : decode cX6_writeLetter 58 = .ok (.fadd, 1) := by decide +kernel
theorem dX6_writeLetter_59 : decode cX6_writeLetter 59 = .ok (.ldc 67, 2) := by decide +kernel
theorem dX6_writeLetter_61 : decode cX6_writeLetter 61 = .ok (.iload_n 3, 1) := by decide +kernel
theorem dX6_writeLetter_62 : decode cX6_writeLetter 62 = .ok (.i2f, 1) := by decide +kernel
theorem dX6_writeLetter_63 : decode cX6_writeLetter 63 = .ok (.fmul, 1) := by decide +kernel
theorem dX6_writeLetter_64 : decode cX6_writeLetter 64 = .ok (.fadd, 1) := by decide +kernel
theorem dX6_writeLetter_65 : decode cX6_writeLetter 65 = .ok (.fdiv, 1) := by decide +kernel
theorem dX6_writeLetter_66 : decode cX6_writeLetter 66 = .ok (.fastore, 1) := by decide +kernel
theorem dX6_writeLetter_67 : decode cX6_writeLetter 67 = .ok (.iload 6, 2) := by decide +kernel
theorem dX6_writeLetter_69 : decode cX6_writeLetter 69 = .ok (.ireturn, 1) := by decide +kernel
theorem dX6_wrapParcel_0 : decode cX6_wrapParcel 0 = .ok (.aload_n 0, 1) := by decide +kernel
theorem dX6_wrapParcel_1 : decode cX6_wrapParcel 1 = .ok (.getfield 12, 3) := by decide +kernel
theorem dX6_wrapParcel_4 : decode cX6_wrapParcel 4 = .ok (.aload_n 0, 1) := by decide +kernel
theorem dX6_wrapParcel_5 : decode cX6_wrapParcel 5 = .ok (.getfield 12, 3) := by decide +kernel
theorem dX6_wrapParcel_8 : decode cX6_wrapParcel 8 = .ok (.getfield 68, 3) := by decide +kernel
theorem dX6_wrapParcel_11 : decode cX6_wrapParcel 11 = .ok (.iload_n 3, 1) := by decide +kernel
theorem dX6_wrapParcel_12 : decode cX6_wrapParcel 12 = .ok (.iload 4, 2) := by decide +kernel
theorem dX6_wrapParcel_14 : decode cX6_wrapParcel 14 = .ok (.iload 5, 2) := by decide +kernel
theorem dX6_wrapParcel_16 : decode cX6_wrapParcel 16 = .ok (.invokestatic 72, 3) := by decide +kernel
theorem dX6_wrapParcel_19 : decode cX6_wrapParcel 19 = .ok (.fsub, 1) := by decide +kernel
theorem dX6_wrapParcel_20 : decode cX6_wrapParcel 20 = .ok (.putfield 68, 3) := by decide +kernel
theorem dX6_wrapParcel_23 : decode cX6_wrapParcel 23 = .ok (.aload_n 0, 1) := by decide +kernel
theorem dX6_wrapParcel_24 : decode cX6_wrapParcel 24 = .ok (.getfield 21, 3) := by decide +kernel
theorem dX6_wrapParcel_27 : decode cX6_wrapParcel 27 = .ok (.iconst 1, 1) := by decide +kernel
theorem dX6_wrapParcel_28 : decode cX6_wrapParcel 28 = .ok (.iload_n 1, 1) := by decide +kernel
theorem dX6_wrapParcel_29 : decode cX6_wrapParcel 29 = .ok (.iload_n 2, 1) := by decide +kernel
theorem dX6_wrapParcel_30 : decode cX6_wrapParcel 30 = .ok (.iload_n 3, 1) := by decide +kernel
theorem dX6_wrapParcel_31 : decode cX6_wrapParcel 31 = .ok (.iload 4, 2) := by decide +kernel
theorem dX6_wrapParcel_33 : decode cX6_wrapParcel 33 = .ok (.iadd, 1) := by decide +kernel
theorem dX6_wrapParcel_34 : decode cX6_wrapParcel 34 = .ok (.iload 5, 2) := by decide +kernel
theorem dX6_wrapParcel_36 : decode cX6_wrapParcel 36 = .ok (.iadd, 1) := by decide +kernel
theorem dX6_wrapParcel_37 : decode cX6_wrapParcel 37 = .ok (.invokevirtual 60, 3) := by decide +kernel
theorem dX6_wrapParcel_40 : decode cX6_wrapParcel 40 = .ok (.ireturn, 1) := by decide +kernel
theorem dX6_stampItem_0 : decode cX6_stampItem 0 = .ok (.aload_n 0, 1) := by decide +kernel
theorem dX6_stampItem_1 : decode cX6_stampItem 1 = .ok (.getfield 12, 3) := by decide +kernel
theorem dX6_stampItem_4 : decode cX6_stampItem 4 = .ok (.iload_n 2, 1) := by decide +kernel
theorem dX6_stampItem_5 : decode cX6_stampItem 5 = .ok (.invokevirtual 76, 3) := by decide +kernel
theorem dX6_stampItem_8 : decode cX6_stampItem 8 = .ok (.fstore_n 3, 1) := by decide +kernel
theorem dX6_stampItem_9 : decode cX6_stampItem 9 = .ok (.aload_n 0, 1) := by decide +kernel
theorem dX6_stampItem_10 : decode cX6_stampItem 10 = .ok (.getfield 12, 3) := by decide +kernel
theorem dX6_stampItem_13 : decode cX6_stampItem 13 = .ok (.getfield 79, 3) := by decide +kernel
theorem dX6_stampItem_16 : decode cX6_stampItem 16 = .ok (.iload_n 2, 1) := by decide +kernel
theorem dX6_stampItem_17 : decode cX6_stampItem 17 = .ok (.aload_n 0, 1) := by decide +kernel
theorem dX6_stampItem_18 : decode cX6_stampItem 18 = .ok (.getfield 12, 3) := by decide +kernel
theorem dX6_stampItem_21 : decode cX6_stampItem 21 = .ok (.getfield 79, 3) := by decide +kernel
theorem dX6_stampItem_24 : decode cX6_stampItem 24 = .ok (.iload_n 2, 1) := by decide +kernel
theorem dX6_stampItem_25 : decode cX6_stampItem 25 = .ok (.faload, 1) := by decide +kernel
theorem dX6_stampItem_26 : decode cX6_stampItem 26 = .ok (.invokestatic 82, 3) := by decide +kernel
theorem dX6_stampItem_29 : decode cX6_stampItem 29 = .ok (.fastore, 1) := by decide +kernel
theorem dX6_stampItem_30 : decode cX6_stampItem 30 = .ok (.aload_n 0, 1) := by decide +kernel
theorem dX6_stampItem_31 : decode cX6_stampItem 31 = .ok (.getfield 12, 3) := by decide +kernel
theorem dX6_stampItem_34 : decode cX6_stampItem 34 = .ok (.aload_n 0, 1) := by decide +kernel
theorem dX6_stampItem_35 : decode cX6_stampItem 35 = .ok (.getfield 12, 3) := by decide +kernel
theorem dX6_stampItem_38 : decode cX6_stampItem 38 = .ok (.getfield 86, 3) := by decide +kernel
theorem dX6_stampItem_41 : decode cX6_stampItem 41 = .ok (.invokestatic 89, 3) := by decide +kernel
theorem dX6_stampItem_44 : decode cX6_stampItem 44 = .ok (.putfield 86, 3) := by decide +kernel
theorem dX6_stampItem_47 : decode cX6_stampItem 47 = .ok (.aload_n 0, 1) := by decide +kernel
theorem dX6_stampItem_48 : decode cX6_stampItem 48 = .ok (.getfield 21, 3) := by decide +kernel
theorem dX6_stampItem_51 : decode cX6_stampItem 51 = .ok (.getfield 92, 3) := by decide +kernel
theorem dX6_stampItem_54 : decode cX6_stampItem 54 = .ok (.iload_n 1, 1) := by decide +kernel
theorem dX6_stampItem_55 : decode cX6_stampItem 55 = .ok (.iconst 1, 1) := by decide +kernel
theorem dX6_stampItem_56 : decode cX6_stampItem 56 = .ok (.iastore, 1) := by decide +kernel
theorem dX6_stampItem_57 : decode cX6_stampItem 57 = .ok (.aload_n 0, 1) := by decide +kernel
theorem dX6_stampItem_58 : decode cX6_stampItem 58 = .ok (.getfield 21, 3) := by decide +kernel
theorem dX6_stampItem_61 : decode cX6_stampItem 61 = .ok (.getfield 96, 3) := by decide +kernel
theorem dX6_stampItem_64 : decode cX6_stampItem 64 = .ok (.iload_n 1, 1) := by decide +kernel
theorem dX6_stampItem_65 : decode cX6_stampItem 65 = .ok (.iload_n 2, 1) := by decide +kernel
theorem dX6_stampItem_66 : decode cX6_stampItem 66 = .ok (.iastore, 1) := by decide +kernel
theorem dX6_stampItem_67 : decode cX6_stampItem 67 = .ok (.fload_n 3, 1) := by decide +kernel
theorem dX6_stampItem_68 : decode cX6_stampItem 68 = .ok (.freturn, 1) := by decide +kernel
theorem dX6_shelveItem_0 : decode cX6_shelveItem 0 = .ok (.aload_n 0, 1) := by decide +kernel
theorem dX6_shelveItem_1 : decode cX6_shelveItem 1 = .ok (.getfield 21, 3) := by decide +kernel
theorem dX6_shelveItem_4 : decode cX6_shelveItem 4 = .ok (.getfield 99, 3) := by decide +kernel
theorem dX6_shelveItem_7 : decode cX6_shelveItem 7 = .ok (.iload_n 1, 1) := by decide +kernel
theorem dX6_shelveItem_8 : decode cX6_shelveItem 8 = .ok (.iaload, 1) := by decide +kernel
theorem dX6_shelveItem_9 : decode cX6_shelveItem 9 = .ok (.istore_n 3, 1) := by decide +kernel
theorem dX6_shelveItem_10 : decode cX6_shelveItem 10 = .ok (.aload_n 0, 1) := by decide +kernel
theorem dX6_shelveItem_11 : decode cX6_shelveItem 11 = .ok (.getfield 28, 3) := by decide +kernel
theorem dX6_shelveItem_14 : decode cX6_shelveItem 14 = .ok (.iload_n 3, 1) := by decide +kernel
theorem dX6_shelveItem_15 : decode cX6_shelveItem 15 = .ok (.iload_n 2, 1) := by decide +kernel
theorem dX6_shelveItem_16 : decode cX6_shelveItem 16 = .ok (.invokevirtual 102, 3) := by decide +kernel
theorem dX6_shelveItem_19 : decode cX6_shelveItem 19 = .ok (.istore 4, 2) := by decide +kernel
theorem dX6_shelveItem_21 : decode cX6_shelveItem 21 = .ok (.iload 4, 2) := by decide +kernel
theorem dX6_shelveItem_23 : decode cX6_shelveItem 23 = .ok (.iconst (-1), 1) := by decide +kernel
theorem dX6_shelveItem_24 : decode cX6_shelveItem 24 = .ok (.if_icmp .eq 36, 3) := by decide +kernel
theorem dX6_shelveItem_27 : decode cX6_shelveItem 27 = .ok (.aload_n 0, 1) := by decide +kernel
theorem dX6_shelveItem_28 : decode cX6_shelveItem 28 = .ok (.getfield 28, 3) := by decide +kernel
theorem dX6_shelveItem_31 : decode cX6_shelveItem 31 = .ok (.iload_n 3, 1) := by decide +kernel
theorem dX6_shelveItem_32 : decode cX6_shelveItem 32 = .ok (.iload_n 2, 1) := by decide +kernel
theorem dX6_shelveItem_33 : decode cX6_shelveItem 33 = .ok (.iload 4, 2) := by decide +kernel
theorem dX6_shelveItem_35 : decode cX6_shelveItem 35 = .ok (.iload_n 1, 1) := by decide +kernel
theorem dX6_shelveItem_36 : decode cX6_shelveItem 36 = .ok (.invokevirtual 106, 3) := by decide +kernel
theorem dX6_shelveItem_39 : decode cX6_shelveItem 39 = .ok (.aload_n 0, 1) := by decide +kernel
theorem dX6_shelveItem_40 : decode cX6_shelveItem 40 = .ok (.getfield 21, 3) := by decide +kernel
theorem dX6_shelveItem_43 : decode cX6_shelveItem 43 = .ok (.getfield 92, 3) := by decide +kernel
theorem dX6_shelveItem_46 : decode cX6_shelveItem 46 = .ok (.iload_n 1, 1) := by decide +kernel
theorem dX6_shelveItem_47 : decode cX6_shelveItem 47 = .ok (.iconst 2, 1) := by decide +kernel
theorem dX6_shelveItem_48 : decode cX6_shelveItem 48 = .ok (.iastore, 1) := by decide +kernel
theorem dX6_shelveItem_49 : decode cX6_shelveItem 49 = .ok (.aload_n 0, 1) := by decide +kernel
theorem dX6_shelveItem_50 : decode cX6_shelveItem 50 = .ok (.getfield 21, 3) := by decide +kernel
theorem dX6_shelveItem_53 : decode cX6_shelveItem 53 = .ok (.getfield 110, 3) := by decide +kernel
theorem dX6_shelveItem_56 : decode cX6_shelveItem 56 = .ok (.iload_n 1, 1) := by decide +kernel
theorem dX6_shelveItem_57 : decode cX6_shelveItem 57 = .ok (.iload 4, 2) := by decide +kernel
theorem dX6_shelveItem_59 : decode cX6_shelveItem 59 = .ok (.iastore, 1) := by decide +kernel
theorem dX6_shelveItem_60 : decode cX6_shelveItem 60 = .ok (.iload 4, 2) := by decide +kernel
theorem dX6_shelveItem_62 : decode cX6_shelveItem 62 = .ok (.ireturn, 1) := by decide +kernel
theorem dX6_takeAll_0 : decode cX6_takeAll 0 = .ok (.iconst 0, 1) := by decide +kernel
theorem dX6_takeAll_1 : decode cX6_takeAll 1 = .ok (.istore_n 2, 1) := by decide +kernel
theorem dX6_takeAll_2 : decode cX6_takeAll 2 = .ok (.iconst 0, 1) := by decide +kernel
theorem dX6_takeAll_3 : decode cX6_takeAll 3 = .ok (.istore_n 3, 1) := by decide +kernel
theorem dX6_takeAll_4 : decode cX6_takeAll 4 = .ok (.iload_n 3, 1) := by decide +kernel
theorem dX6_takeAll_5 : decode cX6_takeAll 5 = .ok (.iconst 1, 1) := by decide +kernel
theorem dX6_takeAll_6 : decode cX6_takeAll 6 = .ok (.if_icmp .gt 41, 3) := by decide +kernel
theorem dX6_takeAll_9 : decode cX6_takeAll 9 = .ok (.iconst 0, 1) := by decide +kernel
theorem dX6_takeAll_10 : decode cX6_takeAll 10 = .ok (.istore 4, 2) := by decide +kernel
theorem dX6_takeAll_12 : decode cX6_takeAll 12 = .ok (.iload 4, 2) := by decide +kernel
theorem dX6_takeAll_14 : decode cX6_takeAll 14 = .ok (.iload_n 3, 1) := by decide +kernel
theorem dX6_takeAll_15 : decode cX6_takeAll 15 = .ok (.invokestatic 113, 3) := by decide +kernel
theorem dX6_takeAll_18 : decode cX6_takeAll 18 = .ok (.if_icmp .ge 23, 3) := by decide +kernel
theorem dX6_takeAll_21 : decode cX6_takeAll 21 = .ok (.aload_n 0, 1) := by decide +kernel
theorem dX6_takeAll_22 : decode cX6_takeAll 22 = .ok (.iload_n 1, 1) := by decide +kernel
theorem dX6_takeAll_23 : decode cX6_takeAll 23 = .ok (.iload_n 3, 1) := by decide +kernel
theorem dX6_takeAll_24 : decode cX6_takeAll 24 = .ok (.iload 4, 2) := by decide +kernel
theorem dX6_takeAll_26 : decode cX6_takeAll 26 = .ok (.invokevirtual 117, 3) := by decide +kernel
theorem dX6_takeAll_29 : decode cX6_takeAll 29 = .ok (.ifCond .eq 6, 3) := by decide +kernel
theorem dX6_takeAll_32 : decode cX6_takeAll 32 = .ok (.iinc 2 1, 3) := by decide +kernel
theorem dX6_takeAll_35 : decode cX6_takeAll 35 = .ok (.iinc 4 1, 3) := by decide +kernel
theorem dX6_takeAll_38 : decode cX6_takeAll 38 = .ok (.goto (-26), 3) := by decide +kernel
theorem dX6_takeAll_41 : decode cX6_takeAll 41 = .ok (.iinc 3 1, 3) := by decide +kernel
theorem dX6_takeAll_44 : decode cX6_takeAll 44 = .ok (.goto (-40), 3) := by decide +kernel
theorem dX6_takeAll_47 : decode cX6_takeAll 47 = .ok (.iload_n 2, 1) := by decide +kernel
theorem dX6_takeAll_48 : decode cX6_takeAll 48 = .ok (.ireturn, 1) := by decide +kernel
theorem dX6_takeFrom_0 : decode cX6_takeFrom 0 = .ok (.aload_n 0, 1) := by decide +kernel
theorem dX6_takeFrom_1 : decode cX6_takeFrom 1 = .ok (.getfield 28, 3) := by decide +kernel
theorem dX6_takeFrom_4 : decode cX6_takeFrom 4 = .ok (.iload_n 1, 1) := by decide +kernel
theorem dX6_takeFrom_5 : decode cX6_takeFrom 5 = .ok (.iload_n 2, 1) := by decide +kernel
theorem dX6_takeFrom_6 : decode cX6_takeFrom 6 = .ok (.iload_n 3, 1) := by decide +kernel
theorem dX6_takeFrom_7 : decode cX6_takeFrom 7 = .ok (.invokevirtual 121, 3) := by decide +kernel
theorem dX6_takeFrom_10 : decode cX6_takeFrom 10 = .ok (.istore 4, 2) := by decide +kernel
theorem dX6_takeFrom_12 : decode cX6_takeFrom 12 = .ok (.iload 4, 2) := by decide +kernel
theorem dX6_takeFrom_14 : decode cX6_takeFrom 14 = .ok (.iconst (-1), 1) := by decide +kernel
theorem dX6_takeFrom_15 : decode cX6_takeFrom 15 = .ok (.if_icmp .ne 5, 3) := by decide +kernel
theorem dX6_takeFrom_18 : decode cX6_takeFrom 18 = .ok (.iconst 0, 1) := by decide +kernel
theorem dX6_takeFrom_19 : decode cX6_takeFrom 19 = .ok (.ireturn, 1) := by decide +kernel
theorem dX6_takeFrom_20 : decode cX6_takeFrom 20 = .ok (.aload_n 0, 1) := by decide +kernel
theorem dX6_takeFrom_21 : decode cX6_takeFrom 21 = .ok (.getfield 28, 3) := by decide +kernel
theorem dX6_takeFrom_24 : decode cX6_takeFrom 24 = .ok (.iload_n 1, 1) := by decide +kernel
theorem dX6_takeFrom_25 : decode cX6_takeFrom 25 = .ok (.iload_n 2, 1) := by decide +kernel
theorem dX6_takeFrom_26 : decode cX6_takeFrom 26 = .ok (.iload_n 3, 1) := by decide +kernel
theorem dX6_takeFrom_27 : decode cX6_takeFrom 27 = .ok (.iconst (-1), 1) := by decide +kernel
theorem dX6_takeFrom_28 : decode cX6_takeFrom 28 = .ok (.invokevirtual 106, 3) := by decide +kernel
theorem dX6_takeFrom_31 : decode cX6_takeFrom 31 = .ok (.aload_n 0, 1) := by decide +kernel
theorem dX6_takeFrom_32 : decode cX6_takeFrom 32 = .ok (.getfield 21, 3) := by decide +kernel
theorem dX6_takeFrom_35 : decode cX6_takeFrom 35 = .ok (.iload 4, 2) := by decide +kernel
theorem dX6_takeFrom_37 : decode cX6_takeFrom 37 = .ok (.iconst 3, 1) := by decide +kernel
theorem dX6_takeFrom_38 : decode cX6_takeFrom 38 = .ok (.invokevirtual 125, 3) := by decide +kernel
theorem dX6_takeFrom_41 : decode cX6_takeFrom 41 = .ok (.iload_n 2, 1) := by decide +kernel
theorem dX6_takeFrom_42 : decode cX6_takeFrom 42 = .ok (.ifCond .ne 16, 3) := by decide +kernel
theorem dX6_takeFrom_45 : decode cX6_takeFrom 45 = .ok (.aload_n 0, 1) := by decide +kernel
theorem dX6_takeFrom_46 : decode cX6_takeFrom 46 = .ok (.getfield 28, 3) := by decide +kernel
theorem dX6_takeFrom_49 : decode cX6_takeFrom 49 = .ok (.getfield 129, 3) := by decide +kernel
theorem dX6_takeFrom_52 : decode cX6_takeFrom 52 = .ok (.iload_n 1, 1) := by decide +kernel
theorem dX6_takeFrom_53 : decode cX6_takeFrom 53 = .ok (.dup2, 1) := by decide +kernel
theorem dX6_takeFrom_54 : decode cX6_takeFrom 54 = .ok (.iaload, 1) := by decide +kernel
theorem dX6_takeFrom_55 : decode cX6_takeFrom 55 = .ok (.iconst 1, 1) := by decide +kernel
theorem dX6_takeFrom_56 : decode cX6_takeFrom 56 = .ok (.iadd, 1) := by decide +kernel
theorem dX6_takeFrom_57 : decode cX6_takeFrom 57 = .ok (.iastore, 1) := by decide +kernel
theorem dX6_takeFrom_58 : decode cX6_takeFrom 58 = .ok (.iconst 1, 1) := by decide +kernel
theorem dX6_takeFrom_59 : decode cX6_takeFrom 59 = .ok (.ireturn, 1) := by decide +kernel
theorem dX6_passHours_0 : decode cX6_passHours 0 = .ok (.iconst 0, 1) := by decide +kernel
theorem dX6_passHours_1 : decode cX6_passHours 1 = .ok (.istore_n 2, 1) := by decide +kernel
theorem dX6_passHours_2 : decode cX6_passHours 2 = .ok (.iconst 0, 1) := by decide +kernel
theorem dX6_passHours_3 : decode cX6_passHours 3 = .ok (.istore_n 3, 1) := by decide +kernel
theorem dX6_passHours_4 : decode cX6_passHours 4 = .ok (.iload_n 3, 1) := by decide +kernel
theorem dX6_passHours_5 : decode cX6_passHours 5 = .ok (.iload_n 1, 1) := by decide +kernel
theorem dX6_passHours_6 : decode cX6_passHours 6 = .ok (.if_icmp .ge 62, 3) := by decide +kernel
theorem dX6_passHours_9 : decode cX6_passHours 9 = .ok (.aload_n 0, 1) := by decide +kernel
theorem dX6_passHours_10 : decode cX6_passHours 10 = .ok (.getfield 35, 3) := by decide +kernel
theorem dX6_passHours_13 : decode cX6_passHours 13 = .ok (.aload_n 0, 1) := by decide +kernel
theorem dX6_passHours_14 : decode cX6_passHours 14 = .ok (.getfield 35, 3) := by decide +kernel
theorem dX6_passHours_17 : decode cX6_passHours 17 = .ok (.getfield 132, 3) := by decide +kernel
theorem dX6_passHours_20 : decode cX6_passHours 20 = .ok (.invokestatic 135, 3) := by decide +kernel
theorem dX6_passHours_23 : decode cX6_passHours 23 = .ok (.putfield 132, 3) := by decide +kernel
theorem dX6_passHours_26 : decode cX6_passHours 26 = .ok (.aload_n 0, 1) := by decide +kernel
theorem dX6_passHours_27 : decode cX6_passHours 27 = .ok (.getfield 35, 3) := by decide +kernel
theorem dX6_passHours_30 : decode cX6_passHours 30 = .ok (.getfield 132, 3) := by decide +kernel
theorem dX6_passHours_33 : decode cX6_passHours 33 = .ok (.invokestatic 138, 3) := by decide +kernel
theorem dX6_passHours_36 : decode cX6_passHours 36 = .ok (.ifCond .eq 13, 3) := by decide +kernel
theorem dX6_passHours_39 : decode cX6_passHours 39 = .ok (.aload_n 0, 1) := by decide +kernel
theorem dX6_passHours_40 : decode cX6_passHours 40 = .ok (.invokevirtual 142, 3) := by decide +kernel
theorem dX6_passHours_43 : decode cX6_passHours 43 = .ok (.ifCond .eq 6, 3) := by decide +kernel
theorem dX6_passHours_46 : decode cX6_passHours 46 = .ok (.iinc 2 1, 3) := by decide +kernel
theorem dX6_passHours_49 : decode cX6_passHours 49 = .ok (.aload_n 0, 1) := by decide +kernel
theorem dX6_passHours_50 : decode cX6_passHours 50 = .ok (.getfield 35, 3) := by decide +kernel
theorem dX6_passHours_53 : decode cX6_passHours 53 = .ok (.dup, 1) := by decide +kernel
theorem dX6_passHours_54 : decode cX6_passHours 54 = .ok (.getfield 146, 3) := by decide +kernel
theorem dX6_passHours_57 : decode cX6_passHours 57 = .ok (.iconst 1, 1) := by decide +kernel
theorem dX6_passHours_58 : decode cX6_passHours 58 = .ok (.iadd, 1) := by decide +kernel
theorem dX6_passHours_59 : decode cX6_passHours 59 = .ok (.putfield 146, 3) := by decide +kernel
theorem dX6_passHours_62 : decode cX6_passHours 62 = .ok (.iinc 3 1, 3) := by decide +kernel
theorem dX6_passHours_65 : decode cX6_passHours 65 = .ok (.goto (-61), 3) := by decide +kernel
theorem dX6_passHours_68 : decode cX6_passHours 68 = .ok (.iload_n 2, 1) := by decide +kernel
theorem dX6_passHours_69 : decode cX6_passHours 69 = .ok (.ireturn, 1) := by decide +kernel
theorem dX6_eatLetter_0 : decode cX6_eatLetter 0 = .ok (.aload_n 0, 1) := by decide +kernel
theorem dX6_eatLetter_1 : decode cX6_eatLetter 1 = .ok (.getfield 21, 3) := by decide +kernel
theorem dX6_eatLetter_4 : decode cX6_eatLetter 4 = .ok (.invokevirtual 150, 3) := by decide +kernel
theorem dX6_eatLetter_7 : decode cX6_eatLetter 7 = .ok (.istore_n 1, 1) := by decide +kernel
theorem dX6_eatLetter_8 : decode cX6_eatLetter 8 = .ok (.iload_n 1, 1) := by decide +kernel
theorem dX6_eatLetter_9 : decode cX6_eatLetter 9 = .ok (.iconst (-1), 1) := by decide +kernel
theorem dX6_eatLetter_10 : decode cX6_eatLetter 10 = .ok (.if_icmp .ne 5, 3) := by decide +kernel
theorem dX6_eatLetter_13 : decode cX6_eatLetter 13 = .ok (.iconst 0, 1) := by decide +kernel
theorem dX6_eatLetter_14 : decode cX6_eatLetter 14 = .ok (.ireturn, 1) := by decide +kernel
theorem dX6_eatLetter_15 : decode cX6_eatLetter 15 = .ok (.aload_n 0, 1) := by decide +kernel
theorem dX6_eatLetter_16 : decode cX6_eatLetter 16 = .ok (.getfield 28, 3) := by decide +kernel
theorem dX6_eatLetter_19 : decode cX6_eatLetter 19 = .ok (.aload_n 0, 1) := by decide +kernel
theorem dX6_eatLetter_20 : decode cX6_eatLetter 20 = .ok (.getfield 21, 3) := by decide +kernel
theorem dX6_eatLetter_23 : decode cX6_eatLetter 23 = .ok (.getfield 99, 3) := by decide +kernel
theorem dX6_eatLetter_26 : decode cX6_eatLetter 26 = .ok (.iload_n 1, 1) := by decide +kernel
theorem dX6_eatLetter_27 : decode cX6_eatLetter 27 = .ok (.iaload, 1) := by decide +kernel
theorem dX6_eatLetter_28 : decode cX6_eatLetter 28 = .ok (.iconst 0, 1) := by decide +kernel
theorem dX6_eatLetter_29 : decode cX6_eatLetter 29 = .ok (.aload_n 0, 1) := by decide +kernel
theorem dX6_eatLetter_30 : decode cX6_eatLetter 30 = .ok (.getfield 21, 3) := by decide +kernel
theorem dX6_eatLetter_33 : decode cX6_eatLetter 33 = .ok (.getfield 110, 3) := by decide +kernel
theorem dX6_eatLetter_36 : decode cX6_eatLetter 36 = .ok (.iload_n 1, 1) := by decide +kernel
theorem dX6_eatLetter_37 : decode cX6_eatLetter 37 = .ok (.iaload, 1) := by decide +kernel
theorem dX6_eatLetter_38 : decode cX6_eatLetter 38 = .ok (.iconst (-1), 1) := by decide +kernel
theorem dX6_eatLetter_39 : decode cX6_eatLetter 39 = .ok (.invokevirtual 106, 3) := by decide +kernel
theorem dX6_eatLetter_42 : decode cX6_eatLetter 42 = .ok (.aload_n 0, 1) := by decide +kernel
theorem dX6_eatLetter_43 : decode cX6_eatLetter 43 = .ok (.getfield 21, 3) := by decide +kernel
theorem dX6_eatLetter_46 : decode cX6_eatLetter 46 = .ok (.iload_n 1, 1) := by decide +kernel
theorem dX6_eatLetter_47 : decode cX6_eatLetter 47 = .ok (.iconst 4, 1) := by decide +kernel
theorem dX6_eatLetter_48 : decode cX6_eatLetter 48 = .ok (.invokevirtual 125, 3) := by decide +kernel
theorem dX6_eatLetter_51 : decode cX6_eatLetter 51 = .ok (.aload_n 0, 1) := by decide +kernel
theorem dX6_eatLetter_52 : decode cX6_eatLetter 52 = .ok (.getfield 35, 3) := by decide +kernel
theorem dX6_eatLetter_55 : decode cX6_eatLetter 55 = .ok (.aload_n 0, 1) := by decide +kernel
theorem dX6_eatLetter_56 : decode cX6_eatLetter 56 = .ok (.getfield 35, 3) := by decide +kernel
theorem dX6_eatLetter_59 : decode cX6_eatLetter 59 = .ok (.getfield 132, 3) := by decide +kernel
theorem dX6_eatLetter_62 : decode cX6_eatLetter 62 = .ok (.ldc 154, 2) := by decide +kernel
theorem dX6_eatLetter_64 : decode cX6_eatLetter 64 = .ok (.fsub, 1) := by decide +kernel
theorem dX6_eatLetter_65 : decode cX6_eatLetter 65 = .ok (.putfield 132, 3) := by decide +kernel
theorem dX6_eatLetter_68 : decode cX6_eatLetter 68 = .ok (.iconst 1, 1) := by decide +kernel
theorem dX6_eatLetter_69 : decode cX6_eatLetter 69 = .ok (.ireturn, 1) := by decide +kernel
theorem dX6_areItemsWell_0 : decode cX6_areItemsWell 0 = .ok (.iconst 0, 1) := by decide +kernel
theorem dX6_areItemsWell_1 : decode cX6_areItemsWell 1 = .ok (.istore_n 1, 1) := by decide +kernel
theorem dX6_areItemsWell_2 : decode cX6_areItemsWell 2 = .ok (.iload_n 1, 1) := by decide +kernel
theorem dX6_areItemsWell_3 : decode cX6_areItemsWell 3 = .ok (.aload_n 0, 1) := by decide +kernel
theorem dX6_areItemsWell_4 : decode cX6_areItemsWell 4 = .ok (.getfield 21, 3) := by decide +kernel
theorem dX6_areItemsWell_7 : decode cX6_areItemsWell 7 = .ok (.getfield 155, 3) := by decide +kernel
theorem dX6_areItemsWell_10 : decode cX6_areItemsWell 10 = .ok (.if_icmp .ge 59, 3) := by decide +kernel
theorem dX6_areItemsWell_13 : decode cX6_areItemsWell 13 = .ok (.aload_n 0, 1) := by decide +kernel
theorem dX6_areItemsWell_14 : decode cX6_areItemsWell 14 = .ok (.getfield 21, 3) := by decide +kernel
theorem dX6_areItemsWell_17 : decode cX6_areItemsWell 17 = .ok (.getfield 92, 3) := by decide +kernel
theorem dX6_areItemsWell_20 : decode cX6_areItemsWell 20 = .ok (.iload_n 1, 1) := by decide +kernel
theorem dX6_areItemsWell_21 : decode cX6_areItemsWell 21 = .ok (.iaload, 1) := by decide +kernel
theorem dX6_areItemsWell_22 : decode cX6_areItemsWell 22 = .ok (.iconst 2, 1) := by decide +kernel
theorem dX6_areItemsWell_23 : decode cX6_areItemsWell 23 = .ok (.if_icmp .ne 13, 3) := by decide +kernel
theorem dX6_areItemsWell_26 : decode cX6_areItemsWell 26 = .ok (.aload_n 0, 1) := by decide +kernel
theorem dX6_areItemsWell_27 : decode cX6_areItemsWell 27 = .ok (.iload_n 1, 1) := by decide +kernel
theorem dX6_areItemsWell_28 : decode cX6_areItemsWell 28 = .ok (.invokevirtual 158, 3) := by decide +kernel
theorem dX6_areItemsWell_31 : decode cX6_areItemsWell 31 = .ok (.ifCond .ne 5, 3) := by decide +kernel
theorem dX6_areItemsWell_34 : decode cX6_areItemsWell 34 = .ok (.iconst 0, 1) := by decide +kernel
theorem dX6_areItemsWell_35 : decode cX6_areItemsWell 35 = .ok (.ireturn, 1) := by decide +kernel
theorem dX6_areItemsWell_36 : decode cX6_areItemsWell 36 = .ok (.aload_n 0, 1) := by decide +kernel
theorem dX6_areItemsWell_37 : decode cX6_areItemsWell 37 = .ok (.getfield 21, 3) := by decide +kernel
theorem dX6_areItemsWell_40 : decode cX6_areItemsWell 40 = .ok (.getfield 92, 3) := by decide +kernel
theorem dX6_areItemsWell_43 : decode cX6_areItemsWell 43 = .ok (.iload_n 1, 1) := by decide +kernel
theorem dX6_areItemsWell_44 : decode cX6_areItemsWell 44 = .ok (.iaload, 1) := by decide +kernel
theorem dX6_areItemsWell_45 : decode cX6_areItemsWell 45 = .ok (.iconst 4, 1) := by decide +kernel
theorem dX6_areItemsWell_46 : decode cX6_areItemsWell 46 = .ok (.if_icmp .ne 17, 3) := by decide +kernel
theorem dX6_areItemsWell_49 : decode cX6_areItemsWell 49 = .ok (.aload_n 0, 1) := by decide +kernel
theorem dX6_areItemsWell_50 : decode cX6_areItemsWell 50 = .ok (.getfield 21, 3) := by decide +kernel
theorem dX6_areItemsWell_53 : decode cX6_areItemsWell 53 = .ok (.getfield 162, 3) := by decide +kernel
theorem dX6_areItemsWell_56 : decode cX6_areItemsWell 56 = .ok (.iload_n 1, 1) := by decide +kernel
theorem dX6_areItemsWell_57 : decode cX6_areItemsWell 57 = .ok (.iaload, 1) := by decide +kernel
theorem dX6_areItemsWell_58 : decode cX6_areItemsWell 58 = .ok (.ifCond .eq 5, 3) := by decide +kernel
theorem dX6_areItemsWell_61 : decode cX6_areItemsWell 61 = .ok (.iconst 0, 1) := by decide +kernel
theorem dX6_areItemsWell_62 : decode cX6_areItemsWell 62 = .ok (.ireturn, 1) := by decide +kernel
theorem dX6_areItemsWell_63 : decode cX6_areItemsWell 63 = .ok (.iinc 1 1, 3) := by decide +kernel
theorem dX6_areItemsWell_66 : decode cX6_areItemsWell 66 = .ok (.goto (-64), 3) := by decide +kernel
theorem dX6_areItemsWell_69 : decode cX6_areItemsWell 69 = .ok (.iconst 1, 1) := by decide +kernel
theorem dX6_areItemsWell_70 : decode cX6_areItemsWell 70 = .ok (.ireturn, 1) := by decide +kernel
theorem dX6_isInItsHole_0 : decode cX6_isInItsHole 0 = .ok (.aload_n 0, 1) := by decide +kernel
theorem dX6_isInItsHole_1 : decode cX6_isInItsHole 1 = .ok (.getfield 21, 3) := by decide +kernel
theorem dX6_isInItsHole_4 : decode cX6_isInItsHole 4 = .ok (.getfield 99, 3) := by decide +kernel
theorem dX6_isInItsHole_7 : decode cX6_isInItsHole 7 = .ok (.iload_n 1, 1) := by decide +kernel
theorem dX6_isInItsHole_8 : decode cX6_isInItsHole 8 = .ok (.iaload, 1) := by decide +kernel
theorem dX6_isInItsHole_9 : decode cX6_isInItsHole 9 = .ok (.istore_n 2, 1) := by decide +kernel
theorem dX6_isInItsHole_10 : decode cX6_isInItsHole 10 = .ok (.aload_n 0, 1) := by decide +kernel
theorem dX6_isInItsHole_11 : decode cX6_isInItsHole 11 = .ok (.getfield 21, 3) := by decide +kernel
theorem dX6_isInItsHole_14 : decode cX6_isInItsHole 14 = .ok (.getfield 162, 3) := by decide +kernel
theorem dX6_isInItsHole_17 : decode cX6_isInItsHole 17 = .ok (.iload_n 1, 1) := by decide +kernel
theorem dX6_isInItsHole_18 : decode cX6_isInItsHole 18 = .ok (.iaload, 1) := by decide +kernel
theorem dX6_isInItsHole_19 : decode cX6_isInItsHole 19 = .ok (.istore_n 3, 1) := by decide +kernel
theorem dX6_isInItsHole_20 : decode cX6_isInItsHole 20 = .ok (.aload_n 0, 1) := by decide +kernel
theorem dX6_isInItsHole_21 : decode cX6_isInItsHole 21 = .ok (.getfield 21, 3) := by decide +kernel
theorem dX6_isInItsHole_24 : decode cX6_isInItsHole 24 = .ok (.getfield 110, 3) := by decide +kernel
theorem dX6_isInItsHole_27 : decode cX6_isInItsHole 27 = .ok (.iload_n 1, 1) := by decide +kernel
theorem dX6_isInItsHole_28 : decode cX6_isInItsHole 28 = .ok (.iaload, 1) := by decide +kernel
theorem dX6_isInItsHole_29 : decode cX6_isInItsHole 29 = .ok (.istore 4, 2) := by decide +kernel
theorem dX6_isInItsHole_31 : decode cX6_isInItsHole 31 = .ok (.iload_n 2, 1) := by decide +kernel
theorem dX6_isInItsHole_32 : decode cX6_isInItsHole 32 = .ok (.iload_n 3, 1) := by decide +kernel
theorem dX6_isInItsHole_33 : decode cX6_isInItsHole 33 = .ok (.iload 4, 2) := by decide +kernel
theorem dX6_isInItsHole_35 : decode cX6_isInItsHole 35 = .ok (.invokestatic 165, 3) := by decide +kernel
theorem dX6_isInItsHole_38 : decode cX6_isInItsHole 38 = .ok (.ifCond .eq 22, 3) := by decide +kernel
theorem dX6_isInItsHole_41 : decode cX6_isInItsHole 41 = .ok (.aload_n 0, 1) := by decide +kernel
theorem dX6_isInItsHole_42 : decode cX6_isInItsHole 42 = .ok (.getfield 28, 3) := by decide +kernel
theorem dX6_isInItsHole_45 : decode cX6_isInItsHole 45 = .ok (.iload_n 2, 1) := by decide +kernel
theorem dX6_isInItsHole_46 : decode cX6_isInItsHole 46 = .ok (.iload_n 3, 1) := by decide +kernel
theorem dX6_isInItsHole_47 : decode cX6_isInItsHole 47 = .ok (.iload 4, 2) := by decide +kernel
theorem dX6_isInItsHole_49 : decode cX6_isInItsHole 49 = .ok (.invokevirtual 121, 3) := by decide +kernel
theorem dX6_isInItsHole_52 : decode cX6_isInItsHole 52 = .ok (.iload_n 1, 1) := by decide +kernel
theorem dX6_isInItsHole_53 : decode cX6_isInItsHole 53 = .ok (.if_icmp .ne 7, 3) := by decide +kernel
theorem dX6_isInItsHole_56 : decode cX6_isInItsHole 56 = .ok (.iconst 1, 1) := by decide +kernel
theorem dX6_isInItsHole_57 : decode cX6_isInItsHole 57 = .ok (.goto 4, 3) := by decide +kernel
theorem dX6_isInItsHole_60 : decode cX6_isInItsHole 60 = .ok (.iconst 0, 1) := by decide +kernel
theorem dX6_isInItsHole_61 : decode cX6_isInItsHole 61 = .ok (.ireturn, 1) := by decide +kernel
theorem dX6_areHolesWell_0 : decode cX6_areHolesWell 0 = .ok (.iconst 0, 1) := by decide +kernel
theorem dX6_areHolesWell_1 : decode cX6_areHolesWell 1 = .ok (.istore_n 1, 1) := by decide +kernel
theorem dX6_areHolesWell_2 : decode cX6_areHolesWell 2 = .ok (.iconst 0, 1) := by decide +kernel
theorem dX6_areHolesWell_3 : decode cX6_areHolesWell 3 = .ok (.istore_n 2, 1) := by decide +kernel
theorem dX6_areHolesWell_4 : decode cX6_areHolesWell 4 = .ok (.iload_n 2, 1) := by decide +kernel
theorem dX6_areHolesWell_5 : decode cX6_areHolesWell 5 = .ok (.aload_n 0, 1) := by decide +kernel
theorem dX6_areHolesWell_6 : decode cX6_areHolesWell 6 = .ok (.getfield 28, 3) := by decide +kernel
theorem dX6_areHolesWell_9 : decode cX6_areHolesWell 9 = .ok (.getfield 168, 3) := by decide +kernel
theorem dX6_areHolesWell_12 : decode cX6_areHolesWell 12 = .ok (.arraylength, 1) := by decide +kernel
theorem dX6_areHolesWell_13 : decode cX6_areHolesWell 13 = .ok (.if_icmp .ge 25, 3) := by decide +kernel
theorem dX6_areHolesWell_16 : decode cX6_areHolesWell 16 = .ok (.aload_n 0, 1) := by decide +kernel
theorem dX6_areHolesWell_17 : decode cX6_areHolesWell 17 = .ok (.getfield 28, 3) := by decide +kernel
theorem dX6_areHolesWell_20 : decode cX6_areHolesWell 20 = .ok (.getfield 168, 3) := by decide +kernel
theorem dX6_areHolesWell_23 : decode cX6_areHolesWell 23 = .ok (.iload_n 2, 1) := by decide +kernel
theorem dX6_areHolesWell_24 : decode cX6_areHolesWell 24 = .ok (.iaload, 1) := by decide +kernel
theorem dX6_areHolesWell_25 : decode cX6_areHolesWell 25 = .ok (.iconst (-1), 1) := by decide +kernel
theorem dX6_areHolesWell_26 : decode cX6_areHolesWell 26 = .ok (.if_icmp .eq 6, 3) := by decide +kernel
theorem dX6_areHolesWell_29 : decode cX6_areHolesWell 29 = .ok (.iinc 1 1, 3) := by decide +kernel
theorem dX6_areHolesWell_32 : decode cX6_areHolesWell 32 = .ok (.iinc 2 1, 3) := by decide +kernel
theorem dX6_areHolesWell_35 : decode cX6_areHolesWell 35 = .ok (.goto (-31), 3) := by decide +kernel
theorem dX6_areHolesWell_38 : decode cX6_areHolesWell 38 = .ok (.iload_n 1, 1) := by decide +kernel
theorem dX6_areHolesWell_39 : decode cX6_areHolesWell 39 = .ok (.aload_n 0, 1) := by decide +kernel
theorem dX6_areHolesWell_40 : decode cX6_areHolesWell 40 = .ok (.getfield 21, 3) := by decide +kernel
theorem dX6_areHolesWell_43 : decode cX6_areHolesWell 43 = .ok (.iconst 2, 1) := by decide +kernel
theorem dX6_areHolesWell_44 : decode cX6_areHolesWell 44 = .ok (.invokevirtual 171, 3) := by decide +kernel
theorem dX6_areHolesWell_47 : decode cX6_areHolesWell 47 = .ok (.if_icmp .ne 7, 3) := by decide +kernel
theorem dX6_areHolesWell_50 : decode cX6_areHolesWell 50 = .ok (.iconst 1, 1) := by decide +kernel
theorem dX6_areHolesWell_51 : decode cX6_areHolesWell 51 = .ok (.goto 4, 3) := by decide +kernel
theorem dX6_areHolesWell_54 : decode cX6_areHolesWell 54 = .ok (.iconst 0, 1) := by decide +kernel
theorem dX6_areHolesWell_55 : decode cX6_areHolesWell 55 = .ok (.ireturn, 1) := by decide +kernel
theorem dX6_areReadersWell_0 : decode cX6_areReadersWell 0 = .ok (.iconst 0, 1) := by decide +kernel
theorem dX6_areReadersWell_1 : decode cX6_areReadersWell 1 = .ok (.istore_n 1, 1) := by decide +kernel
theorem dX6_areReadersWell_2 : decode cX6_areReadersWell 2 = .ok (.iload_n 1, 1) := by decide +kernel
theorem dX6_areReadersWell_3 : decode cX6_areReadersWell 3 = .ok (.bipush 6, 2) := by decide +kernel
theorem dX6_areReadersWell_5 : decode cX6_areReadersWell 5 = .ok (.if_icmp .ge 31, 3) := by decide +kernel
theorem dX6_areReadersWell_8 : decode cX6_areReadersWell 8 = .ok (.aload_n 0, 1) := by decide +kernel
theorem dX6_areReadersWell_9 : decode cX6_areReadersWell 9 = .ok (.getfield 28, 3) := by decide +kernel
theorem dX6_areReadersWell_12 : decode cX6_areReadersWell 12 = .ok (.getfield 129, 3) := by decide +kernel
theorem dX6_areReadersWell_15 : decode cX6_areReadersWell 15 = .ok (.iload_n 1, 1) := by decide +kernel
theorem dX6_areReadersWell_16 : decode cX6_areReadersWell 16 = .ok (.iaload, 1) := by decide +kernel
theorem dX6_areReadersWell_17 : decode cX6_areReadersWell 17 = .ok (.aload_n 0, 1) := by decide +kernel
theorem dX6_areReadersWell_18 : decode cX6_areReadersWell 18 = .ok (.getfield 21, 3) := by decide +kernel
theorem dX6_areReadersWell_21 : decode cX6_areReadersWell 21 = .ok (.iload_n 1, 1) := by decide +kernel
theorem dX6_areReadersWell_22 : decode cX6_areReadersWell 22 = .ok (.invokevirtual 174, 3) := by decide +kernel
theorem dX6_areReadersWell_25 : decode cX6_areReadersWell 25 = .ok (.if_icmp .eq 5, 3) := by decide +kernel
theorem dX6_areReadersWell_28 : decode cX6_areReadersWell 28 = .ok (.iconst 0, 1) := by decide +kernel
theorem dX6_areReadersWell_29 : decode cX6_areReadersWell 29 = .ok (.ireturn, 1) := by decide +kernel
theorem dX6_areReadersWell_30 : decode cX6_areReadersWell 30 = .ok (.iinc 1 1, 3) := by decide +kernel
theorem dX6_areReadersWell_33 : decode cX6_areReadersWell 33 = .ok (.goto (-31), 3) := by decide +kernel
theorem dX6_areReadersWell_36 : decode cX6_areReadersWell 36 = .ok (.iconst 1, 1) := by decide +kernel
theorem dX6_areReadersWell_37 : decode cX6_areReadersWell 37 = .ok (.ireturn, 1) := by decide +kernel
theorem dX7_init_0 : decode cX7_init 0 = .ok (.aload_n 0, 1) := by decide +kernel
theorem dX7_init_1 : decode cX7_init 1 = .ok (.invokespecial 3, 3) := by decide +kernel
theorem dX7_init_4 : decode cX7_init 4 = .ok (.aload_n 0, 1) := by decide +kernel
theorem dX7_init_5 : decode cX7_init 5 = .ok (.bipush 60, 2) := by decide +kernel
theorem dX7_init_7 : decode cX7_init 7 = .ok (.newarray .char, 2) := by decide +kernel
theorem dX7_init_9 : decode cX7_init 9 = .ok (.putfield 9, 3) := by decide +kernel
theorem dX7_init_12 : decode cX7_init 12 = .ok (.aload_n 0, 1) := by decide +kernel
theorem dX7_init_13 : decode cX7_init 13 = .ok (.bipush 21, 2) := by decide +kernel
theorem dX7_init_15 : decode cX7_init 15 = .ok (.newarray .int, 2) := by decide +kernel
theorem dX7_init_17 : decode cX7_init 17 = .ok (.putfield 15, 3) := by decide +kernel
theorem dX7_init_20 : decode cX7_init 20 = .ok (.aload_n 0, 1) := by decide +kernel
theorem dX7_init_21 : decode cX7_init 21 = .ok (.bipush 84, 2) := by decide +kernel
theorem dX7_init_23 : decode cX7_init 23 = .ok (.newarray .int, 2) := by decide +kernel
theorem dX7_init_25 : decode cX7_init 25 = .ok (.putfield 19, 3) := by decide +kernel
theorem dX7_init_28 : decode cX7_init 28 = .ok (.aload_n 0, 1) := by decide +kernel
theorem dX7_init_29 : decode cX7_init 29 = .ok (.iconst (-1), 1) := by decide +kernel
theorem dX7_init_30 : decode cX7_init 30 = .ok (.putfield 22, 3) := by decide +kernel
theorem dX7_init_33 : decode cX7_init 33 = .ok (.return_, 1) := by decide +kernel
theorem dX7_add_0 : decode cX7_add 0 = .ok (.aload_n 0, 1) := by decide +kernel
theorem dX7_add_1 : decode cX7_add 1 = .ok (.getfield 9, 3) := by decide +kernel
theorem dX7_add_4 : decode cX7_add 4 = .ok (.aload_n 0, 1) := by decide +kernel
theorem dX7_add_5 : decode cX7_add 5 = .ok (.getfield 26, 3) := by decide +kernel
theorem dX7_add_8 : decode cX7_add 8 = .ok (.iload_n 1, 1) := by decide +kernel
theorem dX7_add_9 : decode cX7_add 9 = .ok (.castore, 1) := by decide +kernel
theorem dX7_add_10 : decode cX7_add 10 = .ok (.aload_n 0, 1) := by decide +kernel
theorem dX7_add_11 : decode cX7_add 11 = .ok (.dup, 1) := by decide +kernel
theorem dX7_add_12 : decode cX7_add 12 = .ok (.getfield 26, 3) := by decide +kernel
theorem dX7_add_15 : decode cX7_add 15 = .ok (.iconst 1, 1) := by decide +kernel
theorem dX7_add_16 : decode cX7_add 16 = .ok (.iadd, 1) := by decide +kernel
theorem dX7_add_17 : decode cX7_add 17 = .ok (.putfield 26, 3) := by decide +kernel
theorem dX7_add_20 : decode cX7_add 20 = .ok (.return_, 1) := by decide +kernel
theorem dX7_numberOf_0 : decode cX7_numberOf 0 = .ok (.aload_n 0, 1) := by decide +kernel
theorem dX7_numberOf_1 : decode cX7_numberOf 1 = .ok (.getfield 19, 3) := by decide +kernel
theorem dX7_numberOf_4 : decode cX7_numberOf 4 = .ok (.iload_n 1, 1) := by decide +kernel
theorem dX7_numberOf_5 : decode cX7_numberOf 5 = .ok (.iconst 4, 1) := by decide +kernel
theorem dX7_numberOf_6 : decode cX7_numberOf 6 = .ok (.imul, 1) := by decide +kernel
theorem dX7_numberOf_7 : decode cX7_numberOf 7 = .ok (.iload_n 2, 1) := by decide +kernel
theorem dX7_numberOf_8 : decode cX7_numberOf 8 = .ok (.iadd, 1) := by decide +kernel
theorem dX7_numberOf_9 : decode cX7_numberOf 9 = .ok (.iaload, 1) := by decide +kernel
theorem dX7_numberOf_10 : decode cX7_numberOf 10 = .ok (.ireturn, 1) := by decide +kernel
theorem dX7_scan_0 : decode cX7_scan 0 = .ok (.aload_n 0, 1) := by decide +kernel
theorem dX7_scan_1 : decode cX7_scan 1 = .ok (.iconst 0, 1) := by decide +kernel
theorem dX7_scan_2 : decode cX7_scan 2 = .ok (.putfield 29, 3) := by decide +kernel
theorem dX7_scan_5 : decode cX7_scan 5 = .ok (.aload_n 0, 1) := by decide +kernel
theorem dX7_scan_6 : decode cX7_scan 6 = .ok (.iconst 0, 1) := by decide +kernel
theorem dX7_scan_7 : decode cX7_scan 7 = .ok (.putfield 32, 3) := by decide +kernel
theorem dX7_scan_10 : decode cX7_scan 10 = .ok (.aload_n 0, 1) := by decide +kernel
theorem dX7_scan_11 : decode cX7_scan 11 = .ok (.aload_n 0, 1) := by decide +kernel
theorem dX7_scan_12 : decode cX7_scan 12 = .ok (.invokevirtual 35, 3) := by decide +kernel
theorem dX7_scan_15 : decode cX7_scan 15 = .ok (.ifCond .eq 7, 3) := by decide +kernel
theorem dX7_scan_18 : decode cX7_scan 18 = .ok (.iconst (-1), 1) := by decide +kernel
theorem dX7_scan_19 : decode cX7_scan 19 = .ok (.goto 7, 3) := by decide +kernel
theorem dX7_scan_22 : decode cX7_scan 22 = .ok (.aload_n 0, 1) := by decide +kernel
theorem dX7_scan_23 : decode cX7_scan 23 = .ok (.getfield 29, 3) := by decide +kernel
theorem dX7_scan_26 : decode cX7_scan 26 = .ok (.putfield 22, 3) := by decide +kernel
theorem dX7_scan_29 : decode cX7_scan 29 = .ok (.aload_n 0, 1) := by decide +kernel
theorem dX7_scan_30 : decode cX7_scan 30 = .ok (.iconst 0, 1) := by decide +kernel
theorem dX7_scan_31 : decode cX7_scan 31 = .ok (.putfield 26, 3) := by decide +kernel
theorem dX7_scan_34 : decode cX7_scan 34 = .ok (.return_, 1) := by decide +kernel
theorem dX7_scanOrders_0 : decode cX7_scanOrders 0 = .ok (.aload_n 0, 1) := by decide +kernel
theorem dX7_scanOrders_1 : decode cX7_scanOrders 1 = .ok (.getfield 32, 3) := by decide +kernel
theorem dX7_scanOrders_4 : decode cX7_scanOrders 4 = .ok (.bipush 21, 2) := by decide +kernel
theorem dX7_scanOrders_6 : decode cX7_scanOrders 6 = .ok (.if_icmp .ge 44, 3) := by decide +kernel
theorem dX7_scanOrders_9 : decode cX7_scanOrders 9 = .ok (.aload_n 0, 1) := by decide +kernel
theorem dX7_scanOrders_10 : decode cX7_scanOrders 10 = .ok (.invokevirtual 39, 3) := by decide +kernel
theorem dX7_scanOrders_13 : decode cX7_scanOrders 13 = .ok (.ifCond .eq 37, 3) := by decide +kernel
theorem dX7_scanOrders_16 : decode cX7_scanOrders 16 = .ok (.aload_n 0, 1) := by decide +kernel
theorem dX7_scanOrders_17 : decode cX7_scanOrders 17 = .ok (.dup, 1) := by decide +kernel
theorem dX7_scanOrders_18 : decode cX7_scanOrders 18 = .ok (.getfield 32, 3) := by decide +kernel
theorem dX7_scanOrders_21 : decode cX7_scanOrders 21 = .ok (.iconst 1, 1) := by decide +kernel
theorem dX7_scanOrders_22 : decode cX7_scanOrders 22 = .ok (.iadd, 1) := by decide +kernel
theorem dX7_scanOrders_23 : decode cX7_scanOrders 23 = .ok (.putfield 32, 3) := by decide +kernel
theorem dX7_scanOrders_26 : decode cX7_scanOrders 26 = .ok (.aload_n 0, 1) := by decide +kernel
theorem dX7_scanOrders_27 : decode cX7_scanOrders 27 = .ok (.getfield 29, 3) := by decide +kernel
theorem dX7_scanOrders_30 : decode cX7_scanOrders 30 = .ok (.aload_n 0, 1) := by decide +kernel
theorem dX7_scanOrders_31 : decode cX7_scanOrders 31 = .ok (.getfield 26, 3) := by decide +kernel
theorem dX7_scanOrders_34 : decode cX7_scanOrders 34 = .ok (.if_icmp .ne 5, 3) := by decide +kernel
theorem dX7_scanOrders_37 : decode cX7_scanOrders 37 = .ok (.iconst 1, 1) := by decide +kernel
theorem dX7_scanOrders_38 : decode cX7_scanOrders 38 = .ok (.ireturn, 1) := by decide +kernel
theorem dX7_scanOrders_39 : decode cX7_scanOrders 39 = .ok (.aload_n 0, 1) := by decide +kernel
theorem dX7_scanOrders_40 : decode cX7_scanOrders 40 = .ok (.bipush 59, 2) := by decide +kernel
theorem dX7_scanOrders_42 : decode cX7_scanOrders 42 = .ok (.invokevirtual 42, 3) := by decide +kernel
theorem dX7_scanOrders_45 : decode cX7_scanOrders 45 = .ok (.ifCond .ne (-45), 3) := by decide +kernel
theorem dX7_scanOrders_48 : decode cX7_scanOrders 48 = .ok (.iconst 0, 1) := by decide +kernel
theorem dX7_scanOrders_49 : decode cX7_scanOrders 49 = .ok (.ireturn, 1) := by decide +kernel
theorem dX7_scanOrders_50 : decode cX7_scanOrders 50 = .ok (.iconst 0, 1) := by decide +kernel
theorem dX7_scanOrders_51 : decode cX7_scanOrders 51 = .ok (.ireturn, 1) := by decide +kernel
theorem dX7_scanOrder_0 : decode cX7_scanOrder 0 = .ok (.aload_n 0, 1) := by decide +kernel
theorem dX7_scanOrder_1 : decode cX7_scanOrder 1 = .ok (.getfield 29, 3) := by decide +kernel
theorem dX7_scanOrder_4 : decode cX7_scanOrder 4 = .ok (.aload_n 0, 1) := by decide +kernel
theorem dX7_scanOrder_5 : decode cX7_scanOrder 5 = .ok (.getfield 26, 3) := by decide +kernel
theorem dX7_scanOrder_8 : decode cX7_scanOrder 8 = .ok (.if_icmp .ge 18, 3) := by decide +kernel
theorem dX7_scanOrder_11 : decode cX7_scanOrder 11 = .ok (.aload_n 0, 1) := by decide +kernel
theorem dX7_scanOrder_12 : decode cX7_scanOrder 12 = .ok (.getfield 9, 3) := by decide +kernel
theorem dX7_scanOrder_15 : decode cX7_scanOrder 15 = .ok (.aload_n 0, 1) := by decide +kernel
theorem dX7_scanOrder_16 : decode cX7_scanOrder 16 = .ok (.getfield 29, 3) := by decide +kernel
theorem dX7_scanOrder_19 : decode cX7_scanOrder 19 = .ok (.caload, 1) := by decide +kernel
theorem dX7_scanOrder_20 : decode cX7_scanOrder 20 = .ok (.invokestatic 46, 3) := by decide +kernel
theorem dX7_scanOrder_23 : decode cX7_scanOrder 23 = .ok (.goto 4, 3) := by decide +kernel
theorem dX7_scanOrder_26 : decode cX7_scanOrder 26 = .ok (.iconst (-1), 1) := by decide +kernel
theorem dX7_scanOrder_27 : decode cX7_scanOrder 27 = .ok (.istore_n 1, 1) := by decide +kernel
theorem dX7_scanOrder_28 : decode cX7_scanOrder 28 = .ok (.iload_n 1, 1) := by decide +kernel
theorem dX7_scanOrder_29 : decode cX7_scanOrder 29 = .ok (.iconst (-1), 1) := by decide +kernel
theorem dX7_scanOrder_30 : decode cX7_scanOrder 30 = .ok (.if_icmp .ne 5, 3) := by decide +kernel
theorem dX7_scanOrder_33 : decode cX7_scanOrder 33 = .ok (.iconst 0, 1) := by decide +kernel
theorem dX7_scanOrder_34 : decode cX7_scanOrder 34 = .ok (.ireturn, 1) := by decide +kernel
theorem dX7_scanOrder_35 : decode cX7_scanOrder 35 = .ok (.aload_n 0, 1) := by decide +kernel
theorem dX7_scanOrder_36 : decode cX7_scanOrder 36 = .ok (.dup, 1) := by decide +kernel
theorem dX7_scanOrder_37 : decode cX7_scanOrder 37 = .ok (.getfield 29, 3) := by decide +kernel
theorem dX7_scanOrder_40 : decode cX7_scanOrder 40 = .ok (.iconst 1, 1) := by decide +kernel
theorem dX7_scanOrder_41 : decode cX7_scanOrder 41 = .ok (.iadd, 1) := by decide +kernel
theorem dX7_scanOrder_42 : decode cX7_scanOrder 42 = .ok (.putfield 29, 3) := by decide +kernel
theorem dX7_scanOrder_45 : decode cX7_scanOrder 45 = .ok (.aload_n 0, 1) := by decide +kernel
theorem dX7_scanOrder_46 : decode cX7_scanOrder 46 = .ok (.getfield 15, 3) := by decide +kernel
theorem dX7_scanOrder_49 : decode cX7_scanOrder 49 = .ok (.aload_n 0, 1) := by decide +kernel
theorem dX7_scanOrder_50 : decode cX7_scanOrder 50 = .ok (.getfield 32, 3) := by decide +kernel
theorem dX7_scanOrder_53 : decode cX7_scanOrder 53 = .ok (.iload_n 1, 1) := by decide +kernel
theorem dX7_scanOrder_54 : decode cX7_scanOrder 54 = .ok (.iastore, 1) := by decide +kernel
theorem dX7_scanOrder_55 : decode cX7_scanOrder 55 = .ok (.aload_n 0, 1) := by decide +kernel
theorem dX7_scanOrder_56 : decode cX7_scanOrder 56 = .ok (.iconst 0, 1) := by decide +kernel
theorem dX7_scanOrder_57 : decode cX7_scanOrder 57 = .ok (.putfield 50, 3) := by decide +kernel
theorem dX7_scanOrder_60 : decode cX7_scanOrder 60 = .ok (.iload_n 1, 1) := by decide +kernel
theorem dX7_scanOrder_61 : decode cX7_scanOrder 61 = .ok (.invokestatic 53, 3) := by decide +kernel
theorem dX7_scanOrder_64 : decode cX7_scanOrder 64 = .ok (.astore_n 2, 1) := by decide +kernel
theorem dX7_scanOrder_65 : decode cX7_scanOrder 65 = .ok (.iconst 0, 1) := by decide +kernel
theorem dX7_scanOrder_66 : decode cX7_scanOrder 66 = .ok (.istore_n 3, 1) := by decide +kernel
theorem dX7_scanOrder_67 : decode cX7_scanOrder 67 = .ok (.iload_n 3, 1) := by decide +kernel
theorem dX7_scanOrder_68 : decode cX7_scanOrder 68 = .ok (.aload_n 2, 1) := by decide +kernel
theorem dX7_scanOrder_69 : decode cX7_scanOrder 69 = .ok (.invokevirtual 57, 3) := by decide +kernel
theorem dX7_scanOrder_72 : decode cX7_scanOrder 72 = .ok (.if_icmp .ge 23, 3) := by decide +kernel
theorem dX7_scanOrder_75 : decode cX7_scanOrder 75 = .ok (.aload_n 0, 1) := by decide +kernel
theorem dX7_scanOrder_76 : decode cX7_scanOrder 76 = .ok (.aload_n 2, 1) := by decide +kernel
theorem dX7_scanOrder_77 : decode cX7_scanOrder 77 = .ok (.iload_n 3, 1) := by decide +kernel
theorem dX7_scanOrder_78 : decode cX7_scanOrder 78 = .ok (.invokevirtual 62, 3) := by decide +kernel
theorem dX7_scanOrder_81 : decode cX7_scanOrder 81 = .ok (.invokevirtual 66, 3) := by decide +kernel
theorem dX7_scanOrder_84 : decode cX7_scanOrder 84 = .ok (.ifCond .ne 5, 3) := by decide +kernel
theorem dX7_scanOrder_87 : decode cX7_scanOrder 87 = .ok (.iconst 0, 1) := by decide +kernel
theorem dX7_scanOrder_88 : decode cX7_scanOrder 88 = .ok (.ireturn, 1) := by decide +kernel
theorem dX7_scanOrder_89 : decode cX7_scanOrder 89 = .ok (.iinc 3 1, 3) := by decide +kernel
theorem dX7_scanOrder_92 : decode cX7_scanOrder 92 = .ok (.goto (-25), 3) := by decide +kernel
theorem dX7_scanOrder_95 : decode cX7_scanOrder 95 = .ok (.iconst 1, 1) := by decide +kernel
theorem dX7_scanOrder_96 : decode cX7_scanOrder 96 = .ok (.ireturn, 1) := by decide +kernel
theorem dX7_kindOf_0 : decode cX7_kindOf 0 = .ok (.iconst 0, 1) := by decide +kernel
theorem dX7_kindOf_1 : decode cX7_kindOf 1 = .ok (.istore_n 1, 1) := by decide +kernel
theorem dX7_kindOf_2 : decode cX7_kindOf 2 = .ok (.iload_n 1, 1) := by decide +kernel
theorem dX7_kindOf_3 : decode cX7_kindOf 3 = .ok (.ldc 69, 2) := by decide +kernel
theorem dX7_kindOf_5 : decode cX7_kindOf 5 = .ok (.invokevirtual 57, 3) := by decide +kernel
theorem dX7_kindOf_8 : decode cX7_kindOf 8 = .ok (.if_icmp .ge 21, 3) := by decide +kernel
theorem dX7_kindOf_11 : decode cX7_kindOf 11 = .ok (.ldc 69, 2) := by decide +kernel
theorem dX7_kindOf_13 : decode cX7_kindOf 13 = .ok (.iload_n 1, 1) := by decide +kernel
theorem dX7_kindOf_14 : decode cX7_kindOf 14 = .ok (.invokevirtual 62, 3) := by decide +kernel
theorem dX7_kindOf_17 : decode cX7_kindOf 17 = .ok (.iload_n 0, 1) := by decide +kernel
theorem dX7_kindOf_18 : decode cX7_kindOf 18 = .ok (.if_icmp .ne 5, 3) := by decide +kernel
theorem dX7_kindOf_21 : decode cX7_kindOf 21 = .ok (.iload_n 1, 1) := by decide +kernel
theorem dX7_kindOf_22 : decode cX7_kindOf 22 = .ok (.ireturn, 1) := by decide +kernel
theorem dX7_kindOf_23 : decode cX7_kindOf 23 = .ok (.iinc 1 1, 3) := by decide +kernel
theorem dX7_kindOf_26 : decode cX7_kindOf 26 = .ok (.goto (-24), 3) := by decide +kernel
theorem dX7_kindOf_29 : decode cX7_kindOf 29 = .ok (.iconst (-1), 1) := by decide +kernel
theorem dX7_kindOf_30 : decode cX7_kindOf 30 = .ok (.ireturn, 1) := by decide +kernel
theorem dX7_partsOf_0 : decode cX7_partsOf 0 = .ok (.iload_n 0, 1) := by decide +kernel
theorem dX7_partsOf_1 : decode cX7_partsOf 1 = .ok (.tableswitch 48 0 5 #[39, 42, 45, 48, 48, 45], 39) := by decide +kernel
theorem dX7_partsOf_40 : decode cX7_partsOf 40 = .ok (.ldc 71, 2) := by decide +kernel
theorem dX7_partsOf_42 : decode cX7_partsOf 42 = .ok (.areturn, 1) := by decide +kernel
theorem dX7_partsOf_43 : decode cX7_partsOf 43 = .ok (.ldc 73, 2) := by decide +kernel
theorem dX7_partsOf_45 : decode cX7_partsOf 45 = .ok (.areturn, 1) := by decide +kernel
theorem dX7_partsOf_46 : decode cX7_partsOf 46 = .ok (.ldc 75, 2) := by decide +kernel
theorem dX7_partsOf_48 : decode cX7_partsOf 48 = .ok (.areturn, 1) := by decide +kernel
theorem dX7_partsOf_49 : decode cX7_partsOf 49 = .ok (.ldc 77, 2) := by decide +kernel
theorem dX7_partsOf_51 : decode cX7_partsOf 51 = .ok (.areturn, 1) := by decide +kernel
theorem dX7_scanPart_0 : decode cX7_scanPart 0 = .ok (.iload_n 1, 1) := by decide +kernel
theorem dX7_scanPart_1 : decode cX7_scanPart 1 = .ok (.bipush 100, 2) := by decide +kernel
theorem dX7_scanPart_3 : decode cX7_scanPart 3 = .ok (.if_icmp .ne 9, 3) := by decide +kernel
theorem dX7_scanPart_6 : decode cX7_scanPart 6 = .ok (.aload_n 0, 1) := by decide +kernel
theorem dX7_scanPart_7 : decode cX7_scanPart 7 = .ok (.iconst 1, 1) := by decide +kernel
theorem dX7_scanPart_8 : decode cX7_scanPart 8 = .ok (.invokevirtual 79, 3) := by decide +kernel
theorem dX7_scanPart_11 : decode cX7_scanPart 11 = .ok (.ireturn, 1) := by decide +kernel
theorem dX7_scanPart_12 : decode cX7_scanPart 12 = .ok (.iload_n 1, 1) := by decide +kernel
theorem dX7_scanPart_13 : decode cX7_scanPart 13 = .ok (.bipush 110, 2) := by decide +kernel
theorem dX7_scanPart_15 : decode cX7_scanPart 15 = .ok (.if_icmp .ne 11, 3) := by decide +kernel
theorem dX7_scanPart_18 : decode cX7_scanPart 18 = .ok (.aload_n 0, 1) := by decide +kernel
theorem dX7_scanPart_19 : decode cX7_scanPart 19 = .ok (.iconst 2, 1) := by decide +kernel
theorem dX7_scanPart_20 : decode cX7_scanPart 20 = .ok (.invokevirtual 79, 3) := by decide +kernel
theorem dX7_scanPart_23 : decode cX7_scanPart 23 = .ok (.goto 8, 3) := by decide +kernel
theorem dX7_scanPart_26 : decode cX7_scanPart 26 = .ok (.aload_n 0, 1) := by decide +kernel
theorem dX7_scanPart_27 : decode cX7_scanPart 27 = .ok (.iload_n 1, 1) := by decide +kernel
theorem dX7_scanPart_28 : decode cX7_scanPart 28 = .ok (.invokevirtual 42, 3) := by decide +kernel
theorem dX7_scanPart_31 : decode cX7_scanPart 31 = .ok (.ireturn, 1) := by decide +kernel
theorem dX7_scanSign_0 : decode cX7_scanSign 0 = .ok (.aload_n 0, 1) := by decide +kernel
theorem dX7_scanSign_1 : decode cX7_scanSign 1 = .ok (.getfield 29, 3) := by decide +kernel
theorem dX7_scanSign_4 : decode cX7_scanSign 4 = .ok (.aload_n 0, 1) := by decide +kernel
theorem dX7_scanSign_5 : decode cX7_scanSign 5 = .ok (.getfield 26, 3) := by decide +kernel
theorem dX7_scanSign_8 : decode cX7_scanSign 8 = .ok (.if_icmp .ge 16, 3) := by decide +kernel
theorem dX7_scanSign_11 : decode cX7_scanSign 11 = .ok (.aload_n 0, 1) := by decide +kernel
theorem dX7_scanSign_12 : decode cX7_scanSign 12 = .ok (.getfield 9, 3) := by decide +kernel
theorem dX7_scanSign_15 : decode cX7_scanSign 15 = .ok (.aload_n 0, 1) := by decide +kernel
theorem dX7_scanSign_16 : decode cX7_scanSign 16 = .ok (.getfield 29, 3) := by decide +kernel
theorem dX7_scanSign_19 : decode cX7_scanSign 19 = .ok (.caload, 1) := by decide +kernel
theorem dX7_scanSign_20 : decode cX7_scanSign 20 = .ok (.iload_n 1, 1) := by decide +kernel
theorem dX7_scanSign_21 : decode cX7_scanSign 21 = .ok (.if_icmp .eq 5, 3) := by decide +kernel
theorem dX7_scanSign_24 : decode cX7_scanSign 24 = .ok (.iconst 0, 1) := by decide +kernel
theorem dX7_scanSign_25 : decode cX7_scanSign 25 = .ok (.ireturn, 1) := by decide +kernel
theorem dX7_scanSign_26 : decode cX7_scanSign 26 = .ok (.aload_n 0, 1) := by decide +kernel
theorem dX7_scanSign_27 : decode cX7_scanSign 27 = .ok (.dup, 1) := by decide +kernel
theorem dX7_scanSign_28 : decode cX7_scanSign 28 = .ok (.getfield 29, 3) := by decide +kernel
theorem dX7_scanSign_31 : decode cX7_scanSign 31 = .ok (.iconst 1, 1) := by decide +kernel
theorem dX7_scanSign_32 : decode cX7_scanSign 32 = .ok (.iadd, 1) := by decide +kernel
theorem dX7_scanSign_33 : decode cX7_scanSign 33 = .ok (.putfield 29, 3) := by decide +kernel
theorem dX7_scanSign_36 : decode cX7_scanSign 36 = .ok (.iconst 1, 1) := by decide +kernel
theorem dX7_scanSign_37 : decode cX7_scanSign 37 = .ok (.ireturn, 1) := by decide +kernel
theorem dX7_scanNumber_0 : decode cX7_scanNumber 0 = .ok (.iconst 0, 1) := by decide +kernel
theorem dX7_scanNumber_1 : decode cX7_scanNumber 1 = .ok (.istore_n 2, 1) := by decide +kernel
theorem dX7_scanNumber_2 : decode cX7_scanNumber 2 = .ok (.iconst 0, 1) := by decide +kernel
theorem dX7_scanNumber_3 : decode cX7_scanNumber 3 = .ok (.istore_n 3, 1) := by decide +kernel
theorem dX7_scanNumber_4 : decode cX7_scanNumber 4 = .ok (.iload_n 3, 1) := by decide +kernel
theorem dX7_scanNumber_5 : decode cX7_scanNumber 5 = .ok (.iload_n 1, 1) := by decide +kernel
theorem dX7_scanNumber_6 : decode cX7_scanNumber 6 = .ok (.if_icmp .ge 44, 3) := by decide +kernel
theorem dX7_scanNumber_9 : decode cX7_scanNumber 9 = .ok (.aload_n 0, 1) := by decide +kernel
theorem dX7_scanNumber_10 : decode cX7_scanNumber 10 = .ok (.invokevirtual 83, 3) := by decide +kernel
theorem dX7_scanNumber_13 : decode cX7_scanNumber 13 = .ok (.ifCond .eq 37, 3) := by decide +kernel
theorem dX7_scanNumber_16 : decode cX7_scanNumber 16 = .ok (.iload_n 2, 1) := by decide +kernel
theorem dX7_scanNumber_17 : decode cX7_scanNumber 17 = .ok (.bipush 10, 2) := by decide +kernel
theorem dX7_scanNumber_19 : decode cX7_scanNumber 19 = .ok (.imul, 1) := by decide +kernel
theorem dX7_scanNumber_20 : decode cX7_scanNumber 20 = .ok (.aload_n 0, 1) := by decide +kernel
theorem dX7_scanNumber_21 : decode cX7_scanNumber 21 = .ok (.getfield 9, 3) := by decide +kernel
theorem dX7_scanNumber_24 : decode cX7_scanNumber 24 = .ok (.aload_n 0, 1) := by decide +kernel
theorem dX7_scanNumber_25 : decode cX7_scanNumber 25 = .ok (.getfield 29, 3) := by decide +kernel
theorem dX7_scanNumber_28 : decode cX7_scanNumber 28 = .ok (.caload, 1) := by decide +kernel
theorem dX7_scanNumber_29 : decode cX7_scanNumber 29 = .ok (.bipush 48, 2) := by decide +kernel
theorem dX7_scanNumber_31 : decode cX7_scanNumber 31 = .ok (.isub, 1) := by decide +kernel
theorem dX7_scanNumber_32 : decode cX7_scanNumber 32 = .ok (.iadd, 1) := by decide +kernel
theorem dX7_scanNumber_33 : decode cX7_scanNumber 33 = .ok (.istore_n 2, 1) := by decide +kernel
theorem dX7_scanNumber_34 : decode cX7_scanNumber 34 = .ok (.aload_n 0, 1) := by decide +kernel
theorem dX7_scanNumber_35 : decode cX7_scanNumber 35 = .ok (.dup, 1) := by decide +kernel
theorem dX7_scanNumber_36 : decode cX7_scanNumber 36 = .ok (.getfield 29, 3) := by decide +kernel
theorem dX7_scanNumber_39 : decode cX7_scanNumber 39 = .ok (.iconst 1, 1) := by decide +kernel
theorem dX7_scanNumber_40 : decode cX7_scanNumber 40 = .ok (.iadd, 1) := by decide +kernel
theorem dX7_scanNumber_41 : decode cX7_scanNumber 41 = .ok (.putfield 29, 3) := by decide +kernel
theorem dX7_scanNumber_44 : decode cX7_scanNumber 44 = .ok (.iinc 3 1, 3) := by decide +kernel
theorem dX7_scanNumber_47 : decode cX7_scanNumber 47 = .ok (.goto (-43), 3) := by decide +kernel
theorem dX7_scanNumber_50 : decode cX7_scanNumber 50 = .ok (.iload_n 3, 1) := by decide +kernel
theorem dX7_scanNumber_51 : decode cX7_scanNumber 51 = .ok (.ifCond .le 38, 3) := by decide +kernel
theorem dX7_scanNumber_54 : decode cX7_scanNumber 54 = .ok (.aload_n 0, 1) := by decide +kernel
theorem dX7_scanNumber_55 : decode cX7_scanNumber 55 = .ok (.getfield 50, 3) := by decide +kernel
theorem dX7_scanNumber_58 : decode cX7_scanNumber 58 = .ok (.iconst 4, 1) := by decide +kernel
theorem dX7_scanNumber_59 : decode cX7_scanNumber 59 = .ok (.if_icmp .ge 30, 3) := by decide +kernel
theorem dX7_scanNumber_62 : decode cX7_scanNumber 62 = .ok (.aload_n 0, 1) := by decide +kernel
theorem dX7_scanNumber_63 : decode cX7_scanNumber 63 = .ok (.getfield 19, 3) := by decide +kernel
theorem dX7_scanNumber_66 : decode cX7_scanNumber 66 = .ok (.aload_n 0, 1) := by decide +kernel
theorem dX7_scanNumber_67 : decode cX7_scanNumber 67 = .ok (.getfield 32, 3) := by decide +kernel
theorem dX7_scanNumber_70 : decode cX7_scanNumber 70 = .ok (.iconst 4, 1) := by decide +kernel
theorem dX7_scanNumber_71 : decode cX7_scanNumber 71 = .ok (.imul, 1) := by decide +kernel
theorem dX7_scanNumber_72 : decode cX7_scanNumber 72 = .ok (.aload_n 0, 1) := by decide +kernel
theorem dX7_scanNumber_73 : decode cX7_scanNumber 73 = .ok (.getfield 50, 3) := by decide +kernel
theorem dX7_scanNumber_76 : decode cX7_scanNumber 76 = .ok (.iadd, 1) := by decide +kernel
theorem dX7_scanNumber_77 : decode cX7_scanNumber 77 = .ok (.iload_n 2, 1) := by decide +kernel
theorem dX7_scanNumber_78 : decode cX7_scanNumber 78 = .ok (.iastore, 1) := by decide +kernel
theorem dX7_scanNumber_79 : decode cX7_scanNumber 79 = .ok (.aload_n 0, 1) := by decide +kernel
theorem dX7_scanNumber_80 : decode cX7_scanNumber 80 = .ok (.dup, 1) := by decide +kernel
theorem dX7_scanNumber_81 : decode cX7_scanNumber 81 = .ok (.getfield 50, 3) := by decide +kernel
theorem dX7_scanNumber_84 : decode cX7_scanNumber 84 = .ok (.iconst 1, 1) := by decide +kernel
theorem dX7_scanNumber_85 : decode cX7_scanNumber 85 = .ok (.iadd, 1) := by decide +kernel
theorem dX7_scanNumber_86 : decode cX7_scanNumber 86 = .ok (.putfield 50, 3) := by decide +kernel
theorem dX7_scanNumber_89 : decode cX7_scanNumber 89 = .ok (.iload_n 3, 1) := by decide +kernel
theorem dX7_scanNumber_90 : decode cX7_scanNumber 90 = .ok (.ifCond .le 7, 3) := by decide +kernel
theorem dX7_scanNumber_93 : decode cX7_scanNumber 93 = .ok (.iconst 1, 1) := by decide +kernel
theorem dX7_scanNumber_94 : decode cX7_scanNumber 94 = .ok (.goto 4, 3) := by decide +kernel
theorem dX7_scanNumber_97 : decode cX7_scanNumber 97 = .ok (.iconst 0, 1) := by decide +kernel
theorem dX7_scanNumber_98 : decode cX7_scanNumber 98 = .ok (.ireturn, 1) := by decide +kernel
theorem dX7_isDigitNext_0 : decode cX7_isDigitNext 0 = .ok (.aload_n 0, 1) := by decide +kernel
theorem dX7_isDigitNext_1 : decode cX7_isDigitNext 1 = .ok (.getfield 29, 3) := by decide +kernel
theorem dX7_isDigitNext_4 : decode cX7_isDigitNext 4 = .ok (.aload_n 0, 1) := by decide +kernel
theorem dX7_isDigitNext_5 : decode cX7_isDigitNext 5 = .ok (.getfield 26, 3) := by decide +kernel
theorem dX7_isDigitNext_8 : decode cX7_isDigitNext 8 = .ok (.if_icmp .ge 35, 3) := by decide +kernel
theorem dX7_isDigitNext_11 : decode cX7_isDigitNext 11 = .ok (.aload_n 0, 1) := by decide +kernel
theorem dX7_isDigitNext_12 : decode cX7_isDigitNext 12 = .ok (.getfield 9, 3) := by decide +kernel
theorem dX7_isDigitNext_15 : decode cX7_isDigitNext 15 = .ok (.aload_n 0, 1) := by decide +kernel
theorem dX7_isDigitNext_16 : decode cX7_isDigitNext 16 = .ok (.getfield 29, 3) := by decide +kernel
theorem dX7_isDigitNext_19 : decode cX7_isDigitNext 19 = .ok (.caload, 1) := by decide +kernel
theorem dX7_isDigitNext_20 : decode cX7_isDigitNext 20 = .ok (.bipush 48, 2) := by decide +kernel
theorem dX7_isDigitNext_22 : decode cX7_isDigitNext 22 = .ok (.if_icmp .lt 21, 3) := by decide +kernel
theorem dX7_isDigitNext_25 : decode cX7_isDigitNext 25 = .ok (.aload_n 0, 1) := by decide +kernel
theorem dX7_isDigitNext_26 : decode cX7_isDigitNext 26 = .ok (.getfield 9, 3) := by decide +kernel
theorem dX7_isDigitNext_29 : decode cX7_isDigitNext 29 = .ok (.aload_n 0, 1) := by decide +kernel
theorem dX7_isDigitNext_30 : decode cX7_isDigitNext 30 = .ok (.getfield 29, 3) := by decide +kernel
theorem dX7_isDigitNext_33 : decode cX7_isDigitNext 33 = .ok (.caload, 1) := by decide +kernel
theorem dX7_isDigitNext_34 : decode cX7_isDigitNext 34 = .ok (.bipush 57, 2) := by decide +kernel
theorem dX7_isDigitNext_36 : decode cX7_isDigitNext 36 = .ok (.if_icmp .gt 7, 3) := by decide +kernel
theorem dX7_isDigitNext_39 : decode cX7_isDigitNext 39 = .ok (.iconst 1, 1) := by decide +kernel
theorem dX7_isDigitNext_40 : decode cX7_isDigitNext 40 = .ok (.goto 4, 3) := by decide +kernel
theorem dX7_isDigitNext_43 : decode cX7_isDigitNext 43 = .ok (.iconst 0, 1) := by decide +kernel
theorem dX7_isDigitNext_44 : decode cX7_isDigitNext 44 = .ok (.ireturn, 1) := by decide +kernel
theorem dX8_init_0 : decode cX8_init 0 = .ok (.aload_n 0, 1) := by decide +kernel
theorem dX8_init_1 : decode cX8_init 1 = .ok (.invokespecial 5, 3) := by decide +kernel
theorem dX8_init_4 : decode cX8_init 4 = .ok (.aload_n 0, 1) := by decide +kernel
theorem dX8_init_5 : decode cX8_init 5 = .ok (.bipush 30, 2) := by decide +kernel
theorem dX8_init_7 : decode cX8_init 7 = .ok (.newarray .int, 2) := by decide +kernel
theorem dX8_init_9 : decode cX8_init 9 = .ok (.putfield 11, 3) := by decide +kernel
theorem dX8_init_12 : decode cX8_init 12 = .ok (.aload_n 0, 1) := by decide +kernel
theorem dX8_init_13 : decode cX8_init 13 = .ok (.bipush 6, 2) := by decide +kernel
theorem dX8_init_15 : decode cX8_init 15 = .ok (.newarray .int, 2) := by decide +kernel
theorem dX8_init_17 : decode cX8_init 17 = .ok (.putfield 15, 3) := by decide +kernel
theorem dX8_init_20 : decode cX8_init 20 = .ok (.aload_n 0, 1) := by decide +kernel
theorem dX8_init_21 : decode cX8_init 21 = .ok (.getfield 11, 3) := by decide +kernel
theorem dX8_init_24 : decode cX8_init 24 = .ok (.iconst (-1), 1) := by decide +kernel
theorem dX8_init_25 : decode cX8_init 25 = .ok (.invokestatic 18, 3) := by decide +kernel
theorem dX8_init_28 : decode cX8_init 28 = .ok (.return_, 1) := by decide +kernel
theorem dX8_copyFrom_0 : decode cX8_copyFrom 0 = .ok (.aload_n 1, 1) := by decide +kernel
theorem dX8_copyFrom_1 : decode cX8_copyFrom 1 = .ok (.getfield 11, 3) := by decide +kernel
theorem dX8_copyFrom_4 : decode cX8_copyFrom 4 = .ok (.iconst 0, 1) := by decide +kernel
theorem dX8_copyFrom_5 : decode cX8_copyFrom 5 = .ok (.aload_n 0, 1) := by decide +kernel
theorem dX8_copyFrom_6 : decode cX8_copyFrom 6 = .ok (.getfield 11, 3) := by decide +kernel
theorem dX8_copyFrom_9 : decode cX8_copyFrom 9 = .ok (.iconst 0, 1) := by decide +kernel
theorem dX8_copyFrom_10 : decode cX8_copyFrom 10 = .ok (.bipush 30, 2) := by decide +kernel
theorem dX8_copyFrom_12 : decode cX8_copyFrom 12 = .ok (.invokestatic 24, 3) := by decide +kernel
theorem dX8_copyFrom_15 : decode cX8_copyFrom 15 = .ok (.aload_n 1, 1) := by decide +kernel
theorem dX8_copyFrom_16 : decode cX8_copyFrom 16 = .ok (.getfield 15, 3) := by decide +kernel
theorem dX8_copyFrom_19 : decode cX8_copyFrom 19 = .ok (.iconst 0, 1) := by decide +kernel
theorem dX8_copyFrom_20 : decode cX8_copyFrom 20 = .ok (.aload_n 0, 1) := by decide +kernel
theorem dX8_copyFrom_21 : decode cX8_copyFrom 21 = .ok (.getfield 15, 3) := by decide +kernel
theorem dX8_copyFrom_24 : decode cX8_copyFrom 24 = .ok (.iconst 0, 1) := by decide +kernel
theorem dX8_copyFrom_25 : decode cX8_copyFrom 25 = .ok (.bipush 6, 2) := by decide +kernel
theorem dX8_copyFrom_27 : decode cX8_copyFrom 27 = .ok (.invokestatic 24, 3) := by decide +kernel
theorem dX8_copyFrom_30 : decode cX8_copyFrom 30 = .ok (.return_, 1) := by decide +kernel
theorem dX8_holesIn_0 : decode cX8_holesIn 0 = .ok (.iload_n 0, 1) := by decide +kernel
theorem dX8_holesIn_1 : decode cX8_holesIn 1 = .ok (.ifCond .ne 7, 3) := by decide +kernel
theorem dX8_holesIn_4 : decode cX8_holesIn 4 = .ok (.iconst 3, 1) := by decide +kernel
theorem dX8_holesIn_5 : decode cX8_holesIn 5 = .ok (.goto 4, 3) := by decide +kernel
theorem dX8_holesIn_8 : decode cX8_holesIn 8 = .ok (.iconst 2, 1) := by decide +kernel
theorem dX8_holesIn_9 : decode cX8_holesIn 9 = .ok (.ireturn, 1) := by decide +kernel
theorem dX8_isHole_0 : decode cX8_isHole 0 = .ok (.iload_n 0, 1) := by decide +kernel
theorem dX8_isHole_1 : decode cX8_isHole 1 = .ok (.invokestatic 30, 3) := by decide +kernel
theorem dX8_isHole_4 : decode cX8_isHole 4 = .ok (.ifCond .eq 30, 3) := by decide +kernel
theorem dX8_isHole_7 : decode cX8_isHole 7 = .ok (.iload_n 1, 1) := by decide +kernel
theorem dX8_isHole_8 : decode cX8_isHole 8 = .ok (.iconst 0, 1) := by decide +kernel
theorem dX8_isHole_9 : decode cX8_isHole 9 = .ok (.iconst 1, 1) := by decide +kernel
theorem dX8_isHole_10 : decode cX8_isHole 10 = .ok (.invokestatic 34, 3) := by decide +kernel
theorem dX8_isHole_13 : decode cX8_isHole 13 = .ok (.ifCond .eq 21, 3) := by decide +kernel
theorem dX8_isHole_16 : decode cX8_isHole 16 = .ok (.iload_n 2, 1) := by decide +kernel
theorem dX8_isHole_17 : decode cX8_isHole 17 = .ok (.iconst 0, 1) := by decide +kernel
theorem dX8_isHole_18 : decode cX8_isHole 18 = .ok (.iload_n 1, 1) := by decide +kernel
theorem dX8_isHole_19 : decode cX8_isHole 19 = .ok (.invokestatic 38, 3) := by decide +kernel
theorem dX8_isHole_22 : decode cX8_isHole 22 = .ok (.iconst 1, 1) := by decide +kernel
theorem dX8_isHole_23 : decode cX8_isHole 23 = .ok (.isub, 1) := by decide +kernel
theorem dX8_isHole_24 : decode cX8_isHole 24 = .ok (.invokestatic 34, 3) := by decide +kernel
theorem dX8_isHole_27 : decode cX8_isHole 27 = .ok (.ifCond .eq 7, 3) := by decide +kernel
theorem dX8_isHole_30 : decode cX8_isHole 30 = .ok (.iconst 1, 1) := by decide +kernel
theorem dX8_isHole_31 : decode cX8_isHole 31 = .ok (.goto 4, 3) := by decide +kernel
theorem dX8_isHole_34 : decode cX8_isHole 34 = .ok (.iconst 0, 1) := by decide +kernel
theorem dX8_isHole_35 : decode cX8_isHole 35 = .ok (.ireturn, 1) := by decide +kernel
theorem dX8_placeOf_0 : decode cX8_placeOf 0 = .ok (.iload_n 0, 1) := by decide +kernel
theorem dX8_placeOf_1 : decode cX8_placeOf 1 = .ok (.iconst 5, 1) := by decide +kernel
theorem dX8_placeOf_2 : decode cX8_placeOf 2 = .ok (.imul, 1) := by decide +kernel
theorem dX8_placeOf_3 : decode cX8_placeOf 3 = .ok (.iload_n 1, 1) := by decide +kernel
theorem dX8_placeOf_4 : decode cX8_placeOf 4 = .ok (.iconst 3, 1) := by decide +kernel
theorem dX8_placeOf_5 : decode cX8_placeOf 5 = .ok (.imul, 1) := by decide +kernel
theorem dX8_placeOf_6 : decode cX8_placeOf 6 = .ok (.iadd, 1) := by decide +kernel
theorem dX8_placeOf_7 : decode cX8_placeOf 7 = .ok (.iload_n 2, 1) := by decide +kernel
theorem dX8_placeOf_8 : decode cX8_placeOf 8 = .ok (.iadd, 1) := by decide +kernel
theorem dX8_placeOf_9 : decode cX8_placeOf 9 = .ok (.ireturn, 1) := by decide +kernel
theorem dX8_itemAt_0 : decode cX8_itemAt 0 = .ok (.aload_n 0, 1) := by decide +kernel
theorem dX8_itemAt_1 : decode cX8_itemAt 1 = .ok (.getfield 11, 3) := by decide +kernel
theorem dX8_itemAt_4 : decode cX8_itemAt 4 = .ok (.iload_n 1, 1) := by decide +kernel
theorem dX8_itemAt_5 : decode cX8_itemAt 5 = .ok (.iload_n 2, 1) := by decide +kernel
theorem dX8_itemAt_6 : decode cX8_itemAt 6 = .ok (.iload_n 3, 1) := by decide +kernel
theorem dX8_itemAt_7 : decode cX8_itemAt 7 = .ok (.invokestatic 42, 3) := by decide +kernel
theorem dX8_itemAt_10 : decode cX8_itemAt 10 = .ok (.iaload, 1) := by decide +kernel
theorem dX8_itemAt_11 : decode cX8_itemAt 11 = .ok (.ireturn, 1) := by decide +kernel
theorem dX8_put_0 : decode cX8_put 0 = .ok (.aload_n 0, 1) := by decide +kernel
theorem dX8_put_1 : decode cX8_put 1 = .ok (.getfield 11, 3) := by decide +kernel
theorem dX8_put_4 : decode cX8_put 4 = .ok (.iload_n 1, 1) := by decide +kernel
theorem dX8_put_5 : decode cX8_put 5 = .ok (.iload_n 2, 1) := by decide +kernel
theorem dX8_put_6 : decode cX8_put 6 = .ok (.iload_n 3, 1) := by decide +kernel
theorem dX8_put_7 : decode cX8_put 7 = .ok (.invokestatic 42, 3) := by decide +kernel
theorem dX8_put_10 : decode cX8_put 10 = .ok (.iload 4, 2) := by decide +kernel
theorem dX8_put_12 : decode cX8_put 12 = .ok (.iastore, 1) := by decide +kernel
theorem dX8_put_13 : decode cX8_put 13 = .ok (.return_, 1) := by decide +kernel
theorem dX8_lowestFree_0 : decode cX8_lowestFree 0 = .ok (.iconst 0, 1) := by decide +kernel
theorem dX8_lowestFree_1 : decode cX8_lowestFree 1 = .ok (.istore_n 3, 1) := by decide +kernel
theorem dX8_lowestFree_2 : decode cX8_lowestFree 2 = .ok (.iload_n 3, 1) := by decide +kernel
theorem dX8_lowestFree_3 : decode cX8_lowestFree 3 = .ok (.iload_n 2, 1) := by decide +kernel
theorem dX8_lowestFree_4 : decode cX8_lowestFree 4 = .ok (.invokestatic 38, 3) := by decide +kernel
theorem dX8_lowestFree_7 : decode cX8_lowestFree 7 = .ok (.if_icmp .ge 22, 3) := by decide +kernel
theorem dX8_lowestFree_10 : decode cX8_lowestFree 10 = .ok (.aload_n 0, 1) := by decide +kernel
theorem dX8_lowestFree_11 : decode cX8_lowestFree 11 = .ok (.iload_n 1, 1) := by decide +kernel
theorem dX8_lowestFree_12 : decode cX8_lowestFree 12 = .ok (.iload_n 2, 1) := by decide +kernel
theorem dX8_lowestFree_13 : decode cX8_lowestFree 13 = .ok (.iload_n 3, 1) := by decide +kernel
theorem dX8_lowestFree_14 : decode cX8_lowestFree 14 = .ok (.invokevirtual 46, 3) := by decide +kernel
theorem dX8_lowestFree_17 : decode cX8_lowestFree 17 = .ok (.iconst (-1), 1) := by decide +kernel
theorem dX8_lowestFree_18 : decode cX8_lowestFree 18 = .ok (.if_icmp .ne 5, 3) := by decide +kernel
theorem dX8_lowestFree_21 : decode cX8_lowestFree 21 = .ok (.iload_n 3, 1) := by decide +kernel
theorem dX8_lowestFree_22 : decode cX8_lowestFree 22 = .ok (.ireturn, 1) := by decide +kernel
theorem dX8_lowestFree_23 : decode cX8_lowestFree 23 = .ok (.iinc 3 1, 3) := by decide +kernel
theorem dX8_lowestFree_26 : decode cX8_lowestFree 26 = .ok (.goto (-24), 3) := by decide +kernel
theorem dX8_lowestFree_29 : decode cX8_lowestFree 29 = .ok (.iconst (-1), 1) := by decide +kernel
theorem dX8_lowestFree_30 : decode cX8_lowestFree 30 = .ok (.ireturn, 1) := by decide +kernel
theorem dX8_isBare_0 : decode cX8_isBare 0 = .ok (.iconst 0, 1) := by decide +kernel
theorem dX8_isBare_1 : decode cX8_isBare 1 = .ok (.istore_n 2, 1) := by decide +kernel
theorem dX8_isBare_2 : decode cX8_isBare 2 = .ok (.iload_n 2, 1) := by decide +kernel
theorem dX8_isBare_3 : decode cX8_isBare 3 = .ok (.iconst 1, 1) := by decide +kernel
theorem dX8_isBare_4 : decode cX8_isBare 4 = .ok (.if_icmp .gt 38, 3) := by decide +kernel
theorem dX8_isBare_7 : decode cX8_isBare 7 = .ok (.iconst 0, 1) := by decide +kernel
theorem dX8_isBare_8 : decode cX8_isBare 8 = .ok (.istore_n 3, 1) := by decide +kernel
theorem dX8_isBare_9 : decode cX8_isBare 9 = .ok (.iload_n 3, 1) := by decide +kernel
theorem dX8_isBare_10 : decode cX8_isBare 10 = .ok (.iload_n 2, 1) := by decide +kernel
theorem dX8_isBare_11 : decode cX8_isBare 11 = .ok (.invokestatic 38, 3) := by decide +kernel
theorem dX8_isBare_14 : decode cX8_isBare 14 = .ok (.if_icmp .ge 22, 3) := by decide +kernel
theorem dX8_isBare_17 : decode cX8_isBare 17 = .ok (.aload_n 0, 1) := by decide +kernel
theorem dX8_isBare_18 : decode cX8_isBare 18 = .ok (.iload_n 1, 1) := by decide +kernel
theorem dX8_isBare_19 : decode cX8_isBare 19 = .ok (.iload_n 2, 1) := by decide +kernel
theorem dX8_isBare_20 : decode cX8_isBare 20 = .ok (.iload_n 3, 1) := by decide +kernel
theorem dX8_isBare_21 : decode cX8_isBare 21 = .ok (.invokevirtual 46, 3) := by decide +kernel
theorem dX8_isBare_24 : decode cX8_isBare 24 = .ok (.iconst (-1), 1) := by decide +kernel
theorem dX8_isBare_25 : decode cX8_isBare 25 = .ok (.if_icmp .eq 5, 3) := by decide +kernel
theorem dX8_isBare_28 : decode cX8_isBare 28 = .ok (.iconst 0, 1) := by decide +kernel
theorem dX8_isBare_29 : decode cX8_isBare 29 = .ok (.ireturn, 1) := by decide +kernel
theorem dX8_isBare_30 : decode cX8_isBare 30 = .ok (.iinc 3 1, 3) := by decide +kernel
theorem dX8_isBare_33 : decode cX8_isBare 33 = .ok (.goto (-24), 3) := by decide +kernel
theorem dX8_isBare_36 : decode cX8_isBare 36 = .ok (.iinc 2 1, 3) := by decide +kernel
theorem dX8_isBare_39 : decode cX8_isBare 39 = .ok (.goto (-37), 3) := by decide +kernel
theorem dX8_isBare_42 : decode cX8_isBare 42 = .ok (.iconst 1, 1) := by decide +kernel
theorem dX8_isBare_43 : decode cX8_isBare 43 = .ok (.ireturn, 1) := by decide +kernel
theorem dX9_init_0 : decode cX9_init 0 = .ok (.aload_n 0, 1) := by decide +kernel
theorem dX9_init_1 : decode cX9_init 1 = .ok (.invokespecial 1, 3) := by decide +kernel
theorem dX9_init_4 : decode cX9_init 4 = .ok (.aload_n 0, 1) := by decide +kernel
theorem dX9_init_5 : decode cX9_init 5 = .ok (.new 7, 3) := by decide +kernel
theorem dX9_init_8 : decode cX9_init 8 = .ok (.dup, 1) := by decide +kernel
theorem dX9_init_9 : decode cX9_init 9 = .ok (.invokespecial 9, 3) := by decide +kernel
theorem dX9_init_12 : decode cX9_init 12 = .ok (.putfield 10, 3) := by decide +kernel
theorem dX9_init_15 : decode cX9_init 15 = .ok (.aload_n 0, 1) := by decide +kernel
theorem dX9_init_16 : decode cX9_init 16 = .ok (.aload_n 0, 1) := by decide +kernel
theorem dX9_init_17 : decode cX9_init 17 = .ok (.getfield 10, 3) := by decide +kernel
theorem dX9_init_20 : decode cX9_init 20 = .ok (.getfield 16, 3) := by decide +kernel
theorem dX9_init_23 : decode cX9_init 23 = .ok (.putfield 20, 3) := by decide +kernel
theorem dX9_init_26 : decode cX9_init 26 = .ok (.aload_n 0, 1) := by decide +kernel
theorem dX9_init_27 : decode cX9_init 27 = .ok (.new 23, 3) := by decide +kernel
theorem dX9_init_30 : decode cX9_init 30 = .ok (.dup, 1) := by decide +kernel
theorem dX9_init_31 : decode cX9_init 31 = .ok (.invokespecial 25, 3) := by decide +kernel
theorem dX9_init_34 : decode cX9_init 34 = .ok (.putfield 26, 3) := by decide +kernel
theorem dX9_init_37 : decode cX9_init 37 = .ok (.aload_n 0, 1) := by decide +kernel
theorem dX9_init_38 : decode cX9_init 38 = .ok (.new 23, 3) := by decide +kernel
theorem dX9_init_41 : decode cX9_init 41 = .ok (.dup, 1) := by decide +kernel
theorem dX9_init_42 : decode cX9_init 42 = .ok (.invokespecial 25, 3) := by decide +kernel
theorem dX9_init_45 : decode cX9_init 45 = .ok (.putfield 29, 3) := by decide +kernel
theorem dX9_init_48 : decode cX9_init 48 = .ok (.aload_n 0, 1) := by decide +kernel
theorem dX9_init_49 : decode cX9_init 49 = .ok (.new 32, 3) := by decide +kernel
theorem dX9_init_52 : decode cX9_init 52 = .ok (.dup, 1) := by decide +kernel
theorem dX9_init_53 : decode cX9_init 53 = .ok (.invokespecial 34, 3) := by decide +kernel
theorem dX9_init_56 : decode cX9_init 56 = .ok (.putfield 35, 3) := by decide +kernel
theorem dX9_init_59 : decode cX9_init 59 = .ok (.aload_n 0, 1) := by decide +kernel
theorem dX9_init_60 : decode cX9_init 60 = .ok (.new 39, 3) := by decide +kernel
theorem dX9_init_63 : decode cX9_init 63 = .ok (.dup, 1) := by decide +kernel
theorem dX9_init_64 : decode cX9_init 64 = .ok (.invokespecial 41, 3) := by decide +kernel
theorem dX9_init_67 : decode cX9_init 67 = .ok (.putfield 42, 3) := by decide +kernel
theorem dX9_init_70 : decode cX9_init 70 = .ok (.aload_n 0, 1) := by decide +kernel
theorem dX9_init_71 : decode cX9_init 71 = .ok (.sipush 1000, 3) := by decide +kernel
theorem dX9_init_74 : decode cX9_init 74 = .ok (.newarray .float, 2) := by decide +kernel
theorem dX9_init_76 : decode cX9_init 76 = .ok (.putfield 46, 3) := by decide +kernel
theorem dX9_init_79 : decode cX9_init 79 = .ok (.return_, 1) := by decide +kernel
theorem dX9_crayon_0 : decode cX9_crayon 0 = .ok (.aload_n 0, 1) := by decide +kernel
theorem dX9_crayon_1 : decode cX9_crayon 1 = .ok (.getfield 10, 3) := by decide +kernel
theorem dX9_crayon_4 : decode cX9_crayon 4 = .ok (.iload_n 1, 1) := by decide +kernel
theorem dX9_crayon_5 : decode cX9_crayon 5 = .ok (.invokevirtual 50, 3) := by decide +kernel
theorem dX9_crayon_8 : decode cX9_crayon 8 = .ok (.invokestatic 54, 3) := by decide +kernel
theorem dX9_crayon_11 : decode cX9_crayon 11 = .ok (.aload_n 0, 1) := by decide +kernel
theorem dX9_crayon_12 : decode cX9_crayon 12 = .ok (.getfield 35, 3) := by decide +kernel
theorem dX9_crayon_15 : decode cX9_crayon 15 = .ok (.aload_n 0, 1) := by decide +kernel
theorem dX9_crayon_16 : decode cX9_crayon 16 = .ok (.getfield 20, 3) := by decide +kernel
theorem dX9_crayon_19 : decode cX9_crayon 19 = .ok (.invokevirtual 58, 3) := by decide +kernel
theorem dX9_crayon_22 : decode cX9_crayon 22 = .ok (.aload_n 0, 1) := by decide +kernel
theorem dX9_crayon_23 : decode cX9_crayon 23 = .ok (.getfield 20, 3) := by decide +kernel
theorem dX9_crayon_26 : decode cX9_crayon 26 = .ok (.getfield 62, 3) := by decide +kernel
theorem dX9_crayon_29 : decode cX9_crayon 29 = .ok (.ldc 66, 2) := by decide +kernel
theorem dX9_crayon_31 : decode cX9_crayon 31 = .ok (.iload_n 1, 1) := by decide +kernel
theorem dX9_crayon_32 : decode cX9_crayon 32 = .ok (.i2f, 1) := by decide +kernel
theorem dX9_crayon_33 : decode cX9_crayon 33 = .ok (.fmul, 1) := by decide +kernel
theorem dX9_crayon_34 : decode cX9_crayon 34 = .ok (.invokevirtual 67, 3) := by decide +kernel
theorem dX9_crayon_37 : decode cX9_crayon 37 = .ok (.ireturn, 1) := by decide +kernel
theorem dX9_crayonOf_0 : decode cX9_crayonOf 0 = .ok (.aload_n 0, 1) := by decide +kernel
theorem dX9_crayonOf_1 : decode cX9_crayonOf 1 = .ok (.getfield 20, 3) := by decide +kernel
theorem dX9_crayonOf_4 : decode cX9_crayonOf 4 = .ok (.getfield 62, 3) := by decide +kernel
theorem dX9_crayonOf_7 : decode cX9_crayonOf 7 = .ok (.iload_n 1, 1) := by decide +kernel
theorem dX9_crayonOf_8 : decode cX9_crayonOf 8 = .ok (.invokevirtual 73, 3) := by decide +kernel
theorem dX9_crayonOf_11 : decode cX9_crayonOf 11 = .ok (.ifCond .eq 7, 3) := by decide +kernel
theorem dX9_crayonOf_14 : decode cX9_crayonOf 14 = .ok (.iconst 0, 1) := by decide +kernel
theorem dX9_crayonOf_15 : decode cX9_crayonOf 15 = .ok (.goto 4, 3) := by decide +kernel
theorem dX9_crayonOf_18 : decode cX9_crayonOf 18 = .ok (.iconst (-1), 1) := by decide +kernel
theorem dX9_crayonOf_19 : decode cX9_crayonOf 19 = .ok (.invokestatic 54, 3) := by decide +kernel
theorem dX9_crayonOf_22 : decode cX9_crayonOf 22 = .ok (.aload_n 0, 1) := by decide +kernel
theorem dX9_crayonOf_23 : decode cX9_crayonOf 23 = .ok (.getfield 20, 3) := by decide +kernel
theorem dX9_crayonOf_26 : decode cX9_crayonOf 26 = .ok (.getfield 62, 3) := by decide +kernel
theorem dX9_crayonOf_29 : decode cX9_crayonOf 29 = .ok (.getfield 77, 3) := by decide +kernel
theorem dX9_crayonOf_32 : decode cX9_crayonOf 32 = .ok (.iload_n 1, 1) := by decide +kernel
theorem dX9_crayonOf_33 : decode cX9_crayonOf 33 = .ok (.faload, 1) := by decide +kernel
theorem dX9_crayonOf_34 : decode cX9_crayonOf 34 = .ok (.freturn, 1) := by decide +kernel
theorem dX9_letter_0 : decode cX9_letter 0 = .ok (.aload_n 0, 1) := by decide +kernel
theorem dX9_letter_1 : decode cX9_letter 1 = .ok (.getfield 10, 3) := by decide +kernel
theorem dX9_letter_4 : decode cX9_letter 4 = .ok (.iload_n 1, 1) := by decide +kernel
theorem dX9_letter_5 : decode cX9_letter 5 = .ok (.iload_n 2, 1) := by decide +kernel
theorem dX9_letter_6 : decode cX9_letter 6 = .ok (.iload_n 3, 1) := by decide +kernel
theorem dX9_letter_7 : decode cX9_letter 7 = .ok (.iload 4, 2) := by decide +kernel
theorem dX9_letter_9 : decode cX9_letter 9 = .ok (.invokevirtual 80, 3) := by decide +kernel
theorem dX9_letter_12 : decode cX9_letter 12 = .ok (.invokestatic 54, 3) := by decide +kernel
theorem dX9_letter_15 : decode cX9_letter 15 = .ok (.aload_n 0, 1) := by decide +kernel
theorem dX9_letter_16 : decode cX9_letter 16 = .ok (.getfield 35, 3) := by decide +kernel
theorem dX9_letter_19 : decode cX9_letter 19 = .ok (.aload_n 0, 1) := by decide +kernel
theorem dX9_letter_20 : decode cX9_letter 20 = .ok (.getfield 20, 3) := by decide +kernel
theorem dX9_letter_23 : decode cX9_letter 23 = .ok (.invokevirtual 58, 3) := by decide +kernel
theorem dX9_letter_26 : decode cX9_letter 26 = .ok (.aload_n 0, 1) := by decide +kernel
theorem dX9_letter_27 : decode cX9_letter 27 = .ok (.getfield 20, 3) := by decide +kernel
theorem dX9_letter_30 : decode cX9_letter 30 = .ok (.iload_n 1, 1) := by decide +kernel
theorem dX9_letter_31 : decode cX9_letter 31 = .ok (.iload_n 2, 1) := by decide +kernel
theorem dX9_letter_32 : decode cX9_letter 32 = .ok (.iload_n 3, 1) := by decide +kernel
theorem dX9_letter_33 : decode cX9_letter 33 = .ok (.iload 4, 2) := by decide +kernel
theorem dX9_letter_35 : decode cX9_letter 35 = .ok (.invokevirtual 84, 3) := by decide +kernel
theorem dX9_letter_38 : decode cX9_letter 38 = .ok (.ireturn, 1) := by decide +kernel
theorem dX9_parcel_0 : decode cX9_parcel 0 = .ok (.aload_n 0, 1) := by decide +kernel
theorem dX9_parcel_1 : decode cX9_parcel 1 = .ok (.getfield 10, 3) := by decide +kernel
theorem dX9_parcel_4 : decode cX9_parcel 4 = .ok (.iload_n 1, 1) := by decide +kernel
theorem dX9_parcel_5 : decode cX9_parcel 5 = .ok (.iload_n 2, 1) := by decide +kernel
theorem dX9_parcel_6 : decode cX9_parcel 6 = .ok (.iload_n 3, 1) := by decide +kernel
theorem dX9_parcel_7 : decode cX9_parcel 7 = .ok (.iload 4, 2) := by decide +kernel
theorem dX9_parcel_9 : decode cX9_parcel 9 = .ok (.iload 5, 2) := by decide +kernel
theorem dX9_parcel_11 : decode cX9_parcel 11 = .ok (.invokevirtual 87, 3) := by decide +kernel
theorem dX9_parcel_14 : decode cX9_parcel 14 = .ok (.invokestatic 54, 3) := by decide +kernel
theorem dX9_parcel_17 : decode cX9_parcel 17 = .ok (.aload_n 0, 1) := by decide +kernel
theorem dX9_parcel_18 : decode cX9_parcel 18 = .ok (.getfield 35, 3) := by decide +kernel
theorem dX9_parcel_21 : decode cX9_parcel 21 = .ok (.aload_n 0, 1) := by decide +kernel
theorem dX9_parcel_22 : decode cX9_parcel 22 = .ok (.getfield 20, 3) := by decide +kernel
theorem dX9_parcel_25 : decode cX9_parcel 25 = .ok (.invokevirtual 58, 3) := by decide +kernel
theorem dX9_parcel_28 : decode cX9_parcel 28 = .ok (.aload_n 0, 1) := by decide +kernel
theorem dX9_parcel_29 : decode cX9_parcel 29 = .ok (.getfield 20, 3) := by decide +kernel
theorem dX9_parcel_32 : decode cX9_parcel 32 = .ok (.iload_n 1, 1) := by decide +kernel
theorem dX9_parcel_33 : decode cX9_parcel 33 = .ok (.iload_n 2, 1) := by decide +kernel
theorem dX9_parcel_34 : decode cX9_parcel 34 = .ok (.iload_n 3, 1) := by decide +kernel
theorem dX9_parcel_35 : decode cX9_parcel 35 = .ok (.iload 4, 2) := by decide +kernel
theorem dX9_parcel_37 : decode cX9_parcel 37 = .ok (.iload 5, 2) := by decide +kernel
theorem dX9_parcel_39 : decode cX9_parcel 39 = .ok (.invokevirtual 91, 3) := by decide +kernel
theorem dX9_parcel_42 : decode cX9_parcel 42 = .ok (.ireturn, 1) := by decide +kernel
theorem dX9_itemOf_0 : decode cX9_itemOf 0 = .ok (.aload_n 0, 1) := by decide +kernel
theorem dX9_itemOf_1 : decode cX9_itemOf 1 = .ok (.iload_n 1, 1) := by decide +kernel
theorem dX9_itemOf_2 : decode cX9_itemOf 2 = .ok (.invokevirtual 94, 3) := by decide +kernel
theorem dX9_itemOf_5 : decode cX9_itemOf 5 = .ok (.iload_n 2, 1) := by decide +kernel
theorem dX9_itemOf_6 : decode cX9_itemOf 6 = .ok (.iconst 0, 1) := by decide +kernel
theorem dX9_itemOf_7 : decode cX9_itemOf 7 = .ok (.bipush 6, 2) := by decide +kernel
theorem dX9_itemOf_9 : decode cX9_itemOf 9 = .ok (.invokestatic 97, 3) := by decide +kernel
theorem dX9_itemOf_12 : decode cX9_itemOf 12 = .ok (.ifCond .eq 7, 3) := by decide +kernel
theorem dX9_itemOf_15 : decode cX9_itemOf 15 = .ok (.iconst 0, 1) := by decide +kernel
theorem dX9_itemOf_16 : decode cX9_itemOf 16 = .ok (.goto 5, 3) := by decide +kernel
theorem dX9_itemOf_19 : decode cX9_itemOf 19 = .ok (.bipush (-2), 2) := by decide +kernel
theorem dX9_itemOf_21 : decode cX9_itemOf 21 = .ok (.invokestatic 54, 3) := by decide +kernel
theorem dX9_itemOf_24 : decode cX9_itemOf 24 = .ok (.aload_n 0, 1) := by decide +kernel
theorem dX9_itemOf_25 : decode cX9_itemOf 25 = .ok (.getfield 20, 3) := by decide +kernel
theorem dX9_itemOf_28 : decode cX9_itemOf 28 = .ok (.getfield 101, 3) := by decide +kernel
theorem dX9_itemOf_31 : decode cX9_itemOf 31 = .ok (.iload_n 1, 1) := by decide +kernel
theorem dX9_itemOf_32 : decode cX9_itemOf 32 = .ok (.iload_n 2, 1) := by decide +kernel
theorem dX9_itemOf_33 : decode cX9_itemOf 33 = .ok (.invokevirtual 105, 3) := by decide +kernel
theorem dX9_itemOf_36 : decode cX9_itemOf 36 = .ok (.ireturn, 1) := by decide +kernel
theorem dX9_reads_0 : decode cX9_reads 0 = .ok (.aload_n 0, 1) := by decide +kernel
theorem dX9_reads_1 : decode cX9_reads 1 = .ok (.iload_n 1, 1) := by decide +kernel
theorem dX9_reads_2 : decode cX9_reads 2 = .ok (.invokevirtual 94, 3) := by decide +kernel
theorem dX9_reads_5 : decode cX9_reads 5 = .ok (.aload_n 0, 1) := by decide +kernel
theorem dX9_reads_6 : decode cX9_reads 6 = .ok (.getfield 20, 3) := by decide +kernel
theorem dX9_reads_9 : decode cX9_reads 9 = .ok (.getfield 101, 3) := by decide +kernel
theorem dX9_reads_12 : decode cX9_reads 12 = .ok (.getfield 111, 3) := by decide +kernel
theorem dX9_reads_15 : decode cX9_reads 15 = .ok (.iload_n 1, 1) := by decide +kernel
theorem dX9_reads_16 : decode cX9_reads 16 = .ok (.iaload, 1) := by decide +kernel
theorem dX9_reads_17 : decode cX9_reads 17 = .ok (.ifCond .ne 7, 3) := by decide +kernel
theorem dX9_reads_20 : decode cX9_reads 20 = .ok (.iconst 1, 1) := by decide +kernel
theorem dX9_reads_21 : decode cX9_reads 21 = .ok (.goto 4, 3) := by decide +kernel
theorem dX9_reads_24 : decode cX9_reads 24 = .ok (.iconst 0, 1) := by decide +kernel
theorem dX9_reads_25 : decode cX9_reads 25 = .ok (.invokestatic 115, 3) := by decide +kernel
theorem dX9_reads_28 : decode cX9_reads 28 = .ok (.aload_n 0, 1) := by decide +kernel
theorem dX9_reads_29 : decode cX9_reads 29 = .ok (.getfield 20, 3) := by decide +kernel
theorem dX9_reads_32 : decode cX9_reads 32 = .ok (.getfield 101, 3) := by decide +kernel
theorem dX9_reads_35 : decode cX9_reads 35 = .ok (.getfield 119, 3) := by decide +kernel
theorem dX9_reads_38 : decode cX9_reads 38 = .ok (.iload_n 1, 1) := by decide +kernel
theorem dX9_reads_39 : decode cX9_reads 39 = .ok (.faload, 1) := by decide +kernel
theorem dX9_reads_40 : decode cX9_reads 40 = .ok (.invokestatic 122, 3) := by decide +kernel
theorem dX9_reads_43 : decode cX9_reads 43 = .ok (.ireturn, 1) := by decide +kernel
theorem dX9_string_0 : decode cX9_string 0 = .ok (.iload_n 1, 1) := by decide +kernel
theorem dX9_string_1 : decode cX9_string 1 = .ok (.iconst 1, 1) := by decide +kernel
theorem dX9_string_2 : decode cX9_string 2 = .ok (.bipush 20, 2) := by decide +kernel
theorem dX9_string_4 : decode cX9_string 4 = .ok (.invokestatic 97, 3) := by decide +kernel
theorem dX9_string_7 : decode cX9_string 7 = .ok (.ifCond .eq 7, 3) := by decide +kernel
theorem dX9_string_10 : decode cX9_string 10 = .ok (.iconst 0, 1) := by decide +kernel
theorem dX9_string_11 : decode cX9_string 11 = .ok (.goto 5, 3) := by decide +kernel
theorem dX9_string_14 : decode cX9_string 14 = .ok (.bipush (-2), 2) := by decide +kernel
theorem dX9_string_16 : decode cX9_string 16 = .ok (.invokestatic 54, 3) := by decide +kernel
theorem dX9_string_19 : decode cX9_string 19 = .ok (.aload_n 0, 1) := by decide +kernel
theorem dX9_string_20 : decode cX9_string 20 = .ok (.getfield 35, 3) := by decide +kernel
theorem dX9_string_23 : decode cX9_string 23 = .ok (.aload_n 0, 1) := by decide +kernel
theorem dX9_string_24 : decode cX9_string 24 = .ok (.getfield 20, 3) := by decide +kernel
theorem dX9_string_27 : decode cX9_string 27 = .ok (.invokevirtual 58, 3) := by decide +kernel
theorem dX9_string_30 : decode cX9_string 30 = .ok (.aload_n 0, 1) := by decide +kernel
theorem dX9_string_31 : decode cX9_string 31 = .ok (.getfield 20, 3) := by decide +kernel
theorem dX9_string_34 : decode cX9_string 34 = .ok (.getfield 62, 3) := by decide +kernel
theorem dX9_string_37 : decode cX9_string 37 = .ok (.iload_n 1, 1) := by decide +kernel
theorem dX9_string_38 : decode cX9_string 38 = .ok (.i2f, 1) := by decide +kernel
theorem dX9_string_39 : decode cX9_string 39 = .ok (.invokevirtual 134, 3) := by decide +kernel
theorem dX9_string_42 : decode cX9_string 42 = .ok (.aload_n 0, 1) := by decide +kernel
theorem dX9_string_43 : decode cX9_string 43 = .ok (.getfield 20, 3) := by decide +kernel
theorem dX9_string_46 : decode cX9_string 46 = .ok (.getfield 62, 3) := by decide +kernel
theorem dX9_string_49 : decode cX9_string 49 = .ok (.getfield 138, 3) := by decide +kernel
theorem dX9_string_52 : decode cX9_string 52 = .ok (.invokestatic 122, 3) := by decide +kernel
theorem dX9_string_55 : decode cX9_string 55 = .ok (.ireturn, 1) := by decide +kernel
theorem dX9_lettersOf_0 : decode cX9_lettersOf 0 = .ok (.aload_n 0, 1) := by decide +kernel
theorem dX9_lettersOf_1 : decode cX9_lettersOf 1 = .ok (.iload_n 1, 1) := by decide +kernel
theorem dX9_lettersOf_2 : decode cX9_lettersOf 2 = .ok (.iload_n 2, 1) := by decide +kernel
theorem dX9_lettersOf_3 : decode cX9_lettersOf 3 = .ok (.invokevirtual 142, 3) := by decide +kernel
theorem dX9_lettersOf_6 : decode cX9_lettersOf 6 = .ok (.iload_n 2, 1) := by decide +kernel
theorem dX9_lettersOf_7 : decode cX9_lettersOf 7 = .ok (.invokestatic 146, 3) := by decide +kernel
theorem dX9_lettersOf_10 : decode cX9_lettersOf 10 = .ok (.fstore_n 3, 1) := by decide +kernel
theorem dX9_lettersOf_11 : decode cX9_lettersOf 11 = .ok (.aload_n 0, 1) := by decide +kernel
theorem dX9_lettersOf_12 : decode cX9_lettersOf 12 = .ok (.getfield 20, 3) := by decide +kernel
theorem dX9_lettersOf_15 : decode cX9_lettersOf 15 = .ok (.getfield 62, 3) := by decide +kernel
theorem dX9_lettersOf_18 : decode cX9_lettersOf 18 = .ok (.getfield 77, 3) := by decide +kernel
theorem dX9_lettersOf_21 : decode cX9_lettersOf 21 = .ok (.iload_n 1, 1) := by decide +kernel
theorem dX9_lettersOf_22 : decode cX9_lettersOf 22 = .ok (.faload, 1) := by decide +kernel
theorem dX9_lettersOf_23 : decode cX9_lettersOf 23 = .ok (.fstore 4, 2) := by decide +kernel
theorem dX9_lettersOf_25 : decode cX9_lettersOf 25 = .ok (.iconst 0, 1) := by decide +kernel
theorem dX9_lettersOf_26 : decode cX9_lettersOf 26 = .ok (.istore 5, 2) := by decide +kernel
theorem dX9_lettersOf_28 : decode cX9_lettersOf 28 = .ok (.iload 5, 2) := by decide +kernel
theorem dX9_lettersOf_30 : decode cX9_lettersOf 30 = .ok (.ldc 150, 2) := by decide +kernel
theorem dX9_lettersOf_32 : decode cX9_lettersOf 32 = .ok (.if_icmp .ge 22, 3) := by decide +kernel
theorem dX9_lettersOf_35 : decode cX9_lettersOf 35 = .ok (.fload 4, 2) := by decide +kernel
theorem dX9_lettersOf_37 : decode cX9_lettersOf 37 = .ok (.fload_n 3, 1) := by decide +kernel
theorem dX9_lettersOf_38 : decode cX9_lettersOf 38 = .ok (.fcmp .l, 1) := by decide +kernel
theorem dX9_lettersOf_39 : decode cX9_lettersOf 39 = .ok (.ifCond .lt 15, 3) := by decide +kernel
theorem dX9_lettersOf_42 : decode cX9_lettersOf 42 = .ok (.fload 4, 2) := by decide +kernel
theorem dX9_lettersOf_44 : decode cX9_lettersOf 44 = .ok (.fload_n 3, 1) := by decide +kernel
theorem dX9_lettersOf_45 : decode cX9_lettersOf 45 = .ok (.fsub, 1) := by decide +kernel
theorem dX9_lettersOf_46 : decode cX9_lettersOf 46 = .ok (.fstore 4, 2) := by decide +kernel
theorem dX9_lettersOf_48 : decode cX9_lettersOf 48 = .ok (.iinc 5 1, 3) := by decide +kernel
theorem dX9_lettersOf_51 : decode cX9_lettersOf 51 = .ok (.goto (-23), 3) := by decide +kernel
theorem dX9_lettersOf_54 : decode cX9_lettersOf 54 = .ok (.iload 5, 2) := by decide +kernel
theorem dX9_lettersOf_56 : decode cX9_lettersOf 56 = .ok (.ireturn, 1) := by decide +kernel
theorem dX9_lettersAgain_0 : decode cX9_lettersAgain 0 = .ok (.aload_n 0, 1) := by decide +kernel
theorem dX9_lettersAgain_1 : decode cX9_lettersAgain 1 = .ok (.iload_n 1, 1) := by decide +kernel
theorem dX9_lettersAgain_2 : decode cX9_lettersAgain 2 = .ok (.iload_n 2, 1) := by decide +kernel
theorem dX9_lettersAgain_3 : decode cX9_lettersAgain 3 = .ok (.invokevirtual 142, 3) := by decide +kernel
theorem dX9_lettersAgain_6 : decode cX9_lettersAgain 6 = .ok (.iload_n 2, 1) := by decide +kernel
theorem dX9_lettersAgain_7 : decode cX9_lettersAgain 7 = .ok (.invokestatic 146, 3) := by decide +kernel
theorem dX9_lettersAgain_10 : decode cX9_lettersAgain 10 = .ok (.fstore_n 3, 1) := by decide +kernel
theorem dX9_lettersAgain_11 : decode cX9_lettersAgain 11 = .ok (.aload_n 0, 1) := by decide +kernel
theorem dX9_lettersAgain_12 : decode cX9_lettersAgain 12 = .ok (.getfield 46, 3) := by decide +kernel
theorem dX9_lettersAgain_15 : decode cX9_lettersAgain 15 = .ok (.iconst 0, 1) := by decide +kernel
theorem dX9_lettersAgain_16 : decode cX9_lettersAgain 16 = .ok (.aload_n 0, 1) := by decide +kernel
theorem dX9_lettersAgain_17 : decode cX9_lettersAgain 17 = .ok (.getfield 20, 3) := by decide +kernel
theorem dX9_lettersAgain_20 : decode cX9_lettersAgain 20 = .ok (.getfield 62, 3) := by decide +kernel
theorem dX9_lettersAgain_23 : decode cX9_lettersAgain 23 = .ok (.getfield 77, 3) := by decide +kernel
theorem dX9_lettersAgain_26 : decode cX9_lettersAgain 26 = .ok (.iload_n 1, 1) := by decide +kernel
theorem dX9_lettersAgain_27 : decode cX9_lettersAgain 27 = .ok (.faload, 1) := by decide +kernel
theorem dX9_lettersAgain_28 : decode cX9_lettersAgain 28 = .ok (.fastore, 1) := by decide +kernel
theorem dX9_lettersAgain_29 : decode cX9_lettersAgain 29 = .ok (.iconst 0, 1) := by decide +kernel
theorem dX9_lettersAgain_30 : decode cX9_lettersAgain 30 = .ok (.istore 4, 2) := by decide +kernel
theorem dX9_lettersAgain_32 : decode cX9_lettersAgain 32 = .ok (.iload 4, 2) := by decide +kernel
theorem dX9_lettersAgain_34 : decode cX9_lettersAgain 34 = .ok (.iconst 1, 1) := by decide +kernel
theorem dX9_lettersAgain_35 : decode cX9_lettersAgain 35 = .ok (.iadd, 1) := by decide +kernel
theorem dX9_lettersAgain_36 : decode cX9_lettersAgain 36 = .ok (.aload_n 0, 1) := by decide +kernel
theorem dX9_lettersAgain_37 : decode cX9_lettersAgain 37 = .ok (.getfield 46, 3) := by decide +kernel
theorem dX9_lettersAgain_40 : decode cX9_lettersAgain 40 = .ok (.arraylength, 1) := by decide +kernel
theorem dX9_lettersAgain_41 : decode cX9_lettersAgain 41 = .ok (.if_icmp .ge 39, 3) := by decide +kernel
theorem dX9_lettersAgain_44 : decode cX9_lettersAgain 44 = .ok (.aload_n 0, 1) := by decide +kernel
theorem dX9_lettersAgain_45 : decode cX9_lettersAgain 45 = .ok (.getfield 46, 3) := by decide +kernel
theorem dX9_lettersAgain_48 : decode cX9_lettersAgain 48 = .ok (.iload 4, 2) := by decide +kernel
theorem dX9_lettersAgain_50 : decode cX9_lettersAgain 50 = .ok (.faload, 1) := by decide +kernel
theorem dX9_lettersAgain_51 : decode cX9_lettersAgain 51 = .ok (.fload_n 3, 1) := by decide +kernel
theorem dX9_lettersAgain_52 : decode cX9_lettersAgain 52 = .ok (.fcmp .l, 1) := by decide +kernel
theorem dX9_lettersAgain_53 : decode cX9_lettersAgain 53 = .ok (.ifCond .lt 27, 3) := by decide +kernel
theorem dX9_lettersAgain_56 : decode cX9_lettersAgain 56 = .ok (.aload_n 0, 1) := by decide +kernel
theorem dX9_lettersAgain_57 : decode cX9_lettersAgain 57 = .ok (.getfield 46, 3) := by decide +kernel
theorem dX9_lettersAgain_60 : decode cX9_lettersAgain 60 = .ok (.iload 4, 2) := by decide +kernel
theorem dX9_lettersAgain_62 : decode cX9_lettersAgain 62 = .ok (.iconst 1, 1) := by decide +kernel
theorem dX9_lettersAgain_63 : decode cX9_lettersAgain 63 = .ok (.iadd, 1) := by decide +kernel
theorem dX9_lettersAgain_64 : decode cX9_lettersAgain 64 = .ok (.aload_n 0, 1) := by decide +kernel
theorem dX9_lettersAgain_65 : decode cX9_lettersAgain 65 = .ok (.getfield 46, 3) := by decide +kernel
theorem dX9_lettersAgain_68 : decode cX9_lettersAgain 68 = .ok (.iload 4, 2) := by decide +kernel
theorem dX9_lettersAgain_70 : decode cX9_lettersAgain 70 = .ok (.faload, 1) := by decide +kernel
theorem dX9_lettersAgain_71 : decode cX9_lettersAgain 71 = .ok (.fload_n 3, 1) := by decide +kernel
theorem dX9_lettersAgain_72 : decode cX9_lettersAgain 72 = .ok (.fsub, 1) := by decide +kernel
theorem dX9_lettersAgain_73 : decode cX9_lettersAgain 73 = .ok (.fastore, 1) := by decide +kernel
theorem dX9_lettersAgain_74 : decode cX9_lettersAgain 74 = .ok (.iinc 4 1, 3) := by decide +kernel
theorem dX9_lettersAgain_77 : decode cX9_lettersAgain 77 = .ok (.goto (-45), 3) := by decide +kernel
theorem dX9_lettersAgain_80 : decode cX9_lettersAgain 80 = .ok (.iload 4, 2) := by decide +kernel
theorem dX9_lettersAgain_82 : decode cX9_lettersAgain 82 = .ok (.ireturn, 1) := by decide +kernel
theorem dX9_ranked_0 : decode cX9_ranked 0 = .ok (.aload_n 0, 1) := by decide +kernel
theorem dX9_ranked_1 : decode cX9_ranked 1 = .ok (.getfield 20, 3) := by decide +kernel
theorem dX9_ranked_4 : decode cX9_ranked 4 = .ok (.getfield 101, 3) := by decide +kernel
theorem dX9_ranked_7 : decode cX9_ranked 7 = .ok (.iload_n 1, 1) := by decide +kernel
theorem dX9_ranked_8 : decode cX9_ranked 8 = .ok (.invokevirtual 151, 3) := by decide +kernel
theorem dX9_ranked_11 : decode cX9_ranked 11 = .ok (.istore_n 2, 1) := by decide +kernel
theorem dX9_ranked_12 : decode cX9_ranked 12 = .ok (.iload_n 2, 1) := by decide +kernel
theorem dX9_ranked_13 : decode cX9_ranked 13 = .ok (.iconst (-1), 1) := by decide +kernel
theorem dX9_ranked_14 : decode cX9_ranked 14 = .ok (.if_icmp .eq 7, 3) := by decide +kernel
theorem dX9_ranked_17 : decode cX9_ranked 17 = .ok (.iconst 1, 1) := by decide +kernel
theorem dX9_ranked_18 : decode cX9_ranked 18 = .ok (.goto 4, 3) := by decide +kernel
theorem dX9_ranked_21 : decode cX9_ranked 21 = .ok (.iconst 0, 1) := by decide +kernel
theorem dX9_ranked_22 : decode cX9_ranked 22 = .ok (.invokestatic 115, 3) := by decide +kernel
theorem dX9_ranked_25 : decode cX9_ranked 25 = .ok (.iload_n 2, 1) := by decide +kernel
theorem dX9_ranked_26 : decode cX9_ranked 26 = .ok (.ireturn, 1) := by decide +kernel
theorem dX9_potato_0 : decode cX9_potato 0 = .ok (.aload_n 0, 1) := by decide +kernel
theorem dX9_potato_1 : decode cX9_potato 1 = .ok (.getfield 10, 3) := by decide +kernel
theorem dX9_potato_4 : decode cX9_potato 4 = .ok (.invokevirtual 154, 3) := by decide +kernel
theorem dX9_potato_7 : decode cX9_potato 7 = .ok (.invokestatic 54, 3) := by decide +kernel
theorem dX9_potato_10 : decode cX9_potato 10 = .ok (.aload_n 0, 1) := by decide +kernel
theorem dX9_potato_11 : decode cX9_potato 11 = .ok (.getfield 35, 3) := by decide +kernel
theorem dX9_potato_14 : decode cX9_potato 14 = .ok (.aload_n 0, 1) := by decide +kernel
theorem dX9_potato_15 : decode cX9_potato 15 = .ok (.getfield 20, 3) := by decide +kernel
theorem dX9_potato_18 : decode cX9_potato 18 = .ok (.invokevirtual 58, 3) := by decide +kernel
theorem dX9_potato_21 : decode cX9_potato 21 = .ok (.aload_n 0, 1) := by decide +kernel
theorem dX9_potato_22 : decode cX9_potato 22 = .ok (.getfield 20, 3) := by decide +kernel
theorem dX9_potato_25 : decode cX9_potato 25 = .ok (.getfield 62, 3) := by decide +kernel
theorem dX9_potato_28 : decode cX9_potato 28 = .ok (.invokevirtual 158, 3) := by decide +kernel
theorem dX9_potato_31 : decode cX9_potato 31 = .ok (.ireturn, 1) := by decide +kernel
theorem dX9_firmness_0 : decode cX9_firmness 0 = .ok (.aload_n 0, 1) := by decide +kernel
theorem dX9_firmness_1 : decode cX9_firmness 1 = .ok (.iload_n 1, 1) := by decide +kernel
theorem dX9_firmness_2 : decode cX9_firmness 2 = .ok (.invokevirtual 161, 3) := by decide +kernel
theorem dX9_firmness_5 : decode cX9_firmness 5 = .ok (.aload_n 0, 1) := by decide +kernel
theorem dX9_firmness_6 : decode cX9_firmness 6 = .ok (.getfield 20, 3) := by decide +kernel
theorem dX9_firmness_9 : decode cX9_firmness 9 = .ok (.getfield 62, 3) := by decide +kernel
theorem dX9_firmness_12 : decode cX9_firmness 12 = .ok (.getfield 164, 3) := by decide +kernel
theorem dX9_firmness_15 : decode cX9_firmness 15 = .ok (.iload_n 1, 1) := by decide +kernel
theorem dX9_firmness_16 : decode cX9_firmness 16 = .ok (.faload, 1) := by decide +kernel
theorem dX9_firmness_17 : decode cX9_firmness 17 = .ok (.freturn, 1) := by decide +kernel
theorem dX9_ink_0 : decode cX9_ink 0 = .ok (.iload_n 1, 1) := by decide +kernel
theorem dX9_ink_1 : decode cX9_ink 1 = .ok (.iconst 1, 1) := by decide +kernel
theorem dX9_ink_2 : decode cX9_ink 2 = .ok (.bipush 50, 2) := by decide +kernel
theorem dX9_ink_4 : decode cX9_ink 4 = .ok (.invokestatic 97, 3) := by decide +kernel
theorem dX9_ink_7 : decode cX9_ink 7 = .ok (.ifCond .eq 7, 3) := by decide +kernel
theorem dX9_ink_10 : decode cX9_ink 10 = .ok (.iconst 0, 1) := by decide +kernel
theorem dX9_ink_11 : decode cX9_ink 11 = .ok (.goto 5, 3) := by decide +kernel
theorem dX9_ink_14 : decode cX9_ink 14 = .ok (.bipush (-2), 2) := by decide +kernel
theorem dX9_ink_16 : decode cX9_ink 16 = .ok (.invokestatic 54, 3) := by decide +kernel
theorem dX9_ink_19 : decode cX9_ink 19 = .ok (.aload_n 0, 1) := by decide +kernel
theorem dX9_ink_20 : decode cX9_ink 20 = .ok (.getfield 35, 3) := by decide +kernel
theorem dX9_ink_23 : decode cX9_ink 23 = .ok (.aload_n 0, 1) := by decide +kernel
theorem dX9_ink_24 : decode cX9_ink 24 = .ok (.getfield 20, 3) := by decide +kernel
theorem dX9_ink_27 : decode cX9_ink 27 = .ok (.invokevirtual 58, 3) := by decide +kernel
theorem dX9_ink_30 : decode cX9_ink 30 = .ok (.aload_n 0, 1) := by decide +kernel
theorem dX9_ink_31 : decode cX9_ink 31 = .ok (.getfield 20, 3) := by decide +kernel
theorem dX9_ink_34 : decode cX9_ink 34 = .ok (.getfield 62, 3) := by decide +kernel
theorem dX9_ink_37 : decode cX9_ink 37 = .ok (.ldc 66, 2) := by decide +kernel
theorem dX9_ink_39 : decode cX9_ink 39 = .ok (.iload_n 1, 1) := by decide +kernel
theorem dX9_ink_40 : decode cX9_ink 40 = .ok (.i2f, 1) := by decide +kernel
theorem dX9_ink_41 : decode cX9_ink 41 = .ok (.fmul, 1) := by decide +kernel
theorem dX9_ink_42 : decode cX9_ink 42 = .ok (.invokevirtual 191, 3) := by decide +kernel
theorem dX9_ink_45 : decode cX9_ink 45 = .ok (.aload_n 0, 1) := by decide +kernel
theorem dX9_ink_46 : decode cX9_ink 46 = .ok (.getfield 20, 3) := by decide +kernel
theorem dX9_ink_49 : decode cX9_ink 49 = .ok (.getfield 62, 3) := by decide +kernel
theorem dX9_ink_52 : decode cX9_ink 52 = .ok (.getfield 170, 3) := by decide +kernel
theorem dX9_ink_55 : decode cX9_ink 55 = .ok (.invokestatic 122, 3) := by decide +kernel
theorem dX9_ink_58 : decode cX9_ink 58 = .ok (.ireturn, 1) := by decide +kernel
theorem dX9_inkNow_0 : decode cX9_inkNow 0 = .ok (.aload_n 0, 1) := by decide +kernel
theorem dX9_inkNow_1 : decode cX9_inkNow 1 = .ok (.getfield 20, 3) := by decide +kernel
theorem dX9_inkNow_4 : decode cX9_inkNow 4 = .ok (.getfield 62, 3) := by decide +kernel
theorem dX9_inkNow_7 : decode cX9_inkNow 7 = .ok (.getfield 170, 3) := by decide +kernel
theorem dX9_inkNow_10 : decode cX9_inkNow 10 = .ok (.freturn, 1) := by decide +kernel
theorem dX9_stamp_0 : decode cX9_stamp 0 = .ok (.aload_n 0, 1) := by decide +kernel
theorem dX9_stamp_1 : decode cX9_stamp 1 = .ok (.getfield 10, 3) := by decide +kernel
theorem dX9_stamp_4 : decode cX9_stamp 4 = .ok (.iload_n 1, 1) := by decide +kernel
theorem dX9_stamp_5 : decode cX9_stamp 5 = .ok (.iload_n 2, 1) := by decide +kernel
theorem dX9_stamp_6 : decode cX9_stamp 6 = .ok (.invokevirtual 194, 3) := by decide +kernel
theorem dX9_stamp_9 : decode cX9_stamp 9 = .ok (.invokestatic 54, 3) := by decide +kernel
theorem dX9_stamp_12 : decode cX9_stamp 12 = .ok (.aload_n 0, 1) := by decide +kernel
theorem dX9_stamp_13 : decode cX9_stamp 13 = .ok (.getfield 35, 3) := by decide +kernel
theorem dX9_stamp_16 : decode cX9_stamp 16 = .ok (.aload_n 0, 1) := by decide +kernel
theorem dX9_stamp_17 : decode cX9_stamp 17 = .ok (.getfield 20, 3) := by decide +kernel
theorem dX9_stamp_20 : decode cX9_stamp 20 = .ok (.invokevirtual 58, 3) := by decide +kernel
theorem dX9_stamp_23 : decode cX9_stamp 23 = .ok (.aload_n 0, 1) := by decide +kernel
theorem dX9_stamp_24 : decode cX9_stamp 24 = .ok (.getfield 20, 3) := by decide +kernel
theorem dX9_stamp_27 : decode cX9_stamp 27 = .ok (.iload_n 1, 1) := by decide +kernel
theorem dX9_stamp_28 : decode cX9_stamp 28 = .ok (.iload_n 2, 1) := by decide +kernel
theorem dX9_stamp_29 : decode cX9_stamp 29 = .ok (.invokevirtual 197, 3) := by decide +kernel
theorem dX9_stamp_32 : decode cX9_stamp 32 = .ok (.invokestatic 122, 3) := by decide +kernel
theorem dX9_stamp_35 : decode cX9_stamp 35 = .ok (.ireturn, 1) := by decide +kernel
theorem dX9_shelve_0 : decode cX9_shelve 0 = .ok (.aload_n 0, 1) := by decide +kernel
theorem dX9_shelve_1 : decode cX9_shelve 1 = .ok (.getfield 10, 3) := by decide +kernel
theorem dX9_shelve_4 : decode cX9_shelve 4 = .ok (.iload_n 1, 1) := by decide +kernel
theorem dX9_shelve_5 : decode cX9_shelve 5 = .ok (.iload_n 2, 1) := by decide +kernel
theorem dX9_shelve_6 : decode cX9_shelve 6 = .ok (.invokevirtual 201, 3) := by decide +kernel
theorem dX9_shelve_9 : decode cX9_shelve 9 = .ok (.invokestatic 54, 3) := by decide +kernel
theorem dX9_shelve_12 : decode cX9_shelve 12 = .ok (.aload_n 0, 1) := by decide +kernel
theorem dX9_shelve_13 : decode cX9_shelve 13 = .ok (.getfield 35, 3) := by decide +kernel
theorem dX9_shelve_16 : decode cX9_shelve 16 = .ok (.aload_n 0, 1) := by decide +kernel
theorem dX9_shelve_17 : decode cX9_shelve 17 = .ok (.getfield 20, 3) := by decide +kernel
theorem dX9_shelve_20 : decode cX9_shelve 20 = .ok (.invokevirtual 58, 3) := by decide +kernel
theorem dX9_shelve_23 : decode cX9_shelve 23 = .ok (.aload_n 0, 1) := by decide +kernel
theorem dX9_shelve_24 : decode cX9_shelve 24 = .ok (.getfield 20, 3) := by decide +kernel
theorem dX9_shelve_27 : decode cX9_shelve 27 = .ok (.iload_n 1, 1) := by decide +kernel
theorem dX9_shelve_28 : decode cX9_shelve 28 = .ok (.iload_n 2, 1) := by decide +kernel
theorem dX9_shelve_29 : decode cX9_shelve 29 = .ok (.invokevirtual 204, 3) := by decide +kernel
theorem dX9_shelve_32 : decode cX9_shelve 32 = .ok (.ireturn, 1) := by decide +kernel
theorem dX9_take_0 : decode cX9_take 0 = .ok (.aload_n 0, 1) := by decide +kernel
theorem dX9_take_1 : decode cX9_take 1 = .ok (.getfield 10, 3) := by decide +kernel
theorem dX9_take_4 : decode cX9_take 4 = .ok (.iload_n 1, 1) := by decide +kernel
theorem dX9_take_5 : decode cX9_take 5 = .ok (.invokevirtual 207, 3) := by decide +kernel
theorem dX9_take_8 : decode cX9_take 8 = .ok (.invokestatic 54, 3) := by decide +kernel
theorem dX9_take_11 : decode cX9_take 11 = .ok (.aload_n 0, 1) := by decide +kernel
theorem dX9_take_12 : decode cX9_take 12 = .ok (.getfield 35, 3) := by decide +kernel
theorem dX9_take_15 : decode cX9_take 15 = .ok (.aload_n 0, 1) := by decide +kernel
theorem dX9_take_16 : decode cX9_take 16 = .ok (.getfield 20, 3) := by decide +kernel
theorem dX9_take_19 : decode cX9_take 19 = .ok (.invokevirtual 58, 3) := by decide +kernel
theorem dX9_take_22 : decode cX9_take 22 = .ok (.aload_n 0, 1) := by decide +kernel
theorem dX9_take_23 : decode cX9_take 23 = .ok (.getfield 20, 3) := by decide +kernel
theorem dX9_take_26 : decode cX9_take 26 = .ok (.iload_n 1, 1) := by decide +kernel
theorem dX9_take_27 : decode cX9_take 27 = .ok (.invokevirtual 210, 3) := by decide +kernel
theorem dX9_take_30 : decode cX9_take 30 = .ok (.ireturn, 1) := by decide +kernel
theorem dX9_inHole_0 : decode cX9_inHole 0 = .ok (.iload_n 1, 1) := by decide +kernel
theorem dX9_inHole_1 : decode cX9_inHole 1 = .ok (.iload_n 2, 1) := by decide +kernel
theorem dX9_inHole_2 : decode cX9_inHole 2 = .ok (.iload_n 3, 1) := by decide +kernel
theorem dX9_inHole_3 : decode cX9_inHole 3 = .ok (.invokestatic 213, 3) := by decide +kernel
theorem dX9_inHole_6 : decode cX9_inHole 6 = .ok (.ifCond .eq 7, 3) := by decide +kernel
theorem dX9_inHole_9 : decode cX9_inHole 9 = .ok (.iconst 0, 1) := by decide +kernel
theorem dX9_inHole_10 : decode cX9_inHole 10 = .ok (.goto 4, 3) := by decide +kernel
theorem dX9_inHole_13 : decode cX9_inHole 13 = .ok (.iconst (-1), 1) := by decide +kernel
theorem dX9_inHole_14 : decode cX9_inHole 14 = .ok (.invokestatic 54, 3) := by decide +kernel
theorem dX9_inHole_17 : decode cX9_inHole 17 = .ok (.aload_n 0, 1) := by decide +kernel
theorem dX9_inHole_18 : decode cX9_inHole 18 = .ok (.getfield 20, 3) := by decide +kernel
theorem dX9_inHole_21 : decode cX9_inHole 21 = .ok (.getfield 218, 3) := by decide +kernel
theorem dX9_inHole_24 : decode cX9_inHole 24 = .ok (.iload_n 1, 1) := by decide +kernel
theorem dX9_inHole_25 : decode cX9_inHole 25 = .ok (.iload_n 2, 1) := by decide +kernel
theorem dX9_inHole_26 : decode cX9_inHole 26 = .ok (.iload_n 3, 1) := by decide +kernel
theorem dX9_inHole_27 : decode cX9_inHole 27 = .ok (.invokevirtual 222, 3) := by decide +kernel
theorem dX9_inHole_30 : decode cX9_inHole 30 = .ok (.istore 4, 2) := by decide +kernel
theorem dX9_inHole_32 : decode cX9_inHole 32 = .ok (.iload 4, 2) := by decide +kernel
theorem dX9_inHole_34 : decode cX9_inHole 34 = .ok (.iconst (-1), 1) := by decide +kernel
theorem dX9_inHole_35 : decode cX9_inHole 35 = .ok (.if_icmp .eq 7, 3) := by decide +kernel
theorem dX9_inHole_38 : decode cX9_inHole 38 = .ok (.iconst 1, 1) := by decide +kernel
theorem dX9_inHole_39 : decode cX9_inHole 39 = .ok (.goto 4, 3) := by decide +kernel
theorem dX9_inHole_42 : decode cX9_inHole 42 = .ok (.iconst 0, 1) := by decide +kernel
theorem dX9_inHole_43 : decode cX9_inHole 43 = .ok (.invokestatic 115, 3) := by decide +kernel
theorem dX9_inHole_46 : decode cX9_inHole 46 = .ok (.iload 4, 2) := by decide +kernel
theorem dX9_inHole_48 : decode cX9_inHole 48 = .ok (.ireturn, 1) := by decide +kernel
theorem dX9_read_0 : decode cX9_read 0 = .ok (.iload_n 1, 1) := by decide +kernel
theorem dX9_read_1 : decode cX9_read 1 = .ok (.invokestatic 226, 3) := by decide +kernel
theorem dX9_read_4 : decode cX9_read 4 = .ok (.ifCond .eq 7, 3) := by decide +kernel
theorem dX9_read_7 : decode cX9_read 7 = .ok (.iconst 0, 1) := by decide +kernel
theorem dX9_read_8 : decode cX9_read 8 = .ok (.goto 4, 3) := by decide +kernel
theorem dX9_read_11 : decode cX9_read 11 = .ok (.iconst (-1), 1) := by decide +kernel
theorem dX9_read_12 : decode cX9_read 12 = .ok (.invokestatic 54, 3) := by decide +kernel
theorem dX9_read_15 : decode cX9_read 15 = .ok (.aload_n 0, 1) := by decide +kernel
theorem dX9_read_16 : decode cX9_read 16 = .ok (.getfield 20, 3) := by decide +kernel
theorem dX9_read_19 : decode cX9_read 19 = .ok (.getfield 218, 3) := by decide +kernel
theorem dX9_read_22 : decode cX9_read 22 = .ok (.getfield 229, 3) := by decide +kernel
theorem dX9_read_25 : decode cX9_read 25 = .ok (.iload_n 1, 1) := by decide +kernel
theorem dX9_read_26 : decode cX9_read 26 = .ok (.iaload, 1) := by decide +kernel
theorem dX9_read_27 : decode cX9_read 27 = .ok (.ireturn, 1) := by decide +kernel
theorem dX9_snacks_0 : decode cX9_snacks 0 = .ok (.iload_n 1, 1) := by decide +kernel
theorem dX9_snacks_1 : decode cX9_snacks 1 = .ok (.iconst 1, 1) := by decide +kernel
theorem dX9_snacks_2 : decode cX9_snacks 2 = .ok (.bipush 20, 2) := by decide +kernel
theorem dX9_snacks_4 : decode cX9_snacks 4 = .ok (.invokestatic 97, 3) := by decide +kernel
theorem dX9_snacks_7 : decode cX9_snacks 7 = .ok (.ifCond .eq 7, 3) := by decide +kernel
theorem dX9_snacks_10 : decode cX9_snacks 10 = .ok (.iconst 0, 1) := by decide +kernel
theorem dX9_snacks_11 : decode cX9_snacks 11 = .ok (.goto 5, 3) := by decide +kernel
theorem dX9_snacks_14 : decode cX9_snacks 14 = .ok (.bipush (-2), 2) := by decide +kernel
theorem dX9_snacks_16 : decode cX9_snacks 16 = .ok (.invokestatic 54, 3) := by decide +kernel
theorem dX9_snacks_19 : decode cX9_snacks 19 = .ok (.aload_n 0, 1) := by decide +kernel
theorem dX9_snacks_20 : decode cX9_snacks 20 = .ok (.getfield 35, 3) := by decide +kernel
theorem dX9_snacks_23 : decode cX9_snacks 23 = .ok (.aload_n 0, 1) := by decide +kernel
theorem dX9_snacks_24 : decode cX9_snacks 24 = .ok (.getfield 20, 3) := by decide +kernel
theorem dX9_snacks_27 : decode cX9_snacks 27 = .ok (.invokevirtual 58, 3) := by decide +kernel
theorem dX9_snacks_30 : decode cX9_snacks 30 = .ok (.aload_n 0, 1) := by decide +kernel
theorem dX9_snacks_31 : decode cX9_snacks 31 = .ok (.getfield 20, 3) := by decide +kernel
theorem dX9_snacks_34 : decode cX9_snacks 34 = .ok (.getfield 232, 3) := by decide +kernel
theorem dX9_snacks_37 : decode cX9_snacks 37 = .ok (.iload_n 1, 1) := by decide +kernel
theorem dX9_snacks_38 : decode cX9_snacks 38 = .ok (.invokevirtual 236, 3) := by decide +kernel
theorem dX9_snacks_41 : decode cX9_snacks 41 = .ok (.aload_n 0, 1) := by decide +kernel
theorem dX9_snacks_42 : decode cX9_snacks 42 = .ok (.getfield 20, 3) := by decide +kernel
theorem dX9_snacks_45 : decode cX9_snacks 45 = .ok (.getfield 232, 3) := by decide +kernel
theorem dX9_snacks_48 : decode cX9_snacks 48 = .ok (.getfield 241, 3) := by decide +kernel
theorem dX9_snacks_51 : decode cX9_snacks 51 = .ok (.ireturn, 1) := by decide +kernel
theorem dX9_feed_0 : decode cX9_feed 0 = .ok (.aload_n 0, 1) := by decide +kernel
theorem dX9_feed_1 : decode cX9_feed 1 = .ok (.getfield 10, 3) := by decide +kernel
theorem dX9_feed_4 : decode cX9_feed 4 = .ok (.iload_n 1, 1) := by decide +kernel
theorem dX9_feed_5 : decode cX9_feed 5 = .ok (.invokevirtual 245, 3) := by decide +kernel
theorem dX9_feed_8 : decode cX9_feed 8 = .ok (.invokestatic 54, 3) := by decide +kernel
theorem dX9_feed_11 : decode cX9_feed 11 = .ok (.aload_n 0, 1) := by decide +kernel
theorem dX9_feed_12 : decode cX9_feed 12 = .ok (.getfield 35, 3) := by decide +kernel
theorem dX9_feed_15 : decode cX9_feed 15 = .ok (.aload_n 0, 1) := by decide +kernel
theorem dX9_feed_16 : decode cX9_feed 16 = .ok (.getfield 20, 3) := by decide +kernel
theorem dX9_feed_19 : decode cX9_feed 19 = .ok (.invokevirtual 58, 3) := by decide +kernel
theorem dX9_feed_22 : decode cX9_feed 22 = .ok (.aload_n 0, 1) := by decide +kernel
theorem dX9_feed_23 : decode cX9_feed 23 = .ok (.getfield 20, 3) := by decide +kernel
theorem dX9_feed_26 : decode cX9_feed 26 = .ok (.getfield 232, 3) := by decide +kernel
theorem dX9_feed_29 : decode cX9_feed 29 = .ok (.iload_n 1, 1) := by decide +kernel
theorem dX9_feed_30 : decode cX9_feed 30 = .ok (.invokevirtual 248, 3) := by decide +kernel
theorem dX9_feed_33 : decode cX9_feed 33 = .ok (.aload_n 0, 1) := by decide +kernel
theorem dX9_feed_34 : decode cX9_feed 34 = .ok (.getfield 20, 3) := by decide +kernel
theorem dX9_feed_37 : decode cX9_feed 37 = .ok (.getfield 232, 3) := by decide +kernel
theorem dX9_feed_40 : decode cX9_feed 40 = .ok (.getfield 251, 3) := by decide +kernel
theorem dX9_feed_43 : decode cX9_feed 43 = .ok (.invokestatic 122, 3) := by decide +kernel
theorem dX9_feed_46 : decode cX9_feed 46 = .ok (.ireturn, 1) := by decide +kernel
theorem dX9_hunger_0 : decode cX9_hunger 0 = .ok (.aload_n 0, 1) := by decide +kernel
theorem dX9_hunger_1 : decode cX9_hunger 1 = .ok (.getfield 20, 3) := by decide +kernel
theorem dX9_hunger_4 : decode cX9_hunger 4 = .ok (.getfield 232, 3) := by decide +kernel
theorem dX9_hunger_7 : decode cX9_hunger 7 = .ok (.getfield 251, 3) := by decide +kernel
theorem dX9_hunger_10 : decode cX9_hunger 10 = .ok (.freturn, 1) := by decide +kernel
theorem dX9_prey_0 : decode cX9_prey 0 = .ok (.aload_n 0, 1) := by decide +kernel
theorem dX9_prey_1 : decode cX9_prey 1 = .ok (.getfield 20, 3) := by decide +kernel
theorem dX9_prey_4 : decode cX9_prey 4 = .ok (.getfield 101, 3) := by decide +kernel
theorem dX9_prey_7 : decode cX9_prey 7 = .ok (.invokevirtual 254, 3) := by decide +kernel
theorem dX9_prey_10 : decode cX9_prey 10 = .ok (.istore_n 1, 1) := by decide +kernel
theorem dX9_prey_11 : decode cX9_prey 11 = .ok (.iload_n 1, 1) := by decide +kernel
theorem dX9_prey_12 : decode cX9_prey 12 = .ok (.iconst (-1), 1) := by decide +kernel
theorem dX9_prey_13 : decode cX9_prey 13 = .ok (.if_icmp .eq 7, 3) := by decide +kernel
theorem dX9_prey_16 : decode cX9_prey 16 = .ok (.iconst 1, 1) := by decide +kernel
theorem dX9_prey_17 : decode cX9_prey 17 = .ok (.goto 4, 3) := by decide +kernel
theorem dX9_prey_20 : decode cX9_prey 20 = .ok (.iconst 0, 1) := by decide +kernel
theorem dX9_prey_21 : decode cX9_prey 21 = .ok (.invokestatic 115, 3) := by decide +kernel
theorem dX9_prey_24 : decode cX9_prey 24 = .ok (.iload_n 1, 1) := by decide +kernel
theorem dX9_prey_25 : decode cX9_prey 25 = .ok (.ireturn, 1) := by decide +kernel
theorem dX9_eatsIn_0 : decode cX9_eatsIn 0 = .ok (.aload_n 0, 1) := by decide +kernel
theorem dX9_eatsIn_1 : decode cX9_eatsIn 1 = .ok (.getfield 20, 3) := by decide +kernel
theorem dX9_eatsIn_4 : decode cX9_eatsIn 4 = .ok (.getfield 101, 3) := by decide +kernel
theorem dX9_eatsIn_7 : decode cX9_eatsIn 7 = .ok (.invokevirtual 254, 3) := by decide +kernel
theorem dX9_eatsIn_10 : decode cX9_eatsIn 10 = .ok (.iconst (-1), 1) := by decide +kernel
theorem dX9_eatsIn_11 : decode cX9_eatsIn 11 = .ok (.if_icmp .eq 7, 3) := by decide +kernel
theorem dX9_eatsIn_14 : decode cX9_eatsIn 14 = .ok (.iconst 1, 1) := by decide +kernel
theorem dX9_eatsIn_15 : decode cX9_eatsIn 15 = .ok (.goto 4, 3) := by decide +kernel
theorem dX9_eatsIn_18 : decode cX9_eatsIn 18 = .ok (.iconst 0, 1) := by decide +kernel
theorem dX9_eatsIn_19 : decode cX9_eatsIn 19 = .ok (.invokestatic 115, 3) := by decide +kernel
theorem dX9_eatsIn_22 : decode cX9_eatsIn 22 = .ok (.aload_n 0, 1) := by decide +kernel
theorem dX9_eatsIn_23 : decode cX9_eatsIn 23 = .ok (.getfield 20, 3) := by decide +kernel
theorem dX9_eatsIn_26 : decode cX9_eatsIn 26 = .ok (.getfield 232, 3) := by decide +kernel
theorem dX9_eatsIn_29 : decode cX9_eatsIn 29 = .ok (.getfield 251, 3) := by decide +kernel
theorem dX9_eatsIn_32 : decode cX9_eatsIn 32 = .ok (.invokestatic 257, 3) := by decide +kernel
theorem dX9_eatsIn_35 : decode cX9_eatsIn 35 = .ok (.fstore_n 1, 1) := by decide +kernel
theorem dX9_eatsIn_36 : decode cX9_eatsIn 36 = .ok (.iconst 1, 1) := by decide +kernel
theorem dX9_eatsIn_37 : decode cX9_eatsIn 37 = .ok (.istore_n 2, 1) := by decide +kernel
theorem dX9_eatsIn_38 : decode cX9_eatsIn 38 = .ok (.iload_n 2, 1) := by decide +kernel
theorem dX9_eatsIn_39 : decode cX9_eatsIn 39 = .ok (.ldc 150, 2) := by decide +kernel
theorem dX9_eatsIn_41 : decode cX9_eatsIn 41 = .ok (.if_icmp .ge 21, 3) := by decide +kernel
theorem dX9_eatsIn_44 : decode cX9_eatsIn 44 = .ok (.fload_n 1, 1) := by decide +kernel
theorem dX9_eatsIn_45 : decode cX9_eatsIn 45 = .ok (.invokestatic 260, 3) := by decide +kernel
theorem dX9_eatsIn_48 : decode cX9_eatsIn 48 = .ok (.ifCond .ne 14, 3) := by decide +kernel
theorem dX9_eatsIn_51 : decode cX9_eatsIn 51 = .ok (.fload_n 1, 1) := by decide +kernel
theorem dX9_eatsIn_52 : decode cX9_eatsIn 52 = .ok (.invokestatic 257, 3) := by decide +kernel
theorem dX9_eatsIn_55 : decode cX9_eatsIn 55 = .ok (.fstore_n 1, 1) := by decide +kernel
theorem dX9_eatsIn_56 : decode cX9_eatsIn 56 = .ok (.iinc 2 1, 3) := by decide +kernel
theorem dX9_eatsIn_59 : decode cX9_eatsIn 59 = .ok (.goto (-21), 3) := by decide +kernel
theorem dX9_eatsIn_62 : decode cX9_eatsIn 62 = .ok (.iload_n 2, 1) := by decide +kernel
theorem dX9_eatsIn_63 : decode cX9_eatsIn 63 = .ok (.ireturn, 1) := by decide +kernel
theorem dX9_pass_0 : decode cX9_pass 0 = .ok (.aload_n 0, 1) := by decide +kernel
theorem dX9_pass_1 : decode cX9_pass 1 = .ok (.getfield 10, 3) := by decide +kernel
theorem dX9_pass_4 : decode cX9_pass 4 = .ok (.iload_n 1, 1) := by decide +kernel
theorem dX9_pass_5 : decode cX9_pass 5 = .ok (.invokevirtual 263, 3) := by decide +kernel
theorem dX9_pass_8 : decode cX9_pass 8 = .ok (.invokestatic 54, 3) := by decide +kernel
theorem dX9_pass_11 : decode cX9_pass 11 = .ok (.aload_n 0, 1) := by decide +kernel
theorem dX9_pass_12 : decode cX9_pass 12 = .ok (.getfield 35, 3) := by decide +kernel
theorem dX9_pass_15 : decode cX9_pass 15 = .ok (.aload_n 0, 1) := by decide +kernel
theorem dX9_pass_16 : decode cX9_pass 16 = .ok (.getfield 20, 3) := by decide +kernel
theorem dX9_pass_19 : decode cX9_pass 19 = .ok (.invokevirtual 58, 3) := by decide +kernel
theorem dX9_pass_22 : decode cX9_pass 22 = .ok (.aload_n 0, 1) := by decide +kernel
theorem dX9_pass_23 : decode cX9_pass 23 = .ok (.getfield 20, 3) := by decide +kernel
theorem dX9_pass_26 : decode cX9_pass 26 = .ok (.iload_n 1, 1) := by decide +kernel
theorem dX9_pass_27 : decode cX9_pass 27 = .ok (.invokevirtual 266, 3) := by decide +kernel
theorem dX9_pass_30 : decode cX9_pass 30 = .ok (.ireturn, 1) := by decide +kernel
theorem dX9_append_0 : decode cX9_append 0 = .ok (.aload_n 0, 1) := by decide +kernel
theorem dX9_append_1 : decode cX9_append 1 = .ok (.getfield 42, 3) := by decide +kernel
theorem dX9_append_4 : decode cX9_append 4 = .ok (.getfield 282, 3) := by decide +kernel
theorem dX9_append_7 : decode cX9_append 7 = .ok (.bipush 60, 2) := by decide +kernel
theorem dX9_append_9 : decode cX9_append 9 = .ok (.if_icmp .lt 14, 3) := by decide +kernel
theorem dX9_append_12 : decode cX9_append 12 = .ok (.new 285, 3) := by decide +kernel
theorem dX9_append_15 : decode cX9_append 15 = .ok (.dup, 1) := by decide +kernel
theorem dX9_append_16 : decode cX9_append 16 = .ok (.ldc_w 287, 3) := by decide +kernel
theorem dX9_append_19 : decode cX9_append 19 = .ok (.invokespecial 289, 3) := by decide +kernel
theorem dX9_append_22 : decode cX9_append 22 = .ok (.athrow, 1) := by decide +kernel
theorem dX9_append_23 : decode cX9_append 23 = .ok (.aload_n 0, 1) := by decide +kernel
theorem dX9_append_24 : decode cX9_append 24 = .ok (.getfield 42, 3) := by decide +kernel
theorem dX9_append_27 : decode cX9_append 27 = .ok (.iload_n 1, 1) := by decide +kernel
theorem dX9_append_28 : decode cX9_append 28 = .ok (.invokevirtual 292, 3) := by decide +kernel
theorem dX9_append_31 : decode cX9_append 31 = .ok (.aload_n 0, 1) := by decide +kernel
theorem dX9_append_32 : decode cX9_append 32 = .ok (.getfield 42, 3) := by decide +kernel
theorem dX9_append_35 : decode cX9_append 35 = .ok (.getfield 282, 3) := by decide +kernel
theorem dX9_append_38 : decode cX9_append 38 = .ok (.ireturn, 1) := by decide +kernel
theorem dX9_run_0 : decode cX9_run 0 = .ok (.aload_n 0, 1) := by decide +kernel
theorem dX9_run_1 : decode cX9_run 1 = .ok (.getfield 42, 3) := by decide +kernel
theorem dX9_run_4 : decode cX9_run 4 = .ok (.invokevirtual 296, 3) := by decide +kernel
theorem dX9_run_7 : decode cX9_run 7 = .ok (.aload_n 0, 1) := by decide +kernel
theorem dX9_run_8 : decode cX9_run 8 = .ok (.getfield 42, 3) := by decide +kernel
theorem dX9_run_11 : decode cX9_run 11 = .ok (.getfield 299, 3) := by decide +kernel
theorem dX9_run_14 : decode cX9_run 14 = .ok (.iconst (-1), 1) := by decide +kernel
theorem dX9_run_15 : decode cX9_run 15 = .ok (.if_icmp .ne 7, 3) := by decide +kernel
theorem dX9_run_18 : decode cX9_run 18 = .ok (.iconst 0, 1) := by decide +kernel
theorem dX9_run_19 : decode cX9_run 19 = .ok (.goto 5, 3) := by decide +kernel
theorem dX9_run_22 : decode cX9_run 22 = .ok (.bipush (-2), 2) := by decide +kernel
theorem dX9_run_24 : decode cX9_run 24 = .ok (.invokestatic 54, 3) := by decide +kernel
theorem dX9_run_27 : decode cX9_run 27 = .ok (.aload_n 0, 1) := by decide +kernel
theorem dX9_run_28 : decode cX9_run 28 = .ok (.getfield 26, 3) := by decide +kernel
theorem dX9_run_31 : decode cX9_run 31 = .ok (.aload_n 0, 1) := by decide +kernel
theorem dX9_run_32 : decode cX9_run 32 = .ok (.getfield 20, 3) := by decide +kernel
theorem dX9_run_35 : decode cX9_run 35 = .ok (.invokevirtual 302, 3) := by decide +kernel
theorem dX9_run_38 : decode cX9_run 38 = .ok (.iconst 0, 1) := by decide +kernel
theorem dX9_run_39 : decode cX9_run 39 = .ok (.istore_n 1, 1) := by decide +kernel
theorem dX9_run_40 : decode cX9_run 40 = .ok (.iconst 0, 1) := by decide +kernel
theorem dX9_run_41 : decode cX9_run 41 = .ok (.istore_n 2, 1) := by decide +kernel
theorem dX9_run_42 : decode cX9_run 42 = .ok (.iload_n 2, 1) := by decide +kernel
theorem dX9_run_43 : decode cX9_run 43 = .ok (.aload_n 0, 1) := by decide +kernel
theorem dX9_run_44 : decode cX9_run 44 = .ok (.getfield 42, 3) := by decide +kernel
theorem dX9_run_47 : decode cX9_run 47 = .ok (.getfield 305, 3) := by decide +kernel
theorem dX9_run_50 : decode cX9_run 50 = .ok (.if_icmp .ge 19, 3) := by decide +kernel
theorem dX9_run_53 : decode cX9_run 53 = .ok (.iload_n 1, 1) := by decide +kernel
theorem dX9_run_54 : decode cX9_run 54 = .ok (.ifCond .ne 15, 3) := by decide +kernel
theorem dX9_run_57 : decode cX9_run 57 = .ok (.aload_n 0, 1) := by decide +kernel
theorem dX9_run_58 : decode cX9_run 58 = .ok (.iload_n 2, 1) := by decide +kernel
theorem dX9_run_59 : decode cX9_run 59 = .ok (.invokevirtual 308, 3) := by decide +kernel
theorem dX9_run_62 : decode cX9_run 62 = .ok (.istore_n 1, 1) := by decide +kernel
theorem dX9_run_63 : decode cX9_run 63 = .ok (.iinc 2 1, 3) := by decide +kernel
theorem dX9_run_66 : decode cX9_run 66 = .ok (.goto (-24), 3) := by decide +kernel
theorem dX9_run_69 : decode cX9_run 69 = .ok (.iload_n 1, 1) := by decide +kernel
theorem dX9_run_70 : decode cX9_run 70 = .ok (.ifCond .eq 14, 3) := by decide +kernel
theorem dX9_run_73 : decode cX9_run 73 = .ok (.aload_n 0, 1) := by decide +kernel
theorem dX9_run_74 : decode cX9_run 74 = .ok (.getfield 20, 3) := by decide +kernel
theorem dX9_run_77 : decode cX9_run 77 = .ok (.aload_n 0, 1) := by decide +kernel
theorem dX9_run_78 : decode cX9_run 78 = .ok (.getfield 26, 3) := by decide +kernel
theorem dX9_run_81 : decode cX9_run 81 = .ok (.invokevirtual 302, 3) := by decide +kernel
theorem dX9_run_84 : decode cX9_run 84 = .ok (.iload_n 1, 1) := by decide +kernel
theorem dX9_run_85 : decode cX9_run 85 = .ok (.iconst (-1), 1) := by decide +kernel
theorem dX9_run_86 : decode cX9_run 86 = .ok (.if_icmp .ne 8, 3) := by decide +kernel
theorem dX9_run_89 : decode cX9_run 89 = .ok (.bipush (-2), 2) := by decide +kernel
theorem dX9_run_91 : decode cX9_run 91 = .ok (.goto 4, 3) := by decide +kernel
theorem dX9_run_94 : decode cX9_run 94 = .ok (.iload_n 1, 1) := by decide +kernel
theorem dX9_run_95 : decode cX9_run 95 = .ok (.invokestatic 54, 3) := by decide +kernel
theorem dX9_run_98 : decode cX9_run 98 = .ok (.aload_n 0, 1) := by decide +kernel
theorem dX9_run_99 : decode cX9_run 99 = .ok (.getfield 35, 3) := by decide +kernel
theorem dX9_run_102 : decode cX9_run 102 = .ok (.aload_n 0, 1) := by decide +kernel
theorem dX9_run_103 : decode cX9_run 103 = .ok (.getfield 26, 3) := by decide +kernel
theorem dX9_run_106 : decode cX9_run 106 = .ok (.invokevirtual 58, 3) := by decide +kernel
theorem dX9_run_109 : decode cX9_run 109 = .ok (.aload_n 0, 1) := by decide +kernel
theorem dX9_run_110 : decode cX9_run 110 = .ok (.getfield 42, 3) := by decide +kernel
theorem dX9_run_113 : decode cX9_run 113 = .ok (.getfield 305, 3) := by decide +kernel
theorem dX9_run_116 : decode cX9_run 116 = .ok (.ireturn, 1) := by decide +kernel
theorem dX9_account_0 : decode cX9_account 0 = .ok (.iload_n 1, 1) := by decide +kernel
theorem dX9_account_1 : decode cX9_account 1 = .ok (.tableswitch 193 0 14 #[75, 86, 97, 108, 119, 130, 130, 130, 130, 130, 144, 155, 166, 177, 185], 75) := by decide +kernel
theorem dX9_account_76 : decode cX9_account 76 = .ok (.aload_n 0, 1) := by decide +kernel
theorem dX9_account_77 : decode cX9_account 77 = .ok (.getfield 20, 3) := by decide +kernel
theorem dX9_account_80 : decode cX9_account 80 = .ok (.getfield 232, 3) := by decide +kernel
theorem dX9_account_83 : decode cX9_account 83 = .ok (.getfield 317, 3) := by decide +kernel
theorem dX9_account_86 : decode cX9_account 86 = .ok (.ireturn, 1) := by decide +kernel
theorem dX9_account_87 : decode cX9_account 87 = .ok (.aload_n 0, 1) := by decide +kernel
theorem dX9_account_88 : decode cX9_account 88 = .ok (.getfield 20, 3) := by decide +kernel
theorem dX9_account_91 : decode cX9_account 91 = .ok (.getfield 62, 3) := by decide +kernel
theorem dX9_account_94 : decode cX9_account 94 = .ok (.getfield 320, 3) := by decide +kernel
theorem dX9_account_97 : decode cX9_account 97 = .ok (.ireturn, 1) := by decide +kernel
theorem dX9_account_98 : decode cX9_account 98 = .ok (.aload_n 0, 1) := by decide +kernel
theorem dX9_account_99 : decode cX9_account 99 = .ok (.getfield 20, 3) := by decide +kernel
theorem dX9_account_102 : decode cX9_account 102 = .ok (.getfield 101, 3) := by decide +kernel
theorem dX9_account_105 : decode cX9_account 105 = .ok (.getfield 323, 3) := by decide +kernel
theorem dX9_account_108 : decode cX9_account 108 = .ok (.ireturn, 1) := by decide +kernel
theorem dX9_account_109 : decode cX9_account 109 = .ok (.aload_n 0, 1) := by decide +kernel
theorem dX9_account_110 : decode cX9_account 110 = .ok (.getfield 20, 3) := by decide +kernel
theorem dX9_account_113 : decode cX9_account 113 = .ok (.getfield 101, 3) := by decide +kernel
theorem dX9_account_116 : decode cX9_account 116 = .ok (.invokevirtual 326, 3) := by decide +kernel
theorem dX9_account_119 : decode cX9_account 119 = .ok (.ireturn, 1) := by decide +kernel
theorem dX9_account_120 : decode cX9_account 120 = .ok (.aload_n 0, 1) := by decide +kernel
theorem dX9_account_121 : decode cX9_account 121 = .ok (.getfield 20, 3) := by decide +kernel
theorem dX9_account_124 : decode cX9_account 124 = .ok (.getfield 62, 3) := by decide +kernel
theorem dX9_account_127 : decode cX9_account 127 = .ok (.getfield 329, 3) := by decide +kernel
theorem dX9_account_130 : decode cX9_account 130 = .ok (.ireturn, 1) := by decide +kernel
theorem dX9_account_131 : decode cX9_account 131 = .ok (.aload_n 0, 1) := by decide +kernel
theorem dX9_account_132 : decode cX9_account 132 = .ok (.getfield 20, 3) := by decide +kernel
theorem dX9_account_135 : decode cX9_account 135 = .ok (.getfield 101, 3) := by decide +kernel
theorem dX9_account_138 : decode cX9_account 138 = .ok (.iload_n 1, 1) := by decide +kernel
theorem dX9_account_139 : decode cX9_account 139 = .ok (.iconst 5, 1) := by decide +kernel
theorem dX9_account_140 : decode cX9_account 140 = .ok (.isub, 1) := by decide +kernel
theorem dX9_account_141 : decode cX9_account 141 = .ok (.invokevirtual 332, 3) := by decide +kernel
theorem dX9_account_144 : decode cX9_account 144 = .ok (.ireturn, 1) := by decide +kernel
theorem dX9_account_145 : decode cX9_account 145 = .ok (.aload_n 0, 1) := by decide +kernel
theorem dX9_account_146 : decode cX9_account 146 = .ok (.getfield 20, 3) := by decide +kernel
theorem dX9_account_149 : decode cX9_account 149 = .ok (.getfield 232, 3) := by decide +kernel
theorem dX9_account_152 : decode cX9_account 152 = .ok (.getfield 241, 3) := by decide +kernel
theorem dX9_account_155 : decode cX9_account 155 = .ok (.ireturn, 1) := by decide +kernel
theorem dX9_account_156 : decode cX9_account 156 = .ok (.aload_n 0, 1) := by decide +kernel
theorem dX9_account_157 : decode cX9_account 157 = .ok (.getfield 20, 3) := by decide +kernel
theorem dX9_account_160 : decode cX9_account 160 = .ok (.getfield 232, 3) := by decide +kernel
theorem dX9_account_163 : decode cX9_account 163 = .ok (.getfield 335, 3) := by decide +kernel
theorem dX9_account_166 : decode cX9_account 166 = .ok (.ireturn, 1) := by decide +kernel
theorem dX9_account_167 : decode cX9_account 167 = .ok (.aload_n 0, 1) := by decide +kernel
theorem dX9_account_168 : decode cX9_account 168 = .ok (.getfield 20, 3) := by decide +kernel
theorem dX9_account_171 : decode cX9_account 171 = .ok (.getfield 101, 3) := by decide +kernel
theorem dX9_account_174 : decode cX9_account 174 = .ok (.invokevirtual 338, 3) := by decide +kernel
theorem dX9_account_177 : decode cX9_account 177 = .ok (.ireturn, 1) := by decide +kernel
theorem dX9_account_178 : decode cX9_account 178 = .ok (.aload_n 0, 1) := by decide +kernel
theorem dX9_account_179 : decode cX9_account 179 = .ok (.getfield 42, 3) := by decide +kernel
theorem dX9_account_182 : decode cX9_account 182 = .ok (.getfield 282, 3) := by decide +kernel
theorem dX9_account_185 : decode cX9_account 185 = .ok (.ireturn, 1) := by decide +kernel
theorem dX9_account_186 : decode cX9_account 186 = .ok (.aload_n 0, 1) := by decide +kernel
theorem dX9_account_187 : decode cX9_account 187 = .ok (.getfield 35, 3) := by decide +kernel
theorem dX9_account_190 : decode cX9_account 190 = .ok (.getfield 341, 3) := by decide +kernel
theorem dX9_account_193 : decode cX9_account 193 = .ok (.ireturn, 1) := by decide +kernel
theorem dX9_account_194 : decode cX9_account 194 = .ok (.new 342, 3) := by decide +kernel
theorem dX9_account_197 : decode cX9_account 197 = .ok (.dup, 1) := by decide +kernel
theorem dX9_account_198 : decode cX9_account 198 = .ok (.ldc_w 344, 3) := by decide +kernel
theorem dX9_account_201 : decode cX9_account 201 = .ok (.invokespecial 346, 3) := by decide +kernel
theorem dX9_account_204 : decode cX9_account 204 = .ok (.athrow, 1) := by decide +kernel
theorem dX9_isWell_0 : decode cX9_isWell 0 = .ok (.aload_n 0, 1) := by decide +kernel
theorem dX9_isWell_1 : decode cX9_isWell 1 = .ok (.getfield 20, 3) := by decide +kernel
theorem dX9_isWell_4 : decode cX9_isWell 4 = .ok (.invokevirtual 347, 3) := by decide +kernel
theorem dX9_isWell_7 : decode cX9_isWell 7 = .ok (.ifCond .eq 27, 3) := by decide +kernel
theorem dX9_isWell_10 : decode cX9_isWell 10 = .ok (.aload_n 0, 1) := by decide +kernel
theorem dX9_isWell_11 : decode cX9_isWell 11 = .ok (.getfield 20, 3) := by decide +kernel
theorem dX9_isWell_14 : decode cX9_isWell 14 = .ok (.invokevirtual 351, 3) := by decide +kernel
theorem dX9_isWell_17 : decode cX9_isWell 17 = .ok (.ifCond .eq 17, 3) := by decide +kernel
theorem dX9_isWell_20 : decode cX9_isWell 20 = .ok (.aload_n 0, 1) := by decide +kernel
theorem dX9_isWell_21 : decode cX9_isWell 21 = .ok (.getfield 20, 3) := by decide +kernel
theorem dX9_isWell_24 : decode cX9_isWell 24 = .ok (.invokevirtual 354, 3) := by decide +kernel
theorem dX9_isWell_27 : decode cX9_isWell 27 = .ok (.ifCond .eq 7, 3) := by decide +kernel
theorem dX9_isWell_30 : decode cX9_isWell 30 = .ok (.iconst 1, 1) := by decide +kernel
theorem dX9_isWell_31 : decode cX9_isWell 31 = .ok (.goto 4, 3) := by decide +kernel
theorem dX9_isWell_34 : decode cX9_isWell 34 = .ok (.iconst 0, 1) := by decide +kernel
theorem dX9_isWell_35 : decode cX9_isWell 35 = .ok (.ireturn, 1) := by decide +kernel
theorem dX9_undo_0 : decode cX9_undo 0 = .ok (.aload_n 0, 1) := by decide +kernel
theorem dX9_undo_1 : decode cX9_undo 1 = .ok (.getfield 35, 3) := by decide +kernel
theorem dX9_undo_4 : decode cX9_undo 4 = .ok (.getfield 341, 3) := by decide +kernel
theorem dX9_undo_7 : decode cX9_undo 7 = .ok (.ifCond .ne 14, 3) := by decide +kernel
theorem dX9_undo_10 : decode cX9_undo 10 = .ok (.new 285, 3) := by decide +kernel
theorem dX9_undo_13 : decode cX9_undo 13 = .ok (.dup, 1) := by decide +kernel
theorem dX9_undo_14 : decode cX9_undo 14 = .ok (.ldc_w 370, 3) := by decide +kernel
theorem dX9_undo_17 : decode cX9_undo 17 = .ok (.invokespecial 289, 3) := by decide +kernel
theorem dX9_undo_20 : decode cX9_undo 20 = .ok (.athrow, 1) := by decide +kernel
theorem dX9_undo_21 : decode cX9_undo 21 = .ok (.aload_n 0, 1) := by decide +kernel
theorem dX9_undo_22 : decode cX9_undo 22 = .ok (.getfield 35, 3) := by decide +kernel
theorem dX9_undo_25 : decode cX9_undo 25 = .ok (.aload_n 0, 1) := by decide +kernel
theorem dX9_undo_26 : decode cX9_undo 26 = .ok (.getfield 20, 3) := by decide +kernel
theorem dX9_undo_29 : decode cX9_undo 29 = .ok (.invokevirtual 372, 3) := by decide +kernel
theorem dX9_undo_32 : decode cX9_undo 32 = .ok (.aload_n 0, 1) := by decide +kernel
theorem dX9_undo_33 : decode cX9_undo 33 = .ok (.getfield 35, 3) := by decide +kernel
theorem dX9_undo_36 : decode cX9_undo 36 = .ok (.getfield 341, 3) := by decide +kernel
theorem dX9_undo_39 : decode cX9_undo 39 = .ok (.ireturn, 1) := by decide +kernel
theorem dX9_save_0 : decode cX9_save 0 = .ok (.aload_n 0, 1) := by decide +kernel
theorem dX9_save_1 : decode cX9_save 1 = .ok (.getfield 29, 3) := by decide +kernel
theorem dX9_save_4 : decode cX9_save 4 = .ok (.aload_n 0, 1) := by decide +kernel
theorem dX9_save_5 : decode cX9_save 5 = .ok (.getfield 20, 3) := by decide +kernel
theorem dX9_save_8 : decode cX9_save 8 = .ok (.invokevirtual 302, 3) := by decide +kernel
theorem dX9_save_11 : decode cX9_save 11 = .ok (.aload_n 0, 1) := by decide +kernel
theorem dX9_save_12 : decode cX9_save 12 = .ok (.iconst 1, 1) := by decide +kernel
theorem dX9_save_13 : decode cX9_save 13 = .ok (.putfield 375, 3) := by decide +kernel
theorem dX9_save_16 : decode cX9_save 16 = .ok (.aload_n 0, 1) := by decide +kernel
theorem dX9_save_17 : decode cX9_save 17 = .ok (.getfield 20, 3) := by decide +kernel
theorem dX9_save_20 : decode cX9_save 20 = .ok (.getfield 101, 3) := by decide +kernel
theorem dX9_save_23 : decode cX9_save 23 = .ok (.getfield 323, 3) := by decide +kernel
theorem dX9_save_26 : decode cX9_save 26 = .ok (.ireturn, 1) := by decide +kernel
theorem dX9_restore_0 : decode cX9_restore 0 = .ok (.aload_n 0, 1) := by decide +kernel
theorem dX9_restore_1 : decode cX9_restore 1 = .ok (.getfield 375, 3) := by decide +kernel
theorem dX9_restore_4 : decode cX9_restore 4 = .ok (.ifCond .ne 14, 3) := by decide +kernel
theorem dX9_restore_7 : decode cX9_restore 7 = .ok (.new 285, 3) := by decide +kernel
theorem dX9_restore_10 : decode cX9_restore 10 = .ok (.dup, 1) := by decide +kernel
theorem dX9_restore_11 : decode cX9_restore 11 = .ok (.ldc_w 379, 3) := by decide +kernel
theorem dX9_restore_14 : decode cX9_restore 14 = .ok (.invokespecial 289, 3) := by decide +kernel
theorem dX9_restore_17 : decode cX9_restore 17 = .ok (.athrow, 1) := by decide +kernel
theorem dX9_restore_18 : decode cX9_restore 18 = .ok (.aload_n 0, 1) := by decide +kernel
theorem dX9_restore_19 : decode cX9_restore 19 = .ok (.getfield 20, 3) := by decide +kernel
theorem dX9_restore_22 : decode cX9_restore 22 = .ok (.aload_n 0, 1) := by decide +kernel
theorem dX9_restore_23 : decode cX9_restore 23 = .ok (.getfield 29, 3) := by decide +kernel
theorem dX9_restore_26 : decode cX9_restore 26 = .ok (.invokevirtual 302, 3) := by decide +kernel
theorem dX9_restore_29 : decode cX9_restore 29 = .ok (.aload_n 0, 1) := by decide +kernel
theorem dX9_restore_30 : decode cX9_restore 30 = .ok (.getfield 35, 3) := by decide +kernel
theorem dX9_restore_33 : decode cX9_restore 33 = .ok (.invokevirtual 381, 3) := by decide +kernel
theorem dX9_restore_36 : decode cX9_restore 36 = .ok (.aload_n 0, 1) := by decide +kernel
theorem dX9_restore_37 : decode cX9_restore 37 = .ok (.getfield 20, 3) := by decide +kernel
theorem dX9_restore_40 : decode cX9_restore 40 = .ok (.getfield 101, 3) := by decide +kernel
theorem dX9_restore_43 : decode cX9_restore 43 = .ok (.getfield 323, 3) := by decide +kernel
theorem dX9_restore_46 : decode cX9_restore 46 = .ok (.ireturn, 1) := by decide +kernel
theorem dX9_demand_0 : decode cX9_demand 0 = .ok (.iload_n 0, 1) := by decide +kernel
theorem dX9_demand_1 : decode cX9_demand 1 = .ok (.iconst (-1), 1) := by decide +kernel
theorem dX9_demand_2 : decode cX9_demand 2 = .ok (.if_icmp .ne 14, 3) := by decide +kernel
theorem dX9_demand_5 : decode cX9_demand 5 = .ok (.new 384, 3) := by decide +kernel
theorem dX9_demand_8 : decode cX9_demand 8 = .ok (.dup, 1) := by decide +kernel
theorem dX9_demand_9 : decode cX9_demand 9 = .ok (.ldc_w 386, 3) := by decide +kernel
theorem dX9_demand_12 : decode cX9_demand 12 = .ok (.invokespecial 388, 3) := by decide +kernel
theorem dX9_demand_15 : decode cX9_demand 15 = .ok (.athrow, 1) := by decide +kernel
theorem dX9_demand_16 : decode cX9_demand 16 = .ok (.iload_n 0, 1) := by decide +kernel
theorem dX9_demand_17 : decode cX9_demand 17 = .ok (.bipush (-2), 2) := by decide +kernel
theorem dX9_demand_19 : decode cX9_demand 19 = .ok (.if_icmp .ne 14, 3) := by decide +kernel
theorem dX9_demand_22 : decode cX9_demand 22 = .ok (.new 342, 3) := by decide +kernel
theorem dX9_demand_25 : decode cX9_demand 25 = .ok (.dup, 1) := by decide +kernel
theorem dX9_demand_26 : decode cX9_demand 26 = .ok (.ldc_w 389, 3) := by decide +kernel
theorem dX9_demand_29 : decode cX9_demand 29 = .ok (.invokespecial 346, 3) := by decide +kernel
theorem dX9_demand_32 : decode cX9_demand 32 = .ok (.athrow, 1) := by decide +kernel
theorem dX9_demand_33 : decode cX9_demand 33 = .ok (.iload_n 0, 1) := by decide +kernel
theorem dX9_demand_34 : decode cX9_demand 34 = .ok (.ifCond .eq 14, 3) := by decide +kernel
theorem dX9_demand_37 : decode cX9_demand 37 = .ok (.new 391, 3) := by decide +kernel
theorem dX9_demand_40 : decode cX9_demand 40 = .ok (.dup, 1) := by decide +kernel
theorem dX9_demand_41 : decode cX9_demand 41 = .ok (.ldc_w 393, 3) := by decide +kernel
theorem dX9_demand_44 : decode cX9_demand 44 = .ok (.invokespecial 395, 3) := by decide +kernel
theorem dX9_demand_47 : decode cX9_demand 47 = .ok (.athrow, 1) := by decide +kernel
theorem dX9_demand_48 : decode cX9_demand 48 = .ok (.return_, 1) := by decide +kernel
theorem dX9_demandFound_0 : decode cX9_demandFound 0 = .ok (.iload_n 0, 1) := by decide +kernel
theorem dX9_demandFound_1 : decode cX9_demandFound 1 = .ok (.ifCond .ne 14, 3) := by decide +kernel
theorem dX9_demandFound_4 : decode cX9_demandFound 4 = .ok (.new 396, 3) := by decide +kernel
theorem dX9_demandFound_7 : decode cX9_demandFound 7 = .ok (.dup, 1) := by decide +kernel
theorem dX9_demandFound_8 : decode cX9_demandFound 8 = .ok (.ldc_w 398, 3) := by decide +kernel
theorem dX9_demandFound_11 : decode cX9_demandFound 11 = .ok (.invokespecial 400, 3) := by decide +kernel
theorem dX9_demandFound_14 : decode cX9_demandFound 14 = .ok (.athrow, 1) := by decide +kernel
theorem dX9_demandFound_15 : decode cX9_demandFound 15 = .ok (.return_, 1) := by decide +kernel
theorem dX9_demandItem_0 : decode cX9_demandItem 0 = .ok (.aload_n 0, 1) := by decide +kernel
theorem dX9_demandItem_1 : decode cX9_demandItem 1 = .ok (.getfield 20, 3) := by decide +kernel
theorem dX9_demandItem_4 : decode cX9_demandItem 4 = .ok (.getfield 101, 3) := by decide +kernel
theorem dX9_demandItem_7 : decode cX9_demandItem 7 = .ok (.iload_n 1, 1) := by decide +kernel
theorem dX9_demandItem_8 : decode cX9_demandItem 8 = .ok (.invokevirtual 401, 3) := by decide +kernel
theorem dX9_demandItem_11 : decode cX9_demandItem 11 = .ok (.ifCond .eq 7, 3) := by decide +kernel
theorem dX9_demandItem_14 : decode cX9_demandItem 14 = .ok (.iconst 0, 1) := by decide +kernel
theorem dX9_demandItem_15 : decode cX9_demandItem 15 = .ok (.goto 4, 3) := by decide +kernel
theorem dX9_demandItem_18 : decode cX9_demandItem 18 = .ok (.iconst (-1), 1) := by decide +kernel
theorem dX9_demandItem_19 : decode cX9_demandItem 19 = .ok (.invokestatic 54, 3) := by decide +kernel
theorem dX9_demandItem_22 : decode cX9_demandItem 22 = .ok (.return_, 1) := by decide +kernel
theorem dX9_demandPotato_0 : decode cX9_demandPotato 0 = .ok (.aload_n 0, 1) := by decide +kernel
theorem dX9_demandPotato_1 : decode cX9_demandPotato 1 = .ok (.getfield 20, 3) := by decide +kernel
theorem dX9_demandPotato_4 : decode cX9_demandPotato 4 = .ok (.getfield 62, 3) := by decide +kernel
theorem dX9_demandPotato_7 : decode cX9_demandPotato 7 = .ok (.iload_n 1, 1) := by decide +kernel
theorem dX9_demandPotato_8 : decode cX9_demandPotato 8 = .ok (.invokevirtual 404, 3) := by decide +kernel
theorem dX9_demandPotato_11 : decode cX9_demandPotato 11 = .ok (.ifCond .eq 7, 3) := by decide +kernel
theorem dX9_demandPotato_14 : decode cX9_demandPotato 14 = .ok (.iconst 0, 1) := by decide +kernel
theorem dX9_demandPotato_15 : decode cX9_demandPotato 15 = .ok (.goto 4, 3) := by decide +kernel
theorem dX9_demandPotato_18 : decode cX9_demandPotato 18 = .ok (.iconst (-1), 1) := by decide +kernel
theorem dX9_demandPotato_19 : decode cX9_demandPotato 19 = .ok (.invokestatic 54, 3) := by decide +kernel
theorem dX9_demandPotato_22 : decode cX9_demandPotato 22 = .ok (.return_, 1) := by decide +kernel
theorem dX9_demandWriting_0 : decode cX9_demandWriting 0 = .ok (.aload_n 0, 1) := by decide +kernel
theorem dX9_demandWriting_1 : decode cX9_demandWriting 1 = .ok (.getfield 20, 3) := by decide +kernel
theorem dX9_demandWriting_4 : decode cX9_demandWriting 4 = .ok (.getfield 62, 3) := by decide +kernel
theorem dX9_demandWriting_7 : decode cX9_demandWriting 7 = .ok (.iload_n 1, 1) := by decide +kernel
theorem dX9_demandWriting_8 : decode cX9_demandWriting 8 = .ok (.invokevirtual 73, 3) := by decide +kernel
theorem dX9_demandWriting_11 : decode cX9_demandWriting 11 = .ok (.ifCond .eq 7, 3) := by decide +kernel
theorem dX9_demandWriting_14 : decode cX9_demandWriting 14 = .ok (.iconst 0, 1) := by decide +kernel
theorem dX9_demandWriting_15 : decode cX9_demandWriting 15 = .ok (.goto 4, 3) := by decide +kernel
theorem dX9_demandWriting_18 : decode cX9_demandWriting 18 = .ok (.iconst (-1), 1) := by decide +kernel
theorem dX9_demandWriting_19 : decode cX9_demandWriting 19 = .ok (.invokestatic 54, 3) := by decide +kernel
theorem dX9_demandWriting_22 : decode cX9_demandWriting 22 = .ok (.iload_n 2, 1) := by decide +kernel
theorem dX9_demandWriting_23 : decode cX9_demandWriting 23 = .ok (.iconst 1, 1) := by decide +kernel
theorem dX9_demandWriting_24 : decode cX9_demandWriting 24 = .ok (.bipush 40, 2) := by decide +kernel
theorem dX9_demandWriting_26 : decode cX9_demandWriting 26 = .ok (.invokestatic 97, 3) := by decide +kernel
theorem dX9_demandWriting_29 : decode cX9_demandWriting 29 = .ok (.ifCond .eq 7, 3) := by decide +kernel
theorem dX9_demandWriting_32 : decode cX9_demandWriting 32 = .ok (.iconst 0, 1) := by decide +kernel
theorem dX9_demandWriting_33 : decode cX9_demandWriting 33 = .ok (.goto 5, 3) := by decide +kernel
theorem dX9_demandWriting_36 : decode cX9_demandWriting 36 = .ok (.bipush (-2), 2) := by decide +kernel
theorem dX9_demandWriting_38 : decode cX9_demandWriting 38 = .ok (.invokestatic 54, 3) := by decide +kernel
theorem dX9_demandWriting_41 : decode cX9_demandWriting 41 = .ok (.return_, 1) := by decide +kernel
theorem dX9_carryOut_0 : decode cX9_carryOut 0 = .ok (.aload_n 0, 1) := by decide +kernel
theorem dX9_carryOut_1 : decode cX9_carryOut 1 = .ok (.getfield 42, 3) := by decide +kernel
theorem dX9_carryOut_4 : decode cX9_carryOut 4 = .ok (.iload_n 1, 1) := by decide +kernel
theorem dX9_carryOut_5 : decode cX9_carryOut 5 = .ok (.iconst 0, 1) := by decide +kernel
theorem dX9_carryOut_6 : decode cX9_carryOut 6 = .ok (.invokevirtual 407, 3) := by decide +kernel
theorem dX9_carryOut_9 : decode cX9_carryOut 9 = .ok (.istore_n 2, 1) := by decide +kernel
theorem dX9_carryOut_10 : decode cX9_carryOut 10 = .ok (.aload_n 0, 1) := by decide +kernel
theorem dX9_carryOut_11 : decode cX9_carryOut 11 = .ok (.getfield 42, 3) := by decide +kernel
theorem dX9_carryOut_14 : decode cX9_carryOut 14 = .ok (.iload_n 1, 1) := by decide +kernel
theorem dX9_carryOut_15 : decode cX9_carryOut 15 = .ok (.iconst 1, 1) := by decide +kernel
theorem dX9_carryOut_16 : decode cX9_carryOut 16 = .ok (.invokevirtual 407, 3) := by decide +kernel
theorem dX9_carryOut_19 : decode cX9_carryOut 19 = .ok (.istore_n 3, 1) := by decide +kernel
theorem dX9_carryOut_20 : decode cX9_carryOut 20 = .ok (.aload_n 0, 1) := by decide +kernel
theorem dX9_carryOut_21 : decode cX9_carryOut 21 = .ok (.getfield 42, 3) := by decide +kernel
theorem dX9_carryOut_24 : decode cX9_carryOut 24 = .ok (.getfield 408, 3) := by decide +kernel
theorem dX9_carryOut_27 : decode cX9_carryOut 27 = .ok (.iload_n 1, 1) := by decide +kernel
theorem dX9_carryOut_28 : decode cX9_carryOut 28 = .ok (.iaload, 1) := by decide +kernel
theorem dX9_carryOut_29 : decode cX9_carryOut 29 = .ok (.tableswitch 95 0 5 #[39, 64, 71, 77, 83, 89], 39) := by decide +kernel
theorem dX9_carryOut_68 : decode cX9_carryOut 68 = .ok (.aload_n 0, 1) := by decide +kernel
theorem dX9_carryOut_69 : decode cX9_carryOut 69 = .ok (.iload_n 2, 1) := by decide +kernel
theorem dX9_carryOut_70 : decode cX9_carryOut 70 = .ok (.iload_n 3, 1) := by decide +kernel
theorem dX9_carryOut_71 : decode cX9_carryOut 71 = .ok (.aload_n 0, 1) := by decide +kernel
theorem dX9_carryOut_72 : decode cX9_carryOut 72 = .ok (.getfield 42, 3) := by decide +kernel
theorem dX9_carryOut_75 : decode cX9_carryOut 75 = .ok (.iload_n 1, 1) := by decide +kernel
theorem dX9_carryOut_76 : decode cX9_carryOut 76 = .ok (.iconst 2, 1) := by decide +kernel
theorem dX9_carryOut_77 : decode cX9_carryOut 77 = .ok (.invokevirtual 407, 3) := by decide +kernel
theorem dX9_carryOut_80 : decode cX9_carryOut 80 = .ok (.aload_n 0, 1) := by decide +kernel
theorem dX9_carryOut_81 : decode cX9_carryOut 81 = .ok (.getfield 42, 3) := by decide +kernel
theorem dX9_carryOut_84 : decode cX9_carryOut 84 = .ok (.iload_n 1, 1) := by decide +kernel
theorem dX9_carryOut_85 : decode cX9_carryOut 85 = .ok (.iconst 3, 1) := by decide +kernel
theorem dX9_carryOut_86 : decode cX9_carryOut 86 = .ok (.invokevirtual 407, 3) := by decide +kernel
theorem dX9_carryOut_89 : decode cX9_carryOut 89 = .ok (.invokevirtual 409, 3) := by decide +kernel
theorem dX9_carryOut_92 : decode cX9_carryOut 92 = .ok (.ireturn, 1) := by decide +kernel
theorem dX9_carryOut_93 : decode cX9_carryOut 93 = .ok (.aload_n 0, 1) := by decide +kernel
theorem dX9_carryOut_94 : decode cX9_carryOut 94 = .ok (.iload_n 2, 1) := by decide +kernel
theorem dX9_carryOut_95 : decode cX9_carryOut 95 = .ok (.iload_n 3, 1) := by decide +kernel
theorem dX9_carryOut_96 : decode cX9_carryOut 96 = .ok (.invokevirtual 412, 3) := by decide +kernel
theorem dX9_carryOut_99 : decode cX9_carryOut 99 = .ok (.ireturn, 1) := by decide +kernel
theorem dX9_carryOut_100 : decode cX9_carryOut 100 = .ok (.aload_n 0, 1) := by decide +kernel
theorem dX9_carryOut_101 : decode cX9_carryOut 101 = .ok (.iload_n 2, 1) := by decide +kernel
theorem dX9_carryOut_102 : decode cX9_carryOut 102 = .ok (.invokevirtual 415, 3) := by decide +kernel
theorem dX9_carryOut_105 : decode cX9_carryOut 105 = .ok (.ireturn, 1) := by decide +kernel
theorem dX9_carryOut_106 : decode cX9_carryOut 106 = .ok (.aload_n 0, 1) := by decide +kernel
theorem dX9_carryOut_107 : decode cX9_carryOut 107 = .ok (.iload_n 2, 1) := by decide +kernel
theorem dX9_carryOut_108 : decode cX9_carryOut 108 = .ok (.invokevirtual 418, 3) := by decide +kernel
theorem dX9_carryOut_111 : decode cX9_carryOut 111 = .ok (.ireturn, 1) := by decide +kernel
theorem dX9_carryOut_112 : decode cX9_carryOut 112 = .ok (.aload_n 0, 1) := by decide +kernel
theorem dX9_carryOut_113 : decode cX9_carryOut 113 = .ok (.iload_n 2, 1) := by decide +kernel
theorem dX9_carryOut_114 : decode cX9_carryOut 114 = .ok (.invokevirtual 421, 3) := by decide +kernel
theorem dX9_carryOut_117 : decode cX9_carryOut 117 = .ok (.ireturn, 1) := by decide +kernel
theorem dX9_carryOut_118 : decode cX9_carryOut 118 = .ok (.aload_n 0, 1) := by decide +kernel
theorem dX9_carryOut_119 : decode cX9_carryOut 119 = .ok (.iload_n 2, 1) := by decide +kernel
theorem dX9_carryOut_120 : decode cX9_carryOut 120 = .ok (.invokevirtual 424, 3) := by decide +kernel
theorem dX9_carryOut_123 : decode cX9_carryOut 123 = .ok (.ireturn, 1) := by decide +kernel
theorem dX9_carryOut_124 : decode cX9_carryOut 124 = .ok (.bipush (-2), 2) := by decide +kernel
theorem dX9_carryOut_126 : decode cX9_carryOut 126 = .ok (.ireturn, 1) := by decide +kernel
theorem dX9_orderWriting_0 : decode cX9_orderWriting 0 = .ok (.aload_n 0, 1) := by decide +kernel
theorem dX9_orderWriting_1 : decode cX9_orderWriting 1 = .ok (.getfield 10, 3) := by decide +kernel
theorem dX9_orderWriting_4 : decode cX9_orderWriting 4 = .ok (.iload_n 1, 1) := by decide +kernel
theorem dX9_orderWriting_5 : decode cX9_orderWriting 5 = .ok (.iload_n 2, 1) := by decide +kernel
theorem dX9_orderWriting_6 : decode cX9_orderWriting 6 = .ok (.iload_n 3, 1) := by decide +kernel
theorem dX9_orderWriting_7 : decode cX9_orderWriting 7 = .ok (.iload 4, 2) := by decide +kernel
theorem dX9_orderWriting_9 : decode cX9_orderWriting 9 = .ok (.invokevirtual 80, 3) := by decide +kernel
theorem dX9_orderWriting_12 : decode cX9_orderWriting 12 = .ok (.istore 5, 2) := by decide +kernel
theorem dX9_orderWriting_14 : decode cX9_orderWriting 14 = .ok (.iload 5, 2) := by decide +kernel
theorem dX9_orderWriting_16 : decode cX9_orderWriting 16 = .ok (.ifCond .ne 16, 3) := by decide +kernel
theorem dX9_orderWriting_19 : decode cX9_orderWriting 19 = .ok (.aload_n 0, 1) := by decide +kernel
theorem dX9_orderWriting_20 : decode cX9_orderWriting 20 = .ok (.getfield 20, 3) := by decide +kernel
theorem dX9_orderWriting_23 : decode cX9_orderWriting 23 = .ok (.iload_n 1, 1) := by decide +kernel
theorem dX9_orderWriting_24 : decode cX9_orderWriting 24 = .ok (.iload_n 2, 1) := by decide +kernel
theorem dX9_orderWriting_25 : decode cX9_orderWriting 25 = .ok (.iload_n 3, 1) := by decide +kernel
theorem dX9_orderWriting_26 : decode cX9_orderWriting 26 = .ok (.iload 4, 2) := by decide +kernel
theorem dX9_orderWriting_28 : decode cX9_orderWriting 28 = .ok (.invokevirtual 84, 3) := by decide +kernel
theorem dX9_orderWriting_31 : decode cX9_orderWriting 31 = .ok (.pop, 1) := by decide +kernel
theorem dX9_orderWriting_32 : decode cX9_orderWriting 32 = .ok (.iload 5, 2) := by decide +kernel
theorem dX9_orderWriting_34 : decode cX9_orderWriting 34 = .ok (.ireturn, 1) := by decide +kernel
theorem dX9_orderStamping_0 : decode cX9_orderStamping 0 = .ok (.aload_n 0, 1) := by decide +kernel
theorem dX9_orderStamping_1 : decode cX9_orderStamping 1 = .ok (.getfield 10, 3) := by decide +kernel
theorem dX9_orderStamping_4 : decode cX9_orderStamping 4 = .ok (.iload_n 1, 1) := by decide +kernel
theorem dX9_orderStamping_5 : decode cX9_orderStamping 5 = .ok (.iload_n 2, 1) := by decide +kernel
theorem dX9_orderStamping_6 : decode cX9_orderStamping 6 = .ok (.invokevirtual 194, 3) := by decide +kernel
theorem dX9_orderStamping_9 : decode cX9_orderStamping 9 = .ok (.istore_n 3, 1) := by decide +kernel
theorem dX9_orderStamping_10 : decode cX9_orderStamping 10 = .ok (.iload_n 3, 1) := by decide +kernel
theorem dX9_orderStamping_11 : decode cX9_orderStamping 11 = .ok (.ifCond .ne 13, 3) := by decide +kernel
theorem dX9_orderStamping_14 : decode cX9_orderStamping 14 = .ok (.aload_n 0, 1) := by decide +kernel
theorem dX9_orderStamping_15 : decode cX9_orderStamping 15 = .ok (.getfield 20, 3) := by decide +kernel
theorem dX9_orderStamping_18 : decode cX9_orderStamping 18 = .ok (.iload_n 1, 1) := by decide +kernel
theorem dX9_orderStamping_19 : decode cX9_orderStamping 19 = .ok (.iload_n 2, 1) := by decide +kernel
theorem dX9_orderStamping_20 : decode cX9_orderStamping 20 = .ok (.invokevirtual 197, 3) := by decide +kernel
theorem dX9_orderStamping_23 : decode cX9_orderStamping 23 = .ok (.pop, 1) := by decide +kernel
theorem dX9_orderStamping_24 : decode cX9_orderStamping 24 = .ok (.iload_n 3, 1) := by decide +kernel
theorem dX9_orderStamping_25 : decode cX9_orderStamping 25 = .ok (.ireturn, 1) := by decide +kernel
theorem dX9_orderShelving_0 : decode cX9_orderShelving 0 = .ok (.aload_n 0, 1) := by decide +kernel
theorem dX9_orderShelving_1 : decode cX9_orderShelving 1 = .ok (.getfield 20, 3) := by decide +kernel
theorem dX9_orderShelving_4 : decode cX9_orderShelving 4 = .ok (.getfield 101, 3) := by decide +kernel
theorem dX9_orderShelving_7 : decode cX9_orderShelving 7 = .ok (.iload_n 1, 1) := by decide +kernel
theorem dX9_orderShelving_8 : decode cX9_orderShelving 8 = .ok (.invokevirtual 401, 3) := by decide +kernel
theorem dX9_orderShelving_11 : decode cX9_orderShelving 11 = .ok (.ifCond .ne 5, 3) := by decide +kernel
theorem dX9_orderShelving_14 : decode cX9_orderShelving 14 = .ok (.iconst (-1), 1) := by decide +kernel
theorem dX9_orderShelving_15 : decode cX9_orderShelving 15 = .ok (.ireturn, 1) := by decide +kernel
theorem dX9_orderShelving_16 : decode cX9_orderShelving 16 = .ok (.aload_n 0, 1) := by decide +kernel
theorem dX9_orderShelving_17 : decode cX9_orderShelving 17 = .ok (.getfield 20, 3) := by decide +kernel
theorem dX9_orderShelving_20 : decode cX9_orderShelving 20 = .ok (.getfield 101, 3) := by decide +kernel
theorem dX9_orderShelving_23 : decode cX9_orderShelving 23 = .ok (.getfield 111, 3) := by decide +kernel
theorem dX9_orderShelving_26 : decode cX9_orderShelving 26 = .ok (.iload_n 1, 1) := by decide +kernel
theorem dX9_orderShelving_27 : decode cX9_orderShelving 27 = .ok (.iaload, 1) := by decide +kernel
theorem dX9_orderShelving_28 : decode cX9_orderShelving 28 = .ok (.istore_n 2, 1) := by decide +kernel
theorem dX9_orderShelving_29 : decode cX9_orderShelving 29 = .ok (.aload_n 0, 1) := by decide +kernel
theorem dX9_orderShelving_30 : decode cX9_orderShelving 30 = .ok (.getfield 10, 3) := by decide +kernel
theorem dX9_orderShelving_33 : decode cX9_orderShelving 33 = .ok (.iload_n 1, 1) := by decide +kernel
theorem dX9_orderShelving_34 : decode cX9_orderShelving 34 = .ok (.iload_n 2, 1) := by decide +kernel
theorem dX9_orderShelving_35 : decode cX9_orderShelving 35 = .ok (.invokevirtual 201, 3) := by decide +kernel
theorem dX9_orderShelving_38 : decode cX9_orderShelving 38 = .ok (.istore_n 3, 1) := by decide +kernel
theorem dX9_orderShelving_39 : decode cX9_orderShelving 39 = .ok (.iload_n 3, 1) := by decide +kernel
theorem dX9_orderShelving_40 : decode cX9_orderShelving 40 = .ok (.ifCond .ne 13, 3) := by decide +kernel
theorem dX9_orderShelving_43 : decode cX9_orderShelving 43 = .ok (.aload_n 0, 1) := by decide +kernel
theorem dX9_orderShelving_44 : decode cX9_orderShelving 44 = .ok (.getfield 20, 3) := by decide +kernel
theorem dX9_orderShelving_47 : decode cX9_orderShelving 47 = .ok (.iload_n 1, 1) := by decide +kernel
theorem dX9_orderShelving_48 : decode cX9_orderShelving 48 = .ok (.iload_n 2, 1) := by decide +kernel
theorem dX9_orderShelving_49 : decode cX9_orderShelving 49 = .ok (.invokevirtual 204, 3) := by decide +kernel
theorem dX9_orderShelving_52 : decode cX9_orderShelving 52 = .ok (.pop, 1) := by decide +kernel
theorem dX9_orderShelving_53 : decode cX9_orderShelving 53 = .ok (.iload_n 3, 1) := by decide +kernel
theorem dX9_orderShelving_54 : decode cX9_orderShelving 54 = .ok (.ireturn, 1) := by decide +kernel
theorem dX9_orderTaking_0 : decode cX9_orderTaking 0 = .ok (.aload_n 0, 1) := by decide +kernel
theorem dX9_orderTaking_1 : decode cX9_orderTaking 1 = .ok (.getfield 10, 3) := by decide +kernel
theorem dX9_orderTaking_4 : decode cX9_orderTaking 4 = .ok (.iload_n 1, 1) := by decide +kernel
theorem dX9_orderTaking_5 : decode cX9_orderTaking 5 = .ok (.invokevirtual 207, 3) := by decide +kernel
theorem dX9_orderTaking_8 : decode cX9_orderTaking 8 = .ok (.istore_n 2, 1) := by decide +kernel
theorem dX9_orderTaking_9 : decode cX9_orderTaking 9 = .ok (.iload_n 2, 1) := by decide +kernel
theorem dX9_orderTaking_10 : decode cX9_orderTaking 10 = .ok (.ifCond .ne 12, 3) := by decide +kernel
theorem dX9_orderTaking_13 : decode cX9_orderTaking 13 = .ok (.aload_n 0, 1) := by decide +kernel
theorem dX9_orderTaking_14 : decode cX9_orderTaking 14 = .ok (.getfield 20, 3) := by decide +kernel
theorem dX9_orderTaking_17 : decode cX9_orderTaking 17 = .ok (.iload_n 1, 1) := by decide +kernel
theorem dX9_orderTaking_18 : decode cX9_orderTaking 18 = .ok (.invokevirtual 210, 3) := by decide +kernel
theorem dX9_orderTaking_21 : decode cX9_orderTaking 21 = .ok (.pop, 1) := by decide +kernel
theorem dX9_orderTaking_22 : decode cX9_orderTaking 22 = .ok (.iload_n 2, 1) := by decide +kernel
theorem dX9_orderTaking_23 : decode cX9_orderTaking 23 = .ok (.ireturn, 1) := by decide +kernel
theorem dX9_orderFeeding_0 : decode cX9_orderFeeding 0 = .ok (.aload_n 0, 1) := by decide +kernel
theorem dX9_orderFeeding_1 : decode cX9_orderFeeding 1 = .ok (.getfield 10, 3) := by decide +kernel
theorem dX9_orderFeeding_4 : decode cX9_orderFeeding 4 = .ok (.iload_n 1, 1) := by decide +kernel
theorem dX9_orderFeeding_5 : decode cX9_orderFeeding 5 = .ok (.invokevirtual 245, 3) := by decide +kernel
theorem dX9_orderFeeding_8 : decode cX9_orderFeeding 8 = .ok (.istore_n 2, 1) := by decide +kernel
theorem dX9_orderFeeding_9 : decode cX9_orderFeeding 9 = .ok (.iload_n 2, 1) := by decide +kernel
theorem dX9_orderFeeding_10 : decode cX9_orderFeeding 10 = .ok (.ifCond .ne 14, 3) := by decide +kernel
theorem dX9_orderFeeding_13 : decode cX9_orderFeeding 13 = .ok (.aload_n 0, 1) := by decide +kernel
theorem dX9_orderFeeding_14 : decode cX9_orderFeeding 14 = .ok (.getfield 20, 3) := by decide +kernel
theorem dX9_orderFeeding_17 : decode cX9_orderFeeding 17 = .ok (.getfield 232, 3) := by decide +kernel
theorem dX9_orderFeeding_20 : decode cX9_orderFeeding 20 = .ok (.iload_n 1, 1) := by decide +kernel
theorem dX9_orderFeeding_21 : decode cX9_orderFeeding 21 = .ok (.invokevirtual 248, 3) := by decide +kernel
theorem dX9_orderFeeding_24 : decode cX9_orderFeeding 24 = .ok (.iload_n 2, 1) := by decide +kernel
theorem dX9_orderFeeding_25 : decode cX9_orderFeeding 25 = .ok (.ireturn, 1) := by decide +kernel
theorem dX9_orderPassing_0 : decode cX9_orderPassing 0 = .ok (.aload_n 0, 1) := by decide +kernel
theorem dX9_orderPassing_1 : decode cX9_orderPassing 1 = .ok (.getfield 10, 3) := by decide +kernel
theorem dX9_orderPassing_4 : decode cX9_orderPassing 4 = .ok (.iload_n 1, 1) := by decide +kernel
theorem dX9_orderPassing_5 : decode cX9_orderPassing 5 = .ok (.invokevirtual 263, 3) := by decide +kernel
theorem dX9_orderPassing_8 : decode cX9_orderPassing 8 = .ok (.istore_n 2, 1) := by decide +kernel
theorem dX9_orderPassing_9 : decode cX9_orderPassing 9 = .ok (.iload_n 2, 1) := by decide +kernel
theorem dX9_orderPassing_10 : decode cX9_orderPassing 10 = .ok (.ifCond .ne 12, 3) := by decide +kernel
theorem dX9_orderPassing_13 : decode cX9_orderPassing 13 = .ok (.aload_n 0, 1) := by decide +kernel
theorem dX9_orderPassing_14 : decode cX9_orderPassing 14 = .ok (.getfield 20, 3) := by decide +kernel
theorem dX9_orderPassing_17 : decode cX9_orderPassing 17 = .ok (.iload_n 1, 1) := by decide +kernel
theorem dX9_orderPassing_18 : decode cX9_orderPassing 18 = .ok (.invokevirtual 266, 3) := by decide +kernel
theorem dX9_orderPassing_21 : decode cX9_orderPassing 21 = .ok (.pop, 1) := by decide +kernel
theorem dX9_orderPassing_22 : decode cX9_orderPassing 22 = .ok (.iload_n 2, 1) := by decide +kernel
theorem dX9_orderPassing_23 : decode cX9_orderPassing 23 = .ok (.ireturn, 1) := by decide +kernel
theorem dX9_inRange_0 : decode cX9_inRange 0 = .ok (.iload_n 0, 1) := by decide +kernel
theorem dX9_inRange_1 : decode cX9_inRange 1 = .ok (.iload_n 1, 1) := by decide +kernel
theorem dX9_inRange_2 : decode cX9_inRange 2 = .ok (.if_icmp .lt 12, 3) := by decide +kernel
theorem dX9_inRange_5 : decode cX9_inRange 5 = .ok (.iload_n 0, 1) := by decide +kernel
theorem dX9_inRange_6 : decode cX9_inRange 6 = .ok (.iload_n 2, 1) := by decide +kernel
theorem dX9_inRange_7 : decode cX9_inRange 7 = .ok (.if_icmp .gt 7, 3) := by decide +kernel
theorem dX9_inRange_10 : decode cX9_inRange 10 = .ok (.iconst 1, 1) := by decide +kernel
theorem dX9_inRange_11 : decode cX9_inRange 11 = .ok (.goto 4, 3) := by decide +kernel
theorem dX9_inRange_14 : decode cX9_inRange 14 = .ok (.iconst 0, 1) := by decide +kernel
theorem dX9_inRange_15 : decode cX9_inRange 15 = .ok (.ireturn, 1) := by decide +kernel
theorem dX9_isChild_0 : decode cX9_isChild 0 = .ok (.iload_n 0, 1) := by decide +kernel
theorem dX9_isChild_1 : decode cX9_isChild 1 = .ok (.iconst 0, 1) := by decide +kernel
theorem dX9_isChild_2 : decode cX9_isChild 2 = .ok (.iconst 5, 1) := by decide +kernel
theorem dX9_isChild_3 : decode cX9_isChild 3 = .ok (.invokestatic 97, 3) := by decide +kernel
theorem dX9_isChild_6 : decode cX9_isChild 6 = .ok (.ireturn, 1) := by decide +kernel
theorem dX9_areSides_0 : decode cX9_areSides 0 = .ok (.iload_n 0, 1) := by decide +kernel
theorem dX9_areSides_1 : decode cX9_areSides 1 = .ok (.iconst 1, 1) := by decide +kernel
theorem dX9_areSides_2 : decode cX9_areSides 2 = .ok (.bipush 9, 2) := by decide +kernel
theorem dX9_areSides_4 : decode cX9_areSides 4 = .ok (.invokestatic 97, 3) := by decide +kernel
theorem dX9_areSides_7 : decode cX9_areSides 7 = .ok (.ifCond .eq 27, 3) := by decide +kernel
theorem dX9_areSides_10 : decode cX9_areSides 10 = .ok (.iload_n 1, 1) := by decide +kernel
theorem dX9_areSides_11 : decode cX9_areSides 11 = .ok (.iconst 1, 1) := by decide +kernel
theorem dX9_areSides_12 : decode cX9_areSides 12 = .ok (.bipush 9, 2) := by decide +kernel
theorem dX9_areSides_14 : decode cX9_areSides 14 = .ok (.invokestatic 97, 3) := by decide +kernel
theorem dX9_areSides_17 : decode cX9_areSides 17 = .ok (.ifCond .eq 17, 3) := by decide +kernel
theorem dX9_areSides_20 : decode cX9_areSides 20 = .ok (.iload_n 2, 1) := by decide +kernel
theorem dX9_areSides_21 : decode cX9_areSides 21 = .ok (.iconst 1, 1) := by decide +kernel
theorem dX9_areSides_22 : decode cX9_areSides 22 = .ok (.bipush 9, 2) := by decide +kernel
theorem dX9_areSides_24 : decode cX9_areSides 24 = .ok (.invokestatic 97, 3) := by decide +kernel
theorem dX9_areSides_27 : decode cX9_areSides 27 = .ok (.ifCond .eq 7, 3) := by decide +kernel
theorem dX9_areSides_30 : decode cX9_areSides 30 = .ok (.iconst 1, 1) := by decide +kernel
theorem dX9_areSides_31 : decode cX9_areSides 31 = .ok (.goto 4, 3) := by decide +kernel
theorem dX9_areSides_34 : decode cX9_areSides 34 = .ok (.iconst 0, 1) := by decide +kernel
theorem dX9_areSides_35 : decode cX9_areSides 35 = .ok (.ireturn, 1) := by decide +kernel
theorem dX9_crayonNeeded_0 : decode cX9_crayonNeeded 0 = .ok (.ldc_w 427, 3) := by decide +kernel
theorem dX9_crayonNeeded_3 : decode cX9_crayonNeeded 3 = .ok (.iload_n 0, 1) := by decide +kernel
theorem dX9_crayonNeeded_4 : decode cX9_crayonNeeded 4 = .ok (.i2f, 1) := by decide +kernel
theorem dX9_crayonNeeded_5 : decode cX9_crayonNeeded 5 = .ok (.fmul, 1) := by decide +kernel
theorem dX9_crayonNeeded_6 : decode cX9_crayonNeeded 6 = .ok (.freturn, 1) := by decide +kernel
theorem dX9_stringNeeded_0 : decode cX9_stringNeeded 0 = .ok (.ldc 66, 2) := by decide +kernel
theorem dX9_stringNeeded_2 : decode cX9_stringNeeded 2 = .ok (.iconst 2, 1) := by decide +kernel
theorem dX9_stringNeeded_3 : decode cX9_stringNeeded 3 = .ok (.iload_n 0, 1) := by decide +kernel
theorem dX9_stringNeeded_4 : decode cX9_stringNeeded 4 = .ok (.imul, 1) := by decide +kernel
theorem dX9_stringNeeded_5 : decode cX9_stringNeeded 5 = .ok (.iconst 2, 1) := by decide +kernel
theorem dX9_stringNeeded_6 : decode cX9_stringNeeded 6 = .ok (.iload_n 1, 1) := by decide +kernel
theorem dX9_stringNeeded_7 : decode cX9_stringNeeded 7 = .ok (.imul, 1) := by decide +kernel
theorem dX9_stringNeeded_8 : decode cX9_stringNeeded 8 = .ok (.iadd, 1) := by decide +kernel
theorem dX9_stringNeeded_9 : decode cX9_stringNeeded 9 = .ok (.iconst 4, 1) := by decide +kernel
theorem dX9_stringNeeded_10 : decode cX9_stringNeeded 10 = .ok (.iload_n 2, 1) := by decide +kernel
theorem dX9_stringNeeded_11 : decode cX9_stringNeeded 11 = .ok (.imul, 1) := by decide +kernel
theorem dX9_stringNeeded_12 : decode cX9_stringNeeded 12 = .ok (.iadd, 1) := by decide +kernel
theorem dX9_stringNeeded_13 : decode cX9_stringNeeded 13 = .ok (.i2f, 1) := by decide +kernel
theorem dX9_stringNeeded_14 : decode cX9_stringNeeded 14 = .ok (.fmul, 1) := by decide +kernel
theorem dX9_stringNeeded_15 : decode cX9_stringNeeded 15 = .ok (.freturn, 1) := by decide +kernel
theorem dX9_printOf_0 : decode cX9_printOf 0 = .ok (.fload_n 0, 1) := by decide +kernel
theorem dX9_printOf_1 : decode cX9_printOf 1 = .ok (.fload_n 1, 1) := by decide +kernel
theorem dX9_printOf_2 : decode cX9_printOf 2 = .ok (.fload_n 1, 1) := by decide +kernel
theorem dX9_printOf_3 : decode cX9_printOf 3 = .ok (.ldc_w 428, 3) := by decide +kernel
theorem dX9_printOf_6 : decode cX9_printOf 6 = .ok (.fadd, 1) := by decide +kernel
theorem dX9_printOf_7 : decode cX9_printOf 7 = .ok (.fdiv, 1) := by decide +kernel
theorem dX9_printOf_8 : decode cX9_printOf 8 = .ok (.fmul, 1) := by decide +kernel
theorem dX9_printOf_9 : decode cX9_printOf 9 = .ok (.freturn, 1) := by decide +kernel
theorem dX9_isStrong_0 : decode cX9_isStrong 0 = .ok (.fload_n 0, 1) := by decide +kernel
theorem dX9_isStrong_1 : decode cX9_isStrong 1 = .ok (.ldc_w 429, 3) := by decide +kernel
theorem dX9_isStrong_4 : decode cX9_isStrong 4 = .ok (.fcmp .l, 1) := by decide +kernel
theorem dX9_isStrong_5 : decode cX9_isStrong 5 = .ok (.ifCond .lt 7, 3) := by decide +kernel
theorem dX9_isStrong_8 : decode cX9_isStrong 8 = .ok (.iconst 1, 1) := by decide +kernel
theorem dX9_isStrong_9 : decode cX9_isStrong 9 = .ok (.goto 4, 3) := by decide +kernel
theorem dX9_isStrong_12 : decode cX9_isStrong 12 = .ok (.iconst 0, 1) := by decide +kernel
theorem dX9_isStrong_13 : decode cX9_isStrong 13 = .ok (.ireturn, 1) := by decide +kernel
theorem dX9_softer_0 : decode cX9_softer 0 = .ok (.ldc_w 430, 3) := by decide +kernel
theorem dX9_softer_3 : decode cX9_softer 3 = .ok (.fload_n 0, 1) := by decide +kernel
theorem dX9_softer_4 : decode cX9_softer 4 = .ok (.fmul, 1) := by decide +kernel
theorem dX9_softer_5 : decode cX9_softer 5 = .ok (.freturn, 1) := by decide +kernel
theorem dX9_drier_0 : decode cX9_drier 0 = .ok (.ldc_w 431, 3) := by decide +kernel
theorem dX9_drier_3 : decode cX9_drier 3 = .ok (.fload_n 0, 1) := by decide +kernel
theorem dX9_drier_4 : decode cX9_drier 4 = .ok (.fmul, 1) := by decide +kernel
theorem dX9_drier_5 : decode cX9_drier 5 = .ok (.freturn, 1) := by decide +kernel
theorem dX9_hungrier_0 : decode cX9_hungrier 0 = .ok (.fload_n 0, 1) := by decide +kernel
theorem dX9_hungrier_1 : decode cX9_hungrier 1 = .ok (.ldc_w 432, 3) := by decide +kernel
theorem dX9_hungrier_4 : decode cX9_hungrier 4 = .ok (.fadd, 1) := by decide +kernel
theorem dX9_hungrier_5 : decode cX9_hungrier 5 = .ok (.freturn, 1) := by decide +kernel
theorem dX9_isHungry_0 : decode cX9_isHungry 0 = .ok (.fload_n 0, 1) := by decide +kernel
theorem dX9_isHungry_1 : decode cX9_isHungry 1 = .ok (.ldc_w 433, 3) := by decide +kernel
theorem dX9_isHungry_4 : decode cX9_isHungry 4 = .ok (.fcmp .l, 1) := by decide +kernel
theorem dX9_isHungry_5 : decode cX9_isHungry 5 = .ok (.ifCond .le 7, 3) := by decide +kernel
theorem dX9_isHungry_8 : decode cX9_isHungry 8 = .ok (.iconst 1, 1) := by decide +kernel
theorem dX9_isHungry_9 : decode cX9_isHungry 9 = .ok (.goto 4, 3) := by decide +kernel
theorem dX9_isHungry_12 : decode cX9_isHungry 12 = .ok (.iconst 0, 1) := by decide +kernel
theorem dX9_isHungry_13 : decode cX9_isHungry 13 = .ok (.ireturn, 1) := by decide +kernel
