theorem dX10_init_0 : decode cX10_init 0 = .ok (.aload_n 0, 1) := by decide +kernel
theorem dX10_init_1 : decode cX10_init 1 = .ok (.invokespecial 1, 3) := by decide +kernel
theorem dX10_init_4 : decode cX10_init 4 = .ok (.aload_n 0, 1) := by decide +kernel
theorem dX10_init_5 : decode cX10_init 5 = .ok (.sipush 146, 3) := by decide +kernel
theorem dX10_init_8 : decode cX10_init 8 = .ok (.newarray .int, 2) := by decide +kernel
theorem dX10_init_10 : decode cX10_init 10 = .ok (.putfield 7, 3) := by decide +kernel
theorem dX10_init_13 : decode cX10_init 13 = .ok (.aload_n 0, 1) := by decide +kernel
theorem dX10_init_14 : decode cX10_init 14 = .ok (.sipush 1168, 3) := by decide +kernel
theorem dX10_init_17 : decode cX10_init 17 = .ok (.newarray .int, 2) := by decide +kernel
theorem dX10_init_19 : decode cX10_init 19 = .ok (.putfield 13, 3) := by decide +kernel
theorem dX10_init_22 : decode cX10_init 22 = .ok (.aload_n 0, 1) := by decide +kernel
theorem dX10_init_23 : decode cX10_init 23 = .ok (.sipush 146, 3) := by decide +kernel
theorem dX10_init_26 : decode cX10_init 26 = .ok (.newarray .int, 2) := by decide +kernel
theorem dX10_init_28 : decode cX10_init 28 = .ok (.putfield 16, 3) := by decide +kernel
theorem dX10_init_31 : decode cX10_init 31 = .ok (.aload_n 0, 1) := by decide +kernel
theorem dX10_init_32 : decode cX10_init 32 = .ok (.sipush 146, 3) := by decide +kernel
theorem dX10_init_35 : decode cX10_init 35 = .ok (.newarray .int, 2) := by decide +kernel
theorem dX10_init_37 : decode cX10_init 37 = .ok (.putfield 19, 3) := by decide +kernel
theorem dX10_init_40 : decode cX10_init 40 = .ok (.aload_n 0, 1) := by decide +kernel
theorem dX10_init_41 : decode cX10_init 41 = .ok (.bipush 36, 2) := by decide +kernel
theorem dX10_init_43 : decode cX10_init 43 = .ok (.newarray .float, 2) := by decide +kernel
theorem dX10_init_45 : decode cX10_init 45 = .ok (.putfield 22, 3) := by decide +kernel
theorem dX10_init_48 : decode cX10_init 48 = .ok (.aload_n 0, 1) := by decide +kernel
theorem dX10_init_49 : decode cX10_init 49 = .ok (.sipush 288, 3) := by decide +kernel
theorem dX10_init_52 : decode cX10_init 52 = .ok (.newarray .float, 2) := by decide +kernel
theorem dX10_init_54 : decode cX10_init 54 = .ok (.putfield 26, 3) := by decide +kernel
theorem dX10_init_57 : decode cX10_init 57 = .ok (.aload_n 0, 1) := by decide +kernel
theorem dX10_init_58 : decode cX10_init 58 = .ok (.bipush 36, 2) := by decide +kernel
theorem dX10_init_60 : decode cX10_init 60 = .ok (.newarray .float, 2) := by decide +kernel
theorem dX10_init_62 : decode cX10_init 62 = .ok (.putfield 29, 3) := by decide +kernel
theorem dX10_init_65 : decode cX10_init 65 = .ok (.aload_n 0, 1) := by decide +kernel
theorem dX10_init_66 : decode cX10_init 66 = .ok (.bipush 36, 2) := by decide +kernel
theorem dX10_init_68 : decode cX10_init 68 = .ok (.newarray .float, 2) := by decide +kernel
theorem dX10_init_70 : decode cX10_init 70 = .ok (.putfield 32, 3) := by decide +kernel
theorem dX10_init_73 : decode cX10_init 73 = .ok (.aload_n 0, 1) := by decide +kernel
theorem dX10_init_74 : decode cX10_init 74 = .ok (.sipush 400, 3) := by decide +kernel
theorem dX10_init_77 : decode cX10_init 77 = .ok (.newarray .float, 2) := by decide +kernel
theorem dX10_init_79 : decode cX10_init 79 = .ok (.putfield 35, 3) := by decide +kernel
theorem dX10_init_82 : decode cX10_init 82 = .ok (.aload_n 0, 1) := by decide +kernel
theorem dX10_init_83 : decode cX10_init 83 = .ok (.bipush 60, 2) := by decide +kernel
theorem dX10_init_85 : decode cX10_init 85 = .ok (.newarray .char, 2) := by decide +kernel
theorem dX10_init_87 : decode cX10_init 87 = .ok (.putfield 38, 3) := by decide +kernel
theorem dX10_init_90 : decode cX10_init 90 = .ok (.aload_n 0, 1) := by decide +kernel
theorem dX10_init_91 : decode cX10_init 91 = .ok (.iconst (-1), 1) := by decide +kernel
theorem dX10_init_92 : decode cX10_init 92 = .ok (.putfield 42, 3) := by decide +kernel
theorem dX10_init_95 : decode cX10_init 95 = .ok (.aload_n 0, 1) := by decide +kernel
theorem dX10_init_96 : decode cX10_init 96 = .ok (.iconst 4, 1) := by decide +kernel
theorem dX10_init_97 : decode cX10_init 97 = .ok (.newarray .int, 2) := by decide +kernel
theorem dX10_init_99 : decode cX10_init 99 = .ok (.putfield 46, 3) := by decide +kernel
theorem dX10_init_102 : decode cX10_init 102 = .ok (.aload_n 0, 1) := by decide +kernel
theorem dX10_init_103 : decode cX10_init 103 = .ok (.getfield 22, 3) := by decide +kernel
theorem dX10_init_106 : decode cX10_init 106 = .ok (.bipush 13, 2) := by decide +kernel
theorem dX10_init_108 : decode cX10_init 108 = .ok (.ldc 49, 2) := by decide +kernel
theorem dX10_init_110 : decode cX10_init 110 = .ok (.fastore, 1) := by decide +kernel
theorem dX10_init_111 : decode cX10_init 111 = .ok (.aload_n 0, 1) := by decide +kernel
theorem dX10_init_112 : decode cX10_init 112 = .ok (.getfield 22, 3) := by decide +kernel
theorem dX10_init_115 : decode cX10_init 115 = .ok (.bipush 14, 2) := by decide +kernel
theorem dX10_init_117 : decode cX10_init 117 = .ok (.fconst 2, 1) := by decide +kernel
theorem dX10_init_118 : decode cX10_init 118 = .ok (.fastore, 1) := by decide +kernel
theorem dX10_init_119 : decode cX10_init 119 = .ok (.return_, 1) := by decide +kernel
theorem dX10_thrown_0 : decode cX10_thrown 0 = .ok (.aload_n 0, 1) := by decide +kernel
theorem dX10_thrown_1 : decode cX10_thrown 1 = .ok (.getfield 50, 3) := by decide +kernel
theorem dX10_thrown_4 : decode cX10_thrown 4 = .ok (.ireturn, 1) := by decide +kernel
theorem dX10_fails_0 : decode cX10_fails 0 = .ok (.aload_n 0, 1) := by decide +kernel
theorem dX10_fails_1 : decode cX10_fails 1 = .ok (.iload_n 1, 1) := by decide +kernel
theorem dX10_fails_2 : decode cX10_fails 2 = .ok (.putfield 50, 3) := by decide +kernel
theorem dX10_fails_5 : decode cX10_fails 5 = .ok (.iconst 0, 1) := by decide +kernel
theorem dX10_fails_6 : decode cX10_fails 6 = .ok (.ireturn, 1) := by decide +kernel
theorem dX10_isNot_0 : decode cX10_isNot 0 = .ok (.aload_n 0, 1) := by decide +kernel
theorem dX10_isNot_1 : decode cX10_isNot 1 = .ok (.iload_n 1, 1) := by decide +kernel
theorem dX10_isNot_2 : decode cX10_isNot 2 = .ok (.putfield 53, 3) := by decide +kernel
theorem dX10_isNot_5 : decode cX10_isNot 5 = .ok (.aload_n 0, 1) := by decide +kernel
theorem dX10_isNot_6 : decode cX10_isNot 6 = .ok (.iload_n 2, 1) := by decide +kernel
theorem dX10_isNot_7 : decode cX10_isNot 7 = .ok (.putfield 56, 3) := by decide +kernel
theorem dX10_isNot_10 : decode cX10_isNot 10 = .ok (.bipush 9, 2) := by decide +kernel
theorem dX10_isNot_12 : decode cX10_isNot 12 = .ok (.ireturn, 1) := by decide +kernel
theorem dX10_refuses_0 : decode cX10_refuses 0 = .ok (.iload_n 1, 1) := by decide +kernel
theorem dX10_refuses_1 : decode cX10_refuses 1 = .ok (.bipush 9, 2) := by decide +kernel
theorem dX10_refuses_3 : decode cX10_refuses 3 = .ok (.if_icmp .eq 9, 3) := by decide +kernel
theorem dX10_refuses_6 : decode cX10_refuses 6 = .ok (.aload_n 0, 1) := by decide +kernel
theorem dX10_refuses_7 : decode cX10_refuses 7 = .ok (.iload_n 1, 1) := by decide +kernel
theorem dX10_refuses_8 : decode cX10_refuses 8 = .ok (.invokevirtual 59, 3) := by decide +kernel
theorem dX10_refuses_11 : decode cX10_refuses 11 = .ok (.ireturn, 1) := by decide +kernel
theorem dX10_refuses_12 : decode cX10_refuses 12 = .ok (.aload_n 0, 1) := by decide +kernel
theorem dX10_refuses_13 : decode cX10_refuses 13 = .ok (.aload_n 0, 1) := by decide +kernel
theorem dX10_refuses_14 : decode cX10_refuses 14 = .ok (.getfield 53, 3) := by decide +kernel
theorem dX10_refuses_17 : decode cX10_refuses 17 = .ok (.putfield 63, 3) := by decide +kernel
theorem dX10_refuses_20 : decode cX10_refuses 20 = .ok (.aload_n 0, 1) := by decide +kernel
theorem dX10_refuses_21 : decode cX10_refuses 21 = .ok (.aload_n 0, 1) := by decide +kernel
theorem dX10_refuses_22 : decode cX10_refuses 22 = .ok (.getfield 56, 3) := by decide +kernel
theorem dX10_refuses_25 : decode cX10_refuses 25 = .ok (.putfield 66, 3) := by decide +kernel
theorem dX10_refuses_28 : decode cX10_refuses 28 = .ok (.aload_n 0, 1) := by decide +kernel
theorem dX10_refuses_29 : decode cX10_refuses 29 = .ok (.iload_n 2, 1) := by decide +kernel
theorem dX10_refuses_30 : decode cX10_refuses 30 = .ok (.invokevirtual 59, 3) := by decide +kernel
theorem dX10_refuses_33 : decode cX10_refuses 33 = .ok (.ireturn, 1) := by decide +kernel
theorem dX10_isBetween_0 : decode cX10_isBetween 0 = .ok (.iload_n 1, 1) := by decide +kernel
theorem dX10_isBetween_1 : decode cX10_isBetween 1 = .ok (.iload_n 0, 1) := by decide +kernel
theorem dX10_isBetween_2 : decode cX10_isBetween 2 = .ok (.if_icmp .gt 12, 3) := by decide +kernel
theorem dX10_isBetween_5 : decode cX10_isBetween 5 = .ok (.iload_n 0, 1) := by decide +kernel
theorem dX10_isBetween_6 : decode cX10_isBetween 6 = .ok (.iload_n 2, 1) := by decide +kernel
theorem dX10_isBetween_7 : decode cX10_isBetween 7 = .ok (.if_icmp .gt 7, 3) := by decide +kernel
theorem dX10_isBetween_10 : decode cX10_isBetween 10 = .ok (.iconst 1, 1) := by decide +kernel
theorem dX10_isBetween_11 : decode cX10_isBetween 11 = .ok (.goto 4, 3) := by decide +kernel
theorem dX10_isBetween_14 : decode cX10_isBetween 14 = .ok (.iconst 0, 1) := by decide +kernel
theorem dX10_isBetween_15 : decode cX10_isBetween 15 = .ok (.ireturn, 1) := by decide +kernel
theorem dX10_thinks_0 : decode cX10_thinks 0 = .ok (.iconst 0, 1) := by decide +kernel
theorem dX10_thinks_1 : decode cX10_thinks 1 = .ok (.istore_n 1, 1) := by decide +kernel
theorem dX10_thinks_2 : decode cX10_thinks 2 = .ok (.iload_n 1, 1) := by decide +kernel
theorem dX10_thinks_3 : decode cX10_thinks 3 = .ok (.sipush 146, 3) := by decide +kernel
theorem dX10_thinks_6 : decode cX10_thinks 6 = .ok (.if_icmp .ge 21, 3) := by decide +kernel
theorem dX10_thinks_9 : decode cX10_thinks 9 = .ok (.aload_n 0, 1) := by decide +kernel
theorem dX10_thinks_10 : decode cX10_thinks 10 = .ok (.getfield 19, 3) := by decide +kernel
theorem dX10_thinks_13 : decode cX10_thinks 13 = .ok (.iload_n 1, 1) := by decide +kernel
theorem dX10_thinks_14 : decode cX10_thinks 14 = .ok (.aload_n 0, 1) := by decide +kernel
theorem dX10_thinks_15 : decode cX10_thinks 15 = .ok (.getfield 7, 3) := by decide +kernel
theorem dX10_thinks_18 : decode cX10_thinks 18 = .ok (.iload_n 1, 1) := by decide +kernel
theorem dX10_thinks_19 : decode cX10_thinks 19 = .ok (.iaload, 1) := by decide +kernel
theorem dX10_thinks_20 : decode cX10_thinks 20 = .ok (.iastore, 1) := by decide +kernel
theorem dX10_thinks_21 : decode cX10_thinks 21 = .ok (.iinc 1 1, 3) := by decide +kernel
theorem dX10_thinks_24 : decode cX10_thinks 24 = .ok (.goto (-22), 3) := by decide +kernel
theorem dX10_thinks_27 : decode cX10_thinks 27 = .ok (.iconst 0, 1) := by decide +kernel
theorem dX10_thinks_28 : decode cX10_thinks 28 = .ok (.istore_n 1, 1) := by decide +kernel
theorem dX10_thinks_29 : decode cX10_thinks 29 = .ok (.iload_n 1, 1) := by decide +kernel
theorem dX10_thinks_30 : decode cX10_thinks 30 = .ok (.bipush 36, 2) := by decide +kernel
theorem dX10_thinks_32 : decode cX10_thinks 32 = .ok (.if_icmp .ge 21, 3) := by decide +kernel
theorem dX10_thinks_35 : decode cX10_thinks 35 = .ok (.aload_n 0, 1) := by decide +kernel
theorem dX10_thinks_36 : decode cX10_thinks 36 = .ok (.getfield 32, 3) := by decide +kernel
theorem dX10_thinks_39 : decode cX10_thinks 39 = .ok (.iload_n 1, 1) := by decide +kernel
theorem dX10_thinks_40 : decode cX10_thinks 40 = .ok (.aload_n 0, 1) := by decide +kernel
theorem dX10_thinks_41 : decode cX10_thinks 41 = .ok (.getfield 22, 3) := by decide +kernel
theorem dX10_thinks_44 : decode cX10_thinks 44 = .ok (.iload_n 1, 1) := by decide +kernel
theorem dX10_thinks_45 : decode cX10_thinks 45 = .ok (.faload, 1) := by decide +kernel
theorem dX10_thinks_46 : decode cX10_thinks 46 = .ok (.fastore, 1) := by decide +kernel
theorem dX10_thinks_47 : decode cX10_thinks 47 = .ok (.iinc 1 1, 3) := by decide +kernel
theorem dX10_thinks_50 : decode cX10_thinks 50 = .ok (.goto (-21), 3) := by decide +kernel
theorem dX10_thinks_53 : decode cX10_thinks 53 = .ok (.return_, 1) := by decide +kernel
theorem dX10_forgets_0 : decode cX10_forgets 0 = .ok (.iconst 0, 1) := by decide +kernel
theorem dX10_forgets_1 : decode cX10_forgets 1 = .ok (.istore_n 1, 1) := by decide +kernel
theorem dX10_forgets_2 : decode cX10_forgets 2 = .ok (.iload_n 1, 1) := by decide +kernel
theorem dX10_forgets_3 : decode cX10_forgets 3 = .ok (.sipush 146, 3) := by decide +kernel
theorem dX10_forgets_6 : decode cX10_forgets 6 = .ok (.if_icmp .ge 21, 3) := by decide +kernel
theorem dX10_forgets_9 : decode cX10_forgets 9 = .ok (.aload_n 0, 1) := by decide +kernel
theorem dX10_forgets_10 : decode cX10_forgets 10 = .ok (.getfield 7, 3) := by decide +kernel
theorem dX10_forgets_13 : decode cX10_forgets 13 = .ok (.iload_n 1, 1) := by decide +kernel
theorem dX10_forgets_14 : decode cX10_forgets 14 = .ok (.aload_n 0, 1) := by decide +kernel
theorem dX10_forgets_15 : decode cX10_forgets 15 = .ok (.getfield 19, 3) := by decide +kernel
theorem dX10_forgets_18 : decode cX10_forgets 18 = .ok (.iload_n 1, 1) := by decide +kernel
theorem dX10_forgets_19 : decode cX10_forgets 19 = .ok (.iaload, 1) := by decide +kernel
theorem dX10_forgets_20 : decode cX10_forgets 20 = .ok (.iastore, 1) := by decide +kernel
theorem dX10_forgets_21 : decode cX10_forgets 21 = .ok (.iinc 1 1, 3) := by decide +kernel
theorem dX10_forgets_24 : decode cX10_forgets 24 = .ok (.goto (-22), 3) := by decide +kernel
theorem dX10_forgets_27 : decode cX10_forgets 27 = .ok (.iconst 0, 1) := by decide +kernel
theorem dX10_forgets_28 : decode cX10_forgets 28 = .ok (.istore_n 1, 1) := by decide +kernel
theorem dX10_forgets_29 : decode cX10_forgets 29 = .ok (.iload_n 1, 1) := by decide +kernel
theorem dX10_forgets_30 : decode cX10_forgets 30 = .ok (.bipush 36, 2) := by decide +kernel
theorem dX10_forgets_32 : decode cX10_forgets 32 = .ok (.if_icmp .ge 21, 3) := by decide +kernel
theorem dX10_forgets_35 : decode cX10_forgets 35 = .ok (.aload_n 0, 1) := by decide +kernel
theorem dX10_forgets_36 : decode cX10_forgets 36 = .ok (.getfield 22, 3) := by decide +kernel
theorem dX10_forgets_39 : decode cX10_forgets 39 = .ok (.iload_n 1, 1) := by decide +kernel
theorem dX10_forgets_40 : decode cX10_forgets 40 = .ok (.aload_n 0, 1) := by decide +kernel
theorem dX10_forgets_41 : decode cX10_forgets 41 = .ok (.getfield 32, 3) := by decide +kernel
theorem dX10_forgets_44 : decode cX10_forgets 44 = .ok (.iload_n 1, 1) := by decide +kernel
theorem dX10_forgets_45 : decode cX10_forgets 45 = .ok (.faload, 1) := by decide +kernel
theorem dX10_forgets_46 : decode cX10_forgets 46 = .ok (.fastore, 1) := by decide +kernel
theorem dX10_forgets_47 : decode cX10_forgets 47 = .ok (.iinc 1 1, 3) := by decide +kernel
theorem dX10_forgets_50 : decode cX10_forgets 50 = .ok (.goto (-21), 3) := by decide +kernel
theorem dX10_forgets_53 : decode cX10_forgets 53 = .ok (.return_, 1) := by decide +kernel
theorem dX10_keepsMind_0 : decode cX10_keepsMind 0 = .ok (.aload_n 0, 1) := by decide +kernel
theorem dX10_keepsMind_1 : decode cX10_keepsMind 1 = .ok (.getfield 69, 3) := by decide +kernel
theorem dX10_keepsMind_4 : decode cX10_keepsMind 4 = .ok (.bipush 8, 2) := by decide +kernel
theorem dX10_keepsMind_6 : decode cX10_keepsMind 6 = .ok (.if_icmp .ne 26, 3) := by decide +kernel
theorem dX10_keepsMind_9 : decode cX10_keepsMind 9 = .ok (.aload_n 0, 1) := by decide +kernel
theorem dX10_keepsMind_10 : decode cX10_keepsMind 10 = .ok (.aload_n 0, 1) := by decide +kernel
theorem dX10_keepsMind_11 : decode cX10_keepsMind 11 = .ok (.getfield 72, 3) := by decide +kernel
theorem dX10_keepsMind_14 : decode cX10_keepsMind 14 = .ok (.iconst 1, 1) := by decide +kernel
theorem dX10_keepsMind_15 : decode cX10_keepsMind 15 = .ok (.iadd, 1) := by decide +kernel
theorem dX10_keepsMind_16 : decode cX10_keepsMind 16 = .ok (.bipush 8, 2) := by decide +kernel
theorem dX10_keepsMind_18 : decode cX10_keepsMind 18 = .ok (.irem, 1) := by decide +kernel
theorem dX10_keepsMind_19 : decode cX10_keepsMind 19 = .ok (.putfield 72, 3) := by decide +kernel
theorem dX10_keepsMind_22 : decode cX10_keepsMind 22 = .ok (.aload_n 0, 1) := by decide +kernel
theorem dX10_keepsMind_23 : decode cX10_keepsMind 23 = .ok (.dup, 1) := by decide +kernel
theorem dX10_keepsMind_24 : decode cX10_keepsMind 24 = .ok (.getfield 69, 3) := by decide +kernel
theorem dX10_keepsMind_27 : decode cX10_keepsMind 27 = .ok (.iconst 1, 1) := by decide +kernel
theorem dX10_keepsMind_28 : decode cX10_keepsMind 28 = .ok (.isub, 1) := by decide +kernel
theorem dX10_keepsMind_29 : decode cX10_keepsMind 29 = .ok (.putfield 69, 3) := by decide +kernel
theorem dX10_keepsMind_32 : decode cX10_keepsMind 32 = .ok (.aload_n 0, 1) := by decide +kernel
theorem dX10_keepsMind_33 : decode cX10_keepsMind 33 = .ok (.getfield 72, 3) := by decide +kernel
theorem dX10_keepsMind_36 : decode cX10_keepsMind 36 = .ok (.aload_n 0, 1) := by decide +kernel
theorem dX10_keepsMind_37 : decode cX10_keepsMind 37 = .ok (.getfield 69, 3) := by decide +kernel
theorem dX10_keepsMind_40 : decode cX10_keepsMind 40 = .ok (.iadd, 1) := by decide +kernel
theorem dX10_keepsMind_41 : decode cX10_keepsMind 41 = .ok (.bipush 8, 2) := by decide +kernel
theorem dX10_keepsMind_43 : decode cX10_keepsMind 43 = .ok (.irem, 1) := by decide +kernel
theorem dX10_keepsMind_44 : decode cX10_keepsMind 44 = .ok (.istore_n 1, 1) := by decide +kernel
theorem dX10_keepsMind_45 : decode cX10_keepsMind 45 = .ok (.iconst 0, 1) := by decide +kernel
theorem dX10_keepsMind_46 : decode cX10_keepsMind 46 = .ok (.istore_n 2, 1) := by decide +kernel
theorem dX10_keepsMind_47 : decode cX10_keepsMind 47 = .ok (.iload_n 2, 1) := by decide +kernel
theorem dX10_keepsMind_48 : decode cX10_keepsMind 48 = .ok (.sipush 146, 3) := by decide +kernel
theorem dX10_keepsMind_51 : decode cX10_keepsMind 51 = .ok (.if_icmp .ge 27, 3) := by decide +kernel
theorem dX10_keepsMind_54 : decode cX10_keepsMind 54 = .ok (.aload_n 0, 1) := by decide +kernel
theorem dX10_keepsMind_55 : decode cX10_keepsMind 55 = .ok (.getfield 13, 3) := by decide +kernel
theorem dX10_keepsMind_58 : decode cX10_keepsMind 58 = .ok (.sipush 146, 3) := by decide +kernel
theorem dX10_keepsMind_61 : decode cX10_keepsMind 61 = .ok (.iload_n 1, 1) := by decide +kernel
theorem dX10_keepsMind_62 : decode cX10_keepsMind 62 = .ok (.imul, 1) := by decide +kernel
theorem dX10_keepsMind_63 : decode cX10_keepsMind 63 = .ok (.iload_n 2, 1) := by decide +kernel
theorem dX10_keepsMind_64 : decode cX10_keepsMind 64 = .ok (.iadd, 1) := by decide +kernel
theorem dX10_keepsMind_65 : decode cX10_keepsMind 65 = .ok (.aload_n 0, 1) := by decide +kernel
theorem dX10_keepsMind_66 : decode cX10_keepsMind 66 = .ok (.getfield 19, 3) := by decide +kernel
theorem dX10_keepsMind_69 : decode cX10_keepsMind 69 = .ok (.iload_n 2, 1) := by decide +kernel
theorem dX10_keepsMind_70 : decode cX10_keepsMind 70 = .ok (.iaload, 1) := by decide +kernel
theorem dX10_keepsMind_71 : decode cX10_keepsMind 71 = .ok (.iastore, 1) := by decide +kernel
theorem dX10_keepsMind_72 : decode cX10_keepsMind 72 = .ok (.iinc 2 1, 3) := by decide +kernel
theorem dX10_keepsMind_75 : decode cX10_keepsMind 75 = .ok (.goto (-28), 3) := by decide +kernel
theorem dX10_keepsMind_78 : decode cX10_keepsMind 78 = .ok (.iconst 0, 1) := by decide +kernel
theorem dX10_keepsMind_79 : decode cX10_keepsMind 79 = .ok (.istore_n 2, 1) := by decide +kernel
theorem dX10_keepsMind_80 : decode cX10_keepsMind 80 = .ok (.iload_n 2, 1) := by decide +kernel
theorem dX10_keepsMind_81 : decode cX10_keepsMind 81 = .ok (.bipush 36, 2) := by decide +kernel
theorem dX10_keepsMind_83 : decode cX10_keepsMind 83 = .ok (.if_icmp .ge 26, 3) := by decide +kernel
theorem dX10_keepsMind_86 : decode cX10_keepsMind 86 = .ok (.aload_n 0, 1) := by decide +kernel
theorem dX10_keepsMind_87 : decode cX10_keepsMind 87 = .ok (.getfield 26, 3) := by decide +kernel
theorem dX10_keepsMind_90 : decode cX10_keepsMind 90 = .ok (.bipush 36, 2) := by decide +kernel
theorem dX10_keepsMind_92 : decode cX10_keepsMind 92 = .ok (.iload_n 1, 1) := by decide +kernel
theorem dX10_keepsMind_93 : decode cX10_keepsMind 93 = .ok (.imul, 1) := by decide +kernel
theorem dX10_keepsMind_94 : decode cX10_keepsMind 94 = .ok (.iload_n 2, 1) := by decide +kernel
theorem dX10_keepsMind_95 : decode cX10_keepsMind 95 = .ok (.iadd, 1) := by decide +kernel
theorem dX10_keepsMind_96 : decode cX10_keepsMind 96 = .ok (.aload_n 0, 1) := by decide +kernel
theorem dX10_keepsMind_97 : decode cX10_keepsMind 97 = .ok (.getfield 32, 3) := by decide +kernel
theorem dX10_keepsMind_100 : decode cX10_keepsMind 100 = .ok (.iload_n 2, 1) := by decide +kernel
theorem dX10_keepsMind_101 : decode cX10_keepsMind 101 = .ok (.faload, 1) := by decide +kernel
theorem dX10_keepsMind_102 : decode cX10_keepsMind 102 = .ok (.fastore, 1) := by decide +kernel
theorem dX10_keepsMind_103 : decode cX10_keepsMind 103 = .ok (.iinc 2 1, 3) := by decide +kernel
theorem dX10_keepsMind_106 : decode cX10_keepsMind 106 = .ok (.goto (-26), 3) := by decide +kernel
theorem dX10_keepsMind_109 : decode cX10_keepsMind 109 = .ok (.aload_n 0, 1) := by decide +kernel
theorem dX10_keepsMind_110 : decode cX10_keepsMind 110 = .ok (.dup, 1) := by decide +kernel
theorem dX10_keepsMind_111 : decode cX10_keepsMind 111 = .ok (.getfield 69, 3) := by decide +kernel
theorem dX10_keepsMind_114 : decode cX10_keepsMind 114 = .ok (.iconst 1, 1) := by decide +kernel
theorem dX10_keepsMind_115 : decode cX10_keepsMind 115 = .ok (.iadd, 1) := by decide +kernel
theorem dX10_keepsMind_116 : decode cX10_keepsMind 116 = .ok (.putfield 69, 3) := by decide +kernel
theorem dX10_keepsMind_119 : decode cX10_keepsMind 119 = .ok (.return_, 1) := by decide +kernel
theorem dX10_remembers_0 : decode cX10_remembers 0 = .ok (.aload_n 0, 1) := by decide +kernel
theorem dX10_remembers_1 : decode cX10_remembers 1 = .ok (.invokevirtual 75, 3) := by decide +kernel
theorem dX10_remembers_4 : decode cX10_remembers 4 = .ok (.aload_n 0, 1) := by decide +kernel
theorem dX10_remembers_5 : decode cX10_remembers 5 = .ok (.invokevirtual 78, 3) := by decide +kernel
theorem dX10_remembers_8 : decode cX10_remembers 8 = .ok (.return_, 1) := by decide +kernel
theorem dX10_of_0 : decode cX10_of 0 = .ok (.aload_n 0, 1) := by decide +kernel
theorem dX10_of_1 : decode cX10_of 1 = .ok (.getfield 7, 3) := by decide +kernel
theorem dX10_of_4 : decode cX10_of 4 = .ok (.bipush 6, 2) := by decide +kernel
theorem dX10_of_6 : decode cX10_of 6 = .ok (.bipush 7, 2) := by decide +kernel
theorem dX10_of_8 : decode cX10_of 8 = .ok (.iload_n 1, 1) := by decide +kernel
theorem dX10_of_9 : decode cX10_of 9 = .ok (.imul, 1) := by decide +kernel
theorem dX10_of_10 : decode cX10_of 10 = .ok (.iadd, 1) := by decide +kernel
theorem dX10_of_11 : decode cX10_of 11 = .ok (.iload_n 2, 1) := by decide +kernel
theorem dX10_of_12 : decode cX10_of 12 = .ok (.iadd, 1) := by decide +kernel
theorem dX10_of_13 : decode cX10_of 13 = .ok (.iaload, 1) := by decide +kernel
theorem dX10_of_14 : decode cX10_of 14 = .ok (.ireturn, 1) := by decide +kernel
theorem dX10_sets_0 : decode cX10_sets 0 = .ok (.aload_n 0, 1) := by decide +kernel
theorem dX10_sets_1 : decode cX10_sets 1 = .ok (.getfield 7, 3) := by decide +kernel
theorem dX10_sets_4 : decode cX10_sets 4 = .ok (.bipush 6, 2) := by decide +kernel
theorem dX10_sets_6 : decode cX10_sets 6 = .ok (.bipush 7, 2) := by decide +kernel
theorem dX10_sets_8 : decode cX10_sets 8 = .ok (.iload_n 1, 1) := by decide +kernel
theorem dX10_sets_9 : decode cX10_sets 9 = .ok (.imul, 1) := by decide +kernel
theorem dX10_sets_10 : decode cX10_sets 10 = .ok (.iadd, 1) := by decide +kernel
theorem dX10_sets_11 : decode cX10_sets 11 = .ok (.iload_n 2, 1) := by decide +kernel
theorem dX10_sets_12 : decode cX10_sets 12 = .ok (.iadd, 1) := by decide +kernel
theorem dX10_sets_13 : decode cX10_sets 13 = .ok (.iload_n 3, 1) := by decide +kernel
theorem dX10_sets_14 : decode cX10_sets 14 = .ok (.iastore, 1) := by decide +kernel
theorem dX10_sets_15 : decode cX10_sets 15 = .ok (.return_, 1) := by decide +kernel
theorem dX10_isChild_0 : decode cX10_isChild 0 = .ok (.iload_n 0, 1) := by decide +kernel
theorem dX10_isChild_1 : decode cX10_isChild 1 = .ok (.iconst 0, 1) := by decide +kernel
theorem dX10_isChild_2 : decode cX10_isChild 2 = .ok (.iconst 5, 1) := by decide +kernel
theorem dX10_isChild_3 : decode cX10_isChild 3 = .ok (.invokestatic 81, 3) := by decide +kernel
theorem dX10_isChild_6 : decode cX10_isChild 6 = .ok (.ireturn, 1) := by decide +kernel
theorem dX10_isCrayon_0 : decode cX10_isCrayon 0 = .ok (.iload_n 1, 1) := by decide +kernel
theorem dX10_isCrayon_1 : decode cX10_isCrayon 1 = .ok (.iconst 0, 1) := by decide +kernel
theorem dX10_isCrayon_2 : decode cX10_isCrayon 2 = .ok (.aload_n 0, 1) := by decide +kernel
theorem dX10_isCrayon_3 : decode cX10_isCrayon 3 = .ok (.getfield 7, 3) := by decide +kernel
theorem dX10_isCrayon_6 : decode cX10_isCrayon 6 = .ok (.iconst 1, 1) := by decide +kernel
theorem dX10_isCrayon_7 : decode cX10_isCrayon 7 = .ok (.iaload, 1) := by decide +kernel
theorem dX10_isCrayon_8 : decode cX10_isCrayon 8 = .ok (.iconst 1, 1) := by decide +kernel
theorem dX10_isCrayon_9 : decode cX10_isCrayon 9 = .ok (.isub, 1) := by decide +kernel
theorem dX10_isCrayon_10 : decode cX10_isCrayon 10 = .ok (.invokestatic 81, 3) := by decide +kernel
theorem dX10_isCrayon_13 : decode cX10_isCrayon 13 = .ok (.ireturn, 1) := by decide +kernel
theorem dX10_isItem_0 : decode cX10_isItem 0 = .ok (.iload_n 1, 1) := by decide +kernel
theorem dX10_isItem_1 : decode cX10_isItem 1 = .ok (.iconst 0, 1) := by decide +kernel
theorem dX10_isItem_2 : decode cX10_isItem 2 = .ok (.aload_n 0, 1) := by decide +kernel
theorem dX10_isItem_3 : decode cX10_isItem 3 = .ok (.getfield 7, 3) := by decide +kernel
theorem dX10_isItem_6 : decode cX10_isItem 6 = .ok (.iconst 2, 1) := by decide +kernel
theorem dX10_isItem_7 : decode cX10_isItem 7 = .ok (.iaload, 1) := by decide +kernel
theorem dX10_isItem_8 : decode cX10_isItem 8 = .ok (.iconst 1, 1) := by decide +kernel
theorem dX10_isItem_9 : decode cX10_isItem 9 = .ok (.isub, 1) := by decide +kernel
theorem dX10_isItem_10 : decode cX10_isItem 10 = .ok (.invokestatic 81, 3) := by decide +kernel
theorem dX10_isItem_13 : decode cX10_isItem 13 = .ok (.ireturn, 1) := by decide +kernel
theorem dX10_isPotato_0 : decode cX10_isPotato 0 = .ok (.iload_n 1, 1) := by decide +kernel
theorem dX10_isPotato_1 : decode cX10_isPotato 1 = .ok (.iconst 0, 1) := by decide +kernel
theorem dX10_isPotato_2 : decode cX10_isPotato 2 = .ok (.aload_n 0, 1) := by decide +kernel
theorem dX10_isPotato_3 : decode cX10_isPotato 3 = .ok (.getfield 7, 3) := by decide +kernel
theorem dX10_isPotato_6 : decode cX10_isPotato 6 = .ok (.iconst 3, 1) := by decide +kernel
theorem dX10_isPotato_7 : decode cX10_isPotato 7 = .ok (.iaload, 1) := by decide +kernel
theorem dX10_isPotato_8 : decode cX10_isPotato 8 = .ok (.iconst 1, 1) := by decide +kernel
theorem dX10_isPotato_9 : decode cX10_isPotato 9 = .ok (.isub, 1) := by decide +kernel
theorem dX10_isPotato_10 : decode cX10_isPotato 10 = .ok (.invokestatic 81, 3) := by decide +kernel
theorem dX10_isPotato_13 : decode cX10_isPotato 13 = .ok (.ireturn, 1) := by decide +kernel
theorem dX10_isLetter_0 : decode cX10_isLetter 0 = .ok (.aload_n 0, 1) := by decide +kernel
theorem dX10_isLetter_1 : decode cX10_isLetter 1 = .ok (.iload_n 1, 1) := by decide +kernel
theorem dX10_isLetter_2 : decode cX10_isLetter 2 = .ok (.iconst 0, 1) := by decide +kernel
theorem dX10_isLetter_3 : decode cX10_isLetter 3 = .ok (.invokevirtual 85, 3) := by decide +kernel
theorem dX10_isLetter_6 : decode cX10_isLetter 6 = .ok (.ifCond .ne 7, 3) := by decide +kernel
theorem dX10_isLetter_9 : decode cX10_isLetter 9 = .ok (.iconst 1, 1) := by decide +kernel
theorem dX10_isLetter_10 : decode cX10_isLetter 10 = .ok (.goto 4, 3) := by decide +kernel
theorem dX10_isLetter_13 : decode cX10_isLetter 13 = .ok (.iconst 0, 1) := by decide +kernel
theorem dX10_isLetter_14 : decode cX10_isLetter 14 = .ok (.ireturn, 1) := by decide +kernel
theorem dX10_crayon_0 : decode cX10_crayon 0 = .ok (.aload_n 0, 1) := by decide +kernel
theorem dX10_crayon_1 : decode cX10_crayon 1 = .ok (.iconst 0, 1) := by decide +kernel
theorem dX10_crayon_2 : decode cX10_crayon 2 = .ok (.putfield 50, 3) := by decide +kernel
theorem dX10_crayon_5 : decode cX10_crayon 5 = .ok (.iload_n 1, 1) := by decide +kernel
theorem dX10_crayon_6 : decode cX10_crayon 6 = .ok (.bipush 10, 2) := by decide +kernel
theorem dX10_crayon_8 : decode cX10_crayon 8 = .ok (.bipush 120, 2) := by decide +kernel
theorem dX10_crayon_10 : decode cX10_crayon 10 = .ok (.invokestatic 81, 3) := by decide +kernel
theorem dX10_crayon_13 : decode cX10_crayon 13 = .ok (.ifCond .ne 9, 3) := by decide +kernel
theorem dX10_crayon_16 : decode cX10_crayon 16 = .ok (.aload_n 0, 1) := by decide +kernel
theorem dX10_crayon_17 : decode cX10_crayon 17 = .ok (.iconst 1, 1) := by decide +kernel
theorem dX10_crayon_18 : decode cX10_crayon 18 = .ok (.invokevirtual 59, 3) := by decide +kernel
theorem dX10_crayon_21 : decode cX10_crayon 21 = .ok (.ireturn, 1) := by decide +kernel
theorem dX10_crayon_22 : decode cX10_crayon 22 = .ok (.aload_n 0, 1) := by decide +kernel
theorem dX10_crayon_23 : decode cX10_crayon 23 = .ok (.getfield 7, 3) := by decide +kernel
theorem dX10_crayon_26 : decode cX10_crayon 26 = .ok (.iconst 1, 1) := by decide +kernel
theorem dX10_crayon_27 : decode cX10_crayon 27 = .ok (.iaload, 1) := by decide +kernel
theorem dX10_crayon_28 : decode cX10_crayon 28 = .ok (.bipush 8, 2) := by decide +kernel
theorem dX10_crayon_30 : decode cX10_crayon 30 = .ok (.if_icmp .ne 16, 3) := by decide +kernel
theorem dX10_crayon_33 : decode cX10_crayon 33 = .ok (.aload_n 0, 1) := by decide +kernel
theorem dX10_crayon_34 : decode cX10_crayon 34 = .ok (.aload_n 0, 1) := by decide +kernel
theorem dX10_crayon_35 : decode cX10_crayon 35 = .ok (.iconst 1, 1) := by decide +kernel
theorem dX10_crayon_36 : decode cX10_crayon 36 = .ok (.bipush 8, 2) := by decide +kernel
theorem dX10_crayon_38 : decode cX10_crayon 38 = .ok (.invokevirtual 89, 3) := by decide +kernel
theorem dX10_crayon_41 : decode cX10_crayon 41 = .ok (.iconst 2, 1) := by decide +kernel
theorem dX10_crayon_42 : decode cX10_crayon 42 = .ok (.invokevirtual 92, 3) := by decide +kernel
theorem dX10_crayon_45 : decode cX10_crayon 45 = .ok (.ireturn, 1) := by decide +kernel
theorem dX10_crayon_46 : decode cX10_crayon 46 = .ok (.aload_n 0, 1) := by decide +kernel
theorem dX10_crayon_47 : decode cX10_crayon 47 = .ok (.invokevirtual 95, 3) := by decide +kernel
theorem dX10_crayon_50 : decode cX10_crayon 50 = .ok (.aload_n 0, 1) := by decide +kernel
theorem dX10_crayon_51 : decode cX10_crayon 51 = .ok (.getfield 7, 3) := by decide +kernel
theorem dX10_crayon_54 : decode cX10_crayon 54 = .ok (.iconst 1, 1) := by decide +kernel
theorem dX10_crayon_55 : decode cX10_crayon 55 = .ok (.iaload, 1) := by decide +kernel
theorem dX10_crayon_56 : decode cX10_crayon 56 = .ok (.istore_n 2, 1) := by decide +kernel
theorem dX10_crayon_57 : decode cX10_crayon 57 = .ok (.aload_n 0, 1) := by decide +kernel
theorem dX10_crayon_58 : decode cX10_crayon 58 = .ok (.getfield 7, 3) := by decide +kernel
theorem dX10_crayon_61 : decode cX10_crayon 61 = .ok (.iconst 1, 1) := by decide +kernel
theorem dX10_crayon_62 : decode cX10_crayon 62 = .ok (.dup2, 1) := by decide +kernel
theorem dX10_crayon_63 : decode cX10_crayon 63 = .ok (.iaload, 1) := by decide +kernel
theorem dX10_crayon_64 : decode cX10_crayon 64 = .ok (.iconst 1, 1) := by decide +kernel
theorem dX10_crayon_65 : decode cX10_crayon 65 = .ok (.iadd, 1) := by decide +kernel
theorem dX10_crayon_66 : decode cX10_crayon 66 = .ok (.iastore, 1) := by decide +kernel
theorem dX10_crayon_67 : decode cX10_crayon 67 = .ok (.aload_n 0, 1) := by decide +kernel
theorem dX10_crayon_68 : decode cX10_crayon 68 = .ok (.getfield 22, 3) := by decide +kernel
theorem dX10_crayon_71 : decode cX10_crayon 71 = .ok (.iload_n 2, 1) := by decide +kernel
theorem dX10_crayon_72 : decode cX10_crayon 72 = .ok (.ldc 98, 2) := by decide +kernel
theorem dX10_crayon_74 : decode cX10_crayon 74 = .ok (.iload_n 1, 1) := by decide +kernel
theorem dX10_crayon_75 : decode cX10_crayon 75 = .ok (.i2f, 1) := by decide +kernel
theorem dX10_crayon_76 : decode cX10_crayon 76 = .ok (.fmul, 1) := by decide +kernel
theorem dX10_crayon_77 : decode cX10_crayon 77 = .ok (.fastore, 1) := by decide +kernel
theorem dX10_crayon_78 : decode cX10_crayon 78 = .ok (.iload_n 2, 1) := by decide +kernel
theorem dX10_crayon_79 : decode cX10_crayon 79 = .ok (.ireturn, 1) := by decide +kernel
theorem dX10_crayonOf_0 : decode cX10_crayonOf 0 = .ok (.aload_n 0, 1) := by decide +kernel
theorem dX10_crayonOf_1 : decode cX10_crayonOf 1 = .ok (.iconst 0, 1) := by decide +kernel
theorem dX10_crayonOf_2 : decode cX10_crayonOf 2 = .ok (.putfield 50, 3) := by decide +kernel
theorem dX10_crayonOf_5 : decode cX10_crayonOf 5 = .ok (.aload_n 0, 1) := by decide +kernel
theorem dX10_crayonOf_6 : decode cX10_crayonOf 6 = .ok (.iload_n 1, 1) := by decide +kernel
theorem dX10_crayonOf_7 : decode cX10_crayonOf 7 = .ok (.invokevirtual 99, 3) := by decide +kernel
theorem dX10_crayonOf_10 : decode cX10_crayonOf 10 = .ok (.ifCond .eq 12, 3) := by decide +kernel
theorem dX10_crayonOf_13 : decode cX10_crayonOf 13 = .ok (.aload_n 0, 1) := by decide +kernel
theorem dX10_crayonOf_14 : decode cX10_crayonOf 14 = .ok (.getfield 22, 3) := by decide +kernel
theorem dX10_crayonOf_17 : decode cX10_crayonOf 17 = .ok (.iload_n 1, 1) := by decide +kernel
theorem dX10_crayonOf_18 : decode cX10_crayonOf 18 = .ok (.faload, 1) := by decide +kernel
theorem dX10_crayonOf_19 : decode cX10_crayonOf 19 = .ok (.goto 9, 3) := by decide +kernel
theorem dX10_crayonOf_22 : decode cX10_crayonOf 22 = .ok (.aload_n 0, 1) := by decide +kernel
theorem dX10_crayonOf_23 : decode cX10_crayonOf 23 = .ok (.iconst 1, 1) := by decide +kernel
theorem dX10_crayonOf_24 : decode cX10_crayonOf 24 = .ok (.invokevirtual 59, 3) := by decide +kernel
theorem dX10_crayonOf_27 : decode cX10_crayonOf 27 = .ok (.i2f, 1) := by decide +kernel
theorem dX10_crayonOf_28 : decode cX10_crayonOf 28 = .ok (.freturn, 1) := by decide +kernel
theorem dX10_wears_0 : decode cX10_wears 0 = .ok (.ldc 103, 2) := by decide +kernel
theorem dX10_wears_2 : decode cX10_wears 2 = .ok (.iload_n 0, 1) := by decide +kernel
theorem dX10_wears_3 : decode cX10_wears 3 = .ok (.i2f, 1) := by decide +kernel
theorem dX10_wears_4 : decode cX10_wears 4 = .ok (.fmul, 1) := by decide +kernel
theorem dX10_wears_5 : decode cX10_wears 5 = .ok (.freturn, 1) := by decide +kernel
theorem dX10_makes_0 : decode cX10_makes 0 = .ok (.aload_n 0, 1) := by decide +kernel
theorem dX10_makes_1 : decode cX10_makes 1 = .ok (.getfield 7, 3) := by decide +kernel
theorem dX10_makes_4 : decode cX10_makes 4 = .ok (.iconst 2, 1) := by decide +kernel
theorem dX10_makes_5 : decode cX10_makes 5 = .ok (.iaload, 1) := by decide +kernel
theorem dX10_makes_6 : decode cX10_makes 6 = .ok (.istore 5, 2) := by decide +kernel
theorem dX10_makes_8 : decode cX10_makes 8 = .ok (.aload_n 0, 1) := by decide +kernel
theorem dX10_makes_9 : decode cX10_makes 9 = .ok (.getfield 7, 3) := by decide +kernel
theorem dX10_makes_12 : decode cX10_makes 12 = .ok (.iconst 2, 1) := by decide +kernel
theorem dX10_makes_13 : decode cX10_makes 13 = .ok (.dup2, 1) := by decide +kernel
theorem dX10_makes_14 : decode cX10_makes 14 = .ok (.iaload, 1) := by decide +kernel
theorem dX10_makes_15 : decode cX10_makes 15 = .ok (.iconst 1, 1) := by decide +kernel
theorem dX10_makes_16 : decode cX10_makes 16 = .ok (.iadd, 1) := by decide +kernel
theorem dX10_makes_17 : decode cX10_makes 17 = .ok (.iastore, 1) := by decide +kernel
theorem dX10_makes_18 : decode cX10_makes 18 = .ok (.aload_n 0, 1) := by decide +kernel
theorem dX10_makes_19 : decode cX10_makes 19 = .ok (.iload 5, 2) := by decide +kernel
theorem dX10_makes_21 : decode cX10_makes 21 = .ok (.iconst 0, 1) := by decide +kernel
theorem dX10_makes_22 : decode cX10_makes 22 = .ok (.iload_n 1, 1) := by decide +kernel
theorem dX10_makes_23 : decode cX10_makes 23 = .ok (.invokevirtual 104, 3) := by decide +kernel
theorem dX10_makes_26 : decode cX10_makes 26 = .ok (.aload_n 0, 1) := by decide +kernel
theorem dX10_makes_27 : decode cX10_makes 27 = .ok (.iload 5, 2) := by decide +kernel
theorem dX10_makes_29 : decode cX10_makes 29 = .ok (.iconst 1, 1) := by decide +kernel
theorem dX10_makes_30 : decode cX10_makes 30 = .ok (.iload_n 2, 1) := by decide +kernel
theorem dX10_makes_31 : decode cX10_makes 31 = .ok (.invokevirtual 104, 3) := by decide +kernel
theorem dX10_makes_34 : decode cX10_makes 34 = .ok (.aload_n 0, 1) := by decide +kernel
theorem dX10_makes_35 : decode cX10_makes 35 = .ok (.iload 5, 2) := by decide +kernel
theorem dX10_makes_37 : decode cX10_makes 37 = .ok (.iconst 2, 1) := by decide +kernel
theorem dX10_makes_38 : decode cX10_makes 38 = .ok (.iload_n 3, 1) := by decide +kernel
theorem dX10_makes_39 : decode cX10_makes 39 = .ok (.invokevirtual 104, 3) := by decide +kernel
theorem dX10_makes_42 : decode cX10_makes 42 = .ok (.aload_n 0, 1) := by decide +kernel
theorem dX10_makes_43 : decode cX10_makes 43 = .ok (.iload 5, 2) := by decide +kernel
theorem dX10_makes_45 : decode cX10_makes 45 = .ok (.iconst 3, 1) := by decide +kernel
theorem dX10_makes_46 : decode cX10_makes 46 = .ok (.iload 4, 2) := by decide +kernel
theorem dX10_makes_48 : decode cX10_makes 48 = .ok (.invokevirtual 104, 3) := by decide +kernel
theorem dX10_makes_51 : decode cX10_makes 51 = .ok (.iload 5, 2) := by decide +kernel
theorem dX10_makes_53 : decode cX10_makes 53 = .ok (.ireturn, 1) := by decide +kernel
theorem dX10_notLetter_0 : decode cX10_notLetter 0 = .ok (.iload_n 1, 1) := by decide +kernel
theorem dX10_notLetter_1 : decode cX10_notLetter 1 = .ok (.invokestatic 108, 3) := by decide +kernel
theorem dX10_notLetter_4 : decode cX10_notLetter 4 = .ok (.ifCond .eq 19, 3) := by decide +kernel
theorem dX10_notLetter_7 : decode cX10_notLetter 7 = .ok (.iload_n 2, 1) := by decide +kernel
theorem dX10_notLetter_8 : decode cX10_notLetter 8 = .ok (.invokestatic 108, 3) := by decide +kernel
theorem dX10_notLetter_11 : decode cX10_notLetter 11 = .ok (.ifCond .eq 12, 3) := by decide +kernel
theorem dX10_notLetter_14 : decode cX10_notLetter 14 = .ok (.aload_n 0, 1) := by decide +kernel
theorem dX10_notLetter_15 : decode cX10_notLetter 15 = .ok (.iload 4, 2) := by decide +kernel
theorem dX10_notLetter_17 : decode cX10_notLetter 17 = .ok (.invokevirtual 99, 3) := by decide +kernel
theorem dX10_notLetter_20 : decode cX10_notLetter 20 = .ok (.ifCond .ne 5, 3) := by decide +kernel
theorem dX10_notLetter_23 : decode cX10_notLetter 23 = .ok (.iconst 1, 1) := by decide +kernel
theorem dX10_notLetter_24 : decode cX10_notLetter 24 = .ok (.ireturn, 1) := by decide +kernel
theorem dX10_notLetter_25 : decode cX10_notLetter 25 = .ok (.iload_n 3, 1) := by decide +kernel
theorem dX10_notLetter_26 : decode cX10_notLetter 26 = .ok (.iconst 1, 1) := by decide +kernel
theorem dX10_notLetter_27 : decode cX10_notLetter 27 = .ok (.bipush 40, 2) := by decide +kernel
theorem dX10_notLetter_29 : decode cX10_notLetter 29 = .ok (.invokestatic 81, 3) := by decide +kernel
theorem dX10_notLetter_32 : decode cX10_notLetter 32 = .ok (.ifCond .ne 5, 3) := by decide +kernel
theorem dX10_notLetter_35 : decode cX10_notLetter 35 = .ok (.iconst 2, 1) := by decide +kernel
theorem dX10_notLetter_36 : decode cX10_notLetter 36 = .ok (.ireturn, 1) := by decide +kernel
theorem dX10_notLetter_37 : decode cX10_notLetter 37 = .ok (.aload_n 0, 1) := by decide +kernel
theorem dX10_notLetter_38 : decode cX10_notLetter 38 = .ok (.getfield 7, 3) := by decide +kernel
theorem dX10_notLetter_41 : decode cX10_notLetter 41 = .ok (.iconst 2, 1) := by decide +kernel
theorem dX10_notLetter_42 : decode cX10_notLetter 42 = .ok (.iaload, 1) := by decide +kernel
theorem dX10_notLetter_43 : decode cX10_notLetter 43 = .ok (.bipush 20, 2) := by decide +kernel
theorem dX10_notLetter_45 : decode cX10_notLetter 45 = .ok (.if_icmp .ne 11, 3) := by decide +kernel
theorem dX10_notLetter_48 : decode cX10_notLetter 48 = .ok (.aload_n 0, 1) := by decide +kernel
theorem dX10_notLetter_49 : decode cX10_notLetter 49 = .ok (.iconst 1, 1) := by decide +kernel
theorem dX10_notLetter_50 : decode cX10_notLetter 50 = .ok (.bipush 20, 2) := by decide +kernel
theorem dX10_notLetter_52 : decode cX10_notLetter 52 = .ok (.invokevirtual 89, 3) := by decide +kernel
theorem dX10_notLetter_55 : decode cX10_notLetter 55 = .ok (.ireturn, 1) := by decide +kernel
theorem dX10_notLetter_56 : decode cX10_notLetter 56 = .ok (.iload_n 1, 1) := by decide +kernel
theorem dX10_notLetter_57 : decode cX10_notLetter 57 = .ok (.iload_n 2, 1) := by decide +kernel
theorem dX10_notLetter_58 : decode cX10_notLetter 58 = .ok (.if_icmp .ne 10, 3) := by decide +kernel
theorem dX10_notLetter_61 : decode cX10_notLetter 61 = .ok (.aload_n 0, 1) := by decide +kernel
theorem dX10_notLetter_62 : decode cX10_notLetter 62 = .ok (.iconst 2, 1) := by decide +kernel
theorem dX10_notLetter_63 : decode cX10_notLetter 63 = .ok (.iload_n 1, 1) := by decide +kernel
theorem dX10_notLetter_64 : decode cX10_notLetter 64 = .ok (.invokevirtual 89, 3) := by decide +kernel
theorem dX10_notLetter_67 : decode cX10_notLetter 67 = .ok (.ireturn, 1) := by decide +kernel
theorem dX10_notLetter_68 : decode cX10_notLetter 68 = .ok (.aload_n 0, 1) := by decide +kernel
theorem dX10_notLetter_69 : decode cX10_notLetter 69 = .ok (.getfield 22, 3) := by decide +kernel
theorem dX10_notLetter_72 : decode cX10_notLetter 72 = .ok (.iload 4, 2) := by decide +kernel
theorem dX10_notLetter_74 : decode cX10_notLetter 74 = .ok (.faload, 1) := by decide +kernel
theorem dX10_notLetter_75 : decode cX10_notLetter 75 = .ok (.iload_n 3, 1) := by decide +kernel
theorem dX10_notLetter_76 : decode cX10_notLetter 76 = .ok (.invokestatic 111, 3) := by decide +kernel
theorem dX10_notLetter_79 : decode cX10_notLetter 79 = .ok (.fcmp .l, 1) := by decide +kernel
theorem dX10_notLetter_80 : decode cX10_notLetter 80 = .ok (.ifCond .lt 7, 3) := by decide +kernel
theorem dX10_notLetter_83 : decode cX10_notLetter 83 = .ok (.iconst 0, 1) := by decide +kernel
theorem dX10_notLetter_84 : decode cX10_notLetter 84 = .ok (.goto 10, 3) := by decide +kernel
theorem dX10_notLetter_87 : decode cX10_notLetter 87 = .ok (.aload_n 0, 1) := by decide +kernel
theorem dX10_notLetter_88 : decode cX10_notLetter 88 = .ok (.iconst 3, 1) := by decide +kernel
theorem dX10_notLetter_89 : decode cX10_notLetter 89 = .ok (.iload 4, 2) := by decide +kernel
theorem dX10_notLetter_91 : decode cX10_notLetter 91 = .ok (.invokevirtual 89, 3) := by decide +kernel
theorem dX10_notLetter_94 : decode cX10_notLetter 94 = .ok (.ireturn, 1) := by decide +kernel
theorem dX10_writes_0 : decode cX10_writes 0 = .ok (.aload_n 0, 1) := by decide +kernel
theorem dX10_writes_1 : decode cX10_writes 1 = .ok (.getfield 22, 3) := by decide +kernel
theorem dX10_writes_4 : decode cX10_writes 4 = .ok (.iload 4, 2) := by decide +kernel
theorem dX10_writes_6 : decode cX10_writes 6 = .ok (.aload_n 0, 1) := by decide +kernel
theorem dX10_writes_7 : decode cX10_writes 7 = .ok (.getfield 22, 3) := by decide +kernel
theorem dX10_writes_10 : decode cX10_writes 10 = .ok (.iload 4, 2) := by decide +kernel
theorem dX10_writes_12 : decode cX10_writes 12 = .ok (.faload, 1) := by decide +kernel
theorem dX10_writes_13 : decode cX10_writes 13 = .ok (.iload_n 3, 1) := by decide +kernel
theorem dX10_writes_14 : decode cX10_writes 14 = .ok (.invokestatic 111, 3) := by decide +kernel
theorem dX10_writes_17 : decode cX10_writes 17 = .ok (.fsub, 1) := by decide +kernel
theorem dX10_writes_18 : decode cX10_writes 18 = .ok (.fastore, 1) := by decide +kernel
theorem dX10_writes_19 : decode cX10_writes 19 = .ok (.aload_n 0, 1) := by decide +kernel
theorem dX10_writes_20 : decode cX10_writes 20 = .ok (.iconst 0, 1) := by decide +kernel
theorem dX10_writes_21 : decode cX10_writes 21 = .ok (.iload_n 1, 1) := by decide +kernel
theorem dX10_writes_22 : decode cX10_writes 22 = .ok (.iload_n 2, 1) := by decide +kernel
theorem dX10_writes_23 : decode cX10_writes 23 = .ok (.iload_n 3, 1) := by decide +kernel
theorem dX10_writes_24 : decode cX10_writes 24 = .ok (.invokevirtual 115, 3) := by decide +kernel
theorem dX10_writes_27 : decode cX10_writes 27 = .ok (.istore 5, 2) := by decide +kernel
theorem dX10_writes_29 : decode cX10_writes 29 = .ok (.aload_n 0, 1) := by decide +kernel
theorem dX10_writes_30 : decode cX10_writes 30 = .ok (.getfield 22, 3) := by decide +kernel
theorem dX10_writes_33 : decode cX10_writes 33 = .ok (.iload 4, 2) := by decide +kernel
theorem dX10_writes_35 : decode cX10_writes 35 = .ok (.faload, 1) := by decide +kernel
theorem dX10_writes_36 : decode cX10_writes 36 = .ok (.fconst 1, 1) := by decide +kernel
theorem dX10_writes_37 : decode cX10_writes 37 = .ok (.fadd, 1) := by decide +kernel
theorem dX10_writes_38 : decode cX10_writes 38 = .ok (.fstore 6, 2) := by decide +kernel
theorem dX10_writes_40 : decode cX10_writes 40 = .ok (.aload_n 0, 1) := by decide +kernel
theorem dX10_writes_41 : decode cX10_writes 41 = .ok (.getfield 22, 3) := by decide +kernel
theorem dX10_writes_44 : decode cX10_writes 44 = .ok (.bipush 16, 2) := by decide +kernel
theorem dX10_writes_46 : decode cX10_writes 46 = .ok (.iload 5, 2) := by decide +kernel
theorem dX10_writes_48 : decode cX10_writes 48 = .ok (.iadd, 1) := by decide +kernel
theorem dX10_writes_49 : decode cX10_writes 49 = .ok (.fload 6, 2) := by decide +kernel
theorem dX10_writes_51 : decode cX10_writes 51 = .ok (.fload 6, 2) := by decide +kernel
theorem dX10_writes_53 : decode cX10_writes 53 = .ok (.ldc 98, 2) := by decide +kernel
theorem dX10_writes_55 : decode cX10_writes 55 = .ok (.iload_n 3, 1) := by decide +kernel
theorem dX10_writes_56 : decode cX10_writes 56 = .ok (.i2f, 1) := by decide +kernel
theorem dX10_writes_57 : decode cX10_writes 57 = .ok (.fmul, 1) := by decide +kernel
theorem dX10_writes_58 : decode cX10_writes 58 = .ok (.fadd, 1) := by decide +kernel
theorem dX10_writes_59 : decode cX10_writes 59 = .ok (.fdiv, 1) := by decide +kernel
theorem dX10_writes_60 : decode cX10_writes 60 = .ok (.fastore, 1) := by decide +kernel
theorem dX10_writes_61 : decode cX10_writes 61 = .ok (.iload 5, 2) := by decide +kernel
theorem dX10_writes_63 : decode cX10_writes 63 = .ok (.ireturn, 1) := by decide +kernel
theorem dX10_letter_0 : decode cX10_letter 0 = .ok (.aload_n 0, 1) := by decide +kernel
theorem dX10_letter_1 : decode cX10_letter 1 = .ok (.iconst 0, 1) := by decide +kernel
theorem dX10_letter_2 : decode cX10_letter 2 = .ok (.putfield 50, 3) := by decide +kernel
theorem dX10_letter_5 : decode cX10_letter 5 = .ok (.aload_n 0, 1) := by decide +kernel
theorem dX10_letter_6 : decode cX10_letter 6 = .ok (.iload_n 1, 1) := by decide +kernel
theorem dX10_letter_7 : decode cX10_letter 7 = .ok (.iload_n 2, 1) := by decide +kernel
theorem dX10_letter_8 : decode cX10_letter 8 = .ok (.iload_n 3, 1) := by decide +kernel
theorem dX10_letter_9 : decode cX10_letter 9 = .ok (.iload 4, 2) := by decide +kernel
theorem dX10_letter_11 : decode cX10_letter 11 = .ok (.invokevirtual 119, 3) := by decide +kernel
theorem dX10_letter_14 : decode cX10_letter 14 = .ok (.istore 5, 2) := by decide +kernel
theorem dX10_letter_16 : decode cX10_letter 16 = .ok (.iload 5, 2) := by decide +kernel
theorem dX10_letter_18 : decode cX10_letter 18 = .ok (.ifCond .eq 11, 3) := by decide +kernel
theorem dX10_letter_21 : decode cX10_letter 21 = .ok (.aload_n 0, 1) := by decide +kernel
theorem dX10_letter_22 : decode cX10_letter 22 = .ok (.iload 5, 2) := by decide +kernel
theorem dX10_letter_24 : decode cX10_letter 24 = .ok (.iconst 3, 1) := by decide +kernel
theorem dX10_letter_25 : decode cX10_letter 25 = .ok (.invokevirtual 92, 3) := by decide +kernel
theorem dX10_letter_28 : decode cX10_letter 28 = .ok (.ireturn, 1) := by decide +kernel
theorem dX10_letter_29 : decode cX10_letter 29 = .ok (.aload_n 0, 1) := by decide +kernel
theorem dX10_letter_30 : decode cX10_letter 30 = .ok (.invokevirtual 95, 3) := by decide +kernel
theorem dX10_letter_33 : decode cX10_letter 33 = .ok (.aload_n 0, 1) := by decide +kernel
theorem dX10_letter_34 : decode cX10_letter 34 = .ok (.iload_n 1, 1) := by decide +kernel
theorem dX10_letter_35 : decode cX10_letter 35 = .ok (.iload_n 2, 1) := by decide +kernel
theorem dX10_letter_36 : decode cX10_letter 36 = .ok (.iload_n 3, 1) := by decide +kernel
theorem dX10_letter_37 : decode cX10_letter 37 = .ok (.iload 4, 2) := by decide +kernel
theorem dX10_letter_39 : decode cX10_letter 39 = .ok (.invokevirtual 122, 3) := by decide +kernel
theorem dX10_letter_42 : decode cX10_letter 42 = .ok (.ireturn, 1) := by decide +kernel
theorem dX10_areSides_0 : decode cX10_areSides 0 = .ok (.iload_n 0, 1) := by decide +kernel
theorem dX10_areSides_1 : decode cX10_areSides 1 = .ok (.iconst 1, 1) := by decide +kernel
theorem dX10_areSides_2 : decode cX10_areSides 2 = .ok (.bipush 9, 2) := by decide +kernel
theorem dX10_areSides_4 : decode cX10_areSides 4 = .ok (.invokestatic 81, 3) := by decide +kernel
theorem dX10_areSides_7 : decode cX10_areSides 7 = .ok (.ifCond .eq 27, 3) := by decide +kernel
theorem dX10_areSides_10 : decode cX10_areSides 10 = .ok (.iload_n 1, 1) := by decide +kernel
theorem dX10_areSides_11 : decode cX10_areSides 11 = .ok (.iconst 1, 1) := by decide +kernel
theorem dX10_areSides_12 : decode cX10_areSides 12 = .ok (.bipush 9, 2) := by decide +kernel
theorem dX10_areSides_14 : decode cX10_areSides 14 = .ok (.invokestatic 81, 3) := by decide +kernel
theorem dX10_areSides_17 : decode cX10_areSides 17 = .ok (.ifCond .eq 17, 3) := by decide +kernel
theorem dX10_areSides_20 : decode cX10_areSides 20 = .ok (.iload_n 2, 1) := by decide +kernel
theorem dX10_areSides_21 : decode cX10_areSides 21 = .ok (.iconst 1, 1) := by decide +kernel
theorem dX10_areSides_22 : decode cX10_areSides 22 = .ok (.bipush 9, 2) := by decide +kernel
theorem dX10_areSides_24 : decode cX10_areSides 24 = .ok (.invokestatic 81, 3) := by decide +kernel
theorem dX10_areSides_27 : decode cX10_areSides 27 = .ok (.ifCond .eq 7, 3) := by decide +kernel
theorem dX10_areSides_30 : decode cX10_areSides 30 = .ok (.iconst 1, 1) := by decide +kernel
theorem dX10_areSides_31 : decode cX10_areSides 31 = .ok (.goto 4, 3) := by decide +kernel
theorem dX10_areSides_34 : decode cX10_areSides 34 = .ok (.iconst 0, 1) := by decide +kernel
theorem dX10_areSides_35 : decode cX10_areSides 35 = .ok (.ireturn, 1) := by decide +kernel
theorem dX10_stringOf_0 : decode cX10_stringOf 0 = .ok (.ldc 98, 2) := by decide +kernel
theorem dX10_stringOf_2 : decode cX10_stringOf 2 = .ok (.iconst 2, 1) := by decide +kernel
theorem dX10_stringOf_3 : decode cX10_stringOf 3 = .ok (.iload_n 0, 1) := by decide +kernel
theorem dX10_stringOf_4 : decode cX10_stringOf 4 = .ok (.imul, 1) := by decide +kernel
theorem dX10_stringOf_5 : decode cX10_stringOf 5 = .ok (.iconst 2, 1) := by decide +kernel
theorem dX10_stringOf_6 : decode cX10_stringOf 6 = .ok (.iload_n 1, 1) := by decide +kernel
theorem dX10_stringOf_7 : decode cX10_stringOf 7 = .ok (.imul, 1) := by decide +kernel
theorem dX10_stringOf_8 : decode cX10_stringOf 8 = .ok (.iadd, 1) := by decide +kernel
theorem dX10_stringOf_9 : decode cX10_stringOf 9 = .ok (.iconst 4, 1) := by decide +kernel
theorem dX10_stringOf_10 : decode cX10_stringOf 10 = .ok (.iload_n 2, 1) := by decide +kernel
theorem dX10_stringOf_11 : decode cX10_stringOf 11 = .ok (.imul, 1) := by decide +kernel
theorem dX10_stringOf_12 : decode cX10_stringOf 12 = .ok (.iadd, 1) := by decide +kernel
theorem dX10_stringOf_13 : decode cX10_stringOf 13 = .ok (.i2f, 1) := by decide +kernel
theorem dX10_stringOf_14 : decode cX10_stringOf 14 = .ok (.fmul, 1) := by decide +kernel
theorem dX10_stringOf_15 : decode cX10_stringOf 15 = .ok (.freturn, 1) := by decide +kernel
theorem dX10_notParcel_0 : decode cX10_notParcel 0 = .ok (.iload_n 1, 1) := by decide +kernel
theorem dX10_notParcel_1 : decode cX10_notParcel 1 = .ok (.invokestatic 108, 3) := by decide +kernel
theorem dX10_notParcel_4 : decode cX10_notParcel 4 = .ok (.ifCond .eq 10, 3) := by decide +kernel
theorem dX10_notParcel_7 : decode cX10_notParcel 7 = .ok (.iload_n 2, 1) := by decide +kernel
theorem dX10_notParcel_8 : decode cX10_notParcel 8 = .ok (.invokestatic 108, 3) := by decide +kernel
theorem dX10_notParcel_11 : decode cX10_notParcel 11 = .ok (.ifCond .ne 5, 3) := by decide +kernel
theorem dX10_notParcel_14 : decode cX10_notParcel 14 = .ok (.iconst 1, 1) := by decide +kernel
theorem dX10_notParcel_15 : decode cX10_notParcel 15 = .ok (.ireturn, 1) := by decide +kernel
theorem dX10_notParcel_16 : decode cX10_notParcel 16 = .ok (.iload_n 3, 1) := by decide +kernel
theorem dX10_notParcel_17 : decode cX10_notParcel 17 = .ok (.iload 4, 2) := by decide +kernel
theorem dX10_notParcel_19 : decode cX10_notParcel 19 = .ok (.iload 5, 2) := by decide +kernel
theorem dX10_notParcel_21 : decode cX10_notParcel 21 = .ok (.invokestatic 125, 3) := by decide +kernel
theorem dX10_notParcel_24 : decode cX10_notParcel 24 = .ok (.ifCond .ne 5, 3) := by decide +kernel
theorem dX10_notParcel_27 : decode cX10_notParcel 27 = .ok (.iconst 2, 1) := by decide +kernel
theorem dX10_notParcel_28 : decode cX10_notParcel 28 = .ok (.ireturn, 1) := by decide +kernel
theorem dX10_notParcel_29 : decode cX10_notParcel 29 = .ok (.aload_n 0, 1) := by decide +kernel
theorem dX10_notParcel_30 : decode cX10_notParcel 30 = .ok (.getfield 7, 3) := by decide +kernel
theorem dX10_notParcel_33 : decode cX10_notParcel 33 = .ok (.iconst 2, 1) := by decide +kernel
theorem dX10_notParcel_34 : decode cX10_notParcel 34 = .ok (.iaload, 1) := by decide +kernel
theorem dX10_notParcel_35 : decode cX10_notParcel 35 = .ok (.bipush 20, 2) := by decide +kernel
theorem dX10_notParcel_37 : decode cX10_notParcel 37 = .ok (.if_icmp .ne 11, 3) := by decide +kernel
theorem dX10_notParcel_40 : decode cX10_notParcel 40 = .ok (.aload_n 0, 1) := by decide +kernel
theorem dX10_notParcel_41 : decode cX10_notParcel 41 = .ok (.iconst 1, 1) := by decide +kernel
theorem dX10_notParcel_42 : decode cX10_notParcel 42 = .ok (.bipush 20, 2) := by decide +kernel
theorem dX10_notParcel_44 : decode cX10_notParcel 44 = .ok (.invokevirtual 89, 3) := by decide +kernel
theorem dX10_notParcel_47 : decode cX10_notParcel 47 = .ok (.ireturn, 1) := by decide +kernel
theorem dX10_notParcel_48 : decode cX10_notParcel 48 = .ok (.iload_n 1, 1) := by decide +kernel
theorem dX10_notParcel_49 : decode cX10_notParcel 49 = .ok (.iload_n 2, 1) := by decide +kernel
theorem dX10_notParcel_50 : decode cX10_notParcel 50 = .ok (.if_icmp .ne 10, 3) := by decide +kernel
theorem dX10_notParcel_53 : decode cX10_notParcel 53 = .ok (.aload_n 0, 1) := by decide +kernel
theorem dX10_notParcel_54 : decode cX10_notParcel 54 = .ok (.iconst 2, 1) := by decide +kernel
theorem dX10_notParcel_55 : decode cX10_notParcel 55 = .ok (.iload_n 1, 1) := by decide +kernel
theorem dX10_notParcel_56 : decode cX10_notParcel 56 = .ok (.invokevirtual 89, 3) := by decide +kernel
theorem dX10_notParcel_59 : decode cX10_notParcel 59 = .ok (.ireturn, 1) := by decide +kernel
theorem dX10_notParcel_60 : decode cX10_notParcel 60 = .ok (.aload_n 0, 1) := by decide +kernel
theorem dX10_notParcel_61 : decode cX10_notParcel 61 = .ok (.getfield 22, 3) := by decide +kernel
theorem dX10_notParcel_64 : decode cX10_notParcel 64 = .ok (.bipush 13, 2) := by decide +kernel
theorem dX10_notParcel_66 : decode cX10_notParcel 66 = .ok (.faload, 1) := by decide +kernel
theorem dX10_notParcel_67 : decode cX10_notParcel 67 = .ok (.iload_n 3, 1) := by decide +kernel
theorem dX10_notParcel_68 : decode cX10_notParcel 68 = .ok (.iload 4, 2) := by decide +kernel
theorem dX10_notParcel_70 : decode cX10_notParcel 70 = .ok (.iload 5, 2) := by decide +kernel
theorem dX10_notParcel_72 : decode cX10_notParcel 72 = .ok (.invokestatic 128, 3) := by decide +kernel
theorem dX10_notParcel_75 : decode cX10_notParcel 75 = .ok (.fcmp .l, 1) := by decide +kernel
theorem dX10_notParcel_76 : decode cX10_notParcel 76 = .ok (.ifCond .lt 7, 3) := by decide +kernel
theorem dX10_notParcel_79 : decode cX10_notParcel 79 = .ok (.iconst 0, 1) := by decide +kernel
theorem dX10_notParcel_80 : decode cX10_notParcel 80 = .ok (.goto 16, 3) := by decide +kernel
theorem dX10_notParcel_83 : decode cX10_notParcel 83 = .ok (.aload_n 0, 1) := by decide +kernel
theorem dX10_notParcel_84 : decode cX10_notParcel 84 = .ok (.iconst 4, 1) := by decide +kernel
theorem dX10_notParcel_85 : decode cX10_notParcel 85 = .ok (.aload_n 0, 1) := by decide +kernel
theorem dX10_notParcel_86 : decode cX10_notParcel 86 = .ok (.getfield 22, 3) := by decide +kernel
theorem dX10_notParcel_89 : decode cX10_notParcel 89 = .ok (.bipush 13, 2) := by decide +kernel
theorem dX10_notParcel_91 : decode cX10_notParcel 91 = .ok (.faload, 1) := by decide +kernel
theorem dX10_notParcel_92 : decode cX10_notParcel 92 = .ok (.f2i, 1) := by decide +kernel
theorem dX10_notParcel_93 : decode cX10_notParcel 93 = .ok (.invokevirtual 89, 3) := by decide +kernel
theorem dX10_notParcel_96 : decode cX10_notParcel 96 = .ok (.ireturn, 1) := by decide +kernel
theorem dX10_parcel_0 : decode cX10_parcel 0 = .ok (.aload_n 0, 1) := by decide +kernel
theorem dX10_parcel_1 : decode cX10_parcel 1 = .ok (.iconst 0, 1) := by decide +kernel
theorem dX10_parcel_2 : decode cX10_parcel 2 = .ok (.putfield 50, 3) := by decide +kernel
theorem dX10_parcel_5 : decode cX10_parcel 5 = .ok (.aload_n 0, 1) := by decide +kernel
theorem dX10_parcel_6 : decode cX10_parcel 6 = .ok (.iload_n 1, 1) := by decide +kernel
theorem dX10_parcel_7 : decode cX10_parcel 7 = .ok (.iload_n 2, 1) := by decide +kernel
theorem dX10_parcel_8 : decode cX10_parcel 8 = .ok (.iload_n 3, 1) := by decide +kernel
theorem dX10_parcel_9 : decode cX10_parcel 9 = .ok (.iload 4, 2) := by decide +kernel
theorem dX10_parcel_11 : decode cX10_parcel 11 = .ok (.iload 5, 2) := by decide +kernel
theorem dX10_parcel_13 : decode cX10_parcel 13 = .ok (.invokevirtual 132, 3) := by decide +kernel
theorem dX10_parcel_16 : decode cX10_parcel 16 = .ok (.istore 6, 2) := by decide +kernel
theorem dX10_parcel_18 : decode cX10_parcel 18 = .ok (.iload 6, 2) := by decide +kernel
theorem dX10_parcel_20 : decode cX10_parcel 20 = .ok (.ifCond .eq 11, 3) := by decide +kernel
theorem dX10_parcel_23 : decode cX10_parcel 23 = .ok (.aload_n 0, 1) := by decide +kernel
theorem dX10_parcel_24 : decode cX10_parcel 24 = .ok (.iload 6, 2) := by decide +kernel
theorem dX10_parcel_26 : decode cX10_parcel 26 = .ok (.iconst 3, 1) := by decide +kernel
theorem dX10_parcel_27 : decode cX10_parcel 27 = .ok (.invokevirtual 92, 3) := by decide +kernel
theorem dX10_parcel_30 : decode cX10_parcel 30 = .ok (.ireturn, 1) := by decide +kernel
theorem dX10_parcel_31 : decode cX10_parcel 31 = .ok (.aload_n 0, 1) := by decide +kernel
theorem dX10_parcel_32 : decode cX10_parcel 32 = .ok (.invokevirtual 95, 3) := by decide +kernel
theorem dX10_parcel_35 : decode cX10_parcel 35 = .ok (.aload_n 0, 1) := by decide +kernel
theorem dX10_parcel_36 : decode cX10_parcel 36 = .ok (.getfield 22, 3) := by decide +kernel
theorem dX10_parcel_39 : decode cX10_parcel 39 = .ok (.bipush 13, 2) := by decide +kernel
theorem dX10_parcel_41 : decode cX10_parcel 41 = .ok (.aload_n 0, 1) := by decide +kernel
theorem dX10_parcel_42 : decode cX10_parcel 42 = .ok (.getfield 22, 3) := by decide +kernel
theorem dX10_parcel_45 : decode cX10_parcel 45 = .ok (.bipush 13, 2) := by decide +kernel
theorem dX10_parcel_47 : decode cX10_parcel 47 = .ok (.faload, 1) := by decide +kernel
theorem dX10_parcel_48 : decode cX10_parcel 48 = .ok (.iload_n 3, 1) := by decide +kernel
theorem dX10_parcel_49 : decode cX10_parcel 49 = .ok (.iload 4, 2) := by decide +kernel
theorem dX10_parcel_51 : decode cX10_parcel 51 = .ok (.iload 5, 2) := by decide +kernel
theorem dX10_parcel_53 : decode cX10_parcel 53 = .ok (.invokestatic 128, 3) := by decide +kernel
theorem dX10_parcel_56 : decode cX10_parcel 56 = .ok (.fsub, 1) := by decide +kernel
theorem dX10_parcel_57 : decode cX10_parcel 57 = .ok (.fastore, 1) := by decide +kernel
theorem dX10_parcel_58 : decode cX10_parcel 58 = .ok (.aload_n 0, 1) := by decide +kernel
theorem dX10_parcel_59 : decode cX10_parcel 59 = .ok (.iconst 1, 1) := by decide +kernel
theorem dX10_parcel_60 : decode cX10_parcel 60 = .ok (.iload_n 1, 1) := by decide +kernel
theorem dX10_parcel_61 : decode cX10_parcel 61 = .ok (.iload_n 2, 1) := by decide +kernel
theorem dX10_parcel_62 : decode cX10_parcel 62 = .ok (.iload_n 3, 1) := by decide +kernel
theorem dX10_parcel_63 : decode cX10_parcel 63 = .ok (.iload 4, 2) := by decide +kernel
theorem dX10_parcel_65 : decode cX10_parcel 65 = .ok (.iadd, 1) := by decide +kernel
theorem dX10_parcel_66 : decode cX10_parcel 66 = .ok (.iload 5, 2) := by decide +kernel
theorem dX10_parcel_68 : decode cX10_parcel 68 = .ok (.iadd, 1) := by decide +kernel
theorem dX10_parcel_69 : decode cX10_parcel 69 = .ok (.invokevirtual 115, 3) := by decide +kernel
theorem dX10_parcel_72 : decode cX10_parcel 72 = .ok (.ireturn, 1) := by decide +kernel
theorem dX10_itemOf_0 : decode cX10_itemOf 0 = .ok (.aload_n 0, 1) := by decide +kernel
theorem dX10_itemOf_1 : decode cX10_itemOf 1 = .ok (.iconst 0, 1) := by decide +kernel
theorem dX10_itemOf_2 : decode cX10_itemOf 2 = .ok (.putfield 50, 3) := by decide +kernel
theorem dX10_itemOf_5 : decode cX10_itemOf 5 = .ok (.aload_n 0, 1) := by decide +kernel
theorem dX10_itemOf_6 : decode cX10_itemOf 6 = .ok (.iload_n 1, 1) := by decide +kernel
theorem dX10_itemOf_7 : decode cX10_itemOf 7 = .ok (.invokevirtual 136, 3) := by decide +kernel
theorem dX10_itemOf_10 : decode cX10_itemOf 10 = .ok (.ifCond .ne 9, 3) := by decide +kernel
theorem dX10_itemOf_13 : decode cX10_itemOf 13 = .ok (.aload_n 0, 1) := by decide +kernel
theorem dX10_itemOf_14 : decode cX10_itemOf 14 = .ok (.iconst 1, 1) := by decide +kernel
theorem dX10_itemOf_15 : decode cX10_itemOf 15 = .ok (.invokevirtual 59, 3) := by decide +kernel
theorem dX10_itemOf_18 : decode cX10_itemOf 18 = .ok (.ireturn, 1) := by decide +kernel
theorem dX10_itemOf_19 : decode cX10_itemOf 19 = .ok (.iload_n 2, 1) := by decide +kernel
theorem dX10_itemOf_20 : decode cX10_itemOf 20 = .ok (.iconst 0, 1) := by decide +kernel
theorem dX10_itemOf_21 : decode cX10_itemOf 21 = .ok (.bipush 6, 2) := by decide +kernel
theorem dX10_itemOf_23 : decode cX10_itemOf 23 = .ok (.invokestatic 81, 3) := by decide +kernel
theorem dX10_itemOf_26 : decode cX10_itemOf 26 = .ok (.ifCond .ne 9, 3) := by decide +kernel
theorem dX10_itemOf_29 : decode cX10_itemOf 29 = .ok (.aload_n 0, 1) := by decide +kernel
theorem dX10_itemOf_30 : decode cX10_itemOf 30 = .ok (.iconst 2, 1) := by decide +kernel
theorem dX10_itemOf_31 : decode cX10_itemOf 31 = .ok (.invokevirtual 59, 3) := by decide +kernel
theorem dX10_itemOf_34 : decode cX10_itemOf 34 = .ok (.ireturn, 1) := by decide +kernel
theorem dX10_itemOf_35 : decode cX10_itemOf 35 = .ok (.iload_n 2, 1) := by decide +kernel
theorem dX10_itemOf_36 : decode cX10_itemOf 36 = .ok (.iconst 5, 1) := by decide +kernel
theorem dX10_itemOf_37 : decode cX10_itemOf 37 = .ok (.if_icmp .ge 12, 3) := by decide +kernel
theorem dX10_itemOf_40 : decode cX10_itemOf 40 = .ok (.aload_n 0, 1) := by decide +kernel
theorem dX10_itemOf_41 : decode cX10_itemOf 41 = .ok (.iload_n 1, 1) := by decide +kernel
theorem dX10_itemOf_42 : decode cX10_itemOf 42 = .ok (.iload_n 2, 1) := by decide +kernel
theorem dX10_itemOf_43 : decode cX10_itemOf 43 = .ok (.invokevirtual 85, 3) := by decide +kernel
theorem dX10_itemOf_46 : decode cX10_itemOf 46 = .ok (.goto 11, 3) := by decide +kernel
theorem dX10_itemOf_49 : decode cX10_itemOf 49 = .ok (.aload_n 0, 1) := by decide +kernel
theorem dX10_itemOf_50 : decode cX10_itemOf 50 = .ok (.iload_n 1, 1) := by decide +kernel
theorem dX10_itemOf_51 : decode cX10_itemOf 51 = .ok (.iload_n 2, 1) := by decide +kernel
theorem dX10_itemOf_52 : decode cX10_itemOf 52 = .ok (.invokevirtual 85, 3) := by decide +kernel
theorem dX10_itemOf_55 : decode cX10_itemOf 55 = .ok (.iconst 1, 1) := by decide +kernel
theorem dX10_itemOf_56 : decode cX10_itemOf 56 = .ok (.isub, 1) := by decide +kernel
theorem dX10_itemOf_57 : decode cX10_itemOf 57 = .ok (.ireturn, 1) := by decide +kernel
theorem dX10_reads_0 : decode cX10_reads 0 = .ok (.aload_n 0, 1) := by decide +kernel
theorem dX10_reads_1 : decode cX10_reads 1 = .ok (.iconst 0, 1) := by decide +kernel
theorem dX10_reads_2 : decode cX10_reads 2 = .ok (.putfield 50, 3) := by decide +kernel
theorem dX10_reads_5 : decode cX10_reads 5 = .ok (.aload_n 0, 1) := by decide +kernel
theorem dX10_reads_6 : decode cX10_reads 6 = .ok (.iload_n 1, 1) := by decide +kernel
theorem dX10_reads_7 : decode cX10_reads 7 = .ok (.invokevirtual 136, 3) := by decide +kernel
theorem dX10_reads_10 : decode cX10_reads 10 = .ok (.ifCond .ne 9, 3) := by decide +kernel
theorem dX10_reads_13 : decode cX10_reads 13 = .ok (.aload_n 0, 1) := by decide +kernel
theorem dX10_reads_14 : decode cX10_reads 14 = .ok (.iconst 1, 1) := by decide +kernel
theorem dX10_reads_15 : decode cX10_reads 15 = .ok (.invokevirtual 59, 3) := by decide +kernel
theorem dX10_reads_18 : decode cX10_reads 18 = .ok (.ireturn, 1) := by decide +kernel
theorem dX10_reads_19 : decode cX10_reads 19 = .ok (.aload_n 0, 1) := by decide +kernel
theorem dX10_reads_20 : decode cX10_reads 20 = .ok (.iload_n 1, 1) := by decide +kernel
theorem dX10_reads_21 : decode cX10_reads 21 = .ok (.invokevirtual 139, 3) := by decide +kernel
theorem dX10_reads_24 : decode cX10_reads 24 = .ok (.ifCond .eq 18, 3) := by decide +kernel
theorem dX10_reads_27 : decode cX10_reads 27 = .ok (.aload_n 0, 1) := by decide +kernel
theorem dX10_reads_28 : decode cX10_reads 28 = .ok (.getfield 22, 3) := by decide +kernel
theorem dX10_reads_31 : decode cX10_reads 31 = .ok (.bipush 16, 2) := by decide +kernel
theorem dX10_reads_33 : decode cX10_reads 33 = .ok (.iload_n 1, 1) := by decide +kernel
theorem dX10_reads_34 : decode cX10_reads 34 = .ok (.iadd, 1) := by decide +kernel
theorem dX10_reads_35 : decode cX10_reads 35 = .ok (.faload, 1) := by decide +kernel
theorem dX10_reads_36 : decode cX10_reads 36 = .ok (.invokestatic 142, 3) := by decide +kernel
theorem dX10_reads_39 : decode cX10_reads 39 = .ok (.goto 8, 3) := by decide +kernel
theorem dX10_reads_42 : decode cX10_reads 42 = .ok (.aload_n 0, 1) := by decide +kernel
theorem dX10_reads_43 : decode cX10_reads 43 = .ok (.iconst 2, 1) := by decide +kernel
theorem dX10_reads_44 : decode cX10_reads 44 = .ok (.invokevirtual 59, 3) := by decide +kernel
theorem dX10_reads_47 : decode cX10_reads 47 = .ok (.ireturn, 1) := by decide +kernel
theorem dX10_stringFor_0 : decode cX10_stringFor 0 = .ok (.aload_n 0, 1) := by decide +kernel
theorem dX10_stringFor_1 : decode cX10_stringFor 1 = .ok (.iconst 0, 1) := by decide +kernel
theorem dX10_stringFor_2 : decode cX10_stringFor 2 = .ok (.putfield 50, 3) := by decide +kernel
theorem dX10_stringFor_5 : decode cX10_stringFor 5 = .ok (.iload_n 1, 1) := by decide +kernel
theorem dX10_stringFor_6 : decode cX10_stringFor 6 = .ok (.iload_n 2, 1) := by decide +kernel
theorem dX10_stringFor_7 : decode cX10_stringFor 7 = .ok (.iload_n 3, 1) := by decide +kernel
theorem dX10_stringFor_8 : decode cX10_stringFor 8 = .ok (.invokestatic 125, 3) := by decide +kernel
theorem dX10_stringFor_11 : decode cX10_stringFor 11 = .ok (.ifCond .eq 15, 3) := by decide +kernel
theorem dX10_stringFor_14 : decode cX10_stringFor 14 = .ok (.iload_n 1, 1) := by decide +kernel
theorem dX10_stringFor_15 : decode cX10_stringFor 15 = .ok (.iload_n 2, 1) := by decide +kernel
theorem dX10_stringFor_16 : decode cX10_stringFor 16 = .ok (.iload_n 3, 1) := by decide +kernel
theorem dX10_stringFor_17 : decode cX10_stringFor 17 = .ok (.invokestatic 128, 3) := by decide +kernel
theorem dX10_stringFor_20 : decode cX10_stringFor 20 = .ok (.invokestatic 142, 3) := by decide +kernel
theorem dX10_stringFor_23 : decode cX10_stringFor 23 = .ok (.goto 8, 3) := by decide +kernel
theorem dX10_stringFor_26 : decode cX10_stringFor 26 = .ok (.aload_n 0, 1) := by decide +kernel
theorem dX10_stringFor_27 : decode cX10_stringFor 27 = .ok (.iconst 1, 1) := by decide +kernel
theorem dX10_stringFor_28 : decode cX10_stringFor 28 = .ok (.invokevirtual 59, 3) := by decide +kernel
theorem dX10_stringFor_31 : decode cX10_stringFor 31 = .ok (.ireturn, 1) := by decide +kernel
theorem dX10_string_0 : decode cX10_string 0 = .ok (.aload_n 0, 1) := by decide +kernel
theorem dX10_string_1 : decode cX10_string 1 = .ok (.iconst 0, 1) := by decide +kernel
theorem dX10_string_2 : decode cX10_string 2 = .ok (.putfield 50, 3) := by decide +kernel
theorem dX10_string_5 : decode cX10_string 5 = .ok (.iload_n 1, 1) := by decide +kernel
theorem dX10_string_6 : decode cX10_string 6 = .ok (.iconst 1, 1) := by decide +kernel
theorem dX10_string_7 : decode cX10_string 7 = .ok (.bipush 20, 2) := by decide +kernel
theorem dX10_string_9 : decode cX10_string 9 = .ok (.invokestatic 81, 3) := by decide +kernel
theorem dX10_string_12 : decode cX10_string 12 = .ok (.ifCond .ne 9, 3) := by decide +kernel
theorem dX10_string_15 : decode cX10_string 15 = .ok (.aload_n 0, 1) := by decide +kernel
theorem dX10_string_16 : decode cX10_string 16 = .ok (.iconst 1, 1) := by decide +kernel
theorem dX10_string_17 : decode cX10_string 17 = .ok (.invokevirtual 59, 3) := by decide +kernel
theorem dX10_string_20 : decode cX10_string 20 = .ok (.ireturn, 1) := by decide +kernel
theorem dX10_string_21 : decode cX10_string 21 = .ok (.aload_n 0, 1) := by decide +kernel
theorem dX10_string_22 : decode cX10_string 22 = .ok (.invokevirtual 95, 3) := by decide +kernel
theorem dX10_string_25 : decode cX10_string 25 = .ok (.aload_n 0, 1) := by decide +kernel
theorem dX10_string_26 : decode cX10_string 26 = .ok (.getfield 22, 3) := by decide +kernel
theorem dX10_string_29 : decode cX10_string 29 = .ok (.bipush 13, 2) := by decide +kernel
theorem dX10_string_31 : decode cX10_string 31 = .ok (.aload_n 0, 1) := by decide +kernel
theorem dX10_string_32 : decode cX10_string 32 = .ok (.getfield 22, 3) := by decide +kernel
theorem dX10_string_35 : decode cX10_string 35 = .ok (.bipush 13, 2) := by decide +kernel
theorem dX10_string_37 : decode cX10_string 37 = .ok (.faload, 1) := by decide +kernel
theorem dX10_string_38 : decode cX10_string 38 = .ok (.iload_n 1, 1) := by decide +kernel
theorem dX10_string_39 : decode cX10_string 39 = .ok (.i2f, 1) := by decide +kernel
theorem dX10_string_40 : decode cX10_string 40 = .ok (.fadd, 1) := by decide +kernel
theorem dX10_string_41 : decode cX10_string 41 = .ok (.fastore, 1) := by decide +kernel
theorem dX10_string_42 : decode cX10_string 42 = .ok (.aload_n 0, 1) := by decide +kernel
theorem dX10_string_43 : decode cX10_string 43 = .ok (.getfield 22, 3) := by decide +kernel
theorem dX10_string_46 : decode cX10_string 46 = .ok (.bipush 13, 2) := by decide +kernel
theorem dX10_string_48 : decode cX10_string 48 = .ok (.faload, 1) := by decide +kernel
theorem dX10_string_49 : decode cX10_string 49 = .ok (.ldc 148, 2) := by decide +kernel
theorem dX10_string_51 : decode cX10_string 51 = .ok (.fcmp .l, 1) := by decide +kernel
theorem dX10_string_52 : decode cX10_string 52 = .ok (.ifCond .le 12, 3) := by decide +kernel
theorem dX10_string_55 : decode cX10_string 55 = .ok (.aload_n 0, 1) := by decide +kernel
theorem dX10_string_56 : decode cX10_string 56 = .ok (.getfield 22, 3) := by decide +kernel
theorem dX10_string_59 : decode cX10_string 59 = .ok (.bipush 13, 2) := by decide +kernel
theorem dX10_string_61 : decode cX10_string 61 = .ok (.ldc 148, 2) := by decide +kernel
theorem dX10_string_63 : decode cX10_string 63 = .ok (.fastore, 1) := by decide +kernel
theorem dX10_string_64 : decode cX10_string 64 = .ok (.aload_n 0, 1) := by decide +kernel
theorem dX10_string_65 : decode cX10_string 65 = .ok (.getfield 22, 3) := by decide +kernel
theorem dX10_string_68 : decode cX10_string 68 = .ok (.bipush 13, 2) := by decide +kernel
theorem dX10_string_70 : decode cX10_string 70 = .ok (.faload, 1) := by decide +kernel
theorem dX10_string_71 : decode cX10_string 71 = .ok (.invokestatic 142, 3) := by decide +kernel
theorem dX10_string_74 : decode cX10_string 74 = .ok (.ireturn, 1) := by decide +kernel
theorem dX10_lettersBy_0 : decode cX10_lettersBy 0 = .ok (.aload_n 0, 1) := by decide +kernel
theorem dX10_lettersBy_1 : decode cX10_lettersBy 1 = .ok (.getfield 22, 3) := by decide +kernel
theorem dX10_lettersBy_4 : decode cX10_lettersBy 4 = .ok (.iload_n 1, 1) := by decide +kernel
theorem dX10_lettersBy_5 : decode cX10_lettersBy 5 = .ok (.faload, 1) := by decide +kernel
theorem dX10_lettersBy_6 : decode cX10_lettersBy 6 = .ok (.fstore_n 3, 1) := by decide +kernel
theorem dX10_lettersBy_7 : decode cX10_lettersBy 7 = .ok (.iconst 0, 1) := by decide +kernel
theorem dX10_lettersBy_8 : decode cX10_lettersBy 8 = .ok (.istore 4, 2) := by decide +kernel
theorem dX10_lettersBy_10 : decode cX10_lettersBy 10 = .ok (.fload_n 3, 1) := by decide +kernel
theorem dX10_lettersBy_11 : decode cX10_lettersBy 11 = .ok (.iload_n 2, 1) := by decide +kernel
theorem dX10_lettersBy_12 : decode cX10_lettersBy 12 = .ok (.invokestatic 111, 3) := by decide +kernel
theorem dX10_lettersBy_15 : decode cX10_lettersBy 15 = .ok (.fcmp .l, 1) := by decide +kernel
theorem dX10_lettersBy_16 : decode cX10_lettersBy 16 = .ok (.ifCond .lt 16, 3) := by decide +kernel
theorem dX10_lettersBy_19 : decode cX10_lettersBy 19 = .ok (.fload_n 3, 1) := by decide +kernel
theorem dX10_lettersBy_20 : decode cX10_lettersBy 20 = .ok (.iload_n 2, 1) := by decide +kernel
theorem dX10_lettersBy_21 : decode cX10_lettersBy 21 = .ok (.invokestatic 111, 3) := by decide +kernel
theorem dX10_lettersBy_24 : decode cX10_lettersBy 24 = .ok (.fsub, 1) := by decide +kernel
theorem dX10_lettersBy_25 : decode cX10_lettersBy 25 = .ok (.fstore_n 3, 1) := by decide +kernel
theorem dX10_lettersBy_26 : decode cX10_lettersBy 26 = .ok (.iinc 4 1, 3) := by decide +kernel
theorem dX10_lettersBy_29 : decode cX10_lettersBy 29 = .ok (.goto (-19), 3) := by decide +kernel
theorem dX10_lettersBy_32 : decode cX10_lettersBy 32 = .ok (.iload 4, 2) := by decide +kernel
theorem dX10_lettersBy_34 : decode cX10_lettersBy 34 = .ok (.ireturn, 1) := by decide +kernel
theorem dX10_lettersOf_0 : decode cX10_lettersOf 0 = .ok (.aload_n 0, 1) := by decide +kernel
theorem dX10_lettersOf_1 : decode cX10_lettersOf 1 = .ok (.iconst 0, 1) := by decide +kernel
theorem dX10_lettersOf_2 : decode cX10_lettersOf 2 = .ok (.putfield 50, 3) := by decide +kernel
theorem dX10_lettersOf_5 : decode cX10_lettersOf 5 = .ok (.aload_n 0, 1) := by decide +kernel
theorem dX10_lettersOf_6 : decode cX10_lettersOf 6 = .ok (.iload_n 1, 1) := by decide +kernel
theorem dX10_lettersOf_7 : decode cX10_lettersOf 7 = .ok (.invokevirtual 99, 3) := by decide +kernel
theorem dX10_lettersOf_10 : decode cX10_lettersOf 10 = .ok (.ifCond .ne 9, 3) := by decide +kernel
theorem dX10_lettersOf_13 : decode cX10_lettersOf 13 = .ok (.aload_n 0, 1) := by decide +kernel
theorem dX10_lettersOf_14 : decode cX10_lettersOf 14 = .ok (.iconst 1, 1) := by decide +kernel
theorem dX10_lettersOf_15 : decode cX10_lettersOf 15 = .ok (.invokevirtual 59, 3) := by decide +kernel
theorem dX10_lettersOf_18 : decode cX10_lettersOf 18 = .ok (.ireturn, 1) := by decide +kernel
theorem dX10_lettersOf_19 : decode cX10_lettersOf 19 = .ok (.iload_n 2, 1) := by decide +kernel
theorem dX10_lettersOf_20 : decode cX10_lettersOf 20 = .ok (.iconst 1, 1) := by decide +kernel
theorem dX10_lettersOf_21 : decode cX10_lettersOf 21 = .ok (.bipush 40, 2) := by decide +kernel
theorem dX10_lettersOf_23 : decode cX10_lettersOf 23 = .ok (.invokestatic 81, 3) := by decide +kernel
theorem dX10_lettersOf_26 : decode cX10_lettersOf 26 = .ok (.ifCond .eq 12, 3) := by decide +kernel
theorem dX10_lettersOf_29 : decode cX10_lettersOf 29 = .ok (.aload_n 0, 1) := by decide +kernel
theorem dX10_lettersOf_30 : decode cX10_lettersOf 30 = .ok (.iload_n 1, 1) := by decide +kernel
theorem dX10_lettersOf_31 : decode cX10_lettersOf 31 = .ok (.iload_n 2, 1) := by decide +kernel
theorem dX10_lettersOf_32 : decode cX10_lettersOf 32 = .ok (.invokevirtual 149, 3) := by decide +kernel
theorem dX10_lettersOf_35 : decode cX10_lettersOf 35 = .ok (.goto 8, 3) := by decide +kernel
theorem dX10_lettersOf_38 : decode cX10_lettersOf 38 = .ok (.aload_n 0, 1) := by decide +kernel
theorem dX10_lettersOf_39 : decode cX10_lettersOf 39 = .ok (.iconst 2, 1) := by decide +kernel
theorem dX10_lettersOf_40 : decode cX10_lettersOf 40 = .ok (.invokevirtual 59, 3) := by decide +kernel
theorem dX10_lettersOf_43 : decode cX10_lettersOf 43 = .ok (.ireturn, 1) := by decide +kernel
theorem dX10_lettersAgain_0 : decode cX10_lettersAgain 0 = .ok (.aload_n 0, 1) := by decide +kernel
theorem dX10_lettersAgain_1 : decode cX10_lettersAgain 1 = .ok (.iconst 0, 1) := by decide +kernel
theorem dX10_lettersAgain_2 : decode cX10_lettersAgain 2 = .ok (.putfield 50, 3) := by decide +kernel
theorem dX10_lettersAgain_5 : decode cX10_lettersAgain 5 = .ok (.aload_n 0, 1) := by decide +kernel
theorem dX10_lettersAgain_6 : decode cX10_lettersAgain 6 = .ok (.iload_n 1, 1) := by decide +kernel
theorem dX10_lettersAgain_7 : decode cX10_lettersAgain 7 = .ok (.invokevirtual 99, 3) := by decide +kernel
theorem dX10_lettersAgain_10 : decode cX10_lettersAgain 10 = .ok (.ifCond .ne 9, 3) := by decide +kernel
theorem dX10_lettersAgain_13 : decode cX10_lettersAgain 13 = .ok (.aload_n 0, 1) := by decide +kernel
theorem dX10_lettersAgain_14 : decode cX10_lettersAgain 14 = .ok (.iconst 1, 1) := by decide +kernel
theorem dX10_lettersAgain_15 : decode cX10_lettersAgain 15 = .ok (.invokevirtual 59, 3) := by decide +kernel
theorem dX10_lettersAgain_18 : decode cX10_lettersAgain 18 = .ok (.ireturn, 1) := by decide +kernel
theorem dX10_lettersAgain_19 : decode cX10_lettersAgain 19 = .ok (.iload_n 2, 1) := by decide +kernel
theorem dX10_lettersAgain_20 : decode cX10_lettersAgain 20 = .ok (.iconst 1, 1) := by decide +kernel
theorem dX10_lettersAgain_21 : decode cX10_lettersAgain 21 = .ok (.bipush 40, 2) := by decide +kernel
theorem dX10_lettersAgain_23 : decode cX10_lettersAgain 23 = .ok (.invokestatic 81, 3) := by decide +kernel
theorem dX10_lettersAgain_26 : decode cX10_lettersAgain 26 = .ok (.ifCond .ne 9, 3) := by decide +kernel
theorem dX10_lettersAgain_29 : decode cX10_lettersAgain 29 = .ok (.aload_n 0, 1) := by decide +kernel
theorem dX10_lettersAgain_30 : decode cX10_lettersAgain 30 = .ok (.iconst 2, 1) := by decide +kernel
theorem dX10_lettersAgain_31 : decode cX10_lettersAgain 31 = .ok (.invokevirtual 59, 3) := by decide +kernel
theorem dX10_lettersAgain_34 : decode cX10_lettersAgain 34 = .ok (.ireturn, 1) := by decide +kernel
theorem dX10_lettersAgain_35 : decode cX10_lettersAgain 35 = .ok (.aload_n 0, 1) := by decide +kernel
theorem dX10_lettersAgain_36 : decode cX10_lettersAgain 36 = .ok (.getfield 35, 3) := by decide +kernel
theorem dX10_lettersAgain_39 : decode cX10_lettersAgain 39 = .ok (.iconst 0, 1) := by decide +kernel
theorem dX10_lettersAgain_40 : decode cX10_lettersAgain 40 = .ok (.aload_n 0, 1) := by decide +kernel
theorem dX10_lettersAgain_41 : decode cX10_lettersAgain 41 = .ok (.getfield 22, 3) := by decide +kernel
theorem dX10_lettersAgain_44 : decode cX10_lettersAgain 44 = .ok (.iload_n 1, 1) := by decide +kernel
theorem dX10_lettersAgain_45 : decode cX10_lettersAgain 45 = .ok (.faload, 1) := by decide +kernel
theorem dX10_lettersAgain_46 : decode cX10_lettersAgain 46 = .ok (.fastore, 1) := by decide +kernel
theorem dX10_lettersAgain_47 : decode cX10_lettersAgain 47 = .ok (.iconst 1, 1) := by decide +kernel
theorem dX10_lettersAgain_48 : decode cX10_lettersAgain 48 = .ok (.istore_n 3, 1) := by decide +kernel
theorem dX10_lettersAgain_49 : decode cX10_lettersAgain 49 = .ok (.iload_n 3, 1) := by decide +kernel
theorem dX10_lettersAgain_50 : decode cX10_lettersAgain 50 = .ok (.sipush 400, 3) := by decide +kernel
theorem dX10_lettersAgain_53 : decode cX10_lettersAgain 53 = .ok (.if_icmp .ge 28, 3) := by decide +kernel
theorem dX10_lettersAgain_56 : decode cX10_lettersAgain 56 = .ok (.aload_n 0, 1) := by decide +kernel
theorem dX10_lettersAgain_57 : decode cX10_lettersAgain 57 = .ok (.getfield 35, 3) := by decide +kernel
theorem dX10_lettersAgain_60 : decode cX10_lettersAgain 60 = .ok (.iload_n 3, 1) := by decide +kernel
theorem dX10_lettersAgain_61 : decode cX10_lettersAgain 61 = .ok (.aload_n 0, 1) := by decide +kernel
theorem dX10_lettersAgain_62 : decode cX10_lettersAgain 62 = .ok (.getfield 35, 3) := by decide +kernel
theorem dX10_lettersAgain_65 : decode cX10_lettersAgain 65 = .ok (.iload_n 3, 1) := by decide +kernel
theorem dX10_lettersAgain_66 : decode cX10_lettersAgain 66 = .ok (.iconst 1, 1) := by decide +kernel
theorem dX10_lettersAgain_67 : decode cX10_lettersAgain 67 = .ok (.isub, 1) := by decide +kernel
theorem dX10_lettersAgain_68 : decode cX10_lettersAgain 68 = .ok (.faload, 1) := by decide +kernel
theorem dX10_lettersAgain_69 : decode cX10_lettersAgain 69 = .ok (.iload_n 2, 1) := by decide +kernel
theorem dX10_lettersAgain_70 : decode cX10_lettersAgain 70 = .ok (.invokestatic 111, 3) := by decide +kernel
theorem dX10_lettersAgain_73 : decode cX10_lettersAgain 73 = .ok (.fsub, 1) := by decide +kernel
theorem dX10_lettersAgain_74 : decode cX10_lettersAgain 74 = .ok (.fastore, 1) := by decide +kernel
theorem dX10_lettersAgain_75 : decode cX10_lettersAgain 75 = .ok (.iinc 3 1, 3) := by decide +kernel
theorem dX10_lettersAgain_78 : decode cX10_lettersAgain 78 = .ok (.goto (-29), 3) := by decide +kernel
theorem dX10_lettersAgain_81 : decode cX10_lettersAgain 81 = .ok (.iconst 0, 1) := by decide +kernel
theorem dX10_lettersAgain_82 : decode cX10_lettersAgain 82 = .ok (.istore_n 3, 1) := by decide +kernel
theorem dX10_lettersAgain_83 : decode cX10_lettersAgain 83 = .ok (.aload_n 0, 1) := by decide +kernel
theorem dX10_lettersAgain_84 : decode cX10_lettersAgain 84 = .ok (.getfield 35, 3) := by decide +kernel
theorem dX10_lettersAgain_87 : decode cX10_lettersAgain 87 = .ok (.iload_n 3, 1) := by decide +kernel
theorem dX10_lettersAgain_88 : decode cX10_lettersAgain 88 = .ok (.faload, 1) := by decide +kernel
theorem dX10_lettersAgain_89 : decode cX10_lettersAgain 89 = .ok (.iload_n 2, 1) := by decide +kernel
theorem dX10_lettersAgain_90 : decode cX10_lettersAgain 90 = .ok (.invokestatic 111, 3) := by decide +kernel
theorem dX10_lettersAgain_93 : decode cX10_lettersAgain 93 = .ok (.fcmp .l, 1) := by decide +kernel
theorem dX10_lettersAgain_94 : decode cX10_lettersAgain 94 = .ok (.ifCond .lt 9, 3) := by decide +kernel
theorem dX10_lettersAgain_97 : decode cX10_lettersAgain 97 = .ok (.iinc 3 1, 3) := by decide +kernel
theorem dX10_lettersAgain_100 : decode cX10_lettersAgain 100 = .ok (.goto (-17), 3) := by decide +kernel
theorem dX10_lettersAgain_103 : decode cX10_lettersAgain 103 = .ok (.iload_n 3, 1) := by decide +kernel
theorem dX10_lettersAgain_104 : decode cX10_lettersAgain 104 = .ok (.ireturn, 1) := by decide +kernel
theorem dX10_ranked_0 : decode cX10_ranked 0 = .ok (.aload_n 0, 1) := by decide +kernel
theorem dX10_ranked_1 : decode cX10_ranked 1 = .ok (.iconst 0, 1) := by decide +kernel
theorem dX10_ranked_2 : decode cX10_ranked 2 = .ok (.putfield 50, 3) := by decide +kernel
theorem dX10_ranked_5 : decode cX10_ranked 5 = .ok (.iconst 0, 1) := by decide +kernel
theorem dX10_ranked_6 : decode cX10_ranked 6 = .ok (.istore_n 2, 1) := by decide +kernel
theorem dX10_ranked_7 : decode cX10_ranked 7 = .ok (.iload_n 2, 1) := by decide +kernel
theorem dX10_ranked_8 : decode cX10_ranked 8 = .ok (.aload_n 0, 1) := by decide +kernel
theorem dX10_ranked_9 : decode cX10_ranked 9 = .ok (.getfield 7, 3) := by decide +kernel
theorem dX10_ranked_12 : decode cX10_ranked 12 = .ok (.iconst 2, 1) := by decide +kernel
theorem dX10_ranked_13 : decode cX10_ranked 13 = .ok (.iaload, 1) := by decide +kernel
theorem dX10_ranked_14 : decode cX10_ranked 14 = .ok (.if_icmp .ge 118, 3) := by decide +kernel
theorem dX10_ranked_17 : decode cX10_ranked 17 = .ok (.aload_n 0, 1) := by decide +kernel
theorem dX10_ranked_18 : decode cX10_ranked 18 = .ok (.iload_n 2, 1) := by decide +kernel
theorem dX10_ranked_19 : decode cX10_ranked 19 = .ok (.invokevirtual 139, 3) := by decide +kernel
theorem dX10_ranked_22 : decode cX10_ranked 22 = .ok (.ifCond .ne 6, 3) := by decide +kernel
theorem dX10_ranked_25 : decode cX10_ranked 25 = .ok (.goto 101, 3) := by decide +kernel
theorem dX10_ranked_28 : decode cX10_ranked 28 = .ok (.iconst 0, 1) := by decide +kernel
theorem dX10_ranked_29 : decode cX10_ranked 29 = .ok (.istore_n 3, 1) := by decide +kernel
theorem dX10_ranked_30 : decode cX10_ranked 30 = .ok (.iconst 0, 1) := by decide +kernel
theorem dX10_ranked_31 : decode cX10_ranked 31 = .ok (.istore 4, 2) := by decide +kernel
theorem dX10_ranked_33 : decode cX10_ranked 33 = .ok (.iload 4, 2) := by decide +kernel
theorem dX10_ranked_35 : decode cX10_ranked 35 = .ok (.aload_n 0, 1) := by decide +kernel
theorem dX10_ranked_36 : decode cX10_ranked 36 = .ok (.getfield 7, 3) := by decide +kernel
theorem dX10_ranked_39 : decode cX10_ranked 39 = .ok (.iconst 2, 1) := by decide +kernel
theorem dX10_ranked_40 : decode cX10_ranked 40 = .ok (.iaload, 1) := by decide +kernel
theorem dX10_ranked_41 : decode cX10_ranked 41 = .ok (.if_icmp .ge 78, 3) := by decide +kernel
theorem dX10_ranked_44 : decode cX10_ranked 44 = .ok (.iload_n 3, 1) := by decide +kernel
theorem dX10_ranked_45 : decode cX10_ranked 45 = .ok (.aload_n 0, 1) := by decide +kernel
theorem dX10_ranked_46 : decode cX10_ranked 46 = .ok (.iload 4, 2) := by decide +kernel
theorem dX10_ranked_48 : decode cX10_ranked 48 = .ok (.invokevirtual 139, 3) := by decide +kernel
theorem dX10_ranked_51 : decode cX10_ranked 51 = .ok (.ifCond .eq 59, 3) := by decide +kernel
theorem dX10_ranked_54 : decode cX10_ranked 54 = .ok (.aload_n 0, 1) := by decide +kernel
theorem dX10_ranked_55 : decode cX10_ranked 55 = .ok (.getfield 22, 3) := by decide +kernel
theorem dX10_ranked_58 : decode cX10_ranked 58 = .ok (.bipush 16, 2) := by decide +kernel
theorem dX10_ranked_60 : decode cX10_ranked 60 = .ok (.iload 4, 2) := by decide +kernel
theorem dX10_ranked_62 : decode cX10_ranked 62 = .ok (.iadd, 1) := by decide +kernel
theorem dX10_ranked_63 : decode cX10_ranked 63 = .ok (.faload, 1) := by decide +kernel
theorem dX10_ranked_64 : decode cX10_ranked 64 = .ok (.aload_n 0, 1) := by decide +kernel
theorem dX10_ranked_65 : decode cX10_ranked 65 = .ok (.getfield 22, 3) := by decide +kernel
theorem dX10_ranked_68 : decode cX10_ranked 68 = .ok (.bipush 16, 2) := by decide +kernel
theorem dX10_ranked_70 : decode cX10_ranked 70 = .ok (.iload_n 2, 1) := by decide +kernel
theorem dX10_ranked_71 : decode cX10_ranked 71 = .ok (.iadd, 1) := by decide +kernel
theorem dX10_ranked_72 : decode cX10_ranked 72 = .ok (.faload, 1) := by decide +kernel
theorem dX10_ranked_73 : decode cX10_ranked 73 = .ok (.fcmp .l, 1) := by decide +kernel
theorem dX10_ranked_74 : decode cX10_ranked 74 = .ok (.ifCond .gt 32, 3) := by decide +kernel
theorem dX10_ranked_77 : decode cX10_ranked 77 = .ok (.aload_n 0, 1) := by decide +kernel
theorem dX10_ranked_78 : decode cX10_ranked 78 = .ok (.getfield 22, 3) := by decide +kernel
theorem dX10_ranked_81 : decode cX10_ranked 81 = .ok (.bipush 16, 2) := by decide +kernel
theorem dX10_ranked_83 : decode cX10_ranked 83 = .ok (.iload 4, 2) := by decide +kernel
theorem dX10_ranked_85 : decode cX10_ranked 85 = .ok (.iadd, 1) := by decide +kernel
theorem dX10_ranked_86 : decode cX10_ranked 86 = .ok (.faload, 1) := by decide +kernel
theorem dX10_ranked_87 : decode cX10_ranked 87 = .ok (.aload_n 0, 1) := by decide +kernel
theorem dX10_ranked_88 : decode cX10_ranked 88 = .ok (.getfield 22, 3) := by decide +kernel
theorem dX10_ranked_91 : decode cX10_ranked 91 = .ok (.bipush 16, 2) := by decide +kernel
theorem dX10_ranked_93 : decode cX10_ranked 93 = .ok (.iload_n 2, 1) := by decide +kernel
theorem dX10_ranked_94 : decode cX10_ranked 94 = .ok (.iadd, 1) := by decide +kernel
theorem dX10_ranked_95 : decode cX10_ranked 95 = .ok (.faload, 1) := by decide +kernel
theorem dX10_ranked_96 : decode cX10_ranked 96 = .ok (.fcmp .l, 1) := by decide +kernel
theorem dX10_ranked_97 : decode cX10_ranked 97 = .ok (.ifCond .ne 13, 3) := by decide +kernel
theorem dX10_ranked_100 : decode cX10_ranked 100 = .ok (.iload 4, 2) := by decide +kernel
theorem dX10_ranked_102 : decode cX10_ranked 102 = .ok (.iload_n 2, 1) := by decide +kernel
theorem dX10_ranked_103 : decode cX10_ranked 103 = .ok (.if_icmp .ge 7, 3) := by decide +kernel
theorem dX10_ranked_106 : decode cX10_ranked 106 = .ok (.iconst 1, 1) := by decide +kernel
theorem dX10_ranked_107 : decode cX10_ranked 107 = .ok (.goto 4, 3) := by decide +kernel
theorem dX10_ranked_110 : decode cX10_ranked 110 = .ok (.iconst 0, 1) := by decide +kernel
theorem dX10_ranked_111 : decode cX10_ranked 111 = .ok (.iadd, 1) := by decide +kernel
theorem dX10_ranked_112 : decode cX10_ranked 112 = .ok (.istore_n 3, 1) := by decide +kernel
theorem dX10_ranked_113 : decode cX10_ranked 113 = .ok (.iinc 4 1, 3) := by decide +kernel
theorem dX10_ranked_116 : decode cX10_ranked 116 = .ok (.goto (-83), 3) := by decide +kernel
theorem dX10_ranked_119 : decode cX10_ranked 119 = .ok (.iload_n 3, 1) := by decide +kernel
theorem dX10_ranked_120 : decode cX10_ranked 120 = .ok (.iload_n 1, 1) := by decide +kernel
theorem dX10_ranked_121 : decode cX10_ranked 121 = .ok (.if_icmp .ne 5, 3) := by decide +kernel
theorem dX10_ranked_124 : decode cX10_ranked 124 = .ok (.iload_n 2, 1) := by decide +kernel
theorem dX10_ranked_125 : decode cX10_ranked 125 = .ok (.ireturn, 1) := by decide +kernel
theorem dX10_ranked_126 : decode cX10_ranked 126 = .ok (.iinc 2 1, 3) := by decide +kernel
theorem dX10_ranked_129 : decode cX10_ranked 129 = .ok (.goto (-122), 3) := by decide +kernel
theorem dX10_ranked_132 : decode cX10_ranked 132 = .ok (.aload_n 0, 1) := by decide +kernel
theorem dX10_ranked_133 : decode cX10_ranked 133 = .ok (.iconst 1, 1) := by decide +kernel
theorem dX10_ranked_134 : decode cX10_ranked 134 = .ok (.invokevirtual 59, 3) := by decide +kernel
theorem dX10_ranked_137 : decode cX10_ranked 137 = .ok (.ireturn, 1) := by decide +kernel
theorem dX10_potato_0 : decode cX10_potato 0 = .ok (.aload_n 0, 1) := by decide +kernel
theorem dX10_potato_1 : decode cX10_potato 1 = .ok (.iconst 0, 1) := by decide +kernel
theorem dX10_potato_2 : decode cX10_potato 2 = .ok (.putfield 50, 3) := by decide +kernel
theorem dX10_potato_5 : decode cX10_potato 5 = .ok (.aload_n 0, 1) := by decide +kernel
theorem dX10_potato_6 : decode cX10_potato 6 = .ok (.getfield 7, 3) := by decide +kernel
theorem dX10_potato_9 : decode cX10_potato 9 = .ok (.iconst 3, 1) := by decide +kernel
theorem dX10_potato_10 : decode cX10_potato 10 = .ok (.iaload, 1) := by decide +kernel
theorem dX10_potato_11 : decode cX10_potato 11 = .ok (.iconst 5, 1) := by decide +kernel
theorem dX10_potato_12 : decode cX10_potato 12 = .ok (.if_icmp .ne 15, 3) := by decide +kernel
theorem dX10_potato_15 : decode cX10_potato 15 = .ok (.aload_n 0, 1) := by decide +kernel
theorem dX10_potato_16 : decode cX10_potato 16 = .ok (.aload_n 0, 1) := by decide +kernel
theorem dX10_potato_17 : decode cX10_potato 17 = .ok (.iconst 1, 1) := by decide +kernel
theorem dX10_potato_18 : decode cX10_potato 18 = .ok (.iconst 5, 1) := by decide +kernel
theorem dX10_potato_19 : decode cX10_potato 19 = .ok (.invokevirtual 89, 3) := by decide +kernel
theorem dX10_potato_22 : decode cX10_potato 22 = .ok (.iconst 1, 1) := by decide +kernel
theorem dX10_potato_23 : decode cX10_potato 23 = .ok (.invokevirtual 92, 3) := by decide +kernel
theorem dX10_potato_26 : decode cX10_potato 26 = .ok (.ireturn, 1) := by decide +kernel
theorem dX10_potato_27 : decode cX10_potato 27 = .ok (.aload_n 0, 1) := by decide +kernel
theorem dX10_potato_28 : decode cX10_potato 28 = .ok (.invokevirtual 95, 3) := by decide +kernel
theorem dX10_potato_31 : decode cX10_potato 31 = .ok (.aload_n 0, 1) := by decide +kernel
theorem dX10_potato_32 : decode cX10_potato 32 = .ok (.getfield 7, 3) := by decide +kernel
theorem dX10_potato_35 : decode cX10_potato 35 = .ok (.iconst 3, 1) := by decide +kernel
theorem dX10_potato_36 : decode cX10_potato 36 = .ok (.iaload, 1) := by decide +kernel
theorem dX10_potato_37 : decode cX10_potato 37 = .ok (.istore_n 1, 1) := by decide +kernel
theorem dX10_potato_38 : decode cX10_potato 38 = .ok (.aload_n 0, 1) := by decide +kernel
theorem dX10_potato_39 : decode cX10_potato 39 = .ok (.getfield 7, 3) := by decide +kernel
theorem dX10_potato_42 : decode cX10_potato 42 = .ok (.iconst 3, 1) := by decide +kernel
theorem dX10_potato_43 : decode cX10_potato 43 = .ok (.dup2, 1) := by decide +kernel
theorem dX10_potato_44 : decode cX10_potato 44 = .ok (.iaload, 1) := by decide +kernel
theorem dX10_potato_45 : decode cX10_potato 45 = .ok (.iconst 1, 1) := by decide +kernel
theorem dX10_potato_46 : decode cX10_potato 46 = .ok (.iadd, 1) := by decide +kernel
theorem dX10_potato_47 : decode cX10_potato 47 = .ok (.iastore, 1) := by decide +kernel
theorem dX10_potato_48 : decode cX10_potato 48 = .ok (.aload_n 0, 1) := by decide +kernel
theorem dX10_potato_49 : decode cX10_potato 49 = .ok (.getfield 22, 3) := by decide +kernel
theorem dX10_potato_52 : decode cX10_potato 52 = .ok (.bipush 8, 2) := by decide +kernel
theorem dX10_potato_54 : decode cX10_potato 54 = .ok (.iload_n 1, 1) := by decide +kernel
theorem dX10_potato_55 : decode cX10_potato 55 = .ok (.iadd, 1) := by decide +kernel
theorem dX10_potato_56 : decode cX10_potato 56 = .ok (.fconst 1, 1) := by decide +kernel
theorem dX10_potato_57 : decode cX10_potato 57 = .ok (.fastore, 1) := by decide +kernel
theorem dX10_potato_58 : decode cX10_potato 58 = .ok (.iload_n 1, 1) := by decide +kernel
theorem dX10_potato_59 : decode cX10_potato 59 = .ok (.ireturn, 1) := by decide +kernel
theorem dX10_firmness_0 : decode cX10_firmness 0 = .ok (.aload_n 0, 1) := by decide +kernel
theorem dX10_firmness_1 : decode cX10_firmness 1 = .ok (.iconst 0, 1) := by decide +kernel
theorem dX10_firmness_2 : decode cX10_firmness 2 = .ok (.putfield 50, 3) := by decide +kernel
theorem dX10_firmness_5 : decode cX10_firmness 5 = .ok (.aload_n 0, 1) := by decide +kernel
theorem dX10_firmness_6 : decode cX10_firmness 6 = .ok (.iload_n 1, 1) := by decide +kernel
theorem dX10_firmness_7 : decode cX10_firmness 7 = .ok (.invokevirtual 152, 3) := by decide +kernel
theorem dX10_firmness_10 : decode cX10_firmness 10 = .ok (.ifCond .eq 15, 3) := by decide +kernel
theorem dX10_firmness_13 : decode cX10_firmness 13 = .ok (.aload_n 0, 1) := by decide +kernel
theorem dX10_firmness_14 : decode cX10_firmness 14 = .ok (.getfield 22, 3) := by decide +kernel
theorem dX10_firmness_17 : decode cX10_firmness 17 = .ok (.bipush 8, 2) := by decide +kernel
theorem dX10_firmness_19 : decode cX10_firmness 19 = .ok (.iload_n 1, 1) := by decide +kernel
theorem dX10_firmness_20 : decode cX10_firmness 20 = .ok (.iadd, 1) := by decide +kernel
theorem dX10_firmness_21 : decode cX10_firmness 21 = .ok (.faload, 1) := by decide +kernel
theorem dX10_firmness_22 : decode cX10_firmness 22 = .ok (.goto 9, 3) := by decide +kernel
theorem dX10_firmness_25 : decode cX10_firmness 25 = .ok (.aload_n 0, 1) := by decide +kernel
theorem dX10_firmness_26 : decode cX10_firmness 26 = .ok (.iconst 1, 1) := by decide +kernel
theorem dX10_firmness_27 : decode cX10_firmness 27 = .ok (.invokevirtual 59, 3) := by decide +kernel
theorem dX10_firmness_30 : decode cX10_firmness 30 = .ok (.i2f, 1) := by decide +kernel
theorem dX10_firmness_31 : decode cX10_firmness 31 = .ok (.freturn, 1) := by decide +kernel
theorem dX10_printBy_0 : decode cX10_printBy 0 = .ok (.fload_n 0, 1) := by decide +kernel
theorem dX10_printBy_1 : decode cX10_printBy 1 = .ok (.fload_n 1, 1) := by decide +kernel
theorem dX10_printBy_2 : decode cX10_printBy 2 = .ok (.fload_n 1, 1) := by decide +kernel
theorem dX10_printBy_3 : decode cX10_printBy 3 = .ok (.ldc 155, 2) := by decide +kernel
theorem dX10_printBy_5 : decode cX10_printBy 5 = .ok (.fadd, 1) := by decide +kernel
theorem dX10_printBy_6 : decode cX10_printBy 6 = .ok (.fdiv, 1) := by decide +kernel
theorem dX10_printBy_7 : decode cX10_printBy 7 = .ok (.fmul, 1) := by decide +kernel
theorem dX10_printBy_8 : decode cX10_printBy 8 = .ok (.freturn, 1) := by decide +kernel
theorem dX10_printNow_0 : decode cX10_printNow 0 = .ok (.aload_n 0, 1) := by decide +kernel
theorem dX10_printNow_1 : decode cX10_printNow 1 = .ok (.getfield 22, 3) := by decide +kernel
theorem dX10_printNow_4 : decode cX10_printNow 4 = .ok (.bipush 8, 2) := by decide +kernel
theorem dX10_printNow_6 : decode cX10_printNow 6 = .ok (.iload_n 1, 1) := by decide +kernel
theorem dX10_printNow_7 : decode cX10_printNow 7 = .ok (.iadd, 1) := by decide +kernel
theorem dX10_printNow_8 : decode cX10_printNow 8 = .ok (.faload, 1) := by decide +kernel
theorem dX10_printNow_9 : decode cX10_printNow 9 = .ok (.aload_n 0, 1) := by decide +kernel
theorem dX10_printNow_10 : decode cX10_printNow 10 = .ok (.getfield 22, 3) := by decide +kernel
theorem dX10_printNow_13 : decode cX10_printNow 13 = .ok (.bipush 14, 2) := by decide +kernel
theorem dX10_printNow_15 : decode cX10_printNow 15 = .ok (.faload, 1) := by decide +kernel
theorem dX10_printNow_16 : decode cX10_printNow 16 = .ok (.invokestatic 156, 3) := by decide +kernel
theorem dX10_printNow_19 : decode cX10_printNow 19 = .ok (.freturn, 1) := by decide +kernel
theorem dX10_print_0 : decode cX10_print 0 = .ok (.aload_n 0, 1) := by decide +kernel
theorem dX10_print_1 : decode cX10_print 1 = .ok (.iconst 0, 1) := by decide +kernel
theorem dX10_print_2 : decode cX10_print 2 = .ok (.putfield 50, 3) := by decide +kernel
theorem dX10_print_5 : decode cX10_print 5 = .ok (.aload_n 0, 1) := by decide +kernel
theorem dX10_print_6 : decode cX10_print 6 = .ok (.iload_n 1, 1) := by decide +kernel
theorem dX10_print_7 : decode cX10_print 7 = .ok (.invokevirtual 152, 3) := by decide +kernel
theorem dX10_print_10 : decode cX10_print 10 = .ok (.ifCond .eq 14, 3) := by decide +kernel
theorem dX10_print_13 : decode cX10_print 13 = .ok (.aload_n 0, 1) := by decide +kernel
theorem dX10_print_14 : decode cX10_print 14 = .ok (.iload_n 1, 1) := by decide +kernel
theorem dX10_print_15 : decode cX10_print 15 = .ok (.invokevirtual 160, 3) := by decide +kernel
theorem dX10_print_18 : decode cX10_print 18 = .ok (.invokestatic 142, 3) := by decide +kernel
theorem dX10_print_21 : decode cX10_print 21 = .ok (.goto 8, 3) := by decide +kernel
theorem dX10_print_24 : decode cX10_print 24 = .ok (.aload_n 0, 1) := by decide +kernel
theorem dX10_print_25 : decode cX10_print 25 = .ok (.iconst 1, 1) := by decide +kernel
theorem dX10_print_26 : decode cX10_print 26 = .ok (.invokevirtual 59, 3) := by decide +kernel
theorem dX10_print_29 : decode cX10_print 29 = .ok (.ireturn, 1) := by decide +kernel
theorem dX10_stampsOf_0 : decode cX10_stampsOf 0 = .ok (.aload_n 0, 1) := by decide +kernel
theorem dX10_stampsOf_1 : decode cX10_stampsOf 1 = .ok (.iconst 0, 1) := by decide +kernel
theorem dX10_stampsOf_2 : decode cX10_stampsOf 2 = .ok (.putfield 50, 3) := by decide +kernel
theorem dX10_stampsOf_5 : decode cX10_stampsOf 5 = .ok (.aload_n 0, 1) := by decide +kernel
theorem dX10_stampsOf_6 : decode cX10_stampsOf 6 = .ok (.iload_n 1, 1) := by decide +kernel
theorem dX10_stampsOf_7 : decode cX10_stampsOf 7 = .ok (.invokevirtual 152, 3) := by decide +kernel
theorem dX10_stampsOf_10 : decode cX10_stampsOf 10 = .ok (.ifCond .ne 9, 3) := by decide +kernel
theorem dX10_stampsOf_13 : decode cX10_stampsOf 13 = .ok (.aload_n 0, 1) := by decide +kernel
theorem dX10_stampsOf_14 : decode cX10_stampsOf 14 = .ok (.iconst 1, 1) := by decide +kernel
theorem dX10_stampsOf_15 : decode cX10_stampsOf 15 = .ok (.invokevirtual 59, 3) := by decide +kernel
theorem dX10_stampsOf_18 : decode cX10_stampsOf 18 = .ok (.ireturn, 1) := by decide +kernel
theorem dX10_stampsOf_19 : decode cX10_stampsOf 19 = .ok (.aload_n 0, 1) := by decide +kernel
theorem dX10_stampsOf_20 : decode cX10_stampsOf 20 = .ok (.getfield 22, 3) := by decide +kernel
theorem dX10_stampsOf_23 : decode cX10_stampsOf 23 = .ok (.bipush 8, 2) := by decide +kernel
theorem dX10_stampsOf_25 : decode cX10_stampsOf 25 = .ok (.iload_n 1, 1) := by decide +kernel
theorem dX10_stampsOf_26 : decode cX10_stampsOf 26 = .ok (.iadd, 1) := by decide +kernel
theorem dX10_stampsOf_27 : decode cX10_stampsOf 27 = .ok (.faload, 1) := by decide +kernel
theorem dX10_stampsOf_28 : decode cX10_stampsOf 28 = .ok (.fstore_n 2, 1) := by decide +kernel
theorem dX10_stampsOf_29 : decode cX10_stampsOf 29 = .ok (.aload_n 0, 1) := by decide +kernel
theorem dX10_stampsOf_30 : decode cX10_stampsOf 30 = .ok (.getfield 22, 3) := by decide +kernel
theorem dX10_stampsOf_33 : decode cX10_stampsOf 33 = .ok (.bipush 14, 2) := by decide +kernel
theorem dX10_stampsOf_35 : decode cX10_stampsOf 35 = .ok (.faload, 1) := by decide +kernel
theorem dX10_stampsOf_36 : decode cX10_stampsOf 36 = .ok (.fstore_n 3, 1) := by decide +kernel
theorem dX10_stampsOf_37 : decode cX10_stampsOf 37 = .ok (.iconst 0, 1) := by decide +kernel
theorem dX10_stampsOf_38 : decode cX10_stampsOf 38 = .ok (.istore 4, 2) := by decide +kernel
theorem dX10_stampsOf_40 : decode cX10_stampsOf 40 = .ok (.fload_n 2, 1) := by decide +kernel
theorem dX10_stampsOf_41 : decode cX10_stampsOf 41 = .ok (.fload_n 3, 1) := by decide +kernel
theorem dX10_stampsOf_42 : decode cX10_stampsOf 42 = .ok (.invokestatic 156, 3) := by decide +kernel
theorem dX10_stampsOf_45 : decode cX10_stampsOf 45 = .ok (.ldc 163, 2) := by decide +kernel
theorem dX10_stampsOf_47 : decode cX10_stampsOf 47 = .ok (.fcmp .l, 1) := by decide +kernel
theorem dX10_stampsOf_48 : decode cX10_stampsOf 48 = .ok (.ifCond .lt 19, 3) := by decide +kernel
theorem dX10_stampsOf_51 : decode cX10_stampsOf 51 = .ok (.ldc 164, 2) := by decide +kernel
theorem dX10_stampsOf_53 : decode cX10_stampsOf 53 = .ok (.fload_n 2, 1) := by decide +kernel
theorem dX10_stampsOf_54 : decode cX10_stampsOf 54 = .ok (.fmul, 1) := by decide +kernel
theorem dX10_stampsOf_55 : decode cX10_stampsOf 55 = .ok (.fstore_n 2, 1) := by decide +kernel
theorem dX10_stampsOf_56 : decode cX10_stampsOf 56 = .ok (.ldc 165, 2) := by decide +kernel
theorem dX10_stampsOf_58 : decode cX10_stampsOf 58 = .ok (.fload_n 3, 1) := by decide +kernel
theorem dX10_stampsOf_59 : decode cX10_stampsOf 59 = .ok (.fmul, 1) := by decide +kernel
theorem dX10_stampsOf_60 : decode cX10_stampsOf 60 = .ok (.fstore_n 3, 1) := by decide +kernel
theorem dX10_stampsOf_61 : decode cX10_stampsOf 61 = .ok (.iinc 4 1, 3) := by decide +kernel
theorem dX10_stampsOf_64 : decode cX10_stampsOf 64 = .ok (.goto (-24), 3) := by decide +kernel
theorem dX10_stampsOf_67 : decode cX10_stampsOf 67 = .ok (.iload 4, 2) := by decide +kernel
theorem dX10_stampsOf_69 : decode cX10_stampsOf 69 = .ok (.ireturn, 1) := by decide +kernel
theorem dX10_best_0 : decode cX10_best 0 = .ok (.aload_n 0, 1) := by decide +kernel
theorem dX10_best_1 : decode cX10_best 1 = .ok (.iconst 0, 1) := by decide +kernel
theorem dX10_best_2 : decode cX10_best 2 = .ok (.putfield 50, 3) := by decide +kernel
theorem dX10_best_5 : decode cX10_best 5 = .ok (.iconst (-1), 1) := by decide +kernel
theorem dX10_best_6 : decode cX10_best 6 = .ok (.istore_n 1, 1) := by decide +kernel
theorem dX10_best_7 : decode cX10_best 7 = .ok (.iconst 0, 1) := by decide +kernel
theorem dX10_best_8 : decode cX10_best 8 = .ok (.istore_n 2, 1) := by decide +kernel
theorem dX10_best_9 : decode cX10_best 9 = .ok (.iload_n 2, 1) := by decide +kernel
theorem dX10_best_10 : decode cX10_best 10 = .ok (.aload_n 0, 1) := by decide +kernel
theorem dX10_best_11 : decode cX10_best 11 = .ok (.getfield 7, 3) := by decide +kernel
theorem dX10_best_14 : decode cX10_best 14 = .ok (.iconst 3, 1) := by decide +kernel
theorem dX10_best_15 : decode cX10_best 15 = .ok (.iaload, 1) := by decide +kernel
theorem dX10_best_16 : decode cX10_best 16 = .ok (.if_icmp .ge 29, 3) := by decide +kernel
theorem dX10_best_19 : decode cX10_best 19 = .ok (.iload_n 1, 1) := by decide +kernel
theorem dX10_best_20 : decode cX10_best 20 = .ok (.ifCond .lt 17, 3) := by decide +kernel
theorem dX10_best_23 : decode cX10_best 23 = .ok (.aload_n 0, 1) := by decide +kernel
theorem dX10_best_24 : decode cX10_best 24 = .ok (.iload_n 2, 1) := by decide +kernel
theorem dX10_best_25 : decode cX10_best 25 = .ok (.invokevirtual 160, 3) := by decide +kernel
theorem dX10_best_28 : decode cX10_best 28 = .ok (.aload_n 0, 1) := by decide +kernel
theorem dX10_best_29 : decode cX10_best 29 = .ok (.iload_n 1, 1) := by decide +kernel
theorem dX10_best_30 : decode cX10_best 30 = .ok (.invokevirtual 160, 3) := by decide +kernel
theorem dX10_best_33 : decode cX10_best 33 = .ok (.fcmp .l, 1) := by decide +kernel
theorem dX10_best_34 : decode cX10_best 34 = .ok (.ifCond .le 5, 3) := by decide +kernel
theorem dX10_best_37 : decode cX10_best 37 = .ok (.iload_n 2, 1) := by decide +kernel
theorem dX10_best_38 : decode cX10_best 38 = .ok (.istore_n 1, 1) := by decide +kernel
theorem dX10_best_39 : decode cX10_best 39 = .ok (.iinc 2 1, 3) := by decide +kernel
theorem dX10_best_42 : decode cX10_best 42 = .ok (.goto (-33), 3) := by decide +kernel
theorem dX10_best_45 : decode cX10_best 45 = .ok (.iload_n 1, 1) := by decide +kernel
theorem dX10_best_46 : decode cX10_best 46 = .ok (.ifCond .ge 11, 3) := by decide +kernel
theorem dX10_best_49 : decode cX10_best 49 = .ok (.aload_n 0, 1) := by decide +kernel
theorem dX10_best_50 : decode cX10_best 50 = .ok (.iconst 1, 1) := by decide +kernel
theorem dX10_best_51 : decode cX10_best 51 = .ok (.invokevirtual 59, 3) := by decide +kernel
theorem dX10_best_54 : decode cX10_best 54 = .ok (.goto 4, 3) := by decide +kernel
theorem dX10_best_57 : decode cX10_best 57 = .ok (.iload_n 1, 1) := by decide +kernel
theorem dX10_best_58 : decode cX10_best 58 = .ok (.ireturn, 1) := by decide +kernel
theorem dX10_ink_0 : decode cX10_ink 0 = .ok (.aload_n 0, 1) := by decide +kernel
theorem dX10_ink_1 : decode cX10_ink 1 = .ok (.iconst 0, 1) := by decide +kernel
theorem dX10_ink_2 : decode cX10_ink 2 = .ok (.putfield 50, 3) := by decide +kernel
theorem dX10_ink_5 : decode cX10_ink 5 = .ok (.iload_n 1, 1) := by decide +kernel
theorem dX10_ink_6 : decode cX10_ink 6 = .ok (.iconst 1, 1) := by decide +kernel
theorem dX10_ink_7 : decode cX10_ink 7 = .ok (.bipush 50, 2) := by decide +kernel
theorem dX10_ink_9 : decode cX10_ink 9 = .ok (.invokestatic 81, 3) := by decide +kernel
theorem dX10_ink_12 : decode cX10_ink 12 = .ok (.ifCond .ne 9, 3) := by decide +kernel
theorem dX10_ink_15 : decode cX10_ink 15 = .ok (.aload_n 0, 1) := by decide +kernel
theorem dX10_ink_16 : decode cX10_ink 16 = .ok (.iconst 1, 1) := by decide +kernel
theorem dX10_ink_17 : decode cX10_ink 17 = .ok (.invokevirtual 59, 3) := by decide +kernel
theorem dX10_ink_20 : decode cX10_ink 20 = .ok (.ireturn, 1) := by decide +kernel
theorem dX10_ink_21 : decode cX10_ink 21 = .ok (.aload_n 0, 1) := by decide +kernel
theorem dX10_ink_22 : decode cX10_ink 22 = .ok (.invokevirtual 95, 3) := by decide +kernel
theorem dX10_ink_25 : decode cX10_ink 25 = .ok (.aload_n 0, 1) := by decide +kernel
theorem dX10_ink_26 : decode cX10_ink 26 = .ok (.getfield 22, 3) := by decide +kernel
theorem dX10_ink_29 : decode cX10_ink 29 = .ok (.bipush 14, 2) := by decide +kernel
theorem dX10_ink_31 : decode cX10_ink 31 = .ok (.aload_n 0, 1) := by decide +kernel
theorem dX10_ink_32 : decode cX10_ink 32 = .ok (.getfield 22, 3) := by decide +kernel
theorem dX10_ink_35 : decode cX10_ink 35 = .ok (.bipush 14, 2) := by decide +kernel
theorem dX10_ink_37 : decode cX10_ink 37 = .ok (.faload, 1) := by decide +kernel
theorem dX10_ink_38 : decode cX10_ink 38 = .ok (.ldc 98, 2) := by decide +kernel
theorem dX10_ink_40 : decode cX10_ink 40 = .ok (.iload_n 1, 1) := by decide +kernel
theorem dX10_ink_41 : decode cX10_ink 41 = .ok (.i2f, 1) := by decide +kernel
theorem dX10_ink_42 : decode cX10_ink 42 = .ok (.fmul, 1) := by decide +kernel
theorem dX10_ink_43 : decode cX10_ink 43 = .ok (.fadd, 1) := by decide +kernel
theorem dX10_ink_44 : decode cX10_ink 44 = .ok (.fastore, 1) := by decide +kernel
theorem dX10_ink_45 : decode cX10_ink 45 = .ok (.aload_n 0, 1) := by decide +kernel
theorem dX10_ink_46 : decode cX10_ink 46 = .ok (.getfield 22, 3) := by decide +kernel
theorem dX10_ink_49 : decode cX10_ink 49 = .ok (.bipush 14, 2) := by decide +kernel
theorem dX10_ink_51 : decode cX10_ink 51 = .ok (.faload, 1) := by decide +kernel
theorem dX10_ink_52 : decode cX10_ink 52 = .ok (.ldc 166, 2) := by decide +kernel
theorem dX10_ink_54 : decode cX10_ink 54 = .ok (.fcmp .l, 1) := by decide +kernel
theorem dX10_ink_55 : decode cX10_ink 55 = .ok (.ifCond .le 12, 3) := by decide +kernel
theorem dX10_ink_58 : decode cX10_ink 58 = .ok (.aload_n 0, 1) := by decide +kernel
theorem dX10_ink_59 : decode cX10_ink 59 = .ok (.getfield 22, 3) := by decide +kernel
theorem dX10_ink_62 : decode cX10_ink 62 = .ok (.bipush 14, 2) := by decide +kernel
theorem dX10_ink_64 : decode cX10_ink 64 = .ok (.ldc 166, 2) := by decide +kernel
theorem dX10_ink_66 : decode cX10_ink 66 = .ok (.fastore, 1) := by decide +kernel
theorem dX10_ink_67 : decode cX10_ink 67 = .ok (.aload_n 0, 1) := by decide +kernel
theorem dX10_ink_68 : decode cX10_ink 68 = .ok (.getfield 22, 3) := by decide +kernel
theorem dX10_ink_71 : decode cX10_ink 71 = .ok (.bipush 14, 2) := by decide +kernel
theorem dX10_ink_73 : decode cX10_ink 73 = .ok (.faload, 1) := by decide +kernel
theorem dX10_ink_74 : decode cX10_ink 74 = .ok (.invokestatic 142, 3) := by decide +kernel
theorem dX10_ink_77 : decode cX10_ink 77 = .ok (.ireturn, 1) := by decide +kernel
theorem dX10_inkNow_0 : decode cX10_inkNow 0 = .ok (.aload_n 0, 1) := by decide +kernel
theorem dX10_inkNow_1 : decode cX10_inkNow 1 = .ok (.iconst 0, 1) := by decide +kernel
theorem dX10_inkNow_2 : decode cX10_inkNow 2 = .ok (.putfield 50, 3) := by decide +kernel
theorem dX10_inkNow_5 : decode cX10_inkNow 5 = .ok (.aload_n 0, 1) := by decide +kernel
theorem dX10_inkNow_6 : decode cX10_inkNow 6 = .ok (.getfield 22, 3) := by decide +kernel
theorem dX10_inkNow_9 : decode cX10_inkNow 9 = .ok (.bipush 14, 2) := by decide +kernel
theorem dX10_inkNow_11 : decode cX10_inkNow 11 = .ok (.faload, 1) := by decide +kernel
theorem dX10_inkNow_12 : decode cX10_inkNow 12 = .ok (.freturn, 1) := by decide +kernel
theorem dX10_notStamp_0 : decode cX10_notStamp 0 = .ok (.aload_n 0, 1) := by decide +kernel
theorem dX10_notStamp_1 : decode cX10_notStamp 1 = .ok (.iload_n 1, 1) := by decide +kernel
theorem dX10_notStamp_2 : decode cX10_notStamp 2 = .ok (.invokevirtual 136, 3) := by decide +kernel
theorem dX10_notStamp_5 : decode cX10_notStamp 5 = .ok (.ifCond .eq 11, 3) := by decide +kernel
theorem dX10_notStamp_8 : decode cX10_notStamp 8 = .ok (.aload_n 0, 1) := by decide +kernel
theorem dX10_notStamp_9 : decode cX10_notStamp 9 = .ok (.iload_n 2, 1) := by decide +kernel
theorem dX10_notStamp_10 : decode cX10_notStamp 10 = .ok (.invokevirtual 152, 3) := by decide +kernel
theorem dX10_notStamp_13 : decode cX10_notStamp 13 = .ok (.ifCond .ne 5, 3) := by decide +kernel
theorem dX10_notStamp_16 : decode cX10_notStamp 16 = .ok (.iconst 1, 1) := by decide +kernel
theorem dX10_notStamp_17 : decode cX10_notStamp 17 = .ok (.ireturn, 1) := by decide +kernel
theorem dX10_notStamp_18 : decode cX10_notStamp 18 = .ok (.aload_n 0, 1) := by decide +kernel
theorem dX10_notStamp_19 : decode cX10_notStamp 19 = .ok (.iload_n 1, 1) := by decide +kernel
theorem dX10_notStamp_20 : decode cX10_notStamp 20 = .ok (.iconst 4, 1) := by decide +kernel
theorem dX10_notStamp_21 : decode cX10_notStamp 21 = .ok (.invokevirtual 85, 3) := by decide +kernel
theorem dX10_notStamp_24 : decode cX10_notStamp 24 = .ok (.ifCond .eq 15, 3) := by decide +kernel
theorem dX10_notStamp_27 : decode cX10_notStamp 27 = .ok (.aload_n 0, 1) := by decide +kernel
theorem dX10_notStamp_28 : decode cX10_notStamp 28 = .ok (.iconst 5, 1) := by decide +kernel
theorem dX10_notStamp_29 : decode cX10_notStamp 29 = .ok (.aload_n 0, 1) := by decide +kernel
theorem dX10_notStamp_30 : decode cX10_notStamp 30 = .ok (.iload_n 1, 1) := by decide +kernel
theorem dX10_notStamp_31 : decode cX10_notStamp 31 = .ok (.iconst 4, 1) := by decide +kernel
theorem dX10_notStamp_32 : decode cX10_notStamp 32 = .ok (.invokevirtual 85, 3) := by decide +kernel
theorem dX10_notStamp_35 : decode cX10_notStamp 35 = .ok (.invokevirtual 89, 3) := by decide +kernel
theorem dX10_notStamp_38 : decode cX10_notStamp 38 = .ok (.ireturn, 1) := by decide +kernel
theorem dX10_notStamp_39 : decode cX10_notStamp 39 = .ok (.aload_n 0, 1) := by decide +kernel
theorem dX10_notStamp_40 : decode cX10_notStamp 40 = .ok (.iload_n 2, 1) := by decide +kernel
theorem dX10_notStamp_41 : decode cX10_notStamp 41 = .ok (.invokevirtual 160, 3) := by decide +kernel
theorem dX10_notStamp_44 : decode cX10_notStamp 44 = .ok (.ldc 163, 2) := by decide +kernel
theorem dX10_notStamp_46 : decode cX10_notStamp 46 = .ok (.fcmp .l, 1) := by decide +kernel
theorem dX10_notStamp_47 : decode cX10_notStamp 47 = .ok (.ifCond .lt 7, 3) := by decide +kernel
theorem dX10_notStamp_50 : decode cX10_notStamp 50 = .ok (.iconst 0, 1) := by decide +kernel
theorem dX10_notStamp_51 : decode cX10_notStamp 51 = .ok (.goto 10, 3) := by decide +kernel
theorem dX10_notStamp_54 : decode cX10_notStamp 54 = .ok (.aload_n 0, 1) := by decide +kernel
theorem dX10_notStamp_55 : decode cX10_notStamp 55 = .ok (.bipush 6, 2) := by decide +kernel
theorem dX10_notStamp_57 : decode cX10_notStamp 57 = .ok (.iload_n 2, 1) := by decide +kernel
theorem dX10_notStamp_58 : decode cX10_notStamp 58 = .ok (.invokevirtual 89, 3) := by decide +kernel
theorem dX10_notStamp_61 : decode cX10_notStamp 61 = .ok (.ireturn, 1) := by decide +kernel
theorem dX10_stamps_0 : decode cX10_stamps 0 = .ok (.aload_n 0, 1) := by decide +kernel
theorem dX10_stamps_1 : decode cX10_stamps 1 = .ok (.iload_n 2, 1) := by decide +kernel
theorem dX10_stamps_2 : decode cX10_stamps 2 = .ok (.invokevirtual 160, 3) := by decide +kernel
theorem dX10_stamps_5 : decode cX10_stamps 5 = .ok (.invokestatic 142, 3) := by decide +kernel
theorem dX10_stamps_8 : decode cX10_stamps 8 = .ok (.istore_n 3, 1) := by decide +kernel
theorem dX10_stamps_9 : decode cX10_stamps 9 = .ok (.aload_n 0, 1) := by decide +kernel
theorem dX10_stamps_10 : decode cX10_stamps 10 = .ok (.iload_n 1, 1) := by decide +kernel
theorem dX10_stamps_11 : decode cX10_stamps 11 = .ok (.iconst 4, 1) := by decide +kernel
theorem dX10_stamps_12 : decode cX10_stamps 12 = .ok (.iconst 1, 1) := by decide +kernel
theorem dX10_stamps_13 : decode cX10_stamps 13 = .ok (.invokevirtual 104, 3) := by decide +kernel
theorem dX10_stamps_16 : decode cX10_stamps 16 = .ok (.aload_n 0, 1) := by decide +kernel
theorem dX10_stamps_17 : decode cX10_stamps 17 = .ok (.iload_n 1, 1) := by decide +kernel
theorem dX10_stamps_18 : decode cX10_stamps 18 = .ok (.bipush 6, 2) := by decide +kernel
theorem dX10_stamps_20 : decode cX10_stamps 20 = .ok (.iload_n 2, 1) := by decide +kernel
theorem dX10_stamps_21 : decode cX10_stamps 21 = .ok (.iconst 1, 1) := by decide +kernel
theorem dX10_stamps_22 : decode cX10_stamps 22 = .ok (.iadd, 1) := by decide +kernel
theorem dX10_stamps_23 : decode cX10_stamps 23 = .ok (.invokevirtual 104, 3) := by decide +kernel
theorem dX10_stamps_26 : decode cX10_stamps 26 = .ok (.aload_n 0, 1) := by decide +kernel
theorem dX10_stamps_27 : decode cX10_stamps 27 = .ok (.getfield 22, 3) := by decide +kernel
theorem dX10_stamps_30 : decode cX10_stamps 30 = .ok (.bipush 8, 2) := by decide +kernel
theorem dX10_stamps_32 : decode cX10_stamps 32 = .ok (.iload_n 2, 1) := by decide +kernel
theorem dX10_stamps_33 : decode cX10_stamps 33 = .ok (.iadd, 1) := by decide +kernel
theorem dX10_stamps_34 : decode cX10_stamps 34 = .ok (.ldc 164, 2) := by decide +kernel
theorem dX10_stamps_36 : decode cX10_stamps 36 = .ok (.aload_n 0, 1) := by decide +kernel
theorem dX10_stamps_37 : decode cX10_stamps 37 = .ok (.getfield 22, 3) := by decide +kernel
theorem dX10_stamps_40 : decode cX10_stamps 40 = .ok (.bipush 8, 2) := by decide +kernel
theorem dX10_stamps_42 : decode cX10_stamps 42 = .ok (.iload_n 2, 1) := by decide +kernel
theorem dX10_stamps_43 : decode cX10_stamps 43 = .ok (.iadd, 1) := by decide +kernel
theorem dX10_stamps_44 : decode cX10_stamps 44 = .ok (.faload, 1) := by decide +kernel
theorem dX10_stamps_45 : decode cX10_stamps 45 = .ok (.fmul, 1) := by decide +kernel
theorem dX10_stamps_46 : decode cX10_stamps 46 = .ok (.fastore, 1) := by decide +kernel
theorem dX10_stamps_47 : decode cX10_stamps 47 = .ok (.aload_n 0, 1) := by decide +kernel
theorem dX10_stamps_48 : decode cX10_stamps 48 = .ok (.getfield 22, 3) := by decide +kernel
theorem dX10_stamps_51 : decode cX10_stamps 51 = .ok (.bipush 14, 2) := by decide +kernel
theorem dX10_stamps_53 : decode cX10_stamps 53 = .ok (.ldc 165, 2) := by decide +kernel
theorem dX10_stamps_55 : decode cX10_stamps 55 = .ok (.aload_n 0, 1) := by decide +kernel
theorem dX10_stamps_56 : decode cX10_stamps 56 = .ok (.getfield 22, 3) := by decide +kernel
theorem dX10_stamps_59 : decode cX10_stamps 59 = .ok (.bipush 14, 2) := by decide +kernel
theorem dX10_stamps_61 : decode cX10_stamps 61 = .ok (.faload, 1) := by decide +kernel
theorem dX10_stamps_62 : decode cX10_stamps 62 = .ok (.fmul, 1) := by decide +kernel
theorem dX10_stamps_63 : decode cX10_stamps 63 = .ok (.fastore, 1) := by decide +kernel
theorem dX10_stamps_64 : decode cX10_stamps 64 = .ok (.iload_n 3, 1) := by decide +kernel
theorem dX10_stamps_65 : decode cX10_stamps 65 = .ok (.ireturn, 1) := by decide +kernel
theorem dX10_stamp_0 : decode cX10_stamp 0 = .ok (.aload_n 0, 1) := by decide +kernel
theorem dX10_stamp_1 : decode cX10_stamp 1 = .ok (.iconst 0, 1) := by decide +kernel
theorem dX10_stamp_2 : decode cX10_stamp 2 = .ok (.putfield 50, 3) := by decide +kernel
theorem dX10_stamp_5 : decode cX10_stamp 5 = .ok (.aload_n 0, 1) := by decide +kernel
theorem dX10_stamp_6 : decode cX10_stamp 6 = .ok (.iload_n 1, 1) := by decide +kernel
theorem dX10_stamp_7 : decode cX10_stamp 7 = .ok (.iload_n 2, 1) := by decide +kernel
theorem dX10_stamp_8 : decode cX10_stamp 8 = .ok (.invokevirtual 167, 3) := by decide +kernel
theorem dX10_stamp_11 : decode cX10_stamp 11 = .ok (.istore_n 3, 1) := by decide +kernel
theorem dX10_stamp_12 : decode cX10_stamp 12 = .ok (.iload_n 3, 1) := by decide +kernel
theorem dX10_stamp_13 : decode cX10_stamp 13 = .ok (.ifCond .eq 10, 3) := by decide +kernel
theorem dX10_stamp_16 : decode cX10_stamp 16 = .ok (.aload_n 0, 1) := by decide +kernel
theorem dX10_stamp_17 : decode cX10_stamp 17 = .ok (.iload_n 3, 1) := by decide +kernel
theorem dX10_stamp_18 : decode cX10_stamp 18 = .ok (.iconst 2, 1) := by decide +kernel
theorem dX10_stamp_19 : decode cX10_stamp 19 = .ok (.invokevirtual 92, 3) := by decide +kernel
theorem dX10_stamp_22 : decode cX10_stamp 22 = .ok (.ireturn, 1) := by decide +kernel
theorem dX10_stamp_23 : decode cX10_stamp 23 = .ok (.aload_n 0, 1) := by decide +kernel
theorem dX10_stamp_24 : decode cX10_stamp 24 = .ok (.invokevirtual 95, 3) := by decide +kernel
theorem dX10_stamp_27 : decode cX10_stamp 27 = .ok (.aload_n 0, 1) := by decide +kernel
theorem dX10_stamp_28 : decode cX10_stamp 28 = .ok (.iload_n 1, 1) := by decide +kernel
theorem dX10_stamp_29 : decode cX10_stamp 29 = .ok (.iload_n 2, 1) := by decide +kernel
theorem dX10_stamp_30 : decode cX10_stamp 30 = .ok (.invokevirtual 170, 3) := by decide +kernel
theorem dX10_stamp_33 : decode cX10_stamp 33 = .ok (.ireturn, 1) := by decide +kernel
theorem dX10_holes_0 : decode cX10_holes 0 = .ok (.iload_n 0, 1) := by decide +kernel
theorem dX10_holes_1 : decode cX10_holes 1 = .ok (.ifCond .ne 7, 3) := by decide +kernel
theorem dX10_holes_4 : decode cX10_holes 4 = .ok (.iconst 3, 1) := by decide +kernel
theorem dX10_holes_5 : decode cX10_holes 5 = .ok (.goto 4, 3) := by decide +kernel
theorem dX10_holes_8 : decode cX10_holes 8 = .ok (.iconst 2, 1) := by decide +kernel
theorem dX10_holes_9 : decode cX10_holes 9 = .ok (.ireturn, 1) := by decide +kernel
theorem dX10_itemIn_0 : decode cX10_itemIn 0 = .ok (.iconst 0, 1) := by decide +kernel
theorem dX10_itemIn_1 : decode cX10_itemIn 1 = .ok (.istore 4, 2) := by decide +kernel
theorem dX10_itemIn_3 : decode cX10_itemIn 3 = .ok (.iload 4, 2) := by decide +kernel
theorem dX10_itemIn_5 : decode cX10_itemIn 5 = .ok (.aload_n 0, 1) := by decide +kernel
theorem dX10_itemIn_6 : decode cX10_itemIn 6 = .ok (.getfield 7, 3) := by decide +kernel
theorem dX10_itemIn_9 : decode cX10_itemIn 9 = .ok (.iconst 2, 1) := by decide +kernel
theorem dX10_itemIn_10 : decode cX10_itemIn 10 = .ok (.iaload, 1) := by decide +kernel
theorem dX10_itemIn_11 : decode cX10_itemIn 11 = .ok (.if_icmp .ge 58, 3) := by decide +kernel
theorem dX10_itemIn_14 : decode cX10_itemIn 14 = .ok (.aload_n 0, 1) := by decide +kernel
theorem dX10_itemIn_15 : decode cX10_itemIn 15 = .ok (.iload 4, 2) := by decide +kernel
theorem dX10_itemIn_17 : decode cX10_itemIn 17 = .ok (.iconst 4, 1) := by decide +kernel
theorem dX10_itemIn_18 : decode cX10_itemIn 18 = .ok (.invokevirtual 85, 3) := by decide +kernel
theorem dX10_itemIn_21 : decode cX10_itemIn 21 = .ok (.iconst 2, 1) := by decide +kernel
theorem dX10_itemIn_22 : decode cX10_itemIn 22 = .ok (.if_icmp .ne 41, 3) := by decide +kernel
theorem dX10_itemIn_25 : decode cX10_itemIn 25 = .ok (.aload_n 0, 1) := by decide +kernel
theorem dX10_itemIn_26 : decode cX10_itemIn 26 = .ok (.iload 4, 2) := by decide +kernel
theorem dX10_itemIn_28 : decode cX10_itemIn 28 = .ok (.iconst 2, 1) := by decide +kernel
theorem dX10_itemIn_29 : decode cX10_itemIn 29 = .ok (.invokevirtual 85, 3) := by decide +kernel
theorem dX10_itemIn_32 : decode cX10_itemIn 32 = .ok (.iload_n 1, 1) := by decide +kernel
theorem dX10_itemIn_33 : decode cX10_itemIn 33 = .ok (.if_icmp .ne 30, 3) := by decide +kernel
theorem dX10_itemIn_36 : decode cX10_itemIn 36 = .ok (.aload_n 0, 1) := by decide +kernel
theorem dX10_itemIn_37 : decode cX10_itemIn 37 = .ok (.iload 4, 2) := by decide +kernel
theorem dX10_itemIn_39 : decode cX10_itemIn 39 = .ok (.iconst 0, 1) := by decide +kernel
theorem dX10_itemIn_40 : decode cX10_itemIn 40 = .ok (.invokevirtual 85, 3) := by decide +kernel
theorem dX10_itemIn_43 : decode cX10_itemIn 43 = .ok (.iload_n 2, 1) := by decide +kernel
theorem dX10_itemIn_44 : decode cX10_itemIn 44 = .ok (.if_icmp .ne 19, 3) := by decide +kernel
theorem dX10_itemIn_47 : decode cX10_itemIn 47 = .ok (.aload_n 0, 1) := by decide +kernel
theorem dX10_itemIn_48 : decode cX10_itemIn 48 = .ok (.iload 4, 2) := by decide +kernel
theorem dX10_itemIn_50 : decode cX10_itemIn 50 = .ok (.iconst 5, 1) := by decide +kernel
theorem dX10_itemIn_51 : decode cX10_itemIn 51 = .ok (.invokevirtual 85, 3) := by decide +kernel
theorem dX10_itemIn_54 : decode cX10_itemIn 54 = .ok (.iload_n 3, 1) := by decide +kernel
theorem dX10_itemIn_55 : decode cX10_itemIn 55 = .ok (.iconst 1, 1) := by decide +kernel
theorem dX10_itemIn_56 : decode cX10_itemIn 56 = .ok (.iadd, 1) := by decide +kernel
theorem dX10_itemIn_57 : decode cX10_itemIn 57 = .ok (.if_icmp .ne 6, 3) := by decide +kernel
theorem dX10_itemIn_60 : decode cX10_itemIn 60 = .ok (.iload 4, 2) := by decide +kernel
theorem dX10_itemIn_62 : decode cX10_itemIn 62 = .ok (.ireturn, 1) := by decide +kernel
theorem dX10_itemIn_63 : decode cX10_itemIn 63 = .ok (.iinc 4 1, 3) := by decide +kernel
theorem dX10_itemIn_66 : decode cX10_itemIn 66 = .ok (.goto (-63), 3) := by decide +kernel
theorem dX10_itemIn_69 : decode cX10_itemIn 69 = .ok (.iconst (-1), 1) := by decide +kernel
theorem dX10_itemIn_70 : decode cX10_itemIn 70 = .ok (.ireturn, 1) := by decide +kernel
theorem dX10_freeHole_0 : decode cX10_freeHole 0 = .ok (.iconst 0, 1) := by decide +kernel
theorem dX10_freeHole_1 : decode cX10_freeHole 1 = .ok (.istore_n 3, 1) := by decide +kernel
theorem dX10_freeHole_2 : decode cX10_freeHole 2 = .ok (.iload_n 3, 1) := by decide +kernel
theorem dX10_freeHole_3 : decode cX10_freeHole 3 = .ok (.iload_n 2, 1) := by decide +kernel
theorem dX10_freeHole_4 : decode cX10_freeHole 4 = .ok (.invokestatic 173, 3) := by decide +kernel
theorem dX10_freeHole_7 : decode cX10_freeHole 7 = .ok (.if_icmp .ge 19, 3) := by decide +kernel
theorem dX10_freeHole_10 : decode cX10_freeHole 10 = .ok (.aload_n 0, 1) := by decide +kernel
theorem dX10_freeHole_11 : decode cX10_freeHole 11 = .ok (.iload_n 1, 1) := by decide +kernel
theorem dX10_freeHole_12 : decode cX10_freeHole 12 = .ok (.iload_n 2, 1) := by decide +kernel
theorem dX10_freeHole_13 : decode cX10_freeHole 13 = .ok (.iload_n 3, 1) := by decide +kernel
theorem dX10_freeHole_14 : decode cX10_freeHole 14 = .ok (.invokevirtual 176, 3) := by decide +kernel
theorem dX10_freeHole_17 : decode cX10_freeHole 17 = .ok (.ifCond .lt 9, 3) := by decide +kernel
theorem dX10_freeHole_20 : decode cX10_freeHole 20 = .ok (.iinc 3 1, 3) := by decide +kernel
theorem dX10_freeHole_23 : decode cX10_freeHole 23 = .ok (.goto (-21), 3) := by decide +kernel
theorem dX10_freeHole_26 : decode cX10_freeHole 26 = .ok (.iload_n 3, 1) := by decide +kernel
theorem dX10_freeHole_27 : decode cX10_freeHole 27 = .ok (.ireturn, 1) := by decide +kernel
theorem dX10_notShelve_0 : decode cX10_notShelve 0 = .ok (.aload_n 0, 1) := by decide +kernel
theorem dX10_notShelve_1 : decode cX10_notShelve 1 = .ok (.iload_n 1, 1) := by decide +kernel
theorem dX10_notShelve_2 : decode cX10_notShelve 2 = .ok (.invokevirtual 136, 3) := by decide +kernel
theorem dX10_notShelve_5 : decode cX10_notShelve 5 = .ok (.ifCond .eq 12, 3) := by decide +kernel
theorem dX10_notShelve_8 : decode cX10_notShelve 8 = .ok (.iload_n 2, 1) := by decide +kernel
theorem dX10_notShelve_9 : decode cX10_notShelve 9 = .ok (.iconst 0, 1) := by decide +kernel
theorem dX10_notShelve_10 : decode cX10_notShelve 10 = .ok (.iconst 1, 1) := by decide +kernel
theorem dX10_notShelve_11 : decode cX10_notShelve 11 = .ok (.invokestatic 81, 3) := by decide +kernel
theorem dX10_notShelve_14 : decode cX10_notShelve 14 = .ok (.ifCond .ne 5, 3) := by decide +kernel
theorem dX10_notShelve_17 : decode cX10_notShelve 17 = .ok (.iconst 1, 1) := by decide +kernel
theorem dX10_notShelve_18 : decode cX10_notShelve 18 = .ok (.ireturn, 1) := by decide +kernel
theorem dX10_notShelve_19 : decode cX10_notShelve 19 = .ok (.aload_n 0, 1) := by decide +kernel
theorem dX10_notShelve_20 : decode cX10_notShelve 20 = .ok (.iload_n 1, 1) := by decide +kernel
theorem dX10_notShelve_21 : decode cX10_notShelve 21 = .ok (.iconst 4, 1) := by decide +kernel
theorem dX10_notShelve_22 : decode cX10_notShelve 22 = .ok (.invokevirtual 85, 3) := by decide +kernel
theorem dX10_notShelve_25 : decode cX10_notShelve 25 = .ok (.iconst 1, 1) := by decide +kernel
theorem dX10_notShelve_26 : decode cX10_notShelve 26 = .ok (.if_icmp .eq 16, 3) := by decide +kernel
theorem dX10_notShelve_29 : decode cX10_notShelve 29 = .ok (.aload_n 0, 1) := by decide +kernel
theorem dX10_notShelve_30 : decode cX10_notShelve 30 = .ok (.bipush 7, 2) := by decide +kernel
theorem dX10_notShelve_32 : decode cX10_notShelve 32 = .ok (.aload_n 0, 1) := by decide +kernel
theorem dX10_notShelve_33 : decode cX10_notShelve 33 = .ok (.iload_n 1, 1) := by decide +kernel
theorem dX10_notShelve_34 : decode cX10_notShelve 34 = .ok (.iconst 4, 1) := by decide +kernel
theorem dX10_notShelve_35 : decode cX10_notShelve 35 = .ok (.invokevirtual 85, 3) := by decide +kernel
theorem dX10_notShelve_38 : decode cX10_notShelve 38 = .ok (.invokevirtual 89, 3) := by decide +kernel
theorem dX10_notShelve_41 : decode cX10_notShelve 41 = .ok (.ireturn, 1) := by decide +kernel
theorem dX10_notShelve_42 : decode cX10_notShelve 42 = .ok (.aload_n 0, 1) := by decide +kernel
theorem dX10_notShelve_43 : decode cX10_notShelve 43 = .ok (.aload_n 0, 1) := by decide +kernel
theorem dX10_notShelve_44 : decode cX10_notShelve 44 = .ok (.iload_n 1, 1) := by decide +kernel
theorem dX10_notShelve_45 : decode cX10_notShelve 45 = .ok (.iconst 2, 1) := by decide +kernel
theorem dX10_notShelve_46 : decode cX10_notShelve 46 = .ok (.invokevirtual 85, 3) := by decide +kernel
theorem dX10_notShelve_49 : decode cX10_notShelve 49 = .ok (.iload_n 2, 1) := by decide +kernel
theorem dX10_notShelve_50 : decode cX10_notShelve 50 = .ok (.invokevirtual 180, 3) := by decide +kernel
theorem dX10_notShelve_53 : decode cX10_notShelve 53 = .ok (.iload_n 2, 1) := by decide +kernel
theorem dX10_notShelve_54 : decode cX10_notShelve 54 = .ok (.invokestatic 173, 3) := by decide +kernel
theorem dX10_notShelve_57 : decode cX10_notShelve 57 = .ok (.if_icmp .ne 11, 3) := by decide +kernel
theorem dX10_notShelve_60 : decode cX10_notShelve 60 = .ok (.aload_n 0, 1) := by decide +kernel
theorem dX10_notShelve_61 : decode cX10_notShelve 61 = .ok (.bipush 8, 2) := by decide +kernel
theorem dX10_notShelve_63 : decode cX10_notShelve 63 = .ok (.iload_n 2, 1) := by decide +kernel
theorem dX10_notShelve_64 : decode cX10_notShelve 64 = .ok (.invokevirtual 89, 3) := by decide +kernel
theorem dX10_notShelve_67 : decode cX10_notShelve 67 = .ok (.ireturn, 1) := by decide +kernel
theorem dX10_notShelve_68 : decode cX10_notShelve 68 = .ok (.aload_n 0, 1) := by decide +kernel
theorem dX10_notShelve_69 : decode cX10_notShelve 69 = .ok (.iload_n 1, 1) := by decide +kernel
theorem dX10_notShelve_70 : decode cX10_notShelve 70 = .ok (.iconst 0, 1) := by decide +kernel
theorem dX10_notShelve_71 : decode cX10_notShelve 71 = .ok (.invokevirtual 85, 3) := by decide +kernel
theorem dX10_notShelve_74 : decode cX10_notShelve 74 = .ok (.iload_n 2, 1) := by decide +kernel
theorem dX10_notShelve_75 : decode cX10_notShelve 75 = .ok (.if_icmp .ne 7, 3) := by decide +kernel
theorem dX10_notShelve_78 : decode cX10_notShelve 78 = .ok (.iconst 0, 1) := by decide +kernel
theorem dX10_notShelve_79 : decode cX10_notShelve 79 = .ok (.goto 10, 3) := by decide +kernel
theorem dX10_notShelve_82 : decode cX10_notShelve 82 = .ok (.aload_n 0, 1) := by decide +kernel
theorem dX10_notShelve_83 : decode cX10_notShelve 83 = .ok (.bipush 9, 2) := by decide +kernel
theorem dX10_notShelve_85 : decode cX10_notShelve 85 = .ok (.iload_n 2, 1) := by decide +kernel
theorem dX10_notShelve_86 : decode cX10_notShelve 86 = .ok (.invokevirtual 89, 3) := by decide +kernel
theorem dX10_notShelve_89 : decode cX10_notShelve 89 = .ok (.ireturn, 1) := by decide +kernel
theorem dX10_shelves_0 : decode cX10_shelves 0 = .ok (.aload_n 0, 1) := by decide +kernel
theorem dX10_shelves_1 : decode cX10_shelves 1 = .ok (.aload_n 0, 1) := by decide +kernel
theorem dX10_shelves_2 : decode cX10_shelves 2 = .ok (.iload_n 1, 1) := by decide +kernel
theorem dX10_shelves_3 : decode cX10_shelves 3 = .ok (.iconst 2, 1) := by decide +kernel
theorem dX10_shelves_4 : decode cX10_shelves 4 = .ok (.invokevirtual 85, 3) := by decide +kernel
theorem dX10_shelves_7 : decode cX10_shelves 7 = .ok (.iload_n 2, 1) := by decide +kernel
theorem dX10_shelves_8 : decode cX10_shelves 8 = .ok (.invokevirtual 180, 3) := by decide +kernel
theorem dX10_shelves_11 : decode cX10_shelves 11 = .ok (.istore_n 3, 1) := by decide +kernel
theorem dX10_shelves_12 : decode cX10_shelves 12 = .ok (.aload_n 0, 1) := by decide +kernel
theorem dX10_shelves_13 : decode cX10_shelves 13 = .ok (.iload_n 1, 1) := by decide +kernel
theorem dX10_shelves_14 : decode cX10_shelves 14 = .ok (.iconst 4, 1) := by decide +kernel
theorem dX10_shelves_15 : decode cX10_shelves 15 = .ok (.iconst 2, 1) := by decide +kernel
theorem dX10_shelves_16 : decode cX10_shelves 16 = .ok (.invokevirtual 104, 3) := by decide +kernel
theorem dX10_shelves_19 : decode cX10_shelves 19 = .ok (.aload_n 0, 1) := by decide +kernel
theorem dX10_shelves_20 : decode cX10_shelves 20 = .ok (.iload_n 1, 1) := by decide +kernel
theorem dX10_shelves_21 : decode cX10_shelves 21 = .ok (.iconst 5, 1) := by decide +kernel
theorem dX10_shelves_22 : decode cX10_shelves 22 = .ok (.iload_n 3, 1) := by decide +kernel
theorem dX10_shelves_23 : decode cX10_shelves 23 = .ok (.iconst 1, 1) := by decide +kernel
theorem dX10_shelves_24 : decode cX10_shelves 24 = .ok (.iadd, 1) := by decide +kernel
theorem dX10_shelves_25 : decode cX10_shelves 25 = .ok (.invokevirtual 104, 3) := by decide +kernel
theorem dX10_shelves_28 : decode cX10_shelves 28 = .ok (.iload_n 3, 1) := by decide +kernel
theorem dX10_shelves_29 : decode cX10_shelves 29 = .ok (.ireturn, 1) := by decide +kernel
theorem dX10_shelve_0 : decode cX10_shelve 0 = .ok (.aload_n 0, 1) := by decide +kernel
theorem dX10_shelve_1 : decode cX10_shelve 1 = .ok (.iconst 0, 1) := by decide +kernel
theorem dX10_shelve_2 : decode cX10_shelve 2 = .ok (.putfield 50, 3) := by decide +kernel
theorem dX10_shelve_5 : decode cX10_shelve 5 = .ok (.aload_n 0, 1) := by decide +kernel
theorem dX10_shelve_6 : decode cX10_shelve 6 = .ok (.iload_n 1, 1) := by decide +kernel
theorem dX10_shelve_7 : decode cX10_shelve 7 = .ok (.iload_n 2, 1) := by decide +kernel
theorem dX10_shelve_8 : decode cX10_shelve 8 = .ok (.invokevirtual 183, 3) := by decide +kernel
theorem dX10_shelve_11 : decode cX10_shelve 11 = .ok (.istore_n 3, 1) := by decide +kernel
theorem dX10_shelve_12 : decode cX10_shelve 12 = .ok (.iload_n 3, 1) := by decide +kernel
theorem dX10_shelve_13 : decode cX10_shelve 13 = .ok (.ifCond .eq 10, 3) := by decide +kernel
theorem dX10_shelve_16 : decode cX10_shelve 16 = .ok (.aload_n 0, 1) := by decide +kernel
theorem dX10_shelve_17 : decode cX10_shelve 17 = .ok (.iload_n 3, 1) := by decide +kernel
theorem dX10_shelve_18 : decode cX10_shelve 18 = .ok (.iconst 2, 1) := by decide +kernel
theorem dX10_shelve_19 : decode cX10_shelve 19 = .ok (.invokevirtual 92, 3) := by decide +kernel
theorem dX10_shelve_22 : decode cX10_shelve 22 = .ok (.ireturn, 1) := by decide +kernel
theorem dX10_shelve_23 : decode cX10_shelve 23 = .ok (.aload_n 0, 1) := by decide +kernel
theorem dX10_shelve_24 : decode cX10_shelve 24 = .ok (.invokevirtual 95, 3) := by decide +kernel
theorem dX10_shelve_27 : decode cX10_shelve 27 = .ok (.aload_n 0, 1) := by decide +kernel
theorem dX10_shelve_28 : decode cX10_shelve 28 = .ok (.iload_n 1, 1) := by decide +kernel
theorem dX10_shelve_29 : decode cX10_shelve 29 = .ok (.iload_n 2, 1) := by decide +kernel
theorem dX10_shelve_30 : decode cX10_shelve 30 = .ok (.invokevirtual 186, 3) := by decide +kernel
theorem dX10_shelve_33 : decode cX10_shelve 33 = .ok (.ireturn, 1) := by decide +kernel
theorem dX10_onShelf_0 : decode cX10_onShelf 0 = .ok (.iconst 0, 1) := by decide +kernel
theorem dX10_onShelf_1 : decode cX10_onShelf 1 = .ok (.istore_n 2, 1) := by decide +kernel
theorem dX10_onShelf_2 : decode cX10_onShelf 2 = .ok (.iconst 0, 1) := by decide +kernel
theorem dX10_onShelf_3 : decode cX10_onShelf 3 = .ok (.istore_n 3, 1) := by decide +kernel
theorem dX10_onShelf_4 : decode cX10_onShelf 4 = .ok (.iload_n 3, 1) := by decide +kernel
theorem dX10_onShelf_5 : decode cX10_onShelf 5 = .ok (.aload_n 0, 1) := by decide +kernel
theorem dX10_onShelf_6 : decode cX10_onShelf 6 = .ok (.getfield 7, 3) := by decide +kernel
theorem dX10_onShelf_9 : decode cX10_onShelf 9 = .ok (.iconst 2, 1) := by decide +kernel
theorem dX10_onShelf_10 : decode cX10_onShelf 10 = .ok (.iaload, 1) := by decide +kernel
theorem dX10_onShelf_11 : decode cX10_onShelf 11 = .ok (.if_icmp .ge 37, 3) := by decide +kernel
theorem dX10_onShelf_14 : decode cX10_onShelf 14 = .ok (.iload_n 2, 1) := by decide +kernel
theorem dX10_onShelf_15 : decode cX10_onShelf 15 = .ok (.aload_n 0, 1) := by decide +kernel
theorem dX10_onShelf_16 : decode cX10_onShelf 16 = .ok (.iload_n 3, 1) := by decide +kernel
theorem dX10_onShelf_17 : decode cX10_onShelf 17 = .ok (.iconst 4, 1) := by decide +kernel
theorem dX10_onShelf_18 : decode cX10_onShelf 18 = .ok (.invokevirtual 85, 3) := by decide +kernel
theorem dX10_onShelf_21 : decode cX10_onShelf 21 = .ok (.iconst 2, 1) := by decide +kernel
theorem dX10_onShelf_22 : decode cX10_onShelf 22 = .ok (.if_icmp .ne 17, 3) := by decide +kernel
theorem dX10_onShelf_25 : decode cX10_onShelf 25 = .ok (.aload_n 0, 1) := by decide +kernel
theorem dX10_onShelf_26 : decode cX10_onShelf 26 = .ok (.iload_n 3, 1) := by decide +kernel
theorem dX10_onShelf_27 : decode cX10_onShelf 27 = .ok (.iconst 2, 1) := by decide +kernel
theorem dX10_onShelf_28 : decode cX10_onShelf 28 = .ok (.invokevirtual 85, 3) := by decide +kernel
theorem dX10_onShelf_31 : decode cX10_onShelf 31 = .ok (.iload_n 1, 1) := by decide +kernel
theorem dX10_onShelf_32 : decode cX10_onShelf 32 = .ok (.if_icmp .ne 7, 3) := by decide +kernel
theorem dX10_onShelf_35 : decode cX10_onShelf 35 = .ok (.iconst 1, 1) := by decide +kernel
theorem dX10_onShelf_36 : decode cX10_onShelf 36 = .ok (.goto 4, 3) := by decide +kernel
theorem dX10_onShelf_39 : decode cX10_onShelf 39 = .ok (.iconst 0, 1) := by decide +kernel
theorem dX10_onShelf_40 : decode cX10_onShelf 40 = .ok (.iadd, 1) := by decide +kernel
theorem dX10_onShelf_41 : decode cX10_onShelf 41 = .ok (.istore_n 2, 1) := by decide +kernel
theorem dX10_onShelf_42 : decode cX10_onShelf 42 = .ok (.iinc 3 1, 3) := by decide +kernel
theorem dX10_onShelf_45 : decode cX10_onShelf 45 = .ok (.goto (-41), 3) := by decide +kernel
theorem dX10_onShelf_48 : decode cX10_onShelf 48 = .ok (.iload_n 2, 1) := by decide +kernel
theorem dX10_onShelf_49 : decode cX10_onShelf 49 = .ok (.ireturn, 1) := by decide +kernel
theorem dX10_notTake_0 : decode cX10_notTake 0 = .ok (.iload_n 1, 1) := by decide +kernel
theorem dX10_notTake_1 : decode cX10_notTake 1 = .ok (.invokestatic 108, 3) := by decide +kernel
theorem dX10_notTake_4 : decode cX10_notTake 4 = .ok (.ifCond .ne 5, 3) := by decide +kernel
theorem dX10_notTake_7 : decode cX10_notTake 7 = .ok (.iconst 1, 1) := by decide +kernel
theorem dX10_notTake_8 : decode cX10_notTake 8 = .ok (.ireturn, 1) := by decide +kernel
theorem dX10_notTake_9 : decode cX10_notTake 9 = .ok (.aload_n 0, 1) := by decide +kernel
theorem dX10_notTake_10 : decode cX10_notTake 10 = .ok (.iload_n 1, 1) := by decide +kernel
theorem dX10_notTake_11 : decode cX10_notTake 11 = .ok (.invokevirtual 189, 3) := by decide +kernel
theorem dX10_notTake_14 : decode cX10_notTake 14 = .ok (.ifCond .ne 13, 3) := by decide +kernel
theorem dX10_notTake_17 : decode cX10_notTake 17 = .ok (.aload_n 0, 1) := by decide +kernel
theorem dX10_notTake_18 : decode cX10_notTake 18 = .ok (.bipush 10, 2) := by decide +kernel
theorem dX10_notTake_20 : decode cX10_notTake 20 = .ok (.iload_n 1, 1) := by decide +kernel
theorem dX10_notTake_21 : decode cX10_notTake 21 = .ok (.invokevirtual 89, 3) := by decide +kernel
theorem dX10_notTake_24 : decode cX10_notTake 24 = .ok (.goto 4, 3) := by decide +kernel
theorem dX10_notTake_27 : decode cX10_notTake 27 = .ok (.iconst 0, 1) := by decide +kernel
theorem dX10_notTake_28 : decode cX10_notTake 28 = .ok (.ireturn, 1) := by decide +kernel
theorem dX10_takes_0 : decode cX10_takes 0 = .ok (.aload_n 0, 1) := by decide +kernel
theorem dX10_takes_1 : decode cX10_takes 1 = .ok (.iload_n 1, 1) := by decide +kernel
theorem dX10_takes_2 : decode cX10_takes 2 = .ok (.invokevirtual 189, 3) := by decide +kernel
theorem dX10_takes_5 : decode cX10_takes 5 = .ok (.istore_n 2, 1) := by decide +kernel
theorem dX10_takes_6 : decode cX10_takes 6 = .ok (.iconst 0, 1) := by decide +kernel
theorem dX10_takes_7 : decode cX10_takes 7 = .ok (.istore_n 3, 1) := by decide +kernel
theorem dX10_takes_8 : decode cX10_takes 8 = .ok (.iload_n 3, 1) := by decide +kernel
theorem dX10_takes_9 : decode cX10_takes 9 = .ok (.aload_n 0, 1) := by decide +kernel
theorem dX10_takes_10 : decode cX10_takes 10 = .ok (.getfield 7, 3) := by decide +kernel
theorem dX10_takes_13 : decode cX10_takes 13 = .ok (.iconst 2, 1) := by decide +kernel
theorem dX10_takes_14 : decode cX10_takes 14 = .ok (.iaload, 1) := by decide +kernel
theorem dX10_takes_15 : decode cX10_takes 15 = .ok (.if_icmp .ge 46, 3) := by decide +kernel
theorem dX10_takes_18 : decode cX10_takes 18 = .ok (.aload_n 0, 1) := by decide +kernel
theorem dX10_takes_19 : decode cX10_takes 19 = .ok (.iload_n 3, 1) := by decide +kernel
theorem dX10_takes_20 : decode cX10_takes 20 = .ok (.iconst 4, 1) := by decide +kernel
theorem dX10_takes_21 : decode cX10_takes 21 = .ok (.invokevirtual 85, 3) := by decide +kernel
theorem dX10_takes_24 : decode cX10_takes 24 = .ok (.iconst 2, 1) := by decide +kernel
theorem dX10_takes_25 : decode cX10_takes 25 = .ok (.if_icmp .ne 30, 3) := by decide +kernel
theorem dX10_takes_28 : decode cX10_takes 28 = .ok (.aload_n 0, 1) := by decide +kernel
theorem dX10_takes_29 : decode cX10_takes 29 = .ok (.iload_n 3, 1) := by decide +kernel
theorem dX10_takes_30 : decode cX10_takes 30 = .ok (.iconst 2, 1) := by decide +kernel
theorem dX10_takes_31 : decode cX10_takes 31 = .ok (.invokevirtual 85, 3) := by decide +kernel
theorem dX10_takes_34 : decode cX10_takes 34 = .ok (.iload_n 1, 1) := by decide +kernel
theorem dX10_takes_35 : decode cX10_takes 35 = .ok (.if_icmp .eq 6, 3) := by decide +kernel
theorem dX10_takes_38 : decode cX10_takes 38 = .ok (.goto 17, 3) := by decide +kernel
theorem dX10_takes_41 : decode cX10_takes 41 = .ok (.aload_n 0, 1) := by decide +kernel
theorem dX10_takes_42 : decode cX10_takes 42 = .ok (.iload_n 3, 1) := by decide +kernel
theorem dX10_takes_43 : decode cX10_takes 43 = .ok (.iconst 4, 1) := by decide +kernel
theorem dX10_takes_44 : decode cX10_takes 44 = .ok (.iconst 3, 1) := by decide +kernel
theorem dX10_takes_45 : decode cX10_takes 45 = .ok (.invokevirtual 104, 3) := by decide +kernel
theorem dX10_takes_48 : decode cX10_takes 48 = .ok (.aload_n 0, 1) := by decide +kernel
theorem dX10_takes_49 : decode cX10_takes 49 = .ok (.iload_n 3, 1) := by decide +kernel
theorem dX10_takes_50 : decode cX10_takes 50 = .ok (.iconst 5, 1) := by decide +kernel
theorem dX10_takes_51 : decode cX10_takes 51 = .ok (.iconst 0, 1) := by decide +kernel
theorem dX10_takes_52 : decode cX10_takes 52 = .ok (.invokevirtual 104, 3) := by decide +kernel
theorem dX10_takes_55 : decode cX10_takes 55 = .ok (.iinc 3 1, 3) := by decide +kernel
theorem dX10_takes_58 : decode cX10_takes 58 = .ok (.goto (-50), 3) := by decide +kernel
theorem dX10_takes_61 : decode cX10_takes 61 = .ok (.iload_n 2, 1) := by decide +kernel
theorem dX10_takes_62 : decode cX10_takes 62 = .ok (.ireturn, 1) := by decide +kernel
theorem dX10_take_0 : decode cX10_take 0 = .ok (.aload_n 0, 1) := by decide +kernel
theorem dX10_take_1 : decode cX10_take 1 = .ok (.iconst 0, 1) := by decide +kernel
theorem dX10_take_2 : decode cX10_take 2 = .ok (.putfield 50, 3) := by decide +kernel
theorem dX10_take_5 : decode cX10_take 5 = .ok (.aload_n 0, 1) := by decide +kernel
theorem dX10_take_6 : decode cX10_take 6 = .ok (.iload_n 1, 1) := by decide +kernel
theorem dX10_take_7 : decode cX10_take 7 = .ok (.invokevirtual 192, 3) := by decide +kernel
theorem dX10_take_10 : decode cX10_take 10 = .ok (.istore_n 2, 1) := by decide +kernel
theorem dX10_take_11 : decode cX10_take 11 = .ok (.iload_n 2, 1) := by decide +kernel
theorem dX10_take_12 : decode cX10_take 12 = .ok (.ifCond .eq 10, 3) := by decide +kernel
theorem dX10_take_15 : decode cX10_take 15 = .ok (.aload_n 0, 1) := by decide +kernel
theorem dX10_take_16 : decode cX10_take 16 = .ok (.iload_n 2, 1) := by decide +kernel
theorem dX10_take_17 : decode cX10_take 17 = .ok (.iconst 2, 1) := by decide +kernel
theorem dX10_take_18 : decode cX10_take 18 = .ok (.invokevirtual 92, 3) := by decide +kernel
theorem dX10_take_21 : decode cX10_take 21 = .ok (.ireturn, 1) := by decide +kernel
theorem dX10_take_22 : decode cX10_take 22 = .ok (.aload_n 0, 1) := by decide +kernel
theorem dX10_take_23 : decode cX10_take 23 = .ok (.invokevirtual 95, 3) := by decide +kernel
theorem dX10_take_26 : decode cX10_take 26 = .ok (.aload_n 0, 1) := by decide +kernel
theorem dX10_take_27 : decode cX10_take 27 = .ok (.iload_n 1, 1) := by decide +kernel
theorem dX10_take_28 : decode cX10_take 28 = .ok (.invokevirtual 195, 3) := by decide +kernel
theorem dX10_take_31 : decode cX10_take 31 = .ok (.ireturn, 1) := by decide +kernel
theorem dX10_inHole_0 : decode cX10_inHole 0 = .ok (.aload_n 0, 1) := by decide +kernel
theorem dX10_inHole_1 : decode cX10_inHole 1 = .ok (.iconst 0, 1) := by decide +kernel
theorem dX10_inHole_2 : decode cX10_inHole 2 = .ok (.putfield 50, 3) := by decide +kernel
theorem dX10_inHole_5 : decode cX10_inHole 5 = .ok (.iload_n 1, 1) := by decide +kernel
theorem dX10_inHole_6 : decode cX10_inHole 6 = .ok (.invokestatic 108, 3) := by decide +kernel
theorem dX10_inHole_9 : decode cX10_inHole 9 = .ok (.ifCond .eq 26, 3) := by decide +kernel
theorem dX10_inHole_12 : decode cX10_inHole 12 = .ok (.iload_n 2, 1) := by decide +kernel
theorem dX10_inHole_13 : decode cX10_inHole 13 = .ok (.iconst 0, 1) := by decide +kernel
theorem dX10_inHole_14 : decode cX10_inHole 14 = .ok (.iconst 1, 1) := by decide +kernel
theorem dX10_inHole_15 : decode cX10_inHole 15 = .ok (.invokestatic 81, 3) := by decide +kernel
theorem dX10_inHole_18 : decode cX10_inHole 18 = .ok (.ifCond .eq 17, 3) := by decide +kernel
theorem dX10_inHole_21 : decode cX10_inHole 21 = .ok (.iload_n 3, 1) := by decide +kernel
theorem dX10_inHole_22 : decode cX10_inHole 22 = .ok (.iconst 0, 1) := by decide +kernel
theorem dX10_inHole_23 : decode cX10_inHole 23 = .ok (.iload_n 2, 1) := by decide +kernel
theorem dX10_inHole_24 : decode cX10_inHole 24 = .ok (.invokestatic 173, 3) := by decide +kernel
theorem dX10_inHole_27 : decode cX10_inHole 27 = .ok (.iconst 1, 1) := by decide +kernel
theorem dX10_inHole_28 : decode cX10_inHole 28 = .ok (.isub, 1) := by decide +kernel
theorem dX10_inHole_29 : decode cX10_inHole 29 = .ok (.invokestatic 81, 3) := by decide +kernel
theorem dX10_inHole_32 : decode cX10_inHole 32 = .ok (.ifCond .ne 9, 3) := by decide +kernel
theorem dX10_inHole_35 : decode cX10_inHole 35 = .ok (.aload_n 0, 1) := by decide +kernel
theorem dX10_inHole_36 : decode cX10_inHole 36 = .ok (.iconst 1, 1) := by decide +kernel
theorem dX10_inHole_37 : decode cX10_inHole 37 = .ok (.invokevirtual 59, 3) := by decide +kernel
theorem dX10_inHole_40 : decode cX10_inHole 40 = .ok (.ireturn, 1) := by decide +kernel
theorem dX10_inHole_41 : decode cX10_inHole 41 = .ok (.aload_n 0, 1) := by decide +kernel
theorem dX10_inHole_42 : decode cX10_inHole 42 = .ok (.iload_n 1, 1) := by decide +kernel
theorem dX10_inHole_43 : decode cX10_inHole 43 = .ok (.iload_n 2, 1) := by decide +kernel
theorem dX10_inHole_44 : decode cX10_inHole 44 = .ok (.iload_n 3, 1) := by decide +kernel
theorem dX10_inHole_45 : decode cX10_inHole 45 = .ok (.invokevirtual 176, 3) := by decide +kernel
theorem dX10_inHole_48 : decode cX10_inHole 48 = .ok (.ifCond .ge 11, 3) := by decide +kernel
theorem dX10_inHole_51 : decode cX10_inHole 51 = .ok (.aload_n 0, 1) := by decide +kernel
theorem dX10_inHole_52 : decode cX10_inHole 52 = .ok (.iconst 2, 1) := by decide +kernel
theorem dX10_inHole_53 : decode cX10_inHole 53 = .ok (.invokevirtual 59, 3) := by decide +kernel
theorem dX10_inHole_56 : decode cX10_inHole 56 = .ok (.goto 10, 3) := by decide +kernel
theorem dX10_inHole_59 : decode cX10_inHole 59 = .ok (.aload_n 0, 1) := by decide +kernel
theorem dX10_inHole_60 : decode cX10_inHole 60 = .ok (.iload_n 1, 1) := by decide +kernel
theorem dX10_inHole_61 : decode cX10_inHole 61 = .ok (.iload_n 2, 1) := by decide +kernel
theorem dX10_inHole_62 : decode cX10_inHole 62 = .ok (.iload_n 3, 1) := by decide +kernel
theorem dX10_inHole_63 : decode cX10_inHole 63 = .ok (.invokevirtual 176, 3) := by decide +kernel
theorem dX10_inHole_66 : decode cX10_inHole 66 = .ok (.ireturn, 1) := by decide +kernel
theorem dX10_read_0 : decode cX10_read 0 = .ok (.aload_n 0, 1) := by decide +kernel
theorem dX10_read_1 : decode cX10_read 1 = .ok (.iconst 0, 1) := by decide +kernel
theorem dX10_read_2 : decode cX10_read 2 = .ok (.putfield 50, 3) := by decide +kernel
theorem dX10_read_5 : decode cX10_read 5 = .ok (.iload_n 1, 1) := by decide +kernel
theorem dX10_read_6 : decode cX10_read 6 = .ok (.invokestatic 108, 3) := by decide +kernel
theorem dX10_read_9 : decode cX10_read 9 = .ok (.ifCond .ne 9, 3) := by decide +kernel
theorem dX10_read_12 : decode cX10_read 12 = .ok (.aload_n 0, 1) := by decide +kernel
theorem dX10_read_13 : decode cX10_read 13 = .ok (.iconst 1, 1) := by decide +kernel
theorem dX10_read_14 : decode cX10_read 14 = .ok (.invokevirtual 59, 3) := by decide +kernel
theorem dX10_read_17 : decode cX10_read 17 = .ok (.ireturn, 1) := by decide +kernel
theorem dX10_read_18 : decode cX10_read 18 = .ok (.iconst 0, 1) := by decide +kernel
theorem dX10_read_19 : decode cX10_read 19 = .ok (.istore_n 2, 1) := by decide +kernel
theorem dX10_read_20 : decode cX10_read 20 = .ok (.iconst 0, 1) := by decide +kernel
theorem dX10_read_21 : decode cX10_read 21 = .ok (.istore_n 3, 1) := by decide +kernel
theorem dX10_read_22 : decode cX10_read 22 = .ok (.iload_n 3, 1) := by decide +kernel
theorem dX10_read_23 : decode cX10_read 23 = .ok (.aload_n 0, 1) := by decide +kernel
theorem dX10_read_24 : decode cX10_read 24 = .ok (.getfield 7, 3) := by decide +kernel
theorem dX10_read_27 : decode cX10_read 27 = .ok (.iconst 2, 1) := by decide +kernel
theorem dX10_read_28 : decode cX10_read 28 = .ok (.iaload, 1) := by decide +kernel
theorem dX10_read_29 : decode cX10_read 29 = .ok (.if_icmp .ge 45, 3) := by decide +kernel
theorem dX10_read_32 : decode cX10_read 32 = .ok (.iload_n 2, 1) := by decide +kernel
theorem dX10_read_33 : decode cX10_read 33 = .ok (.aload_n 0, 1) := by decide +kernel
theorem dX10_read_34 : decode cX10_read 34 = .ok (.iload_n 3, 1) := by decide +kernel
theorem dX10_read_35 : decode cX10_read 35 = .ok (.invokevirtual 139, 3) := by decide +kernel
theorem dX10_read_38 : decode cX10_read 38 = .ok (.ifCond .eq 27, 3) := by decide +kernel
theorem dX10_read_41 : decode cX10_read 41 = .ok (.aload_n 0, 1) := by decide +kernel
theorem dX10_read_42 : decode cX10_read 42 = .ok (.iload_n 3, 1) := by decide +kernel
theorem dX10_read_43 : decode cX10_read 43 = .ok (.iconst 4, 1) := by decide +kernel
theorem dX10_read_44 : decode cX10_read 44 = .ok (.invokevirtual 85, 3) := by decide +kernel
theorem dX10_read_47 : decode cX10_read 47 = .ok (.iconst 3, 1) := by decide +kernel
theorem dX10_read_48 : decode cX10_read 48 = .ok (.if_icmp .ne 17, 3) := by decide +kernel
theorem dX10_read_51 : decode cX10_read 51 = .ok (.aload_n 0, 1) := by decide +kernel
theorem dX10_read_52 : decode cX10_read 52 = .ok (.iload_n 3, 1) := by decide +kernel
theorem dX10_read_53 : decode cX10_read 53 = .ok (.iconst 2, 1) := by decide +kernel
theorem dX10_read_54 : decode cX10_read 54 = .ok (.invokevirtual 85, 3) := by decide +kernel
theorem dX10_read_57 : decode cX10_read 57 = .ok (.iload_n 1, 1) := by decide +kernel
theorem dX10_read_58 : decode cX10_read 58 = .ok (.if_icmp .ne 7, 3) := by decide +kernel
theorem dX10_read_61 : decode cX10_read 61 = .ok (.iconst 1, 1) := by decide +kernel
theorem dX10_read_62 : decode cX10_read 62 = .ok (.goto 4, 3) := by decide +kernel
theorem dX10_read_65 : decode cX10_read 65 = .ok (.iconst 0, 1) := by decide +kernel
theorem dX10_read_66 : decode cX10_read 66 = .ok (.iadd, 1) := by decide +kernel
theorem dX10_read_67 : decode cX10_read 67 = .ok (.istore_n 2, 1) := by decide +kernel
theorem dX10_read_68 : decode cX10_read 68 = .ok (.iinc 3 1, 3) := by decide +kernel
theorem dX10_read_71 : decode cX10_read 71 = .ok (.goto (-49), 3) := by decide +kernel
theorem dX10_read_74 : decode cX10_read 74 = .ok (.iload_n 2, 1) := by decide +kernel
theorem dX10_read_75 : decode cX10_read 75 = .ok (.ireturn, 1) := by decide +kernel
theorem dX10_snacks_0 : decode cX10_snacks 0 = .ok (.aload_n 0, 1) := by decide +kernel
theorem dX10_snacks_1 : decode cX10_snacks 1 = .ok (.iconst 0, 1) := by decide +kernel
theorem dX10_snacks_2 : decode cX10_snacks 2 = .ok (.putfield 50, 3) := by decide +kernel
theorem dX10_snacks_5 : decode cX10_snacks 5 = .ok (.iload_n 1, 1) := by decide +kernel
theorem dX10_snacks_6 : decode cX10_snacks 6 = .ok (.iconst 1, 1) := by decide +kernel
theorem dX10_snacks_7 : decode cX10_snacks 7 = .ok (.bipush 20, 2) := by decide +kernel
theorem dX10_snacks_9 : decode cX10_snacks 9 = .ok (.invokestatic 81, 3) := by decide +kernel
theorem dX10_snacks_12 : decode cX10_snacks 12 = .ok (.ifCond .ne 9, 3) := by decide +kernel
theorem dX10_snacks_15 : decode cX10_snacks 15 = .ok (.aload_n 0, 1) := by decide +kernel
theorem dX10_snacks_16 : decode cX10_snacks 16 = .ok (.iconst 1, 1) := by decide +kernel
theorem dX10_snacks_17 : decode cX10_snacks 17 = .ok (.invokevirtual 59, 3) := by decide +kernel
theorem dX10_snacks_20 : decode cX10_snacks 20 = .ok (.ireturn, 1) := by decide +kernel
theorem dX10_snacks_21 : decode cX10_snacks 21 = .ok (.aload_n 0, 1) := by decide +kernel
theorem dX10_snacks_22 : decode cX10_snacks 22 = .ok (.invokevirtual 95, 3) := by decide +kernel
theorem dX10_snacks_25 : decode cX10_snacks 25 = .ok (.aload_n 0, 1) := by decide +kernel
theorem dX10_snacks_26 : decode cX10_snacks 26 = .ok (.getfield 7, 3) := by decide +kernel
theorem dX10_snacks_29 : decode cX10_snacks 29 = .ok (.iconst 4, 1) := by decide +kernel
theorem dX10_snacks_30 : decode cX10_snacks 30 = .ok (.aload_n 0, 1) := by decide +kernel
theorem dX10_snacks_31 : decode cX10_snacks 31 = .ok (.getfield 7, 3) := by decide +kernel
theorem dX10_snacks_34 : decode cX10_snacks 34 = .ok (.iconst 4, 1) := by decide +kernel
theorem dX10_snacks_35 : decode cX10_snacks 35 = .ok (.iaload, 1) := by decide +kernel
theorem dX10_snacks_36 : decode cX10_snacks 36 = .ok (.iload_n 1, 1) := by decide +kernel
theorem dX10_snacks_37 : decode cX10_snacks 37 = .ok (.iadd, 1) := by decide +kernel
theorem dX10_snacks_38 : decode cX10_snacks 38 = .ok (.bipush 50, 2) := by decide +kernel
theorem dX10_snacks_40 : decode cX10_snacks 40 = .ok (.if_icmp .le 8, 3) := by decide +kernel
theorem dX10_snacks_43 : decode cX10_snacks 43 = .ok (.bipush 50, 2) := by decide +kernel
theorem dX10_snacks_45 : decode cX10_snacks 45 = .ok (.goto 11, 3) := by decide +kernel
theorem dX10_snacks_48 : decode cX10_snacks 48 = .ok (.aload_n 0, 1) := by decide +kernel
theorem dX10_snacks_49 : decode cX10_snacks 49 = .ok (.getfield 7, 3) := by decide +kernel
theorem dX10_snacks_52 : decode cX10_snacks 52 = .ok (.iconst 4, 1) := by decide +kernel
theorem dX10_snacks_53 : decode cX10_snacks 53 = .ok (.iaload, 1) := by decide +kernel
theorem dX10_snacks_54 : decode cX10_snacks 54 = .ok (.iload_n 1, 1) := by decide +kernel
theorem dX10_snacks_55 : decode cX10_snacks 55 = .ok (.iadd, 1) := by decide +kernel
theorem dX10_snacks_56 : decode cX10_snacks 56 = .ok (.iastore, 1) := by decide +kernel
theorem dX10_snacks_57 : decode cX10_snacks 57 = .ok (.aload_n 0, 1) := by decide +kernel
theorem dX10_snacks_58 : decode cX10_snacks 58 = .ok (.getfield 7, 3) := by decide +kernel
theorem dX10_snacks_61 : decode cX10_snacks 61 = .ok (.iconst 4, 1) := by decide +kernel
theorem dX10_snacks_62 : decode cX10_snacks 62 = .ok (.iaload, 1) := by decide +kernel
theorem dX10_snacks_63 : decode cX10_snacks 63 = .ok (.ireturn, 1) := by decide +kernel
theorem dX10_notFeed_0 : decode cX10_notFeed 0 = .ok (.iload_n 1, 1) := by decide +kernel
theorem dX10_notFeed_1 : decode cX10_notFeed 1 = .ok (.iconst 1, 1) := by decide +kernel
theorem dX10_notFeed_2 : decode cX10_notFeed 2 = .ok (.bipush 9, 2) := by decide +kernel
theorem dX10_notFeed_4 : decode cX10_notFeed 4 = .ok (.invokestatic 81, 3) := by decide +kernel
theorem dX10_notFeed_7 : decode cX10_notFeed 7 = .ok (.ifCond .ne 5, 3) := by decide +kernel
theorem dX10_notFeed_10 : decode cX10_notFeed 10 = .ok (.iconst 1, 1) := by decide +kernel
theorem dX10_notFeed_11 : decode cX10_notFeed 11 = .ok (.ireturn, 1) := by decide +kernel
theorem dX10_notFeed_12 : decode cX10_notFeed 12 = .ok (.aload_n 0, 1) := by decide +kernel
theorem dX10_notFeed_13 : decode cX10_notFeed 13 = .ok (.getfield 7, 3) := by decide +kernel
theorem dX10_notFeed_16 : decode cX10_notFeed 16 = .ok (.iconst 4, 1) := by decide +kernel
theorem dX10_notFeed_17 : decode cX10_notFeed 17 = .ok (.iaload, 1) := by decide +kernel
theorem dX10_notFeed_18 : decode cX10_notFeed 18 = .ok (.iload_n 1, 1) := by decide +kernel
theorem dX10_notFeed_19 : decode cX10_notFeed 19 = .ok (.if_icmp .ge 18, 3) := by decide +kernel
theorem dX10_notFeed_22 : decode cX10_notFeed 22 = .ok (.aload_n 0, 1) := by decide +kernel
theorem dX10_notFeed_23 : decode cX10_notFeed 23 = .ok (.bipush 11, 2) := by decide +kernel
theorem dX10_notFeed_25 : decode cX10_notFeed 25 = .ok (.aload_n 0, 1) := by decide +kernel
theorem dX10_notFeed_26 : decode cX10_notFeed 26 = .ok (.getfield 7, 3) := by decide +kernel
theorem dX10_notFeed_29 : decode cX10_notFeed 29 = .ok (.iconst 4, 1) := by decide +kernel
theorem dX10_notFeed_30 : decode cX10_notFeed 30 = .ok (.iaload, 1) := by decide +kernel
theorem dX10_notFeed_31 : decode cX10_notFeed 31 = .ok (.invokevirtual 89, 3) := by decide +kernel
theorem dX10_notFeed_34 : decode cX10_notFeed 34 = .ok (.goto 4, 3) := by decide +kernel
theorem dX10_notFeed_37 : decode cX10_notFeed 37 = .ok (.iconst 0, 1) := by decide +kernel
theorem dX10_notFeed_38 : decode cX10_notFeed 38 = .ok (.ireturn, 1) := by decide +kernel
theorem dX10_feeds_0 : decode cX10_feeds 0 = .ok (.aload_n 0, 1) := by decide +kernel
theorem dX10_feeds_1 : decode cX10_feeds 1 = .ok (.getfield 7, 3) := by decide +kernel
theorem dX10_feeds_4 : decode cX10_feeds 4 = .ok (.iconst 4, 1) := by decide +kernel
theorem dX10_feeds_5 : decode cX10_feeds 5 = .ok (.dup2, 1) := by decide +kernel
theorem dX10_feeds_6 : decode cX10_feeds 6 = .ok (.iaload, 1) := by decide +kernel
theorem dX10_feeds_7 : decode cX10_feeds 7 = .ok (.iload_n 1, 1) := by decide +kernel
theorem dX10_feeds_8 : decode cX10_feeds 8 = .ok (.isub, 1) := by decide +kernel
theorem dX10_feeds_9 : decode cX10_feeds 9 = .ok (.iastore, 1) := by decide +kernel
theorem dX10_feeds_10 : decode cX10_feeds 10 = .ok (.aload_n 0, 1) := by decide +kernel
theorem dX10_feeds_11 : decode cX10_feeds 11 = .ok (.getfield 7, 3) := by decide +kernel
theorem dX10_feeds_14 : decode cX10_feeds 14 = .ok (.iconst 5, 1) := by decide +kernel
theorem dX10_feeds_15 : decode cX10_feeds 15 = .ok (.dup2, 1) := by decide +kernel
theorem dX10_feeds_16 : decode cX10_feeds 16 = .ok (.iaload, 1) := by decide +kernel
theorem dX10_feeds_17 : decode cX10_feeds 17 = .ok (.iload_n 1, 1) := by decide +kernel
theorem dX10_feeds_18 : decode cX10_feeds 18 = .ok (.iadd, 1) := by decide +kernel
theorem dX10_feeds_19 : decode cX10_feeds 19 = .ok (.iastore, 1) := by decide +kernel
theorem dX10_feeds_20 : decode cX10_feeds 20 = .ok (.iconst 0, 1) := by decide +kernel
theorem dX10_feeds_21 : decode cX10_feeds 21 = .ok (.istore_n 2, 1) := by decide +kernel
theorem dX10_feeds_22 : decode cX10_feeds 22 = .ok (.iload_n 2, 1) := by decide +kernel
theorem dX10_feeds_23 : decode cX10_feeds 23 = .ok (.iload_n 1, 1) := by decide +kernel
theorem dX10_feeds_24 : decode cX10_feeds 24 = .ok (.if_icmp .ge 41, 3) := by decide +kernel
theorem dX10_feeds_27 : decode cX10_feeds 27 = .ok (.aload_n 0, 1) := by decide +kernel
theorem dX10_feeds_28 : decode cX10_feeds 28 = .ok (.getfield 22, 3) := by decide +kernel
theorem dX10_feeds_31 : decode cX10_feeds 31 = .ok (.bipush 15, 2) := by decide +kernel
theorem dX10_feeds_33 : decode cX10_feeds 33 = .ok (.aload_n 0, 1) := by decide +kernel
theorem dX10_feeds_34 : decode cX10_feeds 34 = .ok (.getfield 22, 3) := by decide +kernel
theorem dX10_feeds_37 : decode cX10_feeds 37 = .ok (.bipush 15, 2) := by decide +kernel
theorem dX10_feeds_39 : decode cX10_feeds 39 = .ok (.faload, 1) := by decide +kernel
theorem dX10_feeds_40 : decode cX10_feeds 40 = .ok (.fconst 2, 1) := by decide +kernel
theorem dX10_feeds_41 : decode cX10_feeds 41 = .ok (.fcmp .l, 1) := by decide +kernel
theorem dX10_feeds_42 : decode cX10_feeds 42 = .ok (.ifCond .le 15, 3) := by decide +kernel
theorem dX10_feeds_45 : decode cX10_feeds 45 = .ok (.aload_n 0, 1) := by decide +kernel
theorem dX10_feeds_46 : decode cX10_feeds 46 = .ok (.getfield 22, 3) := by decide +kernel
theorem dX10_feeds_49 : decode cX10_feeds 49 = .ok (.bipush 15, 2) := by decide +kernel
theorem dX10_feeds_51 : decode cX10_feeds 51 = .ok (.faload, 1) := by decide +kernel
theorem dX10_feeds_52 : decode cX10_feeds 52 = .ok (.fconst 2, 1) := by decide +kernel
theorem dX10_feeds_53 : decode cX10_feeds 53 = .ok (.fsub, 1) := by decide +kernel
theorem dX10_feeds_54 : decode cX10_feeds 54 = .ok (.goto 4, 3) := by decide +kernel
theorem dX10_feeds_57 : decode cX10_feeds 57 = .ok (.fconst 0, 1) := by decide +kernel
theorem dX10_feeds_58 : decode cX10_feeds 58 = .ok (.fastore, 1) := by decide +kernel
theorem dX10_feeds_59 : decode cX10_feeds 59 = .ok (.iinc 2 1, 3) := by decide +kernel
theorem dX10_feeds_62 : decode cX10_feeds 62 = .ok (.goto (-40), 3) := by decide +kernel
theorem dX10_feeds_65 : decode cX10_feeds 65 = .ok (.aload_n 0, 1) := by decide +kernel
theorem dX10_feeds_66 : decode cX10_feeds 66 = .ok (.getfield 22, 3) := by decide +kernel
theorem dX10_feeds_69 : decode cX10_feeds 69 = .ok (.bipush 15, 2) := by decide +kernel
theorem dX10_feeds_71 : decode cX10_feeds 71 = .ok (.faload, 1) := by decide +kernel
theorem dX10_feeds_72 : decode cX10_feeds 72 = .ok (.invokestatic 142, 3) := by decide +kernel
theorem dX10_feeds_75 : decode cX10_feeds 75 = .ok (.ireturn, 1) := by decide +kernel
theorem dX10_feed_0 : decode cX10_feed 0 = .ok (.aload_n 0, 1) := by decide +kernel
theorem dX10_feed_1 : decode cX10_feed 1 = .ok (.iconst 0, 1) := by decide +kernel
theorem dX10_feed_2 : decode cX10_feed 2 = .ok (.putfield 50, 3) := by decide +kernel
theorem dX10_feed_5 : decode cX10_feed 5 = .ok (.aload_n 0, 1) := by decide +kernel
theorem dX10_feed_6 : decode cX10_feed 6 = .ok (.iload_n 1, 1) := by decide +kernel
theorem dX10_feed_7 : decode cX10_feed 7 = .ok (.invokevirtual 198, 3) := by decide +kernel
theorem dX10_feed_10 : decode cX10_feed 10 = .ok (.istore_n 2, 1) := by decide +kernel
theorem dX10_feed_11 : decode cX10_feed 11 = .ok (.iload_n 2, 1) := by decide +kernel
theorem dX10_feed_12 : decode cX10_feed 12 = .ok (.ifCond .eq 10, 3) := by decide +kernel
theorem dX10_feed_15 : decode cX10_feed 15 = .ok (.aload_n 0, 1) := by decide +kernel
theorem dX10_feed_16 : decode cX10_feed 16 = .ok (.iload_n 2, 1) := by decide +kernel
theorem dX10_feed_17 : decode cX10_feed 17 = .ok (.iconst 2, 1) := by decide +kernel
theorem dX10_feed_18 : decode cX10_feed 18 = .ok (.invokevirtual 92, 3) := by decide +kernel
theorem dX10_feed_21 : decode cX10_feed 21 = .ok (.ireturn, 1) := by decide +kernel
theorem dX10_feed_22 : decode cX10_feed 22 = .ok (.aload_n 0, 1) := by decide +kernel
theorem dX10_feed_23 : decode cX10_feed 23 = .ok (.invokevirtual 95, 3) := by decide +kernel
theorem dX10_feed_26 : decode cX10_feed 26 = .ok (.aload_n 0, 1) := by decide +kernel
theorem dX10_feed_27 : decode cX10_feed 27 = .ok (.iload_n 1, 1) := by decide +kernel
theorem dX10_feed_28 : decode cX10_feed 28 = .ok (.invokevirtual 201, 3) := by decide +kernel
theorem dX10_feed_31 : decode cX10_feed 31 = .ok (.ireturn, 1) := by decide +kernel
theorem dX10_hunger_0 : decode cX10_hunger 0 = .ok (.aload_n 0, 1) := by decide +kernel
theorem dX10_hunger_1 : decode cX10_hunger 1 = .ok (.iconst 0, 1) := by decide +kernel
theorem dX10_hunger_2 : decode cX10_hunger 2 = .ok (.putfield 50, 3) := by decide +kernel
theorem dX10_hunger_5 : decode cX10_hunger 5 = .ok (.aload_n 0, 1) := by decide +kernel
theorem dX10_hunger_6 : decode cX10_hunger 6 = .ok (.getfield 22, 3) := by decide +kernel
theorem dX10_hunger_9 : decode cX10_hunger 9 = .ok (.bipush 15, 2) := by decide +kernel
theorem dX10_hunger_11 : decode cX10_hunger 11 = .ok (.faload, 1) := by decide +kernel
theorem dX10_hunger_12 : decode cX10_hunger 12 = .ok (.freturn, 1) := by decide +kernel
theorem dX10_preyNow_0 : decode cX10_preyNow 0 = .ok (.iconst (-1), 1) := by decide +kernel
theorem dX10_preyNow_1 : decode cX10_preyNow 1 = .ok (.istore_n 1, 1) := by decide +kernel
theorem dX10_preyNow_2 : decode cX10_preyNow 2 = .ok (.iconst 0, 1) := by decide +kernel
theorem dX10_preyNow_3 : decode cX10_preyNow 3 = .ok (.istore_n 2, 1) := by decide +kernel
theorem dX10_preyNow_4 : decode cX10_preyNow 4 = .ok (.iload_n 2, 1) := by decide +kernel
theorem dX10_preyNow_5 : decode cX10_preyNow 5 = .ok (.aload_n 0, 1) := by decide +kernel
theorem dX10_preyNow_6 : decode cX10_preyNow 6 = .ok (.getfield 7, 3) := by decide +kernel
theorem dX10_preyNow_9 : decode cX10_preyNow 9 = .ok (.iconst 2, 1) := by decide +kernel
theorem dX10_preyNow_10 : decode cX10_preyNow 10 = .ok (.iaload, 1) := by decide +kernel
theorem dX10_preyNow_11 : decode cX10_preyNow 11 = .ok (.if_icmp .ge 58, 3) := by decide +kernel
theorem dX10_preyNow_14 : decode cX10_preyNow 14 = .ok (.aload_n 0, 1) := by decide +kernel
theorem dX10_preyNow_15 : decode cX10_preyNow 15 = .ok (.iload_n 2, 1) := by decide +kernel
theorem dX10_preyNow_16 : decode cX10_preyNow 16 = .ok (.invokevirtual 139, 3) := by decide +kernel
theorem dX10_preyNow_19 : decode cX10_preyNow 19 = .ok (.ifCond .eq 44, 3) := by decide +kernel
theorem dX10_preyNow_22 : decode cX10_preyNow 22 = .ok (.aload_n 0, 1) := by decide +kernel
theorem dX10_preyNow_23 : decode cX10_preyNow 23 = .ok (.iload_n 2, 1) := by decide +kernel
theorem dX10_preyNow_24 : decode cX10_preyNow 24 = .ok (.iconst 4, 1) := by decide +kernel
theorem dX10_preyNow_25 : decode cX10_preyNow 25 = .ok (.invokevirtual 85, 3) := by decide +kernel
theorem dX10_preyNow_28 : decode cX10_preyNow 28 = .ok (.iconst 2, 1) := by decide +kernel
theorem dX10_preyNow_29 : decode cX10_preyNow 29 = .ok (.if_icmp .eq 6, 3) := by decide +kernel
theorem dX10_preyNow_32 : decode cX10_preyNow 32 = .ok (.goto 31, 3) := by decide +kernel
theorem dX10_preyNow_35 : decode cX10_preyNow 35 = .ok (.iload_n 1, 1) := by decide +kernel
theorem dX10_preyNow_36 : decode cX10_preyNow 36 = .ok (.ifCond .lt 25, 3) := by decide +kernel
theorem dX10_preyNow_39 : decode cX10_preyNow 39 = .ok (.aload_n 0, 1) := by decide +kernel
theorem dX10_preyNow_40 : decode cX10_preyNow 40 = .ok (.getfield 22, 3) := by decide +kernel
theorem dX10_preyNow_43 : decode cX10_preyNow 43 = .ok (.bipush 16, 2) := by decide +kernel
theorem dX10_preyNow_45 : decode cX10_preyNow 45 = .ok (.iload_n 2, 1) := by decide +kernel
theorem dX10_preyNow_46 : decode cX10_preyNow 46 = .ok (.iadd, 1) := by decide +kernel
theorem dX10_preyNow_47 : decode cX10_preyNow 47 = .ok (.faload, 1) := by decide +kernel
theorem dX10_preyNow_48 : decode cX10_preyNow 48 = .ok (.aload_n 0, 1) := by decide +kernel
theorem dX10_preyNow_49 : decode cX10_preyNow 49 = .ok (.getfield 22, 3) := by decide +kernel
theorem dX10_preyNow_52 : decode cX10_preyNow 52 = .ok (.bipush 16, 2) := by decide +kernel
theorem dX10_preyNow_54 : decode cX10_preyNow 54 = .ok (.iload_n 1, 1) := by decide +kernel
theorem dX10_preyNow_55 : decode cX10_preyNow 55 = .ok (.iadd, 1) := by decide +kernel
theorem dX10_preyNow_56 : decode cX10_preyNow 56 = .ok (.faload, 1) := by decide +kernel
theorem dX10_preyNow_57 : decode cX10_preyNow 57 = .ok (.fcmp .g, 1) := by decide +kernel
theorem dX10_preyNow_58 : decode cX10_preyNow 58 = .ok (.ifCond .ge 5, 3) := by decide +kernel
theorem dX10_preyNow_61 : decode cX10_preyNow 61 = .ok (.iload_n 2, 1) := by decide +kernel
theorem dX10_preyNow_62 : decode cX10_preyNow 62 = .ok (.istore_n 1, 1) := by decide +kernel
theorem dX10_preyNow_63 : decode cX10_preyNow 63 = .ok (.iinc 2 1, 3) := by decide +kernel
theorem dX10_preyNow_66 : decode cX10_preyNow 66 = .ok (.goto (-62), 3) := by decide +kernel
theorem dX10_preyNow_69 : decode cX10_preyNow 69 = .ok (.iload_n 1, 1) := by decide +kernel
theorem dX10_preyNow_70 : decode cX10_preyNow 70 = .ok (.ireturn, 1) := by decide +kernel
theorem dX10_prey_0 : decode cX10_prey 0 = .ok (.aload_n 0, 1) := by decide +kernel
theorem dX10_prey_1 : decode cX10_prey 1 = .ok (.iconst 0, 1) := by decide +kernel
theorem dX10_prey_2 : decode cX10_prey 2 = .ok (.putfield 50, 3) := by decide +kernel
theorem dX10_prey_5 : decode cX10_prey 5 = .ok (.aload_n 0, 1) := by decide +kernel
theorem dX10_prey_6 : decode cX10_prey 6 = .ok (.invokevirtual 204, 3) := by decide +kernel
theorem dX10_prey_9 : decode cX10_prey 9 = .ok (.ifCond .ge 11, 3) := by decide +kernel
theorem dX10_prey_12 : decode cX10_prey 12 = .ok (.aload_n 0, 1) := by decide +kernel
theorem dX10_prey_13 : decode cX10_prey 13 = .ok (.iconst 1, 1) := by decide +kernel
theorem dX10_prey_14 : decode cX10_prey 14 = .ok (.invokevirtual 59, 3) := by decide +kernel
theorem dX10_prey_17 : decode cX10_prey 17 = .ok (.goto 7, 3) := by decide +kernel
theorem dX10_prey_20 : decode cX10_prey 20 = .ok (.aload_n 0, 1) := by decide +kernel
theorem dX10_prey_21 : decode cX10_prey 21 = .ok (.invokevirtual 204, 3) := by decide +kernel
theorem dX10_prey_24 : decode cX10_prey 24 = .ok (.ireturn, 1) := by decide +kernel
theorem dX10_hourEats_0 : decode cX10_hourEats 0 = .ok (.aload_n 0, 1) := by decide +kernel
theorem dX10_hourEats_1 : decode cX10_hourEats 1 = .ok (.getfield 22, 3) := by decide +kernel
theorem dX10_hourEats_4 : decode cX10_hourEats 4 = .ok (.bipush 15, 2) := by decide +kernel
theorem dX10_hourEats_6 : decode cX10_hourEats 6 = .ok (.aload_n 0, 1) := by decide +kernel
theorem dX10_hourEats_7 : decode cX10_hourEats 7 = .ok (.getfield 22, 3) := by decide +kernel
theorem dX10_hourEats_10 : decode cX10_hourEats 10 = .ok (.bipush 15, 2) := by decide +kernel
theorem dX10_hourEats_12 : decode cX10_hourEats 12 = .ok (.faload, 1) := by decide +kernel
theorem dX10_hourEats_13 : decode cX10_hourEats 13 = .ok (.ldc 208, 2) := by decide +kernel
theorem dX10_hourEats_15 : decode cX10_hourEats 15 = .ok (.fadd, 1) := by decide +kernel
theorem dX10_hourEats_16 : decode cX10_hourEats 16 = .ok (.fastore, 1) := by decide +kernel
theorem dX10_hourEats_17 : decode cX10_hourEats 17 = .ok (.aload_n 0, 1) := by decide +kernel
theorem dX10_hourEats_18 : decode cX10_hourEats 18 = .ok (.getfield 7, 3) := by decide +kernel
theorem dX10_hourEats_21 : decode cX10_hourEats 21 = .ok (.iconst 0, 1) := by decide +kernel
theorem dX10_hourEats_22 : decode cX10_hourEats 22 = .ok (.dup2, 1) := by decide +kernel
theorem dX10_hourEats_23 : decode cX10_hourEats 23 = .ok (.iaload, 1) := by decide +kernel
theorem dX10_hourEats_24 : decode cX10_hourEats 24 = .ok (.iconst 1, 1) := by decide +kernel
theorem dX10_hourEats_25 : decode cX10_hourEats 25 = .ok (.iadd, 1) := by decide +kernel
theorem dX10_hourEats_26 : decode cX10_hourEats 26 = .ok (.iastore, 1) := by decide +kernel
theorem dX10_hourEats_27 : decode cX10_hourEats 27 = .ok (.aload_n 0, 1) := by decide +kernel
theorem dX10_hourEats_28 : decode cX10_hourEats 28 = .ok (.getfield 22, 3) := by decide +kernel
theorem dX10_hourEats_31 : decode cX10_hourEats 31 = .ok (.bipush 15, 2) := by decide +kernel
theorem dX10_hourEats_33 : decode cX10_hourEats 33 = .ok (.faload, 1) := by decide +kernel
theorem dX10_hourEats_34 : decode cX10_hourEats 34 = .ok (.ldc 209, 2) := by decide +kernel
theorem dX10_hourEats_36 : decode cX10_hourEats 36 = .ok (.fcmp .l, 1) := by decide +kernel
theorem dX10_hourEats_37 : decode cX10_hourEats 37 = .ok (.ifCond .le 10, 3) := by decide +kernel
theorem dX10_hourEats_40 : decode cX10_hourEats 40 = .ok (.aload_n 0, 1) := by decide +kernel
theorem dX10_hourEats_41 : decode cX10_hourEats 41 = .ok (.invokevirtual 204, 3) := by decide +kernel
theorem dX10_hourEats_44 : decode cX10_hourEats 44 = .ok (.goto 4, 3) := by decide +kernel
theorem dX10_hourEats_47 : decode cX10_hourEats 47 = .ok (.iconst (-1), 1) := by decide +kernel
theorem dX10_hourEats_48 : decode cX10_hourEats 48 = .ok (.istore_n 1, 1) := by decide +kernel
theorem dX10_hourEats_49 : decode cX10_hourEats 49 = .ok (.iload_n 1, 1) := by decide +kernel
theorem dX10_hourEats_50 : decode cX10_hourEats 50 = .ok (.ifCond .ge 5, 3) := by decide +kernel
theorem dX10_hourEats_53 : decode cX10_hourEats 53 = .ok (.iconst 0, 1) := by decide +kernel
theorem dX10_hourEats_54 : decode cX10_hourEats 54 = .ok (.ireturn, 1) := by decide +kernel
theorem dX10_hourEats_55 : decode cX10_hourEats 55 = .ok (.aload_n 0, 1) := by decide +kernel
theorem dX10_hourEats_56 : decode cX10_hourEats 56 = .ok (.iload_n 1, 1) := by decide +kernel
theorem dX10_hourEats_57 : decode cX10_hourEats 57 = .ok (.iconst 4, 1) := by decide +kernel
theorem dX10_hourEats_58 : decode cX10_hourEats 58 = .ok (.iconst 4, 1) := by decide +kernel
theorem dX10_hourEats_59 : decode cX10_hourEats 59 = .ok (.invokevirtual 104, 3) := by decide +kernel
theorem dX10_hourEats_62 : decode cX10_hourEats 62 = .ok (.aload_n 0, 1) := by decide +kernel
theorem dX10_hourEats_63 : decode cX10_hourEats 63 = .ok (.iload_n 1, 1) := by decide +kernel
theorem dX10_hourEats_64 : decode cX10_hourEats 64 = .ok (.iconst 5, 1) := by decide +kernel
theorem dX10_hourEats_65 : decode cX10_hourEats 65 = .ok (.iconst 0, 1) := by decide +kernel
theorem dX10_hourEats_66 : decode cX10_hourEats 66 = .ok (.invokevirtual 104, 3) := by decide +kernel
theorem dX10_hourEats_69 : decode cX10_hourEats 69 = .ok (.aload_n 0, 1) := by decide +kernel
theorem dX10_hourEats_70 : decode cX10_hourEats 70 = .ok (.getfield 22, 3) := by decide +kernel
theorem dX10_hourEats_73 : decode cX10_hourEats 73 = .ok (.bipush 15, 2) := by decide +kernel
theorem dX10_hourEats_75 : decode cX10_hourEats 75 = .ok (.aload_n 0, 1) := by decide +kernel
theorem dX10_hourEats_76 : decode cX10_hourEats 76 = .ok (.getfield 22, 3) := by decide +kernel
theorem dX10_hourEats_79 : decode cX10_hourEats 79 = .ok (.bipush 15, 2) := by decide +kernel
theorem dX10_hourEats_81 : decode cX10_hourEats 81 = .ok (.faload, 1) := by decide +kernel
theorem dX10_hourEats_82 : decode cX10_hourEats 82 = .ok (.ldc 210, 2) := by decide +kernel
theorem dX10_hourEats_84 : decode cX10_hourEats 84 = .ok (.fsub, 1) := by decide +kernel
theorem dX10_hourEats_85 : decode cX10_hourEats 85 = .ok (.fastore, 1) := by decide +kernel
theorem dX10_hourEats_86 : decode cX10_hourEats 86 = .ok (.iconst 1, 1) := by decide +kernel
theorem dX10_hourEats_87 : decode cX10_hourEats 87 = .ok (.ireturn, 1) := by decide +kernel
theorem dX10_eatsIn_0 : decode cX10_eatsIn 0 = .ok (.aload_n 0, 1) := by decide +kernel
theorem dX10_eatsIn_1 : decode cX10_eatsIn 1 = .ok (.iconst 0, 1) := by decide +kernel
theorem dX10_eatsIn_2 : decode cX10_eatsIn 2 = .ok (.putfield 50, 3) := by decide +kernel
theorem dX10_eatsIn_5 : decode cX10_eatsIn 5 = .ok (.aload_n 0, 1) := by decide +kernel
theorem dX10_eatsIn_6 : decode cX10_eatsIn 6 = .ok (.invokevirtual 204, 3) := by decide +kernel
theorem dX10_eatsIn_9 : decode cX10_eatsIn 9 = .ok (.ifCond .ge 9, 3) := by decide +kernel
theorem dX10_eatsIn_12 : decode cX10_eatsIn 12 = .ok (.aload_n 0, 1) := by decide +kernel
theorem dX10_eatsIn_13 : decode cX10_eatsIn 13 = .ok (.iconst 1, 1) := by decide +kernel
theorem dX10_eatsIn_14 : decode cX10_eatsIn 14 = .ok (.invokevirtual 59, 3) := by decide +kernel
theorem dX10_eatsIn_17 : decode cX10_eatsIn 17 = .ok (.ireturn, 1) := by decide +kernel
theorem dX10_eatsIn_18 : decode cX10_eatsIn 18 = .ok (.aload_n 0, 1) := by decide +kernel
theorem dX10_eatsIn_19 : decode cX10_eatsIn 19 = .ok (.invokevirtual 75, 3) := by decide +kernel
theorem dX10_eatsIn_22 : decode cX10_eatsIn 22 = .ok (.iconst 1, 1) := by decide +kernel
theorem dX10_eatsIn_23 : decode cX10_eatsIn 23 = .ok (.istore_n 1, 1) := by decide +kernel
theorem dX10_eatsIn_24 : decode cX10_eatsIn 24 = .ok (.aload_n 0, 1) := by decide +kernel
theorem dX10_eatsIn_25 : decode cX10_eatsIn 25 = .ok (.invokevirtual 211, 3) := by decide +kernel
theorem dX10_eatsIn_28 : decode cX10_eatsIn 28 = .ok (.ifCond .ne 9, 3) := by decide +kernel
theorem dX10_eatsIn_31 : decode cX10_eatsIn 31 = .ok (.iinc 1 1, 3) := by decide +kernel
theorem dX10_eatsIn_34 : decode cX10_eatsIn 34 = .ok (.goto (-10), 3) := by decide +kernel
theorem dX10_eatsIn_37 : decode cX10_eatsIn 37 = .ok (.aload_n 0, 1) := by decide +kernel
theorem dX10_eatsIn_38 : decode cX10_eatsIn 38 = .ok (.invokevirtual 215, 3) := by decide +kernel
theorem dX10_eatsIn_41 : decode cX10_eatsIn 41 = .ok (.iload_n 1, 1) := by decide +kernel
theorem dX10_eatsIn_42 : decode cX10_eatsIn 42 = .ok (.ireturn, 1) := by decide +kernel
theorem dX10_notPass_0 : decode cX10_notPass 0 = .ok (.iload_n 1, 1) := by decide +kernel
theorem dX10_notPass_1 : decode cX10_notPass 1 = .ok (.iconst 1, 1) := by decide +kernel
theorem dX10_notPass_2 : decode cX10_notPass 2 = .ok (.bipush 60, 2) := by decide +kernel
theorem dX10_notPass_4 : decode cX10_notPass 4 = .ok (.invokestatic 81, 3) := by decide +kernel
theorem dX10_notPass_7 : decode cX10_notPass 7 = .ok (.ifCond .eq 7, 3) := by decide +kernel
theorem dX10_notPass_10 : decode cX10_notPass 10 = .ok (.iconst 0, 1) := by decide +kernel
theorem dX10_notPass_11 : decode cX10_notPass 11 = .ok (.goto 4, 3) := by decide +kernel
theorem dX10_notPass_14 : decode cX10_notPass 14 = .ok (.iconst 1, 1) := by decide +kernel
theorem dX10_notPass_15 : decode cX10_notPass 15 = .ok (.ireturn, 1) := by decide +kernel
theorem dX10_passes_0 : decode cX10_passes 0 = .ok (.iconst 0, 1) := by decide +kernel
theorem dX10_passes_1 : decode cX10_passes 1 = .ok (.istore_n 2, 1) := by decide +kernel
theorem dX10_passes_2 : decode cX10_passes 2 = .ok (.iconst 0, 1) := by decide +kernel
theorem dX10_passes_3 : decode cX10_passes 3 = .ok (.istore_n 3, 1) := by decide +kernel
theorem dX10_passes_4 : decode cX10_passes 4 = .ok (.iload_n 3, 1) := by decide +kernel
theorem dX10_passes_5 : decode cX10_passes 5 = .ok (.iload_n 1, 1) := by decide +kernel
theorem dX10_passes_6 : decode cX10_passes 6 = .ok (.if_icmp .ge 24, 3) := by decide +kernel
theorem dX10_passes_9 : decode cX10_passes 9 = .ok (.iload_n 2, 1) := by decide +kernel
theorem dX10_passes_10 : decode cX10_passes 10 = .ok (.aload_n 0, 1) := by decide +kernel
theorem dX10_passes_11 : decode cX10_passes 11 = .ok (.invokevirtual 211, 3) := by decide +kernel
theorem dX10_passes_14 : decode cX10_passes 14 = .ok (.ifCond .eq 7, 3) := by decide +kernel
theorem dX10_passes_17 : decode cX10_passes 17 = .ok (.iconst 1, 1) := by decide +kernel
theorem dX10_passes_18 : decode cX10_passes 18 = .ok (.goto 4, 3) := by decide +kernel
theorem dX10_passes_21 : decode cX10_passes 21 = .ok (.iconst 0, 1) := by decide +kernel
theorem dX10_passes_22 : decode cX10_passes 22 = .ok (.iadd, 1) := by decide +kernel
theorem dX10_passes_23 : decode cX10_passes 23 = .ok (.istore_n 2, 1) := by decide +kernel
theorem dX10_passes_24 : decode cX10_passes 24 = .ok (.iinc 3 1, 3) := by decide +kernel
theorem dX10_passes_27 : decode cX10_passes 27 = .ok (.goto (-23), 3) := by decide +kernel
theorem dX10_passes_30 : decode cX10_passes 30 = .ok (.iload_n 2, 1) := by decide +kernel
theorem dX10_passes_31 : decode cX10_passes 31 = .ok (.ireturn, 1) := by decide +kernel
theorem dX10_pass_0 : decode cX10_pass 0 = .ok (.aload_n 0, 1) := by decide +kernel
theorem dX10_pass_1 : decode cX10_pass 1 = .ok (.iconst 0, 1) := by decide +kernel
theorem dX10_pass_2 : decode cX10_pass 2 = .ok (.putfield 50, 3) := by decide +kernel
theorem dX10_pass_5 : decode cX10_pass 5 = .ok (.aload_n 0, 1) := by decide +kernel
theorem dX10_pass_6 : decode cX10_pass 6 = .ok (.iload_n 1, 1) := by decide +kernel
theorem dX10_pass_7 : decode cX10_pass 7 = .ok (.invokevirtual 218, 3) := by decide +kernel
theorem dX10_pass_10 : decode cX10_pass 10 = .ok (.ifCond .eq 9, 3) := by decide +kernel
theorem dX10_pass_13 : decode cX10_pass 13 = .ok (.aload_n 0, 1) := by decide +kernel
theorem dX10_pass_14 : decode cX10_pass 14 = .ok (.iconst 1, 1) := by decide +kernel
theorem dX10_pass_15 : decode cX10_pass 15 = .ok (.invokevirtual 59, 3) := by decide +kernel
theorem dX10_pass_18 : decode cX10_pass 18 = .ok (.ireturn, 1) := by decide +kernel
theorem dX10_pass_19 : decode cX10_pass 19 = .ok (.aload_n 0, 1) := by decide +kernel
theorem dX10_pass_20 : decode cX10_pass 20 = .ok (.invokevirtual 95, 3) := by decide +kernel
theorem dX10_pass_23 : decode cX10_pass 23 = .ok (.aload_n 0, 1) := by decide +kernel
theorem dX10_pass_24 : decode cX10_pass 24 = .ok (.iload_n 1, 1) := by decide +kernel
theorem dX10_pass_25 : decode cX10_pass 25 = .ok (.invokevirtual 221, 3) := by decide +kernel
theorem dX10_pass_28 : decode cX10_pass 28 = .ok (.ireturn, 1) := by decide +kernel
theorem dX10_signOf_0 : decode cX10_signOf 0 = .ok (.iload_n 0, 1) := by decide +kernel
theorem dX10_signOf_1 : decode cX10_signOf 1 = .ok (.tableswitch 43 0 3 #[31, 34, 37, 40], 31) := by decide +kernel
theorem dX10_signOf_32 : decode cX10_signOf 32 = .ok (.bipush 109, 2) := by decide +kernel
theorem dX10_signOf_34 : decode cX10_signOf 34 = .ok (.ireturn, 1) := by decide +kernel
theorem dX10_signOf_35 : decode cX10_signOf 35 = .ok (.bipush 115, 2) := by decide +kernel
theorem dX10_signOf_37 : decode cX10_signOf 37 = .ok (.ireturn, 1) := by decide +kernel
theorem dX10_signOf_38 : decode cX10_signOf 38 = .ok (.bipush 104, 2) := by decide +kernel
theorem dX10_signOf_40 : decode cX10_signOf 40 = .ok (.ireturn, 1) := by decide +kernel
theorem dX10_signOf_41 : decode cX10_signOf 41 = .ok (.bipush 116, 2) := by decide +kernel
theorem dX10_signOf_43 : decode cX10_signOf 43 = .ok (.ireturn, 1) := by decide +kernel
theorem dX10_signOf_44 : decode cX10_signOf 44 = .ok (.bipush 101, 2) := by decide +kernel
theorem dX10_signOf_46 : decode cX10_signOf 46 = .ok (.ireturn, 1) := by decide +kernel
theorem dX10_sign_0 : decode cX10_sign 0 = .ok (.aload_n 0, 1) := by decide +kernel
theorem dX10_sign_1 : decode cX10_sign 1 = .ok (.iconst 0, 1) := by decide +kernel
theorem dX10_sign_2 : decode cX10_sign 2 = .ok (.putfield 50, 3) := by decide +kernel
theorem dX10_sign_5 : decode cX10_sign 5 = .ok (.aload_n 0, 1) := by decide +kernel
theorem dX10_sign_6 : decode cX10_sign 6 = .ok (.iload_n 1, 1) := by decide +kernel
theorem dX10_sign_7 : decode cX10_sign 7 = .ok (.invokevirtual 136, 3) := by decide +kernel
theorem dX10_sign_10 : decode cX10_sign 10 = .ok (.ifCond .ne 10, 3) := by decide +kernel
theorem dX10_sign_13 : decode cX10_sign 13 = .ok (.aload_n 0, 1) := by decide +kernel
theorem dX10_sign_14 : decode cX10_sign 14 = .ok (.iconst 1, 1) := by decide +kernel
theorem dX10_sign_15 : decode cX10_sign 15 = .ok (.invokevirtual 59, 3) := by decide +kernel
theorem dX10_sign_18 : decode cX10_sign 18 = .ok (.i2c, 1) := by decide +kernel
theorem dX10_sign_19 : decode cX10_sign 19 = .ok (.ireturn, 1) := by decide +kernel
theorem dX10_sign_20 : decode cX10_sign 20 = .ok (.aload_n 0, 1) := by decide +kernel
theorem dX10_sign_21 : decode cX10_sign 21 = .ok (.iload_n 1, 1) := by decide +kernel
theorem dX10_sign_22 : decode cX10_sign 22 = .ok (.invokevirtual 139, 3) := by decide +kernel
theorem dX10_sign_25 : decode cX10_sign 25 = .ok (.ifCond .eq 15, 3) := by decide +kernel
theorem dX10_sign_28 : decode cX10_sign 28 = .ok (.aload_n 0, 1) := by decide +kernel
theorem dX10_sign_29 : decode cX10_sign 29 = .ok (.iload_n 1, 1) := by decide +kernel
theorem dX10_sign_30 : decode cX10_sign 30 = .ok (.iconst 4, 1) := by decide +kernel
theorem dX10_sign_31 : decode cX10_sign 31 = .ok (.invokevirtual 85, 3) := by decide +kernel
theorem dX10_sign_34 : decode cX10_sign 34 = .ok (.invokestatic 224, 3) := by decide +kernel
theorem dX10_sign_37 : decode cX10_sign 37 = .ok (.goto 16, 3) := by decide +kernel
theorem dX10_sign_40 : decode cX10_sign 40 = .ok (.aload_n 0, 1) := by decide +kernel
theorem dX10_sign_41 : decode cX10_sign 41 = .ok (.iload_n 1, 1) := by decide +kernel
theorem dX10_sign_42 : decode cX10_sign 42 = .ok (.iconst 4, 1) := by decide +kernel
theorem dX10_sign_43 : decode cX10_sign 43 = .ok (.invokevirtual 85, 3) := by decide +kernel
theorem dX10_sign_46 : decode cX10_sign 46 = .ok (.invokestatic 224, 3) := by decide +kernel
theorem dX10_sign_49 : decode cX10_sign 49 = .ok (.bipush 32, 2) := by decide +kernel
theorem dX10_sign_51 : decode cX10_sign 51 = .ok (.isub, 1) := by decide +kernel
theorem dX10_sign_52 : decode cX10_sign 52 = .ok (.i2c, 1) := by decide +kernel
theorem dX10_sign_53 : decode cX10_sign 53 = .ok (.ireturn, 1) := by decide +kernel
theorem dX10_append_0 : decode cX10_append 0 = .ok (.aload_n 0, 1) := by decide +kernel
theorem dX10_append_1 : decode cX10_append 1 = .ok (.iconst 0, 1) := by decide +kernel
theorem dX10_append_2 : decode cX10_append 2 = .ok (.putfield 50, 3) := by decide +kernel
theorem dX10_append_5 : decode cX10_append 5 = .ok (.aload_n 0, 1) := by decide +kernel
theorem dX10_append_6 : decode cX10_append 6 = .ok (.getfield 228, 3) := by decide +kernel
theorem dX10_append_9 : decode cX10_append 9 = .ok (.bipush 60, 2) := by decide +kernel
theorem dX10_append_11 : decode cX10_append 11 = .ok (.if_icmp .ne 9, 3) := by decide +kernel
theorem dX10_append_14 : decode cX10_append 14 = .ok (.aload_n 0, 1) := by decide +kernel
theorem dX10_append_15 : decode cX10_append 15 = .ok (.iconst 1, 1) := by decide +kernel
theorem dX10_append_16 : decode cX10_append 16 = .ok (.invokevirtual 59, 3) := by decide +kernel
theorem dX10_append_19 : decode cX10_append 19 = .ok (.ireturn, 1) := by decide +kernel
theorem dX10_append_20 : decode cX10_append 20 = .ok (.aload_n 0, 1) := by decide +kernel
theorem dX10_append_21 : decode cX10_append 21 = .ok (.getfield 38, 3) := by decide +kernel
theorem dX10_append_24 : decode cX10_append 24 = .ok (.aload_n 0, 1) := by decide +kernel
theorem dX10_append_25 : decode cX10_append 25 = .ok (.getfield 228, 3) := by decide +kernel
theorem dX10_append_28 : decode cX10_append 28 = .ok (.iload_n 1, 1) := by decide +kernel
theorem dX10_append_29 : decode cX10_append 29 = .ok (.castore, 1) := by decide +kernel
theorem dX10_append_30 : decode cX10_append 30 = .ok (.aload_n 0, 1) := by decide +kernel
theorem dX10_append_31 : decode cX10_append 31 = .ok (.dup, 1) := by decide +kernel
theorem dX10_append_32 : decode cX10_append 32 = .ok (.getfield 228, 3) := by decide +kernel
theorem dX10_append_35 : decode cX10_append 35 = .ok (.iconst 1, 1) := by decide +kernel
theorem dX10_append_36 : decode cX10_append 36 = .ok (.iadd, 1) := by decide +kernel
theorem dX10_append_37 : decode cX10_append 37 = .ok (.putfield 228, 3) := by decide +kernel
theorem dX10_append_40 : decode cX10_append 40 = .ok (.aload_n 0, 1) := by decide +kernel
theorem dX10_append_41 : decode cX10_append 41 = .ok (.getfield 228, 3) := by decide +kernel
theorem dX10_append_44 : decode cX10_append 44 = .ok (.ireturn, 1) := by decide +kernel
theorem dX10_next_0 : decode cX10_next 0 = .ok (.aload_n 0, 1) := by decide +kernel
theorem dX10_next_1 : decode cX10_next 1 = .ok (.getfield 231, 3) := by decide +kernel
theorem dX10_next_4 : decode cX10_next 4 = .ok (.aload_n 0, 1) := by decide +kernel
theorem dX10_next_5 : decode cX10_next 5 = .ok (.getfield 228, 3) := by decide +kernel
theorem dX10_next_8 : decode cX10_next 8 = .ok (.if_icmp .ge 15, 3) := by decide +kernel
theorem dX10_next_11 : decode cX10_next 11 = .ok (.aload_n 0, 1) := by decide +kernel
theorem dX10_next_12 : decode cX10_next 12 = .ok (.getfield 38, 3) := by decide +kernel
theorem dX10_next_15 : decode cX10_next 15 = .ok (.aload_n 0, 1) := by decide +kernel
theorem dX10_next_16 : decode cX10_next 16 = .ok (.getfield 231, 3) := by decide +kernel
theorem dX10_next_19 : decode cX10_next 19 = .ok (.caload, 1) := by decide +kernel
theorem dX10_next_20 : decode cX10_next 20 = .ok (.goto 4, 3) := by decide +kernel
theorem dX10_next_23 : decode cX10_next 23 = .ok (.iconst (-1), 1) := by decide +kernel
theorem dX10_next_24 : decode cX10_next 24 = .ok (.ireturn, 1) := by decide +kernel
theorem dX10_passesSign_0 : decode cX10_passesSign 0 = .ok (.aload_n 0, 1) := by decide +kernel
theorem dX10_passesSign_1 : decode cX10_passesSign 1 = .ok (.invokevirtual 234, 3) := by decide +kernel
theorem dX10_passesSign_4 : decode cX10_passesSign 4 = .ok (.iload_n 1, 1) := by decide +kernel
theorem dX10_passesSign_5 : decode cX10_passesSign 5 = .ok (.if_icmp .eq 5, 3) := by decide +kernel
theorem dX10_passesSign_8 : decode cX10_passesSign 8 = .ok (.iconst 0, 1) := by decide +kernel
theorem dX10_passesSign_9 : decode cX10_passesSign 9 = .ok (.ireturn, 1) := by decide +kernel
theorem dX10_passesSign_10 : decode cX10_passesSign 10 = .ok (.aload_n 0, 1) := by decide +kernel
theorem dX10_passesSign_11 : decode cX10_passesSign 11 = .ok (.dup, 1) := by decide +kernel
theorem dX10_passesSign_12 : decode cX10_passesSign 12 = .ok (.getfield 231, 3) := by decide +kernel
theorem dX10_passesSign_15 : decode cX10_passesSign 15 = .ok (.iconst 1, 1) := by decide +kernel
theorem dX10_passesSign_16 : decode cX10_passesSign 16 = .ok (.iadd, 1) := by decide +kernel
theorem dX10_passesSign_17 : decode cX10_passesSign 17 = .ok (.putfield 231, 3) := by decide +kernel
theorem dX10_passesSign_20 : decode cX10_passesSign 20 = .ok (.iconst 1, 1) := by decide +kernel
theorem dX10_passesSign_21 : decode cX10_passesSign 21 = .ok (.ireturn, 1) := by decide +kernel
theorem dX10_readsDigit_0 : decode cX10_readsDigit 0 = .ok (.aload_n 0, 1) := by decide +kernel
theorem dX10_readsDigit_1 : decode cX10_readsDigit 1 = .ok (.invokevirtual 234, 3) := by decide +kernel
theorem dX10_readsDigit_4 : decode cX10_readsDigit 4 = .ok (.bipush 48, 2) := by decide +kernel
theorem dX10_readsDigit_6 : decode cX10_readsDigit 6 = .ok (.bipush 57, 2) := by decide +kernel
theorem dX10_readsDigit_8 : decode cX10_readsDigit 8 = .ok (.invokestatic 81, 3) := by decide +kernel
theorem dX10_readsDigit_11 : decode cX10_readsDigit 11 = .ok (.ifCond .ne 5, 3) := by decide +kernel
theorem dX10_readsDigit_14 : decode cX10_readsDigit 14 = .ok (.iconst 0, 1) := by decide +kernel
theorem dX10_readsDigit_15 : decode cX10_readsDigit 15 = .ok (.ireturn, 1) := by decide +kernel
theorem dX10_readsDigit_16 : decode cX10_readsDigit 16 = .ok (.aload_n 0, 1) := by decide +kernel
theorem dX10_readsDigit_17 : decode cX10_readsDigit 17 = .ok (.getfield 46, 3) := by decide +kernel
theorem dX10_readsDigit_20 : decode cX10_readsDigit 20 = .ok (.iload_n 1, 1) := by decide +kernel
theorem dX10_readsDigit_21 : decode cX10_readsDigit 21 = .ok (.aload_n 0, 1) := by decide +kernel
theorem dX10_readsDigit_22 : decode cX10_readsDigit 22 = .ok (.getfield 38, 3) := by decide +kernel
theorem dX10_readsDigit_25 : decode cX10_readsDigit 25 = .ok (.aload_n 0, 1) := by decide +kernel
theorem dX10_readsDigit_26 : decode cX10_readsDigit 26 = .ok (.getfield 231, 3) := by decide +kernel
theorem dX10_readsDigit_29 : decode cX10_readsDigit 29 = .ok (.caload, 1) := by decide +kernel
theorem dX10_readsDigit_30 : decode cX10_readsDigit 30 = .ok (.bipush 48, 2) := by decide +kernel
theorem dX10_readsDigit_32 : decode cX10_readsDigit 32 = .ok (.isub, 1) := by decide +kernel
theorem dX10_readsDigit_33 : decode cX10_readsDigit 33 = .ok (.iastore, 1) := by decide +kernel
theorem dX10_readsDigit_34 : decode cX10_readsDigit 34 = .ok (.aload_n 0, 1) := by decide +kernel
theorem dX10_readsDigit_35 : decode cX10_readsDigit 35 = .ok (.dup, 1) := by decide +kernel
theorem dX10_readsDigit_36 : decode cX10_readsDigit 36 = .ok (.getfield 231, 3) := by decide +kernel
theorem dX10_readsDigit_39 : decode cX10_readsDigit 39 = .ok (.iconst 1, 1) := by decide +kernel
theorem dX10_readsDigit_40 : decode cX10_readsDigit 40 = .ok (.iadd, 1) := by decide +kernel
theorem dX10_readsDigit_41 : decode cX10_readsDigit 41 = .ok (.putfield 231, 3) := by decide +kernel
theorem dX10_readsDigit_44 : decode cX10_readsDigit 44 = .ok (.iconst 1, 1) := by decide +kernel
theorem dX10_readsDigit_45 : decode cX10_readsDigit 45 = .ok (.ireturn, 1) := by decide +kernel
theorem dX10_readsNumber_0 : decode cX10_readsNumber 0 = .ok (.aload_n 0, 1) := by decide +kernel
theorem dX10_readsNumber_1 : decode cX10_readsNumber 1 = .ok (.iload_n 1, 1) := by decide +kernel
theorem dX10_readsNumber_2 : decode cX10_readsNumber 2 = .ok (.invokevirtual 237, 3) := by decide +kernel
theorem dX10_readsNumber_5 : decode cX10_readsNumber 5 = .ok (.ifCond .ne 5, 3) := by decide +kernel
theorem dX10_readsNumber_8 : decode cX10_readsNumber 8 = .ok (.iconst 0, 1) := by decide +kernel
theorem dX10_readsNumber_9 : decode cX10_readsNumber 9 = .ok (.ireturn, 1) := by decide +kernel
theorem dX10_readsNumber_10 : decode cX10_readsNumber 10 = .ok (.aload_n 0, 1) := by decide +kernel
theorem dX10_readsNumber_11 : decode cX10_readsNumber 11 = .ok (.getfield 46, 3) := by decide +kernel
theorem dX10_readsNumber_14 : decode cX10_readsNumber 14 = .ok (.iload_n 1, 1) := by decide +kernel
theorem dX10_readsNumber_15 : decode cX10_readsNumber 15 = .ok (.iaload, 1) := by decide +kernel
theorem dX10_readsNumber_16 : decode cX10_readsNumber 16 = .ok (.istore_n 2, 1) := by decide +kernel
theorem dX10_readsNumber_17 : decode cX10_readsNumber 17 = .ok (.aload_n 0, 1) := by decide +kernel
theorem dX10_readsNumber_18 : decode cX10_readsNumber 18 = .ok (.iload_n 1, 1) := by decide +kernel
theorem dX10_readsNumber_19 : decode cX10_readsNumber 19 = .ok (.invokevirtual 237, 3) := by decide +kernel
theorem dX10_readsNumber_22 : decode cX10_readsNumber 22 = .ok (.ifCond .eq 16, 3) := by decide +kernel
theorem dX10_readsNumber_25 : decode cX10_readsNumber 25 = .ok (.aload_n 0, 1) := by decide +kernel
theorem dX10_readsNumber_26 : decode cX10_readsNumber 26 = .ok (.getfield 46, 3) := by decide +kernel
theorem dX10_readsNumber_29 : decode cX10_readsNumber 29 = .ok (.iload_n 1, 1) := by decide +kernel
theorem dX10_readsNumber_30 : decode cX10_readsNumber 30 = .ok (.dup2, 1) := by decide +kernel
theorem dX10_readsNumber_31 : decode cX10_readsNumber 31 = .ok (.iaload, 1) := by decide +kernel
theorem dX10_readsNumber_32 : decode cX10_readsNumber 32 = .ok (.bipush 10, 2) := by decide +kernel
theorem dX10_readsNumber_34 : decode cX10_readsNumber 34 = .ok (.iload_n 2, 1) := by decide +kernel
theorem dX10_readsNumber_35 : decode cX10_readsNumber 35 = .ok (.imul, 1) := by decide +kernel
theorem dX10_readsNumber_36 : decode cX10_readsNumber 36 = .ok (.iadd, 1) := by decide +kernel
theorem dX10_readsNumber_37 : decode cX10_readsNumber 37 = .ok (.iastore, 1) := by decide +kernel
theorem dX10_readsNumber_38 : decode cX10_readsNumber 38 = .ok (.iconst 1, 1) := by decide +kernel
theorem dX10_readsNumber_39 : decode cX10_readsNumber 39 = .ok (.ireturn, 1) := by decide +kernel
theorem dX10_isSort_0 : decode cX10_isSort 0 = .ok (.aload_n 0, 1) := by decide +kernel
theorem dX10_isSort_1 : decode cX10_isSort 1 = .ok (.iload_n 1, 1) := by decide +kernel
theorem dX10_isSort_2 : decode cX10_isSort 2 = .ok (.invokevirtual 240, 3) := by decide +kernel
theorem dX10_isSort_5 : decode cX10_isSort 5 = .ok (.ifCond .ne 5, 3) := by decide +kernel
theorem dX10_isSort_8 : decode cX10_isSort 8 = .ok (.iconst 0, 1) := by decide +kernel
theorem dX10_isSort_9 : decode cX10_isSort 9 = .ok (.ireturn, 1) := by decide +kernel
theorem dX10_isSort_10 : decode cX10_isSort 10 = .ok (.aload_n 0, 1) := by decide +kernel
theorem dX10_isSort_11 : decode cX10_isSort 11 = .ok (.iload_n 2, 1) := by decide +kernel
theorem dX10_isSort_12 : decode cX10_isSort 12 = .ok (.putfield 243, 3) := by decide +kernel
theorem dX10_isSort_15 : decode cX10_isSort 15 = .ok (.iconst 1, 1) := by decide +kernel
theorem dX10_isSort_16 : decode cX10_isSort 16 = .ok (.ireturn, 1) := by decide +kernel
theorem dX10_readsOrder_0 : decode cX10_readsOrder 0 = .ok (.aload_n 0, 1) := by decide +kernel
theorem dX10_readsOrder_1 : decode cX10_readsOrder 1 = .ok (.bipush 119, 2) := by decide +kernel
theorem dX10_readsOrder_3 : decode cX10_readsOrder 3 = .ok (.iconst 0, 1) := by decide +kernel
theorem dX10_readsOrder_4 : decode cX10_readsOrder 4 = .ok (.invokevirtual 246, 3) := by decide +kernel
theorem dX10_readsOrder_7 : decode cX10_readsOrder 7 = .ok (.ifCond .eq 68, 3) := by decide +kernel
theorem dX10_readsOrder_10 : decode cX10_readsOrder 10 = .ok (.aload_n 0, 1) := by decide +kernel
theorem dX10_readsOrder_11 : decode cX10_readsOrder 11 = .ok (.iconst 0, 1) := by decide +kernel
theorem dX10_readsOrder_12 : decode cX10_readsOrder 12 = .ok (.invokevirtual 237, 3) := by decide +kernel
theorem dX10_readsOrder_15 : decode cX10_readsOrder 15 = .ok (.ifCond .eq 58, 3) := by decide +kernel
theorem dX10_readsOrder_18 : decode cX10_readsOrder 18 = .ok (.aload_n 0, 1) := by decide +kernel
theorem dX10_readsOrder_19 : decode cX10_readsOrder 19 = .ok (.bipush 62, 2) := by decide +kernel
theorem dX10_readsOrder_21 : decode cX10_readsOrder 21 = .ok (.invokevirtual 240, 3) := by decide +kernel
theorem dX10_readsOrder_24 : decode cX10_readsOrder 24 = .ok (.ifCond .eq 49, 3) := by decide +kernel
theorem dX10_readsOrder_27 : decode cX10_readsOrder 27 = .ok (.aload_n 0, 1) := by decide +kernel
theorem dX10_readsOrder_28 : decode cX10_readsOrder 28 = .ok (.iconst 1, 1) := by decide +kernel
theorem dX10_readsOrder_29 : decode cX10_readsOrder 29 = .ok (.invokevirtual 237, 3) := by decide +kernel
theorem dX10_readsOrder_32 : decode cX10_readsOrder 32 = .ok (.ifCond .eq 41, 3) := by decide +kernel
theorem dX10_readsOrder_35 : decode cX10_readsOrder 35 = .ok (.aload_n 0, 1) := by decide +kernel
theorem dX10_readsOrder_36 : decode cX10_readsOrder 36 = .ok (.bipush 42, 2) := by decide +kernel
theorem dX10_readsOrder_38 : decode cX10_readsOrder 38 = .ok (.invokevirtual 240, 3) := by decide +kernel
theorem dX10_readsOrder_41 : decode cX10_readsOrder 41 = .ok (.ifCond .eq 32, 3) := by decide +kernel
theorem dX10_readsOrder_44 : decode cX10_readsOrder 44 = .ok (.aload_n 0, 1) := by decide +kernel
theorem dX10_readsOrder_45 : decode cX10_readsOrder 45 = .ok (.iconst 2, 1) := by decide +kernel
theorem dX10_readsOrder_46 : decode cX10_readsOrder 46 = .ok (.invokevirtual 250, 3) := by decide +kernel
theorem dX10_readsOrder_49 : decode cX10_readsOrder 49 = .ok (.ifCond .eq 24, 3) := by decide +kernel
theorem dX10_readsOrder_52 : decode cX10_readsOrder 52 = .ok (.aload_n 0, 1) := by decide +kernel
theorem dX10_readsOrder_53 : decode cX10_readsOrder 53 = .ok (.bipush 47, 2) := by decide +kernel
theorem dX10_readsOrder_55 : decode cX10_readsOrder 55 = .ok (.invokevirtual 240, 3) := by decide +kernel
theorem dX10_readsOrder_58 : decode cX10_readsOrder 58 = .ok (.ifCond .eq 15, 3) := by decide +kernel
theorem dX10_readsOrder_61 : decode cX10_readsOrder 61 = .ok (.aload_n 0, 1) := by decide +kernel
theorem dX10_readsOrder_62 : decode cX10_readsOrder 62 = .ok (.iconst 3, 1) := by decide +kernel
theorem dX10_readsOrder_63 : decode cX10_readsOrder 63 = .ok (.invokevirtual 237, 3) := by decide +kernel
theorem dX10_readsOrder_66 : decode cX10_readsOrder 66 = .ok (.ifCond .eq 7, 3) := by decide +kernel
theorem dX10_readsOrder_69 : decode cX10_readsOrder 69 = .ok (.iconst 1, 1) := by decide +kernel
theorem dX10_readsOrder_70 : decode cX10_readsOrder 70 = .ok (.goto 4, 3) := by decide +kernel
theorem dX10_readsOrder_73 : decode cX10_readsOrder 73 = .ok (.iconst 0, 1) := by decide +kernel
theorem dX10_readsOrder_74 : decode cX10_readsOrder 74 = .ok (.ireturn, 1) := by decide +kernel
theorem dX10_readsOrder_75 : decode cX10_readsOrder 75 = .ok (.aload_n 0, 1) := by decide +kernel
theorem dX10_readsOrder_76 : decode cX10_readsOrder 76 = .ok (.bipush 115, 2) := by decide +kernel
theorem dX10_readsOrder_78 : decode cX10_readsOrder 78 = .ok (.iconst 1, 1) := by decide +kernel
theorem dX10_readsOrder_79 : decode cX10_readsOrder 79 = .ok (.invokevirtual 246, 3) := by decide +kernel
theorem dX10_readsOrder_82 : decode cX10_readsOrder 82 = .ok (.ifCond .eq 34, 3) := by decide +kernel
theorem dX10_readsOrder_85 : decode cX10_readsOrder 85 = .ok (.aload_n 0, 1) := by decide +kernel
theorem dX10_readsOrder_86 : decode cX10_readsOrder 86 = .ok (.iconst 0, 1) := by decide +kernel
theorem dX10_readsOrder_87 : decode cX10_readsOrder 87 = .ok (.invokevirtual 250, 3) := by decide +kernel
theorem dX10_readsOrder_90 : decode cX10_readsOrder 90 = .ok (.ifCond .eq 24, 3) := by decide +kernel
theorem dX10_readsOrder_93 : decode cX10_readsOrder 93 = .ok (.aload_n 0, 1) := by decide +kernel
theorem dX10_readsOrder_94 : decode cX10_readsOrder 94 = .ok (.bipush 64, 2) := by decide +kernel
theorem dX10_readsOrder_96 : decode cX10_readsOrder 96 = .ok (.invokevirtual 240, 3) := by decide +kernel
theorem dX10_readsOrder_99 : decode cX10_readsOrder 99 = .ok (.ifCond .eq 15, 3) := by decide +kernel
theorem dX10_readsOrder_102 : decode cX10_readsOrder 102 = .ok (.aload_n 0, 1) := by decide +kernel
theorem dX10_readsOrder_103 : decode cX10_readsOrder 103 = .ok (.iconst 1, 1) := by decide +kernel
theorem dX10_readsOrder_104 : decode cX10_readsOrder 104 = .ok (.invokevirtual 237, 3) := by decide +kernel
theorem dX10_readsOrder_107 : decode cX10_readsOrder 107 = .ok (.ifCond .eq 7, 3) := by decide +kernel
theorem dX10_readsOrder_110 : decode cX10_readsOrder 110 = .ok (.iconst 1, 1) := by decide +kernel
theorem dX10_readsOrder_111 : decode cX10_readsOrder 111 = .ok (.goto 4, 3) := by decide +kernel
theorem dX10_readsOrder_114 : decode cX10_readsOrder 114 = .ok (.iconst 0, 1) := by decide +kernel
theorem dX10_readsOrder_115 : decode cX10_readsOrder 115 = .ok (.ireturn, 1) := by decide +kernel
theorem dX10_readsOrder_116 : decode cX10_readsOrder 116 = .ok (.aload_n 0, 1) := by decide +kernel
theorem dX10_readsOrder_117 : decode cX10_readsOrder 117 = .ok (.bipush 104, 2) := by decide +kernel
theorem dX10_readsOrder_119 : decode cX10_readsOrder 119 = .ok (.iconst 2, 1) := by decide +kernel
theorem dX10_readsOrder_120 : decode cX10_readsOrder 120 = .ok (.invokevirtual 246, 3) := by decide +kernel
theorem dX10_readsOrder_123 : decode cX10_readsOrder 123 = .ok (.ifCond .ne 13, 3) := by decide +kernel
theorem dX10_readsOrder_126 : decode cX10_readsOrder 126 = .ok (.aload_n 0, 1) := by decide +kernel
theorem dX10_readsOrder_127 : decode cX10_readsOrder 127 = .ok (.bipush 112, 2) := by decide +kernel
theorem dX10_readsOrder_129 : decode cX10_readsOrder 129 = .ok (.iconst 5, 1) := by decide +kernel
theorem dX10_readsOrder_130 : decode cX10_readsOrder 130 = .ok (.invokevirtual 246, 3) := by decide +kernel
theorem dX10_readsOrder_133 : decode cX10_readsOrder 133 = .ok (.ifCond .eq 9, 3) := by decide +kernel
theorem dX10_readsOrder_136 : decode cX10_readsOrder 136 = .ok (.aload_n 0, 1) := by decide +kernel
theorem dX10_readsOrder_137 : decode cX10_readsOrder 137 = .ok (.iconst 0, 1) := by decide +kernel
theorem dX10_readsOrder_138 : decode cX10_readsOrder 138 = .ok (.invokevirtual 250, 3) := by decide +kernel
theorem dX10_readsOrder_141 : decode cX10_readsOrder 141 = .ok (.ireturn, 1) := by decide +kernel
theorem dX10_readsOrder_142 : decode cX10_readsOrder 142 = .ok (.aload_n 0, 1) := by decide +kernel
theorem dX10_readsOrder_143 : decode cX10_readsOrder 143 = .ok (.bipush 116, 2) := by decide +kernel
theorem dX10_readsOrder_145 : decode cX10_readsOrder 145 = .ok (.iconst 3, 1) := by decide +kernel
theorem dX10_readsOrder_146 : decode cX10_readsOrder 146 = .ok (.invokevirtual 246, 3) := by decide +kernel
theorem dX10_readsOrder_149 : decode cX10_readsOrder 149 = .ok (.ifCond .ne 13, 3) := by decide +kernel
theorem dX10_readsOrder_152 : decode cX10_readsOrder 152 = .ok (.aload_n 0, 1) := by decide +kernel
theorem dX10_readsOrder_153 : decode cX10_readsOrder 153 = .ok (.bipush 102, 2) := by decide +kernel
theorem dX10_readsOrder_155 : decode cX10_readsOrder 155 = .ok (.iconst 4, 1) := by decide +kernel
theorem dX10_readsOrder_156 : decode cX10_readsOrder 156 = .ok (.invokevirtual 246, 3) := by decide +kernel
theorem dX10_readsOrder_159 : decode cX10_readsOrder 159 = .ok (.ifCond .eq 15, 3) := by decide +kernel
theorem dX10_readsOrder_162 : decode cX10_readsOrder 162 = .ok (.aload_n 0, 1) := by decide +kernel
theorem dX10_readsOrder_163 : decode cX10_readsOrder 163 = .ok (.iconst 0, 1) := by decide +kernel
theorem dX10_readsOrder_164 : decode cX10_readsOrder 164 = .ok (.invokevirtual 237, 3) := by decide +kernel
theorem dX10_readsOrder_167 : decode cX10_readsOrder 167 = .ok (.ifCond .eq 7, 3) := by decide +kernel
theorem dX10_readsOrder_170 : decode cX10_readsOrder 170 = .ok (.iconst 1, 1) := by decide +kernel
theorem dX10_readsOrder_171 : decode cX10_readsOrder 171 = .ok (.goto 4, 3) := by decide +kernel
theorem dX10_readsOrder_174 : decode cX10_readsOrder 174 = .ok (.iconst 0, 1) := by decide +kernel
theorem dX10_readsOrder_175 : decode cX10_readsOrder 175 = .ok (.ireturn, 1) := by decide +kernel
theorem dX10_readsAll_0 : decode cX10_readsAll 0 = .ok (.aload_n 0, 1) := by decide +kernel
theorem dX10_readsAll_1 : decode cX10_readsAll 1 = .ok (.iconst 0, 1) := by decide +kernel
theorem dX10_readsAll_2 : decode cX10_readsAll 2 = .ok (.putfield 231, 3) := by decide +kernel
theorem dX10_readsAll_5 : decode cX10_readsAll 5 = .ok (.iconst 1, 1) := by decide +kernel
theorem dX10_readsAll_6 : decode cX10_readsAll 6 = .ok (.istore_n 1, 1) := by decide +kernel
theorem dX10_readsAll_7 : decode cX10_readsAll 7 = .ok (.iload_n 1, 1) := by decide +kernel
theorem dX10_readsAll_8 : decode cX10_readsAll 8 = .ok (.ifCond .eq 22, 3) := by decide +kernel
theorem dX10_readsAll_11 : decode cX10_readsAll 11 = .ok (.aload_n 0, 1) := by decide +kernel
theorem dX10_readsAll_12 : decode cX10_readsAll 12 = .ok (.invokevirtual 253, 3) := by decide +kernel
theorem dX10_readsAll_15 : decode cX10_readsAll 15 = .ok (.ifCond .ne 5, 3) := by decide +kernel
theorem dX10_readsAll_18 : decode cX10_readsAll 18 = .ok (.iconst 0, 1) := by decide +kernel
theorem dX10_readsAll_19 : decode cX10_readsAll 19 = .ok (.ireturn, 1) := by decide +kernel
theorem dX10_readsAll_20 : decode cX10_readsAll 20 = .ok (.aload_n 0, 1) := by decide +kernel
theorem dX10_readsAll_21 : decode cX10_readsAll 21 = .ok (.bipush 59, 2) := by decide +kernel
theorem dX10_readsAll_23 : decode cX10_readsAll 23 = .ok (.invokevirtual 240, 3) := by decide +kernel
theorem dX10_readsAll_26 : decode cX10_readsAll 26 = .ok (.istore_n 1, 1) := by decide +kernel
theorem dX10_readsAll_27 : decode cX10_readsAll 27 = .ok (.goto (-20), 3) := by decide +kernel
theorem dX10_readsAll_30 : decode cX10_readsAll 30 = .ok (.aload_n 0, 1) := by decide +kernel
theorem dX10_readsAll_31 : decode cX10_readsAll 31 = .ok (.getfield 231, 3) := by decide +kernel
theorem dX10_readsAll_34 : decode cX10_readsAll 34 = .ok (.aload_n 0, 1) := by decide +kernel
theorem dX10_readsAll_35 : decode cX10_readsAll 35 = .ok (.getfield 228, 3) := by decide +kernel
theorem dX10_readsAll_38 : decode cX10_readsAll 38 = .ok (.if_icmp .ne 7, 3) := by decide +kernel
theorem dX10_readsAll_41 : decode cX10_readsAll 41 = .ok (.iconst 1, 1) := by decide +kernel
theorem dX10_readsAll_42 : decode cX10_readsAll 42 = .ok (.goto 4, 3) := by decide +kernel
theorem dX10_readsAll_45 : decode cX10_readsAll 45 = .ok (.iconst 0, 1) := by decide +kernel
theorem dX10_readsAll_46 : decode cX10_readsAll 46 = .ok (.ireturn, 1) := by decide +kernel
theorem dX10_notNow_0 : decode cX10_notNow 0 = .ok (.aload_n 0, 1) := by decide +kernel
theorem dX10_notNow_1 : decode cX10_notNow 1 = .ok (.getfield 243, 3) := by decide +kernel
theorem dX10_notNow_4 : decode cX10_notNow 4 = .ok (.tableswitch 143 0 4 #[36, 65, 82, 121, 132], 36) := by decide +kernel
theorem dX10_notNow_40 : decode cX10_notNow 40 = .ok (.aload_n 0, 1) := by decide +kernel
theorem dX10_notNow_41 : decode cX10_notNow 41 = .ok (.aload_n 0, 1) := by decide +kernel
theorem dX10_notNow_42 : decode cX10_notNow 42 = .ok (.getfield 46, 3) := by decide +kernel
theorem dX10_notNow_45 : decode cX10_notNow 45 = .ok (.iconst 0, 1) := by decide +kernel
theorem dX10_notNow_46 : decode cX10_notNow 46 = .ok (.iaload, 1) := by decide +kernel
theorem dX10_notNow_47 : decode cX10_notNow 47 = .ok (.aload_n 0, 1) := by decide +kernel
theorem dX10_notNow_48 : decode cX10_notNow 48 = .ok (.getfield 46, 3) := by decide +kernel
theorem dX10_notNow_51 : decode cX10_notNow 51 = .ok (.iconst 1, 1) := by decide +kernel
theorem dX10_notNow_52 : decode cX10_notNow 52 = .ok (.iaload, 1) := by decide +kernel
theorem dX10_notNow_53 : decode cX10_notNow 53 = .ok (.aload_n 0, 1) := by decide +kernel
theorem dX10_notNow_54 : decode cX10_notNow 54 = .ok (.getfield 46, 3) := by decide +kernel
theorem dX10_notNow_57 : decode cX10_notNow 57 = .ok (.iconst 2, 1) := by decide +kernel
theorem dX10_notNow_58 : decode cX10_notNow 58 = .ok (.iaload, 1) := by decide +kernel
theorem dX10_notNow_59 : decode cX10_notNow 59 = .ok (.aload_n 0, 1) := by decide +kernel
theorem dX10_notNow_60 : decode cX10_notNow 60 = .ok (.getfield 46, 3) := by decide +kernel
theorem dX10_notNow_63 : decode cX10_notNow 63 = .ok (.iconst 3, 1) := by decide +kernel
theorem dX10_notNow_64 : decode cX10_notNow 64 = .ok (.iaload, 1) := by decide +kernel
theorem dX10_notNow_65 : decode cX10_notNow 65 = .ok (.invokevirtual 119, 3) := by decide +kernel
theorem dX10_notNow_68 : decode cX10_notNow 68 = .ok (.ireturn, 1) := by decide +kernel
theorem dX10_notNow_69 : decode cX10_notNow 69 = .ok (.aload_n 0, 1) := by decide +kernel
theorem dX10_notNow_70 : decode cX10_notNow 70 = .ok (.aload_n 0, 1) := by decide +kernel
theorem dX10_notNow_71 : decode cX10_notNow 71 = .ok (.getfield 46, 3) := by decide +kernel
theorem dX10_notNow_74 : decode cX10_notNow 74 = .ok (.iconst 0, 1) := by decide +kernel
theorem dX10_notNow_75 : decode cX10_notNow 75 = .ok (.iaload, 1) := by decide +kernel
theorem dX10_notNow_76 : decode cX10_notNow 76 = .ok (.aload_n 0, 1) := by decide +kernel
theorem dX10_notNow_77 : decode cX10_notNow 77 = .ok (.getfield 46, 3) := by decide +kernel
theorem dX10_notNow_80 : decode cX10_notNow 80 = .ok (.iconst 1, 1) := by decide +kernel
theorem dX10_notNow_81 : decode cX10_notNow 81 = .ok (.iaload, 1) := by decide +kernel
theorem dX10_notNow_82 : decode cX10_notNow 82 = .ok (.invokevirtual 167, 3) := by decide +kernel
theorem dX10_notNow_85 : decode cX10_notNow 85 = .ok (.ireturn, 1) := by decide +kernel
theorem dX10_notNow_86 : decode cX10_notNow 86 = .ok (.aload_n 0, 1) := by decide +kernel
theorem dX10_notNow_87 : decode cX10_notNow 87 = .ok (.aload_n 0, 1) := by decide +kernel
theorem dX10_notNow_88 : decode cX10_notNow 88 = .ok (.getfield 46, 3) := by decide +kernel
theorem dX10_notNow_91 : decode cX10_notNow 91 = .ok (.iconst 0, 1) := by decide +kernel
theorem dX10_notNow_92 : decode cX10_notNow 92 = .ok (.iaload, 1) := by decide +kernel
theorem dX10_notNow_93 : decode cX10_notNow 93 = .ok (.invokevirtual 136, 3) := by decide +kernel
theorem dX10_notNow_96 : decode cX10_notNow 96 = .ok (.ifCond .eq 27, 3) := by decide +kernel
theorem dX10_notNow_99 : decode cX10_notNow 99 = .ok (.aload_n 0, 1) := by decide +kernel
theorem dX10_notNow_100 : decode cX10_notNow 100 = .ok (.aload_n 0, 1) := by decide +kernel
theorem dX10_notNow_101 : decode cX10_notNow 101 = .ok (.getfield 46, 3) := by decide +kernel
theorem dX10_notNow_104 : decode cX10_notNow 104 = .ok (.iconst 0, 1) := by decide +kernel
theorem dX10_notNow_105 : decode cX10_notNow 105 = .ok (.iaload, 1) := by decide +kernel
theorem dX10_notNow_106 : decode cX10_notNow 106 = .ok (.aload_n 0, 1) := by decide +kernel
theorem dX10_notNow_107 : decode cX10_notNow 107 = .ok (.aload_n 0, 1) := by decide +kernel
theorem dX10_notNow_108 : decode cX10_notNow 108 = .ok (.getfield 46, 3) := by decide +kernel
theorem dX10_notNow_111 : decode cX10_notNow 111 = .ok (.iconst 0, 1) := by decide +kernel
theorem dX10_notNow_112 : decode cX10_notNow 112 = .ok (.iaload, 1) := by decide +kernel
theorem dX10_notNow_113 : decode cX10_notNow 113 = .ok (.iconst 0, 1) := by decide +kernel
theorem dX10_notNow_114 : decode cX10_notNow 114 = .ok (.invokevirtual 85, 3) := by decide +kernel
theorem dX10_notNow_117 : decode cX10_notNow 117 = .ok (.invokevirtual 183, 3) := by decide +kernel
theorem dX10_notNow_120 : decode cX10_notNow 120 = .ok (.goto 4, 3) := by decide +kernel
theorem dX10_notNow_123 : decode cX10_notNow 123 = .ok (.iconst 1, 1) := by decide +kernel
theorem dX10_notNow_124 : decode cX10_notNow 124 = .ok (.ireturn, 1) := by decide +kernel
theorem dX10_notNow_125 : decode cX10_notNow 125 = .ok (.aload_n 0, 1) := by decide +kernel
theorem dX10_notNow_126 : decode cX10_notNow 126 = .ok (.aload_n 0, 1) := by decide +kernel
theorem dX10_notNow_127 : decode cX10_notNow 127 = .ok (.getfield 46, 3) := by decide +kernel
theorem dX10_notNow_130 : decode cX10_notNow 130 = .ok (.iconst 0, 1) := by decide +kernel
theorem dX10_notNow_131 : decode cX10_notNow 131 = .ok (.iaload, 1) := by decide +kernel
theorem dX10_notNow_132 : decode cX10_notNow 132 = .ok (.invokevirtual 192, 3) := by decide +kernel
theorem dX10_notNow_135 : decode cX10_notNow 135 = .ok (.ireturn, 1) := by decide +kernel
theorem dX10_notNow_136 : decode cX10_notNow 136 = .ok (.aload_n 0, 1) := by decide +kernel
theorem dX10_notNow_137 : decode cX10_notNow 137 = .ok (.aload_n 0, 1) := by decide +kernel
theorem dX10_notNow_138 : decode cX10_notNow 138 = .ok (.getfield 46, 3) := by decide +kernel
theorem dX10_notNow_141 : decode cX10_notNow 141 = .ok (.iconst 0, 1) := by decide +kernel
theorem dX10_notNow_142 : decode cX10_notNow 142 = .ok (.iaload, 1) := by decide +kernel
theorem dX10_notNow_143 : decode cX10_notNow 143 = .ok (.invokevirtual 198, 3) := by decide +kernel
theorem dX10_notNow_146 : decode cX10_notNow 146 = .ok (.ireturn, 1) := by decide +kernel
theorem dX10_notNow_147 : decode cX10_notNow 147 = .ok (.aload_n 0, 1) := by decide +kernel
theorem dX10_notNow_148 : decode cX10_notNow 148 = .ok (.aload_n 0, 1) := by decide +kernel
theorem dX10_notNow_149 : decode cX10_notNow 149 = .ok (.getfield 46, 3) := by decide +kernel
theorem dX10_notNow_152 : decode cX10_notNow 152 = .ok (.iconst 0, 1) := by decide +kernel
theorem dX10_notNow_153 : decode cX10_notNow 153 = .ok (.iaload, 1) := by decide +kernel
theorem dX10_notNow_154 : decode cX10_notNow 154 = .ok (.invokevirtual 218, 3) := by decide +kernel
theorem dX10_notNow_157 : decode cX10_notNow 157 = .ok (.ireturn, 1) := by decide +kernel
theorem dX10_doesNow_0 : decode cX10_doesNow 0 = .ok (.aload_n 0, 1) := by decide +kernel
theorem dX10_doesNow_1 : decode cX10_doesNow 1 = .ok (.getfield 243, 3) := by decide +kernel
theorem dX10_doesNow_4 : decode cX10_doesNow 4 = .ok (.tableswitch 126 0 4 #[36, 65, 82, 104, 115], 36) := by decide +kernel
theorem dX10_doesNow_40 : decode cX10_doesNow 40 = .ok (.aload_n 0, 1) := by decide +kernel
theorem dX10_doesNow_41 : decode cX10_doesNow 41 = .ok (.aload_n 0, 1) := by decide +kernel
theorem dX10_doesNow_42 : decode cX10_doesNow 42 = .ok (.getfield 46, 3) := by decide +kernel
theorem dX10_doesNow_45 : decode cX10_doesNow 45 = .ok (.iconst 0, 1) := by decide +kernel
theorem dX10_doesNow_46 : decode cX10_doesNow 46 = .ok (.iaload, 1) := by decide +kernel
theorem dX10_doesNow_47 : decode cX10_doesNow 47 = .ok (.aload_n 0, 1) := by decide +kernel
theorem dX10_doesNow_48 : decode cX10_doesNow 48 = .ok (.getfield 46, 3) := by decide +kernel
theorem dX10_doesNow_51 : decode cX10_doesNow 51 = .ok (.iconst 1, 1) := by decide +kernel
theorem dX10_doesNow_52 : decode cX10_doesNow 52 = .ok (.iaload, 1) := by decide +kernel
theorem dX10_doesNow_53 : decode cX10_doesNow 53 = .ok (.aload_n 0, 1) := by decide +kernel
theorem dX10_doesNow_54 : decode cX10_doesNow 54 = .ok (.getfield 46, 3) := by decide +kernel
theorem dX10_doesNow_57 : decode cX10_doesNow 57 = .ok (.iconst 2, 1) := by decide +kernel
theorem dX10_doesNow_58 : decode cX10_doesNow 58 = .ok (.iaload, 1) := by decide +kernel
theorem dX10_doesNow_59 : decode cX10_doesNow 59 = .ok (.aload_n 0, 1) := by decide +kernel
theorem dX10_doesNow_60 : decode cX10_doesNow 60 = .ok (.getfield 46, 3) := by decide +kernel
theorem dX10_doesNow_63 : decode cX10_doesNow 63 = .ok (.iconst 3, 1) := by decide +kernel
theorem dX10_doesNow_64 : decode cX10_doesNow 64 = .ok (.iaload, 1) := by decide +kernel
theorem dX10_doesNow_65 : decode cX10_doesNow 65 = .ok (.invokevirtual 122, 3) := by decide +kernel
theorem dX10_doesNow_68 : decode cX10_doesNow 68 = .ok (.ireturn, 1) := by decide +kernel
theorem dX10_doesNow_69 : decode cX10_doesNow 69 = .ok (.aload_n 0, 1) := by decide +kernel
theorem dX10_doesNow_70 : decode cX10_doesNow 70 = .ok (.aload_n 0, 1) := by decide +kernel
theorem dX10_doesNow_71 : decode cX10_doesNow 71 = .ok (.getfield 46, 3) := by decide +kernel
theorem dX10_doesNow_74 : decode cX10_doesNow 74 = .ok (.iconst 0, 1) := by decide +kernel
theorem dX10_doesNow_75 : decode cX10_doesNow 75 = .ok (.iaload, 1) := by decide +kernel
theorem dX10_doesNow_76 : decode cX10_doesNow 76 = .ok (.aload_n 0, 1) := by decide +kernel
theorem dX10_doesNow_77 : decode cX10_doesNow 77 = .ok (.getfield 46, 3) := by decide +kernel
theorem dX10_doesNow_80 : decode cX10_doesNow 80 = .ok (.iconst 1, 1) := by decide +kernel
theorem dX10_doesNow_81 : decode cX10_doesNow 81 = .ok (.iaload, 1) := by decide +kernel
theorem dX10_doesNow_82 : decode cX10_doesNow 82 = .ok (.invokevirtual 170, 3) := by decide +kernel
theorem dX10_doesNow_85 : decode cX10_doesNow 85 = .ok (.ireturn, 1) := by decide +kernel
theorem dX10_doesNow_86 : decode cX10_doesNow 86 = .ok (.aload_n 0, 1) := by decide +kernel
theorem dX10_doesNow_87 : decode cX10_doesNow 87 = .ok (.aload_n 0, 1) := by decide +kernel
theorem dX10_doesNow_88 : decode cX10_doesNow 88 = .ok (.getfield 46, 3) := by decide +kernel
theorem dX10_doesNow_91 : decode cX10_doesNow 91 = .ok (.iconst 0, 1) := by decide +kernel
theorem dX10_doesNow_92 : decode cX10_doesNow 92 = .ok (.iaload, 1) := by decide +kernel
theorem dX10_doesNow_93 : decode cX10_doesNow 93 = .ok (.aload_n 0, 1) := by decide +kernel
theorem dX10_doesNow_94 : decode cX10_doesNow 94 = .ok (.aload_n 0, 1) := by decide +kernel
theorem dX10_doesNow_95 : decode cX10_doesNow 95 = .ok (.getfield 46, 3) := by decide +kernel
theorem dX10_doesNow_98 : decode cX10_doesNow 98 = .ok (.iconst 0, 1) := by decide +kernel
theorem dX10_doesNow_99 : decode cX10_doesNow 99 = .ok (.iaload, 1) := by decide +kernel
theorem dX10_doesNow_100 : decode cX10_doesNow 100 = .ok (.iconst 0, 1) := by decide +kernel
theorem dX10_doesNow_101 : decode cX10_doesNow 101 = .ok (.invokevirtual 85, 3) := by decide +kernel
theorem dX10_doesNow_104 : decode cX10_doesNow 104 = .ok (.invokevirtual 186, 3) := by decide +kernel
theorem dX10_doesNow_107 : decode cX10_doesNow 107 = .ok (.ireturn, 1) := by decide +kernel
theorem dX10_doesNow_108 : decode cX10_doesNow 108 = .ok (.aload_n 0, 1) := by decide +kernel
theorem dX10_doesNow_109 : decode cX10_doesNow 109 = .ok (.aload_n 0, 1) := by decide +kernel
theorem dX10_doesNow_110 : decode cX10_doesNow 110 = .ok (.getfield 46, 3) := by decide +kernel
theorem dX10_doesNow_113 : decode cX10_doesNow 113 = .ok (.iconst 0, 1) := by decide +kernel
theorem dX10_doesNow_114 : decode cX10_doesNow 114 = .ok (.iaload, 1) := by decide +kernel
theorem dX10_doesNow_115 : decode cX10_doesNow 115 = .ok (.invokevirtual 195, 3) := by decide +kernel
theorem dX10_doesNow_118 : decode cX10_doesNow 118 = .ok (.ireturn, 1) := by decide +kernel
theorem dX10_doesNow_119 : decode cX10_doesNow 119 = .ok (.aload_n 0, 1) := by decide +kernel
theorem dX10_doesNow_120 : decode cX10_doesNow 120 = .ok (.aload_n 0, 1) := by decide +kernel
theorem dX10_doesNow_121 : decode cX10_doesNow 121 = .ok (.getfield 46, 3) := by decide +kernel
theorem dX10_doesNow_124 : decode cX10_doesNow 124 = .ok (.iconst 0, 1) := by decide +kernel
theorem dX10_doesNow_125 : decode cX10_doesNow 125 = .ok (.iaload, 1) := by decide +kernel
theorem dX10_doesNow_126 : decode cX10_doesNow 126 = .ok (.invokevirtual 201, 3) := by decide +kernel
theorem dX10_doesNow_129 : decode cX10_doesNow 129 = .ok (.ireturn, 1) := by decide +kernel
theorem dX10_doesNow_130 : decode cX10_doesNow 130 = .ok (.aload_n 0, 1) := by decide +kernel
theorem dX10_doesNow_131 : decode cX10_doesNow 131 = .ok (.aload_n 0, 1) := by decide +kernel
theorem dX10_doesNow_132 : decode cX10_doesNow 132 = .ok (.getfield 46, 3) := by decide +kernel
theorem dX10_doesNow_135 : decode cX10_doesNow 135 = .ok (.iconst 0, 1) := by decide +kernel
theorem dX10_doesNow_136 : decode cX10_doesNow 136 = .ok (.iaload, 1) := by decide +kernel
theorem dX10_doesNow_137 : decode cX10_doesNow 137 = .ok (.invokevirtual 221, 3) := by decide +kernel
theorem dX10_doesNow_140 : decode cX10_doesNow 140 = .ok (.ireturn, 1) := by decide +kernel
theorem dX10_doesAll_0 : decode cX10_doesAll 0 = .ok (.aload_n 0, 1) := by decide +kernel
theorem dX10_doesAll_1 : decode cX10_doesAll 1 = .ok (.iconst 0, 1) := by decide +kernel
theorem dX10_doesAll_2 : decode cX10_doesAll 2 = .ok (.putfield 256, 3) := by decide +kernel
theorem dX10_doesAll_5 : decode cX10_doesAll 5 = .ok (.aload_n 0, 1) := by decide +kernel
theorem dX10_doesAll_6 : decode cX10_doesAll 6 = .ok (.iconst 0, 1) := by decide +kernel
theorem dX10_doesAll_7 : decode cX10_doesAll 7 = .ok (.putfield 259, 3) := by decide +kernel
theorem dX10_doesAll_10 : decode cX10_doesAll 10 = .ok (.aload_n 0, 1) := by decide +kernel
theorem dX10_doesAll_11 : decode cX10_doesAll 11 = .ok (.iconst 0, 1) := by decide +kernel
theorem dX10_doesAll_12 : decode cX10_doesAll 12 = .ok (.putfield 231, 3) := by decide +kernel
theorem dX10_doesAll_15 : decode cX10_doesAll 15 = .ok (.iconst 1, 1) := by decide +kernel
theorem dX10_doesAll_16 : decode cX10_doesAll 16 = .ok (.istore_n 1, 1) := by decide +kernel
theorem dX10_doesAll_17 : decode cX10_doesAll 17 = .ok (.iload_n 1, 1) := by decide +kernel
theorem dX10_doesAll_18 : decode cX10_doesAll 18 = .ok (.ifCond .eq 49, 3) := by decide +kernel
theorem dX10_doesAll_21 : decode cX10_doesAll 21 = .ok (.aload_n 0, 1) := by decide +kernel
theorem dX10_doesAll_22 : decode cX10_doesAll 22 = .ok (.invokevirtual 253, 3) := by decide +kernel
theorem dX10_doesAll_25 : decode cX10_doesAll 25 = .ok (.pop, 1) := by decide +kernel
theorem dX10_doesAll_26 : decode cX10_doesAll 26 = .ok (.aload_n 0, 1) := by decide +kernel
theorem dX10_doesAll_27 : decode cX10_doesAll 27 = .ok (.aload_n 0, 1) := by decide +kernel
theorem dX10_doesAll_28 : decode cX10_doesAll 28 = .ok (.invokevirtual 262, 3) := by decide +kernel
theorem dX10_doesAll_31 : decode cX10_doesAll 31 = .ok (.putfield 259, 3) := by decide +kernel
theorem dX10_doesAll_34 : decode cX10_doesAll 34 = .ok (.aload_n 0, 1) := by decide +kernel
theorem dX10_doesAll_35 : decode cX10_doesAll 35 = .ok (.getfield 259, 3) := by decide +kernel
theorem dX10_doesAll_38 : decode cX10_doesAll 38 = .ok (.ifCond .eq 4, 3) := by decide +kernel
theorem dX10_doesAll_41 : decode cX10_doesAll 41 = .ok (.return_, 1) := by decide +kernel
theorem dX10_doesAll_42 : decode cX10_doesAll 42 = .ok (.aload_n 0, 1) := by decide +kernel
theorem dX10_doesAll_43 : decode cX10_doesAll 43 = .ok (.invokevirtual 265, 3) := by decide +kernel
theorem dX10_doesAll_46 : decode cX10_doesAll 46 = .ok (.pop, 1) := by decide +kernel
theorem dX10_doesAll_47 : decode cX10_doesAll 47 = .ok (.aload_n 0, 1) := by decide +kernel
theorem dX10_doesAll_48 : decode cX10_doesAll 48 = .ok (.dup, 1) := by decide +kernel
theorem dX10_doesAll_49 : decode cX10_doesAll 49 = .ok (.getfield 256, 3) := by decide +kernel
theorem dX10_doesAll_52 : decode cX10_doesAll 52 = .ok (.iconst 1, 1) := by decide +kernel
theorem dX10_doesAll_53 : decode cX10_doesAll 53 = .ok (.iadd, 1) := by decide +kernel
theorem dX10_doesAll_54 : decode cX10_doesAll 54 = .ok (.putfield 256, 3) := by decide +kernel
theorem dX10_doesAll_57 : decode cX10_doesAll 57 = .ok (.aload_n 0, 1) := by decide +kernel
theorem dX10_doesAll_58 : decode cX10_doesAll 58 = .ok (.bipush 59, 2) := by decide +kernel
theorem dX10_doesAll_60 : decode cX10_doesAll 60 = .ok (.invokevirtual 240, 3) := by decide +kernel
theorem dX10_doesAll_63 : decode cX10_doesAll 63 = .ok (.istore_n 1, 1) := by decide +kernel
theorem dX10_doesAll_64 : decode cX10_doesAll 64 = .ok (.goto (-47), 3) := by decide +kernel
theorem dX10_doesAll_67 : decode cX10_doesAll 67 = .ok (.return_, 1) := by decide +kernel
theorem dX10_run_0 : decode cX10_run 0 = .ok (.aload_n 0, 1) := by decide +kernel
theorem dX10_run_1 : decode cX10_run 1 = .ok (.iconst 0, 1) := by decide +kernel
theorem dX10_run_2 : decode cX10_run 2 = .ok (.putfield 50, 3) := by decide +kernel
theorem dX10_run_5 : decode cX10_run 5 = .ok (.aload_n 0, 1) := by decide +kernel
theorem dX10_run_6 : decode cX10_run 6 = .ok (.invokevirtual 268, 3) := by decide +kernel
theorem dX10_run_9 : decode cX10_run 9 = .ok (.istore_n 1, 1) := by decide +kernel
theorem dX10_run_10 : decode cX10_run 10 = .ok (.aload_n 0, 1) := by decide +kernel
theorem dX10_run_11 : decode cX10_run 11 = .ok (.iload_n 1, 1) := by decide +kernel
theorem dX10_run_12 : decode cX10_run 12 = .ok (.ifCond .eq 7, 3) := by decide +kernel
theorem dX10_run_15 : decode cX10_run 15 = .ok (.iconst (-1), 1) := by decide +kernel
theorem dX10_run_16 : decode cX10_run 16 = .ok (.goto 7, 3) := by decide +kernel
theorem dX10_run_19 : decode cX10_run 19 = .ok (.aload_n 0, 1) := by decide +kernel
theorem dX10_run_20 : decode cX10_run 20 = .ok (.getfield 231, 3) := by decide +kernel
theorem dX10_run_23 : decode cX10_run 23 = .ok (.putfield 42, 3) := by decide +kernel
theorem dX10_run_26 : decode cX10_run 26 = .ok (.iload_n 1, 1) := by decide +kernel
theorem dX10_run_27 : decode cX10_run 27 = .ok (.ifCond .ne 14, 3) := by decide +kernel
theorem dX10_run_30 : decode cX10_run 30 = .ok (.aload_n 0, 1) := by decide +kernel
theorem dX10_run_31 : decode cX10_run 31 = .ok (.iconst 0, 1) := by decide +kernel
theorem dX10_run_32 : decode cX10_run 32 = .ok (.putfield 228, 3) := by decide +kernel
theorem dX10_run_35 : decode cX10_run 35 = .ok (.aload_n 0, 1) := by decide +kernel
theorem dX10_run_36 : decode cX10_run 36 = .ok (.iconst 1, 1) := by decide +kernel
theorem dX10_run_37 : decode cX10_run 37 = .ok (.invokevirtual 59, 3) := by decide +kernel
theorem dX10_run_40 : decode cX10_run 40 = .ok (.ireturn, 1) := by decide +kernel
theorem dX10_run_41 : decode cX10_run 41 = .ok (.aload_n 0, 1) := by decide +kernel
theorem dX10_run_42 : decode cX10_run 42 = .ok (.invokevirtual 75, 3) := by decide +kernel
theorem dX10_run_45 : decode cX10_run 45 = .ok (.aload_n 0, 1) := by decide +kernel
theorem dX10_run_46 : decode cX10_run 46 = .ok (.invokevirtual 271, 3) := by decide +kernel
theorem dX10_run_49 : decode cX10_run 49 = .ok (.aload_n 0, 1) := by decide +kernel
theorem dX10_run_50 : decode cX10_run 50 = .ok (.iconst 0, 1) := by decide +kernel
theorem dX10_run_51 : decode cX10_run 51 = .ok (.putfield 228, 3) := by decide +kernel
theorem dX10_run_54 : decode cX10_run 54 = .ok (.aload_n 0, 1) := by decide +kernel
theorem dX10_run_55 : decode cX10_run 55 = .ok (.getfield 259, 3) := by decide +kernel
theorem dX10_run_58 : decode cX10_run 58 = .ok (.ifCond .ne 12, 3) := by decide +kernel
theorem dX10_run_61 : decode cX10_run 61 = .ok (.aload_n 0, 1) := by decide +kernel
theorem dX10_run_62 : decode cX10_run 62 = .ok (.invokevirtual 78, 3) := by decide +kernel
theorem dX10_run_65 : decode cX10_run 65 = .ok (.aload_n 0, 1) := by decide +kernel
theorem dX10_run_66 : decode cX10_run 66 = .ok (.getfield 256, 3) := by decide +kernel
theorem dX10_run_69 : decode cX10_run 69 = .ok (.ireturn, 1) := by decide +kernel
theorem dX10_run_70 : decode cX10_run 70 = .ok (.aload_n 0, 1) := by decide +kernel
theorem dX10_run_71 : decode cX10_run 71 = .ok (.invokevirtual 215, 3) := by decide +kernel
theorem dX10_run_74 : decode cX10_run 74 = .ok (.aload_n 0, 1) := by decide +kernel
theorem dX10_run_75 : decode cX10_run 75 = .ok (.getfield 259, 3) := by decide +kernel
theorem dX10_run_78 : decode cX10_run 78 = .ok (.bipush 9, 2) := by decide +kernel
theorem dX10_run_80 : decode cX10_run 80 = .ok (.if_icmp .ne 13, 3) := by decide +kernel
theorem dX10_run_83 : decode cX10_run 83 = .ok (.aload_n 0, 1) := by decide +kernel
theorem dX10_run_84 : decode cX10_run 84 = .ok (.bipush 9, 2) := by decide +kernel
theorem dX10_run_86 : decode cX10_run 86 = .ok (.iconst 2, 1) := by decide +kernel
theorem dX10_run_87 : decode cX10_run 87 = .ok (.invokevirtual 92, 3) := by decide +kernel
theorem dX10_run_90 : decode cX10_run 90 = .ok (.goto 8, 3) := by decide +kernel
theorem dX10_run_93 : decode cX10_run 93 = .ok (.aload_n 0, 1) := by decide +kernel
theorem dX10_run_94 : decode cX10_run 94 = .ok (.iconst 1, 1) := by decide +kernel
theorem dX10_run_95 : decode cX10_run 95 = .ok (.invokevirtual 59, 3) := by decide +kernel
theorem dX10_run_98 : decode cX10_run 98 = .ok (.ireturn, 1) := by decide +kernel
theorem dX10_errorPosition_0 : decode cX10_errorPosition 0 = .ok (.aload_n 0, 1) := by decide +kernel
theorem dX10_errorPosition_1 : decode cX10_errorPosition 1 = .ok (.iconst 0, 1) := by decide +kernel
theorem dX10_errorPosition_2 : decode cX10_errorPosition 2 = .ok (.putfield 50, 3) := by decide +kernel
theorem dX10_errorPosition_5 : decode cX10_errorPosition 5 = .ok (.aload_n 0, 1) := by decide +kernel
theorem dX10_errorPosition_6 : decode cX10_errorPosition 6 = .ok (.getfield 42, 3) := by decide +kernel
theorem dX10_errorPosition_9 : decode cX10_errorPosition 9 = .ok (.ireturn, 1) := by decide +kernel
theorem dX10_refusal_0 : decode cX10_refusal 0 = .ok (.aload_n 0, 1) := by decide +kernel
theorem dX10_refusal_1 : decode cX10_refusal 1 = .ok (.iconst 0, 1) := by decide +kernel
theorem dX10_refusal_2 : decode cX10_refusal 2 = .ok (.putfield 50, 3) := by decide +kernel
theorem dX10_refusal_5 : decode cX10_refusal 5 = .ok (.aload_n 0, 1) := by decide +kernel
theorem dX10_refusal_6 : decode cX10_refusal 6 = .ok (.getfield 63, 3) := by decide +kernel
theorem dX10_refusal_9 : decode cX10_refusal 9 = .ok (.ifCond .ne 9, 3) := by decide +kernel
theorem dX10_refusal_12 : decode cX10_refusal 12 = .ok (.aload_n 0, 1) := by decide +kernel
theorem dX10_refusal_13 : decode cX10_refusal 13 = .ok (.iconst 1, 1) := by decide +kernel
theorem dX10_refusal_14 : decode cX10_refusal 14 = .ok (.invokevirtual 59, 3) := by decide +kernel
theorem dX10_refusal_17 : decode cX10_refusal 17 = .ok (.ireturn, 1) := by decide +kernel
theorem dX10_refusal_18 : decode cX10_refusal 18 = .ok (.iload_n 1, 1) := by decide +kernel
theorem dX10_refusal_19 : decode cX10_refusal 19 = .ok (.ifCond .eq 10, 3) := by decide +kernel
theorem dX10_refusal_22 : decode cX10_refusal 22 = .ok (.aload_n 0, 1) := by decide +kernel
theorem dX10_refusal_23 : decode cX10_refusal 23 = .ok (.getfield 66, 3) := by decide +kernel
theorem dX10_refusal_26 : decode cX10_refusal 26 = .ok (.goto 7, 3) := by decide +kernel
theorem dX10_refusal_29 : decode cX10_refusal 29 = .ok (.aload_n 0, 1) := by decide +kernel
theorem dX10_refusal_30 : decode cX10_refusal 30 = .ok (.getfield 63, 3) := by decide +kernel
theorem dX10_refusal_33 : decode cX10_refusal 33 = .ok (.ireturn, 1) := by decide +kernel
theorem dX10_letters_0 : decode cX10_letters 0 = .ok (.iconst 0, 1) := by decide +kernel
theorem dX10_letters_1 : decode cX10_letters 1 = .ok (.istore_n 1, 1) := by decide +kernel
theorem dX10_letters_2 : decode cX10_letters 2 = .ok (.iconst 0, 1) := by decide +kernel
theorem dX10_letters_3 : decode cX10_letters 3 = .ok (.istore_n 2, 1) := by decide +kernel
theorem dX10_letters_4 : decode cX10_letters 4 = .ok (.iload_n 2, 1) := by decide +kernel
theorem dX10_letters_5 : decode cX10_letters 5 = .ok (.aload_n 0, 1) := by decide +kernel
theorem dX10_letters_6 : decode cX10_letters 6 = .ok (.getfield 7, 3) := by decide +kernel
theorem dX10_letters_9 : decode cX10_letters 9 = .ok (.iconst 2, 1) := by decide +kernel
theorem dX10_letters_10 : decode cX10_letters 10 = .ok (.iaload, 1) := by decide +kernel
theorem dX10_letters_11 : decode cX10_letters 11 = .ok (.if_icmp .ge 25, 3) := by decide +kernel
theorem dX10_letters_14 : decode cX10_letters 14 = .ok (.iload_n 1, 1) := by decide +kernel
theorem dX10_letters_15 : decode cX10_letters 15 = .ok (.aload_n 0, 1) := by decide +kernel
theorem dX10_letters_16 : decode cX10_letters 16 = .ok (.iload_n 2, 1) := by decide +kernel
theorem dX10_letters_17 : decode cX10_letters 17 = .ok (.invokevirtual 139, 3) := by decide +kernel
theorem dX10_letters_20 : decode cX10_letters 20 = .ok (.ifCond .eq 7, 3) := by decide +kernel
theorem dX10_letters_23 : decode cX10_letters 23 = .ok (.iconst 1, 1) := by decide +kernel
theorem dX10_letters_24 : decode cX10_letters 24 = .ok (.goto 4, 3) := by decide +kernel
theorem dX10_letters_27 : decode cX10_letters 27 = .ok (.iconst 0, 1) := by decide +kernel
theorem dX10_letters_28 : decode cX10_letters 28 = .ok (.iadd, 1) := by decide +kernel
theorem dX10_letters_29 : decode cX10_letters 29 = .ok (.istore_n 1, 1) := by decide +kernel
theorem dX10_letters_30 : decode cX10_letters 30 = .ok (.iinc 2 1, 3) := by decide +kernel
theorem dX10_letters_33 : decode cX10_letters 33 = .ok (.goto (-29), 3) := by decide +kernel
theorem dX10_letters_36 : decode cX10_letters 36 = .ok (.iload_n 1, 1) := by decide +kernel
theorem dX10_letters_37 : decode cX10_letters 37 = .ok (.ireturn, 1) := by decide +kernel
theorem dX10_itemsIn_0 : decode cX10_itemsIn 0 = .ok (.iconst 0, 1) := by decide +kernel
theorem dX10_itemsIn_1 : decode cX10_itemsIn 1 = .ok (.istore_n 2, 1) := by decide +kernel
theorem dX10_itemsIn_2 : decode cX10_itemsIn 2 = .ok (.iconst 0, 1) := by decide +kernel
theorem dX10_itemsIn_3 : decode cX10_itemsIn 3 = .ok (.istore_n 3, 1) := by decide +kernel
theorem dX10_itemsIn_4 : decode cX10_itemsIn 4 = .ok (.iload_n 3, 1) := by decide +kernel
theorem dX10_itemsIn_5 : decode cX10_itemsIn 5 = .ok (.aload_n 0, 1) := by decide +kernel
theorem dX10_itemsIn_6 : decode cX10_itemsIn 6 = .ok (.getfield 7, 3) := by decide +kernel
theorem dX10_itemsIn_9 : decode cX10_itemsIn 9 = .ok (.iconst 2, 1) := by decide +kernel
theorem dX10_itemsIn_10 : decode cX10_itemsIn 10 = .ok (.iaload, 1) := by decide +kernel
theorem dX10_itemsIn_11 : decode cX10_itemsIn 11 = .ok (.if_icmp .ge 27, 3) := by decide +kernel
theorem dX10_itemsIn_14 : decode cX10_itemsIn 14 = .ok (.iload_n 2, 1) := by decide +kernel
theorem dX10_itemsIn_15 : decode cX10_itemsIn 15 = .ok (.aload_n 0, 1) := by decide +kernel
theorem dX10_itemsIn_16 : decode cX10_itemsIn 16 = .ok (.iload_n 3, 1) := by decide +kernel
theorem dX10_itemsIn_17 : decode cX10_itemsIn 17 = .ok (.iconst 4, 1) := by decide +kernel
theorem dX10_itemsIn_18 : decode cX10_itemsIn 18 = .ok (.invokevirtual 85, 3) := by decide +kernel
theorem dX10_itemsIn_21 : decode cX10_itemsIn 21 = .ok (.iload_n 1, 1) := by decide +kernel
theorem dX10_itemsIn_22 : decode cX10_itemsIn 22 = .ok (.if_icmp .ne 7, 3) := by decide +kernel
theorem dX10_itemsIn_25 : decode cX10_itemsIn 25 = .ok (.iconst 1, 1) := by decide +kernel
theorem dX10_itemsIn_26 : decode cX10_itemsIn 26 = .ok (.goto 4, 3) := by decide +kernel
theorem dX10_itemsIn_29 : decode cX10_itemsIn 29 = .ok (.iconst 0, 1) := by decide +kernel
theorem dX10_itemsIn_30 : decode cX10_itemsIn 30 = .ok (.iadd, 1) := by decide +kernel
theorem dX10_itemsIn_31 : decode cX10_itemsIn 31 = .ok (.istore_n 2, 1) := by decide +kernel
theorem dX10_itemsIn_32 : decode cX10_itemsIn 32 = .ok (.iinc 3 1, 3) := by decide +kernel
theorem dX10_itemsIn_35 : decode cX10_itemsIn 35 = .ok (.goto (-31), 3) := by decide +kernel
theorem dX10_itemsIn_38 : decode cX10_itemsIn 38 = .ok (.iload_n 2, 1) := by decide +kernel
theorem dX10_itemsIn_39 : decode cX10_itemsIn 39 = .ok (.ireturn, 1) := by decide +kernel
theorem dX10_allWords_0 : decode cX10_allWords 0 = .ok (.iconst 0, 1) := by decide +kernel
theorem dX10_allWords_1 : decode cX10_allWords 1 = .ok (.istore_n 1, 1) := by decide +kernel
theorem dX10_allWords_2 : decode cX10_allWords 2 = .ok (.iconst 0, 1) := by decide +kernel
theorem dX10_allWords_3 : decode cX10_allWords 3 = .ok (.istore_n 2, 1) := by decide +kernel
theorem dX10_allWords_4 : decode cX10_allWords 4 = .ok (.iload_n 2, 1) := by decide +kernel
theorem dX10_allWords_5 : decode cX10_allWords 5 = .ok (.aload_n 0, 1) := by decide +kernel
theorem dX10_allWords_6 : decode cX10_allWords 6 = .ok (.getfield 7, 3) := by decide +kernel
theorem dX10_allWords_9 : decode cX10_allWords 9 = .ok (.iconst 2, 1) := by decide +kernel
theorem dX10_allWords_10 : decode cX10_allWords 10 = .ok (.iaload, 1) := by decide +kernel
theorem dX10_allWords_11 : decode cX10_allWords 11 = .ok (.if_icmp .ge 30, 3) := by decide +kernel
theorem dX10_allWords_14 : decode cX10_allWords 14 = .ok (.iload_n 1, 1) := by decide +kernel
theorem dX10_allWords_15 : decode cX10_allWords 15 = .ok (.aload_n 0, 1) := by decide +kernel
theorem dX10_allWords_16 : decode cX10_allWords 16 = .ok (.iload_n 2, 1) := by decide +kernel
theorem dX10_allWords_17 : decode cX10_allWords 17 = .ok (.invokevirtual 139, 3) := by decide +kernel
theorem dX10_allWords_20 : decode cX10_allWords 20 = .ok (.ifCond .eq 12, 3) := by decide +kernel
theorem dX10_allWords_23 : decode cX10_allWords 23 = .ok (.aload_n 0, 1) := by decide +kernel
theorem dX10_allWords_24 : decode cX10_allWords 24 = .ok (.iload_n 2, 1) := by decide +kernel
theorem dX10_allWords_25 : decode cX10_allWords 25 = .ok (.iconst 3, 1) := by decide +kernel
theorem dX10_allWords_26 : decode cX10_allWords 26 = .ok (.invokevirtual 85, 3) := by decide +kernel
theorem dX10_allWords_29 : decode cX10_allWords 29 = .ok (.goto 4, 3) := by decide +kernel
theorem dX10_allWords_32 : decode cX10_allWords 32 = .ok (.iconst 0, 1) := by decide +kernel
theorem dX10_allWords_33 : decode cX10_allWords 33 = .ok (.iadd, 1) := by decide +kernel
theorem dX10_allWords_34 : decode cX10_allWords 34 = .ok (.istore_n 1, 1) := by decide +kernel
theorem dX10_allWords_35 : decode cX10_allWords 35 = .ok (.iinc 2 1, 3) := by decide +kernel
theorem dX10_allWords_38 : decode cX10_allWords 38 = .ok (.goto (-34), 3) := by decide +kernel
theorem dX10_allWords_41 : decode cX10_allWords 41 = .ok (.iload_n 1, 1) := by decide +kernel
theorem dX10_allWords_42 : decode cX10_allWords 42 = .ok (.ireturn, 1) := by decide +kernel
theorem dX10_account_0 : decode cX10_account 0 = .ok (.aload_n 0, 1) := by decide +kernel
theorem dX10_account_1 : decode cX10_account 1 = .ok (.iconst 0, 1) := by decide +kernel
theorem dX10_account_2 : decode cX10_account 2 = .ok (.putfield 50, 3) := by decide +kernel
theorem dX10_account_5 : decode cX10_account 5 = .ok (.iload_n 1, 1) := by decide +kernel
theorem dX10_account_6 : decode cX10_account 6 = .ok (.tableswitch 130 0 14 #[74, 74, 74, 81, 86, 93, 93, 93, 93, 93, 101, 108, 115, 120, 125], 74) := by decide +kernel
theorem dX10_account_80 : decode cX10_account 80 = .ok (.aload_n 0, 1) := by decide +kernel
theorem dX10_account_81 : decode cX10_account 81 = .ok (.getfield 7, 3) := by decide +kernel
theorem dX10_account_84 : decode cX10_account 84 = .ok (.iload_n 1, 1) := by decide +kernel
theorem dX10_account_85 : decode cX10_account 85 = .ok (.iaload, 1) := by decide +kernel
theorem dX10_account_86 : decode cX10_account 86 = .ok (.ireturn, 1) := by decide +kernel
theorem dX10_account_87 : decode cX10_account 87 = .ok (.aload_n 0, 1) := by decide +kernel
theorem dX10_account_88 : decode cX10_account 88 = .ok (.invokevirtual 274, 3) := by decide +kernel
theorem dX10_account_91 : decode cX10_account 91 = .ok (.ireturn, 1) := by decide +kernel
theorem dX10_account_92 : decode cX10_account 92 = .ok (.aload_n 0, 1) := by decide +kernel
theorem dX10_account_93 : decode cX10_account 93 = .ok (.getfield 7, 3) := by decide +kernel
theorem dX10_account_96 : decode cX10_account 96 = .ok (.iconst 3, 1) := by decide +kernel
theorem dX10_account_97 : decode cX10_account 97 = .ok (.iaload, 1) := by decide +kernel
theorem dX10_account_98 : decode cX10_account 98 = .ok (.ireturn, 1) := by decide +kernel
theorem dX10_account_99 : decode cX10_account 99 = .ok (.aload_n 0, 1) := by decide +kernel
theorem dX10_account_100 : decode cX10_account 100 = .ok (.iload_n 1, 1) := by decide +kernel
theorem dX10_account_101 : decode cX10_account 101 = .ok (.iconst 5, 1) := by decide +kernel
theorem dX10_account_102 : decode cX10_account 102 = .ok (.isub, 1) := by decide +kernel
theorem dX10_account_103 : decode cX10_account 103 = .ok (.invokevirtual 277, 3) := by decide +kernel
theorem dX10_account_106 : decode cX10_account 106 = .ok (.ireturn, 1) := by decide +kernel
theorem dX10_account_107 : decode cX10_account 107 = .ok (.aload_n 0, 1) := by decide +kernel
theorem dX10_account_108 : decode cX10_account 108 = .ok (.getfield 7, 3) := by decide +kernel
theorem dX10_account_111 : decode cX10_account 111 = .ok (.iconst 4, 1) := by decide +kernel
theorem dX10_account_112 : decode cX10_account 112 = .ok (.iaload, 1) := by decide +kernel
theorem dX10_account_113 : decode cX10_account 113 = .ok (.ireturn, 1) := by decide +kernel
theorem dX10_account_114 : decode cX10_account 114 = .ok (.aload_n 0, 1) := by decide +kernel
theorem dX10_account_115 : decode cX10_account 115 = .ok (.getfield 7, 3) := by decide +kernel
theorem dX10_account_118 : decode cX10_account 118 = .ok (.iconst 5, 1) := by decide +kernel
theorem dX10_account_119 : decode cX10_account 119 = .ok (.iaload, 1) := by decide +kernel
theorem dX10_account_120 : decode cX10_account 120 = .ok (.ireturn, 1) := by decide +kernel
theorem dX10_account_121 : decode cX10_account 121 = .ok (.aload_n 0, 1) := by decide +kernel
theorem dX10_account_122 : decode cX10_account 122 = .ok (.invokevirtual 280, 3) := by decide +kernel
theorem dX10_account_125 : decode cX10_account 125 = .ok (.ireturn, 1) := by decide +kernel
theorem dX10_account_126 : decode cX10_account 126 = .ok (.aload_n 0, 1) := by decide +kernel
theorem dX10_account_127 : decode cX10_account 127 = .ok (.getfield 228, 3) := by decide +kernel
theorem dX10_account_130 : decode cX10_account 130 = .ok (.ireturn, 1) := by decide +kernel
theorem dX10_account_131 : decode cX10_account 131 = .ok (.aload_n 0, 1) := by decide +kernel
theorem dX10_account_132 : decode cX10_account 132 = .ok (.getfield 69, 3) := by decide +kernel
theorem dX10_account_135 : decode cX10_account 135 = .ok (.ireturn, 1) := by decide +kernel
theorem dX10_account_136 : decode cX10_account 136 = .ok (.aload_n 0, 1) := by decide +kernel
theorem dX10_account_137 : decode cX10_account 137 = .ok (.iconst 1, 1) := by decide +kernel
theorem dX10_account_138 : decode cX10_account 138 = .ok (.invokevirtual 59, 3) := by decide +kernel
theorem dX10_account_141 : decode cX10_account 141 = .ok (.ireturn, 1) := by decide +kernel
theorem dX10_isWell_0 : decode cX10_isWell 0 = .ok (.aload_n 0, 1) := by decide +kernel
theorem dX10_isWell_1 : decode cX10_isWell 1 = .ok (.iconst 0, 1) := by decide +kernel
theorem dX10_isWell_2 : decode cX10_isWell 2 = .ok (.putfield 50, 3) := by decide +kernel
theorem dX10_isWell_5 : decode cX10_isWell 5 = .ok (.iconst 1, 1) := by decide +kernel
theorem dX10_isWell_6 : decode cX10_isWell 6 = .ok (.istore_n 1, 1) := by decide +kernel
theorem dX10_isWell_7 : decode cX10_isWell 7 = .ok (.iconst 0, 1) := by decide +kernel
theorem dX10_isWell_8 : decode cX10_isWell 8 = .ok (.istore_n 2, 1) := by decide +kernel
theorem dX10_isWell_9 : decode cX10_isWell 9 = .ok (.iload_n 2, 1) := by decide +kernel
theorem dX10_isWell_10 : decode cX10_isWell 10 = .ok (.aload_n 0, 1) := by decide +kernel
theorem dX10_isWell_11 : decode cX10_isWell 11 = .ok (.getfield 7, 3) := by decide +kernel
theorem dX10_isWell_14 : decode cX10_isWell 14 = .ok (.iconst 2, 1) := by decide +kernel
theorem dX10_isWell_15 : decode cX10_isWell 15 = .ok (.iaload, 1) := by decide +kernel
theorem dX10_isWell_16 : decode cX10_isWell 16 = .ok (.if_icmp .ge 82, 3) := by decide +kernel
theorem dX10_isWell_19 : decode cX10_isWell 19 = .ok (.aload_n 0, 1) := by decide +kernel
theorem dX10_isWell_20 : decode cX10_isWell 20 = .ok (.iload_n 2, 1) := by decide +kernel
theorem dX10_isWell_21 : decode cX10_isWell 21 = .ok (.iconst 4, 1) := by decide +kernel
theorem dX10_isWell_22 : decode cX10_isWell 22 = .ok (.invokevirtual 85, 3) := by decide +kernel
theorem dX10_isWell_25 : decode cX10_isWell 25 = .ok (.istore_n 3, 1) := by decide +kernel
theorem dX10_isWell_26 : decode cX10_isWell 26 = .ok (.iload_n 3, 1) := by decide +kernel
theorem dX10_isWell_27 : decode cX10_isWell 27 = .ok (.iconst 2, 1) := by decide +kernel
theorem dX10_isWell_28 : decode cX10_isWell 28 = .ok (.if_icmp .ne 41, 3) := by decide +kernel
theorem dX10_isWell_31 : decode cX10_isWell 31 = .ok (.iload_n 1, 1) := by decide +kernel
theorem dX10_isWell_32 : decode cX10_isWell 32 = .ok (.ifCond .eq 35, 3) := by decide +kernel
theorem dX10_isWell_35 : decode cX10_isWell 35 = .ok (.aload_n 0, 1) := by decide +kernel
theorem dX10_isWell_36 : decode cX10_isWell 36 = .ok (.aload_n 0, 1) := by decide +kernel
theorem dX10_isWell_37 : decode cX10_isWell 37 = .ok (.iload_n 2, 1) := by decide +kernel
theorem dX10_isWell_38 : decode cX10_isWell 38 = .ok (.iconst 2, 1) := by decide +kernel
theorem dX10_isWell_39 : decode cX10_isWell 39 = .ok (.invokevirtual 85, 3) := by decide +kernel
theorem dX10_isWell_42 : decode cX10_isWell 42 = .ok (.aload_n 0, 1) := by decide +kernel
theorem dX10_isWell_43 : decode cX10_isWell 43 = .ok (.iload_n 2, 1) := by decide +kernel
theorem dX10_isWell_44 : decode cX10_isWell 44 = .ok (.iconst 0, 1) := by decide +kernel
theorem dX10_isWell_45 : decode cX10_isWell 45 = .ok (.invokevirtual 85, 3) := by decide +kernel
theorem dX10_isWell_48 : decode cX10_isWell 48 = .ok (.aload_n 0, 1) := by decide +kernel
theorem dX10_isWell_49 : decode cX10_isWell 49 = .ok (.iload_n 2, 1) := by decide +kernel
theorem dX10_isWell_50 : decode cX10_isWell 50 = .ok (.iconst 5, 1) := by decide +kernel
theorem dX10_isWell_51 : decode cX10_isWell 51 = .ok (.invokevirtual 85, 3) := by decide +kernel
theorem dX10_isWell_54 : decode cX10_isWell 54 = .ok (.iconst 1, 1) := by decide +kernel
theorem dX10_isWell_55 : decode cX10_isWell 55 = .ok (.isub, 1) := by decide +kernel
theorem dX10_isWell_56 : decode cX10_isWell 56 = .ok (.invokevirtual 176, 3) := by decide +kernel
theorem dX10_isWell_59 : decode cX10_isWell 59 = .ok (.iload_n 2, 1) := by decide +kernel
theorem dX10_isWell_60 : decode cX10_isWell 60 = .ok (.if_icmp .ne 7, 3) := by decide +kernel
theorem dX10_isWell_63 : decode cX10_isWell 63 = .ok (.iconst 1, 1) := by decide +kernel
theorem dX10_isWell_64 : decode cX10_isWell 64 = .ok (.goto 4, 3) := by decide +kernel
theorem dX10_isWell_67 : decode cX10_isWell 67 = .ok (.iconst 0, 1) := by decide +kernel
theorem dX10_isWell_68 : decode cX10_isWell 68 = .ok (.istore_n 1, 1) := by decide +kernel
theorem dX10_isWell_69 : decode cX10_isWell 69 = .ok (.iload_n 3, 1) := by decide +kernel
theorem dX10_isWell_70 : decode cX10_isWell 70 = .ok (.iconst 4, 1) := by decide +kernel
theorem dX10_isWell_71 : decode cX10_isWell 71 = .ok (.if_icmp .ne 21, 3) := by decide +kernel
theorem dX10_isWell_74 : decode cX10_isWell 74 = .ok (.iload_n 1, 1) := by decide +kernel
theorem dX10_isWell_75 : decode cX10_isWell 75 = .ok (.ifCond .eq 15, 3) := by decide +kernel
theorem dX10_isWell_78 : decode cX10_isWell 78 = .ok (.aload_n 0, 1) := by decide +kernel
theorem dX10_isWell_79 : decode cX10_isWell 79 = .ok (.iload_n 2, 1) := by decide +kernel
theorem dX10_isWell_80 : decode cX10_isWell 80 = .ok (.invokevirtual 139, 3) := by decide +kernel
theorem dX10_isWell_83 : decode cX10_isWell 83 = .ok (.ifCond .eq 7, 3) := by decide +kernel
theorem dX10_isWell_86 : decode cX10_isWell 86 = .ok (.iconst 1, 1) := by decide +kernel
theorem dX10_isWell_87 : decode cX10_isWell 87 = .ok (.goto 4, 3) := by decide +kernel
theorem dX10_isWell_90 : decode cX10_isWell 90 = .ok (.iconst 0, 1) := by decide +kernel
theorem dX10_isWell_91 : decode cX10_isWell 91 = .ok (.istore_n 1, 1) := by decide +kernel
theorem dX10_isWell_92 : decode cX10_isWell 92 = .ok (.iinc 2 1, 3) := by decide +kernel
theorem dX10_isWell_95 : decode cX10_isWell 95 = .ok (.goto (-86), 3) := by decide +kernel
theorem dX10_isWell_98 : decode cX10_isWell 98 = .ok (.iload_n 1, 1) := by decide +kernel
theorem dX10_isWell_99 : decode cX10_isWell 99 = .ok (.ireturn, 1) := by decide +kernel
theorem dX10_meanBits_0 : decode cX10_meanBits 0 = .ok (.aload_n 0, 1) := by decide +kernel
theorem dX10_meanBits_1 : decode cX10_meanBits 1 = .ok (.iconst 0, 1) := by decide +kernel
theorem dX10_meanBits_2 : decode cX10_meanBits 2 = .ok (.putfield 50, 3) := by decide +kernel
theorem dX10_meanBits_5 : decode cX10_meanBits 5 = .ok (.aload_n 0, 1) := by decide +kernel
theorem dX10_meanBits_6 : decode cX10_meanBits 6 = .ok (.invokevirtual 274, 3) := by decide +kernel
theorem dX10_meanBits_9 : decode cX10_meanBits 9 = .ok (.istore_n 1, 1) := by decide +kernel
theorem dX10_meanBits_10 : decode cX10_meanBits 10 = .ok (.iload_n 1, 1) := by decide +kernel
theorem dX10_meanBits_11 : decode cX10_meanBits 11 = .ok (.ifCond .ne 10, 3) := by decide +kernel
theorem dX10_meanBits_14 : decode cX10_meanBits 14 = .ok (.aload_n 0, 1) := by decide +kernel
theorem dX10_meanBits_15 : decode cX10_meanBits 15 = .ok (.iconst 1, 1) := by decide +kernel
theorem dX10_meanBits_16 : decode cX10_meanBits 16 = .ok (.invokevirtual 59, 3) := by decide +kernel
theorem dX10_meanBits_19 : decode cX10_meanBits 19 = .ok (.i2l, 1) := by decide +kernel
theorem dX10_meanBits_20 : decode cX10_meanBits 20 = .ok (.lreturn, 1) := by decide +kernel
theorem dX10_meanBits_21 : decode cX10_meanBits 21 = .ok (.dconst 0, 1) := by decide +kernel
theorem dX10_meanBits_22 : decode cX10_meanBits 22 = .ok (.dstore_n 2, 1) := by decide +kernel
theorem dX10_meanBits_23 : decode cX10_meanBits 23 = .ok (.iconst 0, 1) := by decide +kernel
theorem dX10_meanBits_24 : decode cX10_meanBits 24 = .ok (.istore 4, 2) := by decide +kernel
theorem dX10_meanBits_26 : decode cX10_meanBits 26 = .ok (.iload 4, 2) := by decide +kernel
theorem dX10_meanBits_28 : decode cX10_meanBits 28 = .ok (.aload_n 0, 1) := by decide +kernel
theorem dX10_meanBits_29 : decode cX10_meanBits 29 = .ok (.getfield 7, 3) := by decide +kernel
theorem dX10_meanBits_32 : decode cX10_meanBits 32 = .ok (.iconst 2, 1) := by decide +kernel
theorem dX10_meanBits_33 : decode cX10_meanBits 33 = .ok (.iaload, 1) := by decide +kernel
theorem dX10_meanBits_34 : decode cX10_meanBits 34 = .ok (.if_icmp .ge 32, 3) := by decide +kernel
theorem dX10_meanBits_37 : decode cX10_meanBits 37 = .ok (.aload_n 0, 1) := by decide +kernel
theorem dX10_meanBits_38 : decode cX10_meanBits 38 = .ok (.iload 4, 2) := by decide +kernel
theorem dX10_meanBits_40 : decode cX10_meanBits 40 = .ok (.invokevirtual 139, 3) := by decide +kernel
theorem dX10_meanBits_43 : decode cX10_meanBits 43 = .ok (.ifCond .eq 17, 3) := by decide +kernel
theorem dX10_meanBits_46 : decode cX10_meanBits 46 = .ok (.dload_n 2, 1) := by decide +kernel
theorem dX10_meanBits_47 : decode cX10_meanBits 47 = .ok (.aload_n 0, 1) := by decide +kernel
theorem dX10_meanBits_48 : decode cX10_meanBits 48 = .ok (.getfield 22, 3) := by decide +kernel
theorem dX10_meanBits_51 : decode cX10_meanBits 51 = .ok (.bipush 16, 2) := by decide +kernel
theorem dX10_meanBits_53 : decode cX10_meanBits 53 = .ok (.iload 4, 2) := by decide +kernel
theorem dX10_meanBits_55 : decode cX10_meanBits 55 = .ok (.iadd, 1) := by decide +kernel
theorem dX10_meanBits_56 : decode cX10_meanBits 56 = .ok (.faload, 1) := by decide +kernel
theorem dX10_meanBits_57 : decode cX10_meanBits 57 = .ok (.f2d, 1) := by decide +kernel
theorem dX10_meanBits_58 : decode cX10_meanBits 58 = .ok (.dadd, 1) := by decide +kernel
theorem dX10_meanBits_59 : decode cX10_meanBits 59 = .ok (.dstore_n 2, 1) := by decide +kernel
theorem dX10_meanBits_60 : decode cX10_meanBits 60 = .ok (.iinc 4 1, 3) := by decide +kernel
theorem dX10_meanBits_63 : decode cX10_meanBits 63 = .ok (.goto (-37), 3) := by decide +kernel
theorem dX10_meanBits_66 : decode cX10_meanBits 66 = .ok (.dload_n 2, 1) := by decide +kernel
theorem dX10_meanBits_67 : decode cX10_meanBits 67 = .ok (.iload_n 1, 1) := by decide +kernel
theorem dX10_meanBits_68 : decode cX10_meanBits 68 = .ok (.i2d, 1) := by decide +kernel
theorem dX10_meanBits_69 : decode cX10_meanBits 69 = .ok (.ddiv, 1) := by decide +kernel
theorem dX10_meanBits_70 : decode cX10_meanBits 70 = .ok (.invokestatic 283, 3) := by decide +kernel
theorem dX10_meanBits_73 : decode cX10_meanBits 73 = .ok (.lreturn, 1) := by decide +kernel
theorem dX10_undo_0 : decode cX10_undo 0 = .ok (.aload_n 0, 1) := by decide +kernel
theorem dX10_undo_1 : decode cX10_undo 1 = .ok (.iconst 0, 1) := by decide +kernel
theorem dX10_undo_2 : decode cX10_undo 2 = .ok (.putfield 50, 3) := by decide +kernel
theorem dX10_undo_5 : decode cX10_undo 5 = .ok (.aload_n 0, 1) := by decide +kernel
theorem dX10_undo_6 : decode cX10_undo 6 = .ok (.getfield 69, 3) := by decide +kernel
theorem dX10_undo_9 : decode cX10_undo 9 = .ok (.ifCond .ne 9, 3) := by decide +kernel
theorem dX10_undo_12 : decode cX10_undo 12 = .ok (.aload_n 0, 1) := by decide +kernel
theorem dX10_undo_13 : decode cX10_undo 13 = .ok (.iconst 1, 1) := by decide +kernel
theorem dX10_undo_14 : decode cX10_undo 14 = .ok (.invokevirtual 59, 3) := by decide +kernel
theorem dX10_undo_17 : decode cX10_undo 17 = .ok (.ireturn, 1) := by decide +kernel
theorem dX10_undo_18 : decode cX10_undo 18 = .ok (.aload_n 0, 1) := by decide +kernel
theorem dX10_undo_19 : decode cX10_undo 19 = .ok (.dup, 1) := by decide +kernel
theorem dX10_undo_20 : decode cX10_undo 20 = .ok (.getfield 69, 3) := by decide +kernel
theorem dX10_undo_23 : decode cX10_undo 23 = .ok (.iconst 1, 1) := by decide +kernel
theorem dX10_undo_24 : decode cX10_undo 24 = .ok (.isub, 1) := by decide +kernel
theorem dX10_undo_25 : decode cX10_undo 25 = .ok (.putfield 69, 3) := by decide +kernel
theorem dX10_undo_28 : decode cX10_undo 28 = .ok (.aload_n 0, 1) := by decide +kernel
theorem dX10_undo_29 : decode cX10_undo 29 = .ok (.getfield 72, 3) := by decide +kernel
theorem dX10_undo_32 : decode cX10_undo 32 = .ok (.aload_n 0, 1) := by decide +kernel
theorem dX10_undo_33 : decode cX10_undo 33 = .ok (.getfield 69, 3) := by decide +kernel
theorem dX10_undo_36 : decode cX10_undo 36 = .ok (.iadd, 1) := by decide +kernel
theorem dX10_undo_37 : decode cX10_undo 37 = .ok (.bipush 8, 2) := by decide +kernel
theorem dX10_undo_39 : decode cX10_undo 39 = .ok (.irem, 1) := by decide +kernel
theorem dX10_undo_40 : decode cX10_undo 40 = .ok (.istore_n 1, 1) := by decide +kernel
theorem dX10_undo_41 : decode cX10_undo 41 = .ok (.iconst 0, 1) := by decide +kernel
theorem dX10_undo_42 : decode cX10_undo 42 = .ok (.istore_n 2, 1) := by decide +kernel
theorem dX10_undo_43 : decode cX10_undo 43 = .ok (.iload_n 2, 1) := by decide +kernel
theorem dX10_undo_44 : decode cX10_undo 44 = .ok (.sipush 146, 3) := by decide +kernel
theorem dX10_undo_47 : decode cX10_undo 47 = .ok (.if_icmp .ge 27, 3) := by decide +kernel
theorem dX10_undo_50 : decode cX10_undo 50 = .ok (.aload_n 0, 1) := by decide +kernel
theorem dX10_undo_51 : decode cX10_undo 51 = .ok (.getfield 7, 3) := by decide +kernel
theorem dX10_undo_54 : decode cX10_undo 54 = .ok (.iload_n 2, 1) := by decide +kernel
theorem dX10_undo_55 : decode cX10_undo 55 = .ok (.aload_n 0, 1) := by decide +kernel
theorem dX10_undo_56 : decode cX10_undo 56 = .ok (.getfield 13, 3) := by decide +kernel
theorem dX10_undo_59 : decode cX10_undo 59 = .ok (.sipush 146, 3) := by decide +kernel
theorem dX10_undo_62 : decode cX10_undo 62 = .ok (.iload_n 1, 1) := by decide +kernel
theorem dX10_undo_63 : decode cX10_undo 63 = .ok (.imul, 1) := by decide +kernel
theorem dX10_undo_64 : decode cX10_undo 64 = .ok (.iload_n 2, 1) := by decide +kernel
theorem dX10_undo_65 : decode cX10_undo 65 = .ok (.iadd, 1) := by decide +kernel
theorem dX10_undo_66 : decode cX10_undo 66 = .ok (.iaload, 1) := by decide +kernel
theorem dX10_undo_67 : decode cX10_undo 67 = .ok (.iastore, 1) := by decide +kernel
theorem dX10_undo_68 : decode cX10_undo 68 = .ok (.iinc 2 1, 3) := by decide +kernel
theorem dX10_undo_71 : decode cX10_undo 71 = .ok (.goto (-28), 3) := by decide +kernel
theorem dX10_undo_74 : decode cX10_undo 74 = .ok (.iconst 0, 1) := by decide +kernel
theorem dX10_undo_75 : decode cX10_undo 75 = .ok (.istore_n 2, 1) := by decide +kernel
theorem dX10_undo_76 : decode cX10_undo 76 = .ok (.iload_n 2, 1) := by decide +kernel
theorem dX10_undo_77 : decode cX10_undo 77 = .ok (.bipush 36, 2) := by decide +kernel
theorem dX10_undo_79 : decode cX10_undo 79 = .ok (.if_icmp .ge 26, 3) := by decide +kernel
theorem dX10_undo_82 : decode cX10_undo 82 = .ok (.aload_n 0, 1) := by decide +kernel
theorem dX10_undo_83 : decode cX10_undo 83 = .ok (.getfield 22, 3) := by decide +kernel
theorem dX10_undo_86 : decode cX10_undo 86 = .ok (.iload_n 2, 1) := by decide +kernel
theorem dX10_undo_87 : decode cX10_undo 87 = .ok (.aload_n 0, 1) := by decide +kernel
theorem dX10_undo_88 : decode cX10_undo 88 = .ok (.getfield 26, 3) := by decide +kernel
theorem dX10_undo_91 : decode cX10_undo 91 = .ok (.bipush 36, 2) := by decide +kernel
theorem dX10_undo_93 : decode cX10_undo 93 = .ok (.iload_n 1, 1) := by decide +kernel
theorem dX10_undo_94 : decode cX10_undo 94 = .ok (.imul, 1) := by decide +kernel
theorem dX10_undo_95 : decode cX10_undo 95 = .ok (.iload_n 2, 1) := by decide +kernel
theorem dX10_undo_96 : decode cX10_undo 96 = .ok (.iadd, 1) := by decide +kernel
theorem dX10_undo_97 : decode cX10_undo 97 = .ok (.faload, 1) := by decide +kernel
theorem dX10_undo_98 : decode cX10_undo 98 = .ok (.fastore, 1) := by decide +kernel
theorem dX10_undo_99 : decode cX10_undo 99 = .ok (.iinc 2 1, 3) := by decide +kernel
theorem dX10_undo_102 : decode cX10_undo 102 = .ok (.goto (-26), 3) := by decide +kernel
theorem dX10_undo_105 : decode cX10_undo 105 = .ok (.aload_n 0, 1) := by decide +kernel
theorem dX10_undo_106 : decode cX10_undo 106 = .ok (.getfield 69, 3) := by decide +kernel
theorem dX10_undo_109 : decode cX10_undo 109 = .ok (.ireturn, 1) := by decide +kernel
theorem dX10_save_0 : decode cX10_save 0 = .ok (.aload_n 0, 1) := by decide +kernel
theorem dX10_save_1 : decode cX10_save 1 = .ok (.iconst 0, 1) := by decide +kernel
theorem dX10_save_2 : decode cX10_save 2 = .ok (.putfield 50, 3) := by decide +kernel
theorem dX10_save_5 : decode cX10_save 5 = .ok (.iconst 0, 1) := by decide +kernel
theorem dX10_save_6 : decode cX10_save 6 = .ok (.istore_n 1, 1) := by decide +kernel
theorem dX10_save_7 : decode cX10_save 7 = .ok (.iload_n 1, 1) := by decide +kernel
theorem dX10_save_8 : decode cX10_save 8 = .ok (.sipush 146, 3) := by decide +kernel
theorem dX10_save_11 : decode cX10_save 11 = .ok (.if_icmp .ge 21, 3) := by decide +kernel
theorem dX10_save_14 : decode cX10_save 14 = .ok (.aload_n 0, 1) := by decide +kernel
theorem dX10_save_15 : decode cX10_save 15 = .ok (.getfield 16, 3) := by decide +kernel
theorem dX10_save_18 : decode cX10_save 18 = .ok (.iload_n 1, 1) := by decide +kernel
theorem dX10_save_19 : decode cX10_save 19 = .ok (.aload_n 0, 1) := by decide +kernel
theorem dX10_save_20 : decode cX10_save 20 = .ok (.getfield 7, 3) := by decide +kernel
theorem dX10_save_23 : decode cX10_save 23 = .ok (.iload_n 1, 1) := by decide +kernel
theorem dX10_save_24 : decode cX10_save 24 = .ok (.iaload, 1) := by decide +kernel
theorem dX10_save_25 : decode cX10_save 25 = .ok (.iastore, 1) := by decide +kernel
theorem dX10_save_26 : decode cX10_save 26 = .ok (.iinc 1 1, 3) := by decide +kernel
theorem dX10_save_29 : decode cX10_save 29 = .ok (.goto (-22), 3) := by decide +kernel
theorem dX10_save_32 : decode cX10_save 32 = .ok (.iconst 0, 1) := by decide +kernel
theorem dX10_save_33 : decode cX10_save 33 = .ok (.istore_n 1, 1) := by decide +kernel
theorem dX10_save_34 : decode cX10_save 34 = .ok (.iload_n 1, 1) := by decide +kernel
theorem dX10_save_35 : decode cX10_save 35 = .ok (.bipush 36, 2) := by decide +kernel
theorem dX10_save_37 : decode cX10_save 37 = .ok (.if_icmp .ge 21, 3) := by decide +kernel
theorem dX10_save_40 : decode cX10_save 40 = .ok (.aload_n 0, 1) := by decide +kernel
theorem dX10_save_41 : decode cX10_save 41 = .ok (.getfield 29, 3) := by decide +kernel
theorem dX10_save_44 : decode cX10_save 44 = .ok (.iload_n 1, 1) := by decide +kernel
theorem dX10_save_45 : decode cX10_save 45 = .ok (.aload_n 0, 1) := by decide +kernel
theorem dX10_save_46 : decode cX10_save 46 = .ok (.getfield 22, 3) := by decide +kernel
theorem dX10_save_49 : decode cX10_save 49 = .ok (.iload_n 1, 1) := by decide +kernel
theorem dX10_save_50 : decode cX10_save 50 = .ok (.faload, 1) := by decide +kernel
theorem dX10_save_51 : decode cX10_save 51 = .ok (.fastore, 1) := by decide +kernel
theorem dX10_save_52 : decode cX10_save 52 = .ok (.iinc 1 1, 3) := by decide +kernel
theorem dX10_save_55 : decode cX10_save 55 = .ok (.goto (-21), 3) := by decide +kernel
theorem dX10_save_58 : decode cX10_save 58 = .ok (.aload_n 0, 1) := by decide +kernel
theorem dX10_save_59 : decode cX10_save 59 = .ok (.iconst 1, 1) := by decide +kernel
theorem dX10_save_60 : decode cX10_save 60 = .ok (.putfield 289, 3) := by decide +kernel
theorem dX10_save_63 : decode cX10_save 63 = .ok (.aload_n 0, 1) := by decide +kernel
theorem dX10_save_64 : decode cX10_save 64 = .ok (.getfield 7, 3) := by decide +kernel
theorem dX10_save_67 : decode cX10_save 67 = .ok (.iconst 2, 1) := by decide +kernel
theorem dX10_save_68 : decode cX10_save 68 = .ok (.iaload, 1) := by decide +kernel
theorem dX10_save_69 : decode cX10_save 69 = .ok (.ireturn, 1) := by decide +kernel
theorem dX10_restore_0 : decode cX10_restore 0 = .ok (.aload_n 0, 1) := by decide +kernel
theorem dX10_restore_1 : decode cX10_restore 1 = .ok (.iconst 0, 1) := by decide +kernel
theorem dX10_restore_2 : decode cX10_restore 2 = .ok (.putfield 50, 3) := by decide +kernel
theorem dX10_restore_5 : decode cX10_restore 5 = .ok (.aload_n 0, 1) := by decide +kernel
theorem dX10_restore_6 : decode cX10_restore 6 = .ok (.getfield 289, 3) := by decide +kernel
theorem dX10_restore_9 : decode cX10_restore 9 = .ok (.ifCond .ne 9, 3) := by decide +kernel
theorem dX10_restore_12 : decode cX10_restore 12 = .ok (.aload_n 0, 1) := by decide +kernel
theorem dX10_restore_13 : decode cX10_restore 13 = .ok (.iconst 1, 1) := by decide +kernel
theorem dX10_restore_14 : decode cX10_restore 14 = .ok (.invokevirtual 59, 3) := by decide +kernel
theorem dX10_restore_17 : decode cX10_restore 17 = .ok (.ireturn, 1) := by decide +kernel
theorem dX10_restore_18 : decode cX10_restore 18 = .ok (.iconst 0, 1) := by decide +kernel
theorem dX10_restore_19 : decode cX10_restore 19 = .ok (.istore_n 1, 1) := by decide +kernel
theorem dX10_restore_20 : decode cX10_restore 20 = .ok (.iload_n 1, 1) := by decide +kernel
theorem dX10_restore_21 : decode cX10_restore 21 = .ok (.sipush 146, 3) := by decide +kernel
theorem dX10_restore_24 : decode cX10_restore 24 = .ok (.if_icmp .ge 21, 3) := by decide +kernel
theorem dX10_restore_27 : decode cX10_restore 27 = .ok (.aload_n 0, 1) := by decide +kernel
theorem dX10_restore_28 : decode cX10_restore 28 = .ok (.getfield 7, 3) := by decide +kernel
theorem dX10_restore_31 : decode cX10_restore 31 = .ok (.iload_n 1, 1) := by decide +kernel
theorem dX10_restore_32 : decode cX10_restore 32 = .ok (.aload_n 0, 1) := by decide +kernel
theorem dX10_restore_33 : decode cX10_restore 33 = .ok (.getfield 16, 3) := by decide +kernel
theorem dX10_restore_36 : decode cX10_restore 36 = .ok (.iload_n 1, 1) := by decide +kernel
theorem dX10_restore_37 : decode cX10_restore 37 = .ok (.iaload, 1) := by decide +kernel
theorem dX10_restore_38 : decode cX10_restore 38 = .ok (.iastore, 1) := by decide +kernel
theorem dX10_restore_39 : decode cX10_restore 39 = .ok (.iinc 1 1, 3) := by decide +kernel
theorem dX10_restore_42 : decode cX10_restore 42 = .ok (.goto (-22), 3) := by decide +kernel
theorem dX10_restore_45 : decode cX10_restore 45 = .ok (.iconst 0, 1) := by decide +kernel
theorem dX10_restore_46 : decode cX10_restore 46 = .ok (.istore_n 1, 1) := by decide +kernel
theorem dX10_restore_47 : decode cX10_restore 47 = .ok (.iload_n 1, 1) := by decide +kernel
theorem dX10_restore_48 : decode cX10_restore 48 = .ok (.bipush 36, 2) := by decide +kernel
theorem dX10_restore_50 : decode cX10_restore 50 = .ok (.if_icmp .ge 21, 3) := by decide +kernel
theorem dX10_restore_53 : decode cX10_restore 53 = .ok (.aload_n 0, 1) := by decide +kernel
theorem dX10_restore_54 : decode cX10_restore 54 = .ok (.getfield 22, 3) := by decide +kernel
theorem dX10_restore_57 : decode cX10_restore 57 = .ok (.iload_n 1, 1) := by decide +kernel
theorem dX10_restore_58 : decode cX10_restore 58 = .ok (.aload_n 0, 1) := by decide +kernel
theorem dX10_restore_59 : decode cX10_restore 59 = .ok (.getfield 29, 3) := by decide +kernel
theorem dX10_restore_62 : decode cX10_restore 62 = .ok (.iload_n 1, 1) := by decide +kernel
theorem dX10_restore_63 : decode cX10_restore 63 = .ok (.faload, 1) := by decide +kernel
theorem dX10_restore_64 : decode cX10_restore 64 = .ok (.fastore, 1) := by decide +kernel
theorem dX10_restore_65 : decode cX10_restore 65 = .ok (.iinc 1 1, 3) := by decide +kernel
theorem dX10_restore_68 : decode cX10_restore 68 = .ok (.goto (-21), 3) := by decide +kernel
theorem dX10_restore_71 : decode cX10_restore 71 = .ok (.aload_n 0, 1) := by decide +kernel
theorem dX10_restore_72 : decode cX10_restore 72 = .ok (.iconst 0, 1) := by decide +kernel
theorem dX10_restore_73 : decode cX10_restore 73 = .ok (.putfield 69, 3) := by decide +kernel
theorem dX10_restore_76 : decode cX10_restore 76 = .ok (.aload_n 0, 1) := by decide +kernel
theorem dX10_restore_77 : decode cX10_restore 77 = .ok (.iconst 0, 1) := by decide +kernel
theorem dX10_restore_78 : decode cX10_restore 78 = .ok (.putfield 72, 3) := by decide +kernel
theorem dX10_restore_81 : decode cX10_restore 81 = .ok (.aload_n 0, 1) := by decide +kernel
theorem dX10_restore_82 : decode cX10_restore 82 = .ok (.getfield 7, 3) := by decide +kernel
theorem dX10_restore_85 : decode cX10_restore 85 = .ok (.iconst 2, 1) := by decide +kernel
theorem dX10_restore_86 : decode cX10_restore 86 = .ok (.iaload, 1) := by decide +kernel
theorem dX10_restore_87 : decode cX10_restore 87 = .ok (.ireturn, 1) := by decide +kernel
theorem dL_crayon_0 : decode cL_crayon 0 = .ok (.aload_n 2, 1) := by decide +kernel
theorem dL_crayon_1 : decode cL_crayon 1 = .ok (.iconst 0, 1) := by decide +kernel
theorem dL_crayon_2 : decode cL_crayon 2 = .ok (.aload_n 0, 1) := by decide +kernel
theorem dL_crayon_3 : decode cL_crayon 3 = .ok (.iload_n 1, 1) := by decide +kernel
theorem dL_crayon_4 : decode cL_crayon 4 = .ok (.invokevirtual 7, 3) := by decide +kernel
theorem dL_crayon_7 : decode cL_crayon 7 = .ok (.i2l, 1) := by decide +kernel
theorem dL_crayon_8 : decode cL_crayon 8 = .ok (.lastore, 1) := by decide +kernel
theorem dL_crayon_9 : decode cL_crayon 9 = .ok (.goto 9, 3) := by decide +kernel
theorem dL_crayon_12 : decode cL_crayon 12 = .ok (.astore_n 3, 1) := by decide +kernel
theorem dL_crayon_13 : decode cL_crayon 13 = .ok (.iconst 1, 1) := by decide +kernel
theorem dL_crayon_14 : decode cL_crayon 14 = .ok (.ireturn, 1) := by decide +kernel
theorem dL_crayon_15 : decode cL_crayon 15 = .ok (.astore_n 3, 1) := by decide +kernel
theorem dL_crayon_16 : decode cL_crayon 16 = .ok (.iconst 2, 1) := by decide +kernel
theorem dL_crayon_17 : decode cL_crayon 17 = .ok (.ireturn, 1) := by decide +kernel
theorem dL_crayon_18 : decode cL_crayon 18 = .ok (.iconst 0, 1) := by decide +kernel
theorem dL_crayon_19 : decode cL_crayon 19 = .ok (.ireturn, 1) := by decide +kernel
theorem dL_crayonOf_0 : decode cL_crayonOf 0 = .ok (.aload_n 2, 1) := by decide +kernel
theorem dL_crayonOf_1 : decode cL_crayonOf 1 = .ok (.iconst 0, 1) := by decide +kernel
theorem dL_crayonOf_2 : decode cL_crayonOf 2 = .ok (.aload_n 0, 1) := by decide +kernel
theorem dL_crayonOf_3 : decode cL_crayonOf 3 = .ok (.iload_n 1, 1) := by decide +kernel
theorem dL_crayonOf_4 : decode cL_crayonOf 4 = .ok (.invokevirtual 17, 3) := by decide +kernel
theorem dL_crayonOf_7 : decode cL_crayonOf 7 = .ok (.f2d, 1) := by decide +kernel
theorem dL_crayonOf_8 : decode cL_crayonOf 8 = .ok (.dastore, 1) := by decide +kernel
theorem dL_crayonOf_9 : decode cL_crayonOf 9 = .ok (.goto 6, 3) := by decide +kernel
theorem dL_crayonOf_12 : decode cL_crayonOf 12 = .ok (.astore_n 3, 1) := by decide +kernel
theorem dL_crayonOf_13 : decode cL_crayonOf 13 = .ok (.iconst 1, 1) := by decide +kernel
theorem dL_crayonOf_14 : decode cL_crayonOf 14 = .ok (.ireturn, 1) := by decide +kernel
theorem dL_crayonOf_15 : decode cL_crayonOf 15 = .ok (.iconst 0, 1) := by decide +kernel
theorem dL_crayonOf_16 : decode cL_crayonOf 16 = .ok (.ireturn, 1) := by decide +kernel
theorem dL_letter_0 : decode cL_letter 0 = .ok (.aload 5, 2) := by decide +kernel
theorem dL_letter_2 : decode cL_letter 2 = .ok (.iconst 0, 1) := by decide +kernel
theorem dL_letter_3 : decode cL_letter 3 = .ok (.aload_n 0, 1) := by decide +kernel
theorem dL_letter_4 : decode cL_letter 4 = .ok (.iload_n 1, 1) := by decide +kernel
theorem dL_letter_5 : decode cL_letter 5 = .ok (.iload_n 2, 1) := by decide +kernel
theorem dL_letter_6 : decode cL_letter 6 = .ok (.iload_n 3, 1) := by decide +kernel
theorem dL_letter_7 : decode cL_letter 7 = .ok (.iload 4, 2) := by decide +kernel
theorem dL_letter_9 : decode cL_letter 9 = .ok (.invokevirtual 23, 3) := by decide +kernel
theorem dL_letter_12 : decode cL_letter 12 = .ok (.i2l, 1) := by decide +kernel
theorem dL_letter_13 : decode cL_letter 13 = .ok (.lastore, 1) := by decide +kernel
theorem dL_letter_14 : decode cL_letter 14 = .ok (.goto 15, 3) := by decide +kernel
theorem dL_letter_17 : decode cL_letter 17 = .ok (.astore 6, 2) := by decide +kernel
theorem dL_letter_19 : decode cL_letter 19 = .ok (.iconst 1, 1) := by decide +kernel
theorem dL_letter_20 : decode cL_letter 20 = .ok (.ireturn, 1) := by decide +kernel
theorem dL_letter_21 : decode cL_letter 21 = .ok (.astore 6, 2) := by decide +kernel
theorem dL_letter_23 : decode cL_letter 23 = .ok (.iconst 2, 1) := by decide +kernel
theorem dL_letter_24 : decode cL_letter 24 = .ok (.ireturn, 1) := by decide +kernel
theorem dL_letter_25 : decode cL_letter 25 = .ok (.astore 6, 2) := by decide +kernel
theorem dL_letter_27 : decode cL_letter 27 = .ok (.iconst 3, 1) := by decide +kernel
theorem dL_letter_28 : decode cL_letter 28 = .ok (.ireturn, 1) := by decide +kernel
theorem dL_letter_29 : decode cL_letter 29 = .ok (.iconst 0, 1) := by decide +kernel
theorem dL_letter_30 : decode cL_letter 30 = .ok (.ireturn, 1) := by decide +kernel
theorem dL_parcel_0 : decode cL_parcel 0 = .ok (.aload 6, 2) := by decide +kernel
theorem dL_parcel_2 : decode cL_parcel 2 = .ok (.iconst 0, 1) := by decide +kernel
theorem dL_parcel_3 : decode cL_parcel 3 = .ok (.aload_n 0, 1) := by decide +kernel
theorem dL_parcel_4 : decode cL_parcel 4 = .ok (.iload_n 1, 1) := by decide +kernel
theorem dL_parcel_5 : decode cL_parcel 5 = .ok (.iload_n 2, 1) := by decide +kernel
theorem dL_parcel_6 : decode cL_parcel 6 = .ok (.iload_n 3, 1) := by decide +kernel
theorem dL_parcel_7 : decode cL_parcel 7 = .ok (.iload 4, 2) := by decide +kernel
theorem dL_parcel_9 : decode cL_parcel 9 = .ok (.iload 5, 2) := by decide +kernel
theorem dL_parcel_11 : decode cL_parcel 11 = .ok (.invokevirtual 27, 3) := by decide +kernel
theorem dL_parcel_14 : decode cL_parcel 14 = .ok (.i2l, 1) := by decide +kernel
theorem dL_parcel_15 : decode cL_parcel 15 = .ok (.lastore, 1) := by decide +kernel
theorem dL_parcel_16 : decode cL_parcel 16 = .ok (.goto 15, 3) := by decide +kernel
theorem dL_parcel_19 : decode cL_parcel 19 = .ok (.astore 7, 2) := by decide +kernel
theorem dL_parcel_21 : decode cL_parcel 21 = .ok (.iconst 1, 1) := by decide +kernel
theorem dL_parcel_22 : decode cL_parcel 22 = .ok (.ireturn, 1) := by decide +kernel
theorem dL_parcel_23 : decode cL_parcel 23 = .ok (.astore 7, 2) := by decide +kernel
theorem dL_parcel_25 : decode cL_parcel 25 = .ok (.iconst 2, 1) := by decide +kernel
theorem dL_parcel_26 : decode cL_parcel 26 = .ok (.ireturn, 1) := by decide +kernel
theorem dL_parcel_27 : decode cL_parcel 27 = .ok (.astore 7, 2) := by decide +kernel
theorem dL_parcel_29 : decode cL_parcel 29 = .ok (.iconst 3, 1) := by decide +kernel
theorem dL_parcel_30 : decode cL_parcel 30 = .ok (.ireturn, 1) := by decide +kernel
theorem dL_parcel_31 : decode cL_parcel 31 = .ok (.iconst 0, 1) := by decide +kernel
theorem dL_parcel_32 : decode cL_parcel 32 = .ok (.ireturn, 1) := by decide +kernel
theorem dL_itemOf_0 : decode cL_itemOf 0 = .ok (.aload_n 3, 1) := by decide +kernel
theorem dL_itemOf_1 : decode cL_itemOf 1 = .ok (.iconst 0, 1) := by decide +kernel
theorem dL_itemOf_2 : decode cL_itemOf 2 = .ok (.aload_n 0, 1) := by decide +kernel
theorem dL_itemOf_3 : decode cL_itemOf 3 = .ok (.iload_n 1, 1) := by decide +kernel
theorem dL_itemOf_4 : decode cL_itemOf 4 = .ok (.iload_n 2, 1) := by decide +kernel
theorem dL_itemOf_5 : decode cL_itemOf 5 = .ok (.invokevirtual 31, 3) := by decide +kernel
theorem dL_itemOf_8 : decode cL_itemOf 8 = .ok (.i2l, 1) := by decide +kernel
theorem dL_itemOf_9 : decode cL_itemOf 9 = .ok (.lastore, 1) := by decide +kernel
theorem dL_itemOf_10 : decode cL_itemOf 10 = .ok (.goto 11, 3) := by decide +kernel
theorem dL_itemOf_13 : decode cL_itemOf 13 = .ok (.astore 4, 2) := by decide +kernel
theorem dL_itemOf_15 : decode cL_itemOf 15 = .ok (.iconst 1, 1) := by decide +kernel
theorem dL_itemOf_16 : decode cL_itemOf 16 = .ok (.ireturn, 1) := by decide +kernel
theorem dL_itemOf_17 : decode cL_itemOf 17 = .ok (.astore 4, 2) := by decide +kernel
theorem dL_itemOf_19 : decode cL_itemOf 19 = .ok (.iconst 2, 1) := by decide +kernel
theorem dL_itemOf_20 : decode cL_itemOf 20 = .ok (.ireturn, 1) := by decide +kernel
theorem dL_itemOf_21 : decode cL_itemOf 21 = .ok (.iconst 0, 1) := by decide +kernel
theorem dL_itemOf_22 : decode cL_itemOf 22 = .ok (.ireturn, 1) := by decide +kernel
theorem dL_reads_0 : decode cL_reads 0 = .ok (.aload_n 2, 1) := by decide +kernel
theorem dL_reads_1 : decode cL_reads 1 = .ok (.iconst 0, 1) := by decide +kernel
theorem dL_reads_2 : decode cL_reads 2 = .ok (.aload_n 0, 1) := by decide +kernel
theorem dL_reads_3 : decode cL_reads 3 = .ok (.iload_n 1, 1) := by decide +kernel
theorem dL_reads_4 : decode cL_reads 4 = .ok (.invokevirtual 35, 3) := by decide +kernel
theorem dL_reads_7 : decode cL_reads 7 = .ok (.i2l, 1) := by decide +kernel
theorem dL_reads_8 : decode cL_reads 8 = .ok (.lastore, 1) := by decide +kernel
theorem dL_reads_9 : decode cL_reads 9 = .ok (.goto 9, 3) := by decide +kernel
theorem dL_reads_12 : decode cL_reads 12 = .ok (.astore_n 3, 1) := by decide +kernel
theorem dL_reads_13 : decode cL_reads 13 = .ok (.iconst 1, 1) := by decide +kernel
theorem dL_reads_14 : decode cL_reads 14 = .ok (.ireturn, 1) := by decide +kernel
theorem dL_reads_15 : decode cL_reads 15 = .ok (.astore_n 3, 1) := by decide +kernel
theorem dL_reads_16 : decode cL_reads 16 = .ok (.iconst 2, 1) := by decide +kernel
theorem dL_reads_17 : decode cL_reads 17 = .ok (.ireturn, 1) := by decide +kernel
theorem dL_reads_18 : decode cL_reads 18 = .ok (.iconst 0, 1) := by decide +kernel
theorem dL_reads_19 : decode cL_reads 19 = .ok (.ireturn, 1) := by decide +kernel
theorem dL_stringFor_0 : decode cL_stringFor 0 = .ok (.aload 4, 2) := by decide +kernel
theorem dL_stringFor_2 : decode cL_stringFor 2 = .ok (.iconst 0, 1) := by decide +kernel
theorem dL_stringFor_3 : decode cL_stringFor 3 = .ok (.aload_n 0, 1) := by decide +kernel
theorem dL_stringFor_4 : decode cL_stringFor 4 = .ok (.iload_n 1, 1) := by decide +kernel
theorem dL_stringFor_5 : decode cL_stringFor 5 = .ok (.iload_n 2, 1) := by decide +kernel
theorem dL_stringFor_6 : decode cL_stringFor 6 = .ok (.iload_n 3, 1) := by decide +kernel
theorem dL_stringFor_7 : decode cL_stringFor 7 = .ok (.invokevirtual 40, 3) := by decide +kernel
theorem dL_stringFor_10 : decode cL_stringFor 10 = .ok (.i2l, 1) := by decide +kernel
theorem dL_stringFor_11 : decode cL_stringFor 11 = .ok (.lastore, 1) := by decide +kernel
theorem dL_stringFor_12 : decode cL_stringFor 12 = .ok (.goto 7, 3) := by decide +kernel
theorem dL_stringFor_15 : decode cL_stringFor 15 = .ok (.astore 5, 2) := by decide +kernel
theorem dL_stringFor_17 : decode cL_stringFor 17 = .ok (.iconst 1, 1) := by decide +kernel
theorem dL_stringFor_18 : decode cL_stringFor 18 = .ok (.ireturn, 1) := by decide +kernel
theorem dL_stringFor_19 : decode cL_stringFor 19 = .ok (.iconst 0, 1) := by decide +kernel
theorem dL_stringFor_20 : decode cL_stringFor 20 = .ok (.ireturn, 1) := by decide +kernel
theorem dL_string_0 : decode cL_string 0 = .ok (.aload_n 2, 1) := by decide +kernel
theorem dL_string_1 : decode cL_string 1 = .ok (.iconst 0, 1) := by decide +kernel
theorem dL_string_2 : decode cL_string 2 = .ok (.aload_n 0, 1) := by decide +kernel
theorem dL_string_3 : decode cL_string 3 = .ok (.iload_n 1, 1) := by decide +kernel
theorem dL_string_4 : decode cL_string 4 = .ok (.invokevirtual 44, 3) := by decide +kernel
theorem dL_string_7 : decode cL_string 7 = .ok (.i2l, 1) := by decide +kernel
theorem dL_string_8 : decode cL_string 8 = .ok (.lastore, 1) := by decide +kernel
theorem dL_string_9 : decode cL_string 9 = .ok (.goto 6, 3) := by decide +kernel
theorem dL_string_12 : decode cL_string 12 = .ok (.astore_n 3, 1) := by decide +kernel
theorem dL_string_13 : decode cL_string 13 = .ok (.iconst 1, 1) := by decide +kernel
theorem dL_string_14 : decode cL_string 14 = .ok (.ireturn, 1) := by decide +kernel
theorem dL_string_15 : decode cL_string 15 = .ok (.iconst 0, 1) := by decide +kernel
theorem dL_string_16 : decode cL_string 16 = .ok (.ireturn, 1) := by decide +kernel
theorem dL_lettersOf_0 : decode cL_lettersOf 0 = .ok (.aload_n 3, 1) := by decide +kernel
theorem dL_lettersOf_1 : decode cL_lettersOf 1 = .ok (.iconst 0, 1) := by decide +kernel
theorem dL_lettersOf_2 : decode cL_lettersOf 2 = .ok (.aload_n 0, 1) := by decide +kernel
theorem dL_lettersOf_3 : decode cL_lettersOf 3 = .ok (.iload_n 1, 1) := by decide +kernel
theorem dL_lettersOf_4 : decode cL_lettersOf 4 = .ok (.iload_n 2, 1) := by decide +kernel
theorem dL_lettersOf_5 : decode cL_lettersOf 5 = .ok (.invokevirtual 47, 3) := by decide +kernel
theorem dL_lettersOf_8 : decode cL_lettersOf 8 = .ok (.i2l, 1) := by decide +kernel
theorem dL_lettersOf_9 : decode cL_lettersOf 9 = .ok (.lastore, 1) := by decide +kernel
theorem dL_lettersOf_10 : decode cL_lettersOf 10 = .ok (.goto 11, 3) := by decide +kernel
theorem dL_lettersOf_13 : decode cL_lettersOf 13 = .ok (.astore 4, 2) := by decide +kernel
theorem dL_lettersOf_15 : decode cL_lettersOf 15 = .ok (.iconst 1, 1) := by decide +kernel
theorem dL_lettersOf_16 : decode cL_lettersOf 16 = .ok (.ireturn, 1) := by decide +kernel
theorem dL_lettersOf_17 : decode cL_lettersOf 17 = .ok (.astore 4, 2) := by decide +kernel
theorem dL_lettersOf_19 : decode cL_lettersOf 19 = .ok (.iconst 2, 1) := by decide +kernel
theorem dL_lettersOf_20 : decode cL_lettersOf 20 = .ok (.ireturn, 1) := by decide +kernel
theorem dL_lettersOf_21 : decode cL_lettersOf 21 = .ok (.iconst 0, 1) := by decide +kernel
theorem dL_lettersOf_22 : decode cL_lettersOf 22 = .ok (.ireturn, 1) := by decide +kernel
theorem dL_lettersAgain_0 : decode cL_lettersAgain 0 = .ok (.aload_n 3, 1) := by decide +kernel
theorem dL_lettersAgain_1 : decode cL_lettersAgain 1 = .ok (.iconst 0, 1) := by decide +kernel
theorem dL_lettersAgain_2 : decode cL_lettersAgain 2 = .ok (.aload_n 0, 1) := by decide +kernel
theorem dL_lettersAgain_3 : decode cL_lettersAgain 3 = .ok (.iload_n 1, 1) := by decide +kernel
theorem dL_lettersAgain_4 : decode cL_lettersAgain 4 = .ok (.iload_n 2, 1) := by decide +kernel
theorem dL_lettersAgain_5 : decode cL_lettersAgain 5 = .ok (.invokevirtual 50, 3) := by decide +kernel
theorem dL_lettersAgain_8 : decode cL_lettersAgain 8 = .ok (.i2l, 1) := by decide +kernel
theorem dL_lettersAgain_9 : decode cL_lettersAgain 9 = .ok (.lastore, 1) := by decide +kernel
theorem dL_lettersAgain_10 : decode cL_lettersAgain 10 = .ok (.goto 11, 3) := by decide +kernel
theorem dL_lettersAgain_13 : decode cL_lettersAgain 13 = .ok (.astore 4, 2) := by decide +kernel
theorem dL_lettersAgain_15 : decode cL_lettersAgain 15 = .ok (.iconst 1, 1) := by decide +kernel
theorem dL_lettersAgain_16 : decode cL_lettersAgain 16 = .ok (.ireturn, 1) := by decide +kernel
theorem dL_lettersAgain_17 : decode cL_lettersAgain 17 = .ok (.astore 4, 2) := by decide +kernel
theorem dL_lettersAgain_19 : decode cL_lettersAgain 19 = .ok (.iconst 2, 1) := by decide +kernel
theorem dL_lettersAgain_20 : decode cL_lettersAgain 20 = .ok (.ireturn, 1) := by decide +kernel
theorem dL_lettersAgain_21 : decode cL_lettersAgain 21 = .ok (.iconst 0, 1) := by decide +kernel
theorem dL_lettersAgain_22 : decode cL_lettersAgain 22 = .ok (.ireturn, 1) := by decide +kernel
theorem dL_ranked_0 : decode cL_ranked 0 = .ok (.aload_n 2, 1) := by decide +kernel
theorem dL_ranked_1 : decode cL_ranked 1 = .ok (.iconst 0, 1) := by decide +kernel
theorem dL_ranked_2 : decode cL_ranked 2 = .ok (.aload_n 0, 1) := by decide +kernel
theorem dL_ranked_3 : decode cL_ranked 3 = .ok (.iload_n 1, 1) := by decide +kernel
theorem dL_ranked_4 : decode cL_ranked 4 = .ok (.invokevirtual 53, 3) := by decide +kernel
theorem dL_ranked_7 : decode cL_ranked 7 = .ok (.i2l, 1) := by decide +kernel
theorem dL_ranked_8 : decode cL_ranked 8 = .ok (.lastore, 1) := by decide +kernel
theorem dL_ranked_9 : decode cL_ranked 9 = .ok (.goto 6, 3) := by decide +kernel
theorem dL_ranked_12 : decode cL_ranked 12 = .ok (.astore_n 3, 1) := by decide +kernel
theorem dL_ranked_13 : decode cL_ranked 13 = .ok (.iconst 1, 1) := by decide +kernel
theorem dL_ranked_14 : decode cL_ranked 14 = .ok (.ireturn, 1) := by decide +kernel
theorem dL_ranked_15 : decode cL_ranked 15 = .ok (.iconst 0, 1) := by decide +kernel
theorem dL_ranked_16 : decode cL_ranked 16 = .ok (.ireturn, 1) := by decide +kernel
theorem dL_potato_0 : decode cL_potato 0 = .ok (.aload_n 1, 1) := by decide +kernel
theorem dL_potato_1 : decode cL_potato 1 = .ok (.iconst 0, 1) := by decide +kernel
theorem dL_potato_2 : decode cL_potato 2 = .ok (.aload_n 0, 1) := by decide +kernel
theorem dL_potato_3 : decode cL_potato 3 = .ok (.invokevirtual 56, 3) := by decide +kernel
theorem dL_potato_6 : decode cL_potato 6 = .ok (.i2l, 1) := by decide +kernel
theorem dL_potato_7 : decode cL_potato 7 = .ok (.lastore, 1) := by decide +kernel
theorem dL_potato_8 : decode cL_potato 8 = .ok (.goto 6, 3) := by decide +kernel
theorem dL_potato_11 : decode cL_potato 11 = .ok (.astore_n 2, 1) := by decide +kernel
theorem dL_potato_12 : decode cL_potato 12 = .ok (.iconst 1, 1) := by decide +kernel
theorem dL_potato_13 : decode cL_potato 13 = .ok (.ireturn, 1) := by decide +kernel
theorem dL_potato_14 : decode cL_potato 14 = .ok (.iconst 0, 1) := by decide +kernel
theorem dL_potato_15 : decode cL_potato 15 = .ok (.ireturn, 1) := by decide +kernel
theorem dL_firmness_0 : decode cL_firmness 0 = .ok (.aload_n 2, 1) := by decide +kernel
theorem dL_firmness_1 : decode cL_firmness 1 = .ok (.iconst 0, 1) := by decide +kernel
theorem dL_firmness_2 : decode cL_firmness 2 = .ok (.aload_n 0, 1) := by decide +kernel
theorem dL_firmness_3 : decode cL_firmness 3 = .ok (.iload_n 1, 1) := by decide +kernel
theorem dL_firmness_4 : decode cL_firmness 4 = .ok (.invokevirtual 60, 3) := by decide +kernel
theorem dL_firmness_7 : decode cL_firmness 7 = .ok (.f2d, 1) := by decide +kernel
theorem dL_firmness_8 : decode cL_firmness 8 = .ok (.dastore, 1) := by decide +kernel
theorem dL_firmness_9 : decode cL_firmness 9 = .ok (.goto 6, 3) := by decide +kernel
theorem dL_firmness_12 : decode cL_firmness 12 = .ok (.astore_n 3, 1) := by decide +kernel
theorem dL_firmness_13 : decode cL_firmness 13 = .ok (.iconst 1, 1) := by decide +kernel
theorem dL_firmness_14 : decode cL_firmness 14 = .ok (.ireturn, 1) := by decide +kernel
theorem dL_firmness_15 : decode cL_firmness 15 = .ok (.iconst 0, 1) := by decide +kernel
theorem dL_firmness_16 : decode cL_firmness 16 = .ok (.ireturn, 1) := by decide +kernel
theorem dL_print_0 : decode cL_print 0 = .ok (.aload_n 2, 1) := by decide +kernel
theorem dL_print_1 : decode cL_print 1 = .ok (.iconst 0, 1) := by decide +kernel
theorem dL_print_2 : decode cL_print 2 = .ok (.aload_n 0, 1) := by decide +kernel
theorem dL_print_3 : decode cL_print 3 = .ok (.iload_n 1, 1) := by decide +kernel
theorem dL_print_4 : decode cL_print 4 = .ok (.invokevirtual 63, 3) := by decide +kernel
theorem dL_print_7 : decode cL_print 7 = .ok (.i2l, 1) := by decide +kernel
theorem dL_print_8 : decode cL_print 8 = .ok (.lastore, 1) := by decide +kernel
theorem dL_print_9 : decode cL_print 9 = .ok (.goto 6, 3) := by decide +kernel
theorem dL_print_12 : decode cL_print 12 = .ok (.astore_n 3, 1) := by decide +kernel
theorem dL_print_13 : decode cL_print 13 = .ok (.iconst 1, 1) := by decide +kernel
theorem dL_print_14 : decode cL_print 14 = .ok (.ireturn, 1) := by decide +kernel
theorem dL_print_15 : decode cL_print 15 = .ok (.iconst 0, 1) := by decide +kernel
theorem dL_print_16 : decode cL_print 16 = .ok (.ireturn, 1) := by decide +kernel
theorem dL_stampsOf_0 : decode cL_stampsOf 0 = .ok (.aload_n 2, 1) := by decide +kernel
theorem dL_stampsOf_1 : decode cL_stampsOf 1 = .ok (.iconst 0, 1) := by decide +kernel
theorem dL_stampsOf_2 : decode cL_stampsOf 2 = .ok (.aload_n 0, 1) := by decide +kernel
theorem dL_stampsOf_3 : decode cL_stampsOf 3 = .ok (.iload_n 1, 1) := by decide +kernel
theorem dL_stampsOf_4 : decode cL_stampsOf 4 = .ok (.invokevirtual 66, 3) := by decide +kernel
theorem dL_stampsOf_7 : decode cL_stampsOf 7 = .ok (.i2l, 1) := by decide +kernel
theorem dL_stampsOf_8 : decode cL_stampsOf 8 = .ok (.lastore, 1) := by decide +kernel
theorem dL_stampsOf_9 : decode cL_stampsOf 9 = .ok (.goto 6, 3) := by decide +kernel
theorem dL_stampsOf_12 : decode cL_stampsOf 12 = .ok (.astore_n 3, 1) := by decide +kernel
theorem dL_stampsOf_13 : decode cL_stampsOf 13 = .ok (.iconst 1, 1) := by decide +kernel
theorem dL_stampsOf_14 : decode cL_stampsOf 14 = .ok (.ireturn, 1) := by decide +kernel
theorem dL_stampsOf_15 : decode cL_stampsOf 15 = .ok (.iconst 0, 1) := by decide +kernel
theorem dL_stampsOf_16 : decode cL_stampsOf 16 = .ok (.ireturn, 1) := by decide +kernel
theorem dL_best_0 : decode cL_best 0 = .ok (.aload_n 1, 1) := by decide +kernel
theorem dL_best_1 : decode cL_best 1 = .ok (.iconst 0, 1) := by decide +kernel
theorem dL_best_2 : decode cL_best 2 = .ok (.aload_n 0, 1) := by decide +kernel
theorem dL_best_3 : decode cL_best 3 = .ok (.invokevirtual 69, 3) := by decide +kernel
theorem dL_best_6 : decode cL_best 6 = .ok (.i2l, 1) := by decide +kernel
theorem dL_best_7 : decode cL_best 7 = .ok (.lastore, 1) := by decide +kernel
theorem dL_best_8 : decode cL_best 8 = .ok (.goto 6, 3) := by decide +kernel
theorem dL_best_11 : decode cL_best 11 = .ok (.astore_n 2, 1) := by decide +kernel
theorem dL_best_12 : decode cL_best 12 = .ok (.iconst 1, 1) := by decide +kernel
theorem dL_best_13 : decode cL_best 13 = .ok (.ireturn, 1) := by decide +kernel
theorem dL_best_14 : decode cL_best 14 = .ok (.iconst 0, 1) := by decide +kernel
theorem dL_best_15 : decode cL_best 15 = .ok (.ireturn, 1) := by decide +kernel
theorem dL_ink_0 : decode cL_ink 0 = .ok (.aload_n 2, 1) := by decide +kernel
theorem dL_ink_1 : decode cL_ink 1 = .ok (.iconst 0, 1) := by decide +kernel
theorem dL_ink_2 : decode cL_ink 2 = .ok (.aload_n 0, 1) := by decide +kernel
theorem dL_ink_3 : decode cL_ink 3 = .ok (.iload_n 1, 1) := by decide +kernel
theorem dL_ink_4 : decode cL_ink 4 = .ok (.invokevirtual 72, 3) := by decide +kernel
theorem dL_ink_7 : decode cL_ink 7 = .ok (.i2l, 1) := by decide +kernel
theorem dL_ink_8 : decode cL_ink 8 = .ok (.lastore, 1) := by decide +kernel
theorem dL_ink_9 : decode cL_ink 9 = .ok (.goto 6, 3) := by decide +kernel
theorem dL_ink_12 : decode cL_ink 12 = .ok (.astore_n 3, 1) := by decide +kernel
theorem dL_ink_13 : decode cL_ink 13 = .ok (.iconst 1, 1) := by decide +kernel
theorem dL_ink_14 : decode cL_ink 14 = .ok (.ireturn, 1) := by decide +kernel
theorem dL_ink_15 : decode cL_ink 15 = .ok (.iconst 0, 1) := by decide +kernel
theorem dL_ink_16 : decode cL_ink 16 = .ok (.ireturn, 1) := by decide +kernel
theorem dL_stamp_0 : decode cL_stamp 0 = .ok (.aload_n 3, 1) := by decide +kernel
theorem dL_stamp_1 : decode cL_stamp 1 = .ok (.iconst 0, 1) := by decide +kernel
theorem dL_stamp_2 : decode cL_stamp 2 = .ok (.aload_n 0, 1) := by decide +kernel
theorem dL_stamp_3 : decode cL_stamp 3 = .ok (.iload_n 1, 1) := by decide +kernel
theorem dL_stamp_4 : decode cL_stamp 4 = .ok (.iload_n 2, 1) := by decide +kernel
theorem dL_stamp_5 : decode cL_stamp 5 = .ok (.invokevirtual 75, 3) := by decide +kernel
theorem dL_stamp_8 : decode cL_stamp 8 = .ok (.i2l, 1) := by decide +kernel
theorem dL_stamp_9 : decode cL_stamp 9 = .ok (.lastore, 1) := by decide +kernel
theorem dL_stamp_10 : decode cL_stamp 10 = .ok (.goto 11, 3) := by decide +kernel
theorem dL_stamp_13 : decode cL_stamp 13 = .ok (.astore 4, 2) := by decide +kernel
theorem dL_stamp_15 : decode cL_stamp 15 = .ok (.iconst 1, 1) := by decide +kernel
theorem dL_stamp_16 : decode cL_stamp 16 = .ok (.ireturn, 1) := by decide +kernel
theorem dL_stamp_17 : decode cL_stamp 17 = .ok (.astore 4, 2) := by decide +kernel
theorem dL_stamp_19 : decode cL_stamp 19 = .ok (.iconst 2, 1) := by decide +kernel
theorem dL_stamp_20 : decode cL_stamp 20 = .ok (.ireturn, 1) := by decide +kernel
theorem dL_stamp_21 : decode cL_stamp 21 = .ok (.iconst 0, 1) := by decide +kernel
theorem dL_stamp_22 : decode cL_stamp 22 = .ok (.ireturn, 1) := by decide +kernel
theorem dL_shelve_0 : decode cL_shelve 0 = .ok (.aload_n 3, 1) := by decide +kernel
theorem dL_shelve_1 : decode cL_shelve 1 = .ok (.iconst 0, 1) := by decide +kernel
theorem dL_shelve_2 : decode cL_shelve 2 = .ok (.aload_n 0, 1) := by decide +kernel
theorem dL_shelve_3 : decode cL_shelve 3 = .ok (.iload_n 1, 1) := by decide +kernel
theorem dL_shelve_4 : decode cL_shelve 4 = .ok (.iload_n 2, 1) := by decide +kernel
theorem dL_shelve_5 : decode cL_shelve 5 = .ok (.invokevirtual 78, 3) := by decide +kernel
theorem dL_shelve_8 : decode cL_shelve 8 = .ok (.i2l, 1) := by decide +kernel
theorem dL_shelve_9 : decode cL_shelve 9 = .ok (.lastore, 1) := by decide +kernel
theorem dL_shelve_10 : decode cL_shelve 10 = .ok (.goto 11, 3) := by decide +kernel
theorem dL_shelve_13 : decode cL_shelve 13 = .ok (.astore 4, 2) := by decide +kernel
theorem dL_shelve_15 : decode cL_shelve 15 = .ok (.iconst 1, 1) := by decide +kernel
theorem dL_shelve_16 : decode cL_shelve 16 = .ok (.ireturn, 1) := by decide +kernel
theorem dL_shelve_17 : decode cL_shelve 17 = .ok (.astore 4, 2) := by decide +kernel
theorem dL_shelve_19 : decode cL_shelve 19 = .ok (.iconst 2, 1) := by decide +kernel
theorem dL_shelve_20 : decode cL_shelve 20 = .ok (.ireturn, 1) := by decide +kernel
theorem dL_shelve_21 : decode cL_shelve 21 = .ok (.iconst 0, 1) := by decide +kernel
theorem dL_shelve_22 : decode cL_shelve 22 = .ok (.ireturn, 1) := by decide +kernel
theorem dL_take_0 : decode cL_take 0 = .ok (.aload_n 2, 1) := by decide +kernel
theorem dL_take_1 : decode cL_take 1 = .ok (.iconst 0, 1) := by decide +kernel
theorem dL_take_2 : decode cL_take 2 = .ok (.aload_n 0, 1) := by decide +kernel
theorem dL_take_3 : decode cL_take 3 = .ok (.iload_n 1, 1) := by decide +kernel
theorem dL_take_4 : decode cL_take 4 = .ok (.invokevirtual 81, 3) := by decide +kernel
theorem dL_take_7 : decode cL_take 7 = .ok (.i2l, 1) := by decide +kernel
theorem dL_take_8 : decode cL_take 8 = .ok (.lastore, 1) := by decide +kernel
theorem dL_take_9 : decode cL_take 9 = .ok (.goto 9, 3) := by decide +kernel
theorem dL_take_12 : decode cL_take 12 = .ok (.astore_n 3, 1) := by decide +kernel
theorem dL_take_13 : decode cL_take 13 = .ok (.iconst 1, 1) := by decide +kernel
theorem dL_take_14 : decode cL_take 14 = .ok (.ireturn, 1) := by decide +kernel
theorem dL_take_15 : decode cL_take 15 = .ok (.astore_n 3, 1) := by decide +kernel
theorem dL_take_16 : decode cL_take 16 = .ok (.iconst 2, 1) := by decide +kernel
theorem dL_take_17 : decode cL_take 17 = .ok (.ireturn, 1) := by decide +kernel
theorem dL_take_18 : decode cL_take 18 = .ok (.iconst 0, 1) := by decide +kernel
theorem dL_take_19 : decode cL_take 19 = .ok (.ireturn, 1) := by decide +kernel
theorem dL_inHole_0 : decode cL_inHole 0 = .ok (.aload 4, 2) := by decide +kernel
theorem dL_inHole_2 : decode cL_inHole 2 = .ok (.iconst 0, 1) := by decide +kernel
theorem dL_inHole_3 : decode cL_inHole 3 = .ok (.aload_n 0, 1) := by decide +kernel
theorem dL_inHole_4 : decode cL_inHole 4 = .ok (.iload_n 1, 1) := by decide +kernel
theorem dL_inHole_5 : decode cL_inHole 5 = .ok (.iload_n 2, 1) := by decide +kernel
theorem dL_inHole_6 : decode cL_inHole 6 = .ok (.iload_n 3, 1) := by decide +kernel
theorem dL_inHole_7 : decode cL_inHole 7 = .ok (.invokevirtual 84, 3) := by decide +kernel
theorem dL_inHole_10 : decode cL_inHole 10 = .ok (.i2l, 1) := by decide +kernel
theorem dL_inHole_11 : decode cL_inHole 11 = .ok (.lastore, 1) := by decide +kernel
theorem dL_inHole_12 : decode cL_inHole 12 = .ok (.goto 11, 3) := by decide +kernel
theorem dL_inHole_15 : decode cL_inHole 15 = .ok (.astore 5, 2) := by decide +kernel
theorem dL_inHole_17 : decode cL_inHole 17 = .ok (.iconst 1, 1) := by decide +kernel
theorem dL_inHole_18 : decode cL_inHole 18 = .ok (.ireturn, 1) := by decide +kernel
theorem dL_inHole_19 : decode cL_inHole 19 = .ok (.astore 5, 2) := by decide +kernel
theorem dL_inHole_21 : decode cL_inHole 21 = .ok (.iconst 2, 1) := by decide +kernel
theorem dL_inHole_22 : decode cL_inHole 22 = .ok (.ireturn, 1) := by decide +kernel
theorem dL_inHole_23 : decode cL_inHole 23 = .ok (.iconst 0, 1) := by decide +kernel
theorem dL_inHole_24 : decode cL_inHole 24 = .ok (.ireturn, 1) := by decide +kernel
theorem dL_read_0 : decode cL_read 0 = .ok (.aload_n 2, 1) := by decide +kernel
theorem dL_read_1 : decode cL_read 1 = .ok (.iconst 0, 1) := by decide +kernel
theorem dL_read_2 : decode cL_read 2 = .ok (.aload_n 0, 1) := by decide +kernel
theorem dL_read_3 : decode cL_read 3 = .ok (.iload_n 1, 1) := by decide +kernel
theorem dL_read_4 : decode cL_read 4 = .ok (.invokevirtual 87, 3) := by decide +kernel
theorem dL_read_7 : decode cL_read 7 = .ok (.i2l, 1) := by decide +kernel
theorem dL_read_8 : decode cL_read 8 = .ok (.lastore, 1) := by decide +kernel
theorem dL_read_9 : decode cL_read 9 = .ok (.goto 6, 3) := by decide +kernel
theorem dL_read_12 : decode cL_read 12 = .ok (.astore_n 3, 1) := by decide +kernel
theorem dL_read_13 : decode cL_read 13 = .ok (.iconst 1, 1) := by decide +kernel
theorem dL_read_14 : decode cL_read 14 = .ok (.ireturn, 1) := by decide +kernel
theorem dL_read_15 : decode cL_read 15 = .ok (.iconst 0, 1) := by decide +kernel
theorem dL_read_16 : decode cL_read 16 = .ok (.ireturn, 1) := by decide +kernel
theorem dL_snacks_0 : decode cL_snacks 0 = .ok (.aload_n 2, 1) := by decide +kernel
theorem dL_snacks_1 : decode cL_snacks 1 = .ok (.iconst 0, 1) := by decide +kernel
theorem dL_snacks_2 : decode cL_snacks 2 = .ok (.aload_n 0, 1) := by decide +kernel
theorem dL_snacks_3 : decode cL_snacks 3 = .ok (.iload_n 1, 1) := by decide +kernel
theorem dL_snacks_4 : decode cL_snacks 4 = .ok (.invokevirtual 90, 3) := by decide +kernel
theorem dL_snacks_7 : decode cL_snacks 7 = .ok (.i2l, 1) := by decide +kernel
theorem dL_snacks_8 : decode cL_snacks 8 = .ok (.lastore, 1) := by decide +kernel
theorem dL_snacks_9 : decode cL_snacks 9 = .ok (.goto 6, 3) := by decide +kernel
theorem dL_snacks_12 : decode cL_snacks 12 = .ok (.astore_n 3, 1) := by decide +kernel
theorem dL_snacks_13 : decode cL_snacks 13 = .ok (.iconst 1, 1) := by decide +kernel
theorem dL_snacks_14 : decode cL_snacks 14 = .ok (.ireturn, 1) := by decide +kernel
theorem dL_snacks_15 : decode cL_snacks 15 = .ok (.iconst 0, 1) := by decide +kernel
theorem dL_snacks_16 : decode cL_snacks 16 = .ok (.ireturn, 1) := by decide +kernel
theorem dL_feed_0 : decode cL_feed 0 = .ok (.aload_n 2, 1) := by decide +kernel
theorem dL_feed_1 : decode cL_feed 1 = .ok (.iconst 0, 1) := by decide +kernel
theorem dL_feed_2 : decode cL_feed 2 = .ok (.aload_n 0, 1) := by decide +kernel
theorem dL_feed_3 : decode cL_feed 3 = .ok (.iload_n 1, 1) := by decide +kernel
theorem dL_feed_4 : decode cL_feed 4 = .ok (.invokevirtual 93, 3) := by decide +kernel
theorem dL_feed_7 : decode cL_feed 7 = .ok (.i2l, 1) := by decide +kernel
theorem dL_feed_8 : decode cL_feed 8 = .ok (.lastore, 1) := by decide +kernel
theorem dL_feed_9 : decode cL_feed 9 = .ok (.goto 9, 3) := by decide +kernel
theorem dL_feed_12 : decode cL_feed 12 = .ok (.astore_n 3, 1) := by decide +kernel
theorem dL_feed_13 : decode cL_feed 13 = .ok (.iconst 1, 1) := by decide +kernel
theorem dL_feed_14 : decode cL_feed 14 = .ok (.ireturn, 1) := by decide +kernel
theorem dL_feed_15 : decode cL_feed 15 = .ok (.astore_n 3, 1) := by decide +kernel
theorem dL_feed_16 : decode cL_feed 16 = .ok (.iconst 2, 1) := by decide +kernel
theorem dL_feed_17 : decode cL_feed 17 = .ok (.ireturn, 1) := by decide +kernel
theorem dL_feed_18 : decode cL_feed 18 = .ok (.iconst 0, 1) := by decide +kernel
theorem dL_feed_19 : decode cL_feed 19 = .ok (.ireturn, 1) := by decide +kernel
theorem dL_prey_0 : decode cL_prey 0 = .ok (.aload_n 1, 1) := by decide +kernel
theorem dL_prey_1 : decode cL_prey 1 = .ok (.iconst 0, 1) := by decide +kernel
theorem dL_prey_2 : decode cL_prey 2 = .ok (.aload_n 0, 1) := by decide +kernel
theorem dL_prey_3 : decode cL_prey 3 = .ok (.invokevirtual 96, 3) := by decide +kernel
theorem dL_prey_6 : decode cL_prey 6 = .ok (.i2l, 1) := by decide +kernel
theorem dL_prey_7 : decode cL_prey 7 = .ok (.lastore, 1) := by decide +kernel
theorem dL_prey_8 : decode cL_prey 8 = .ok (.goto 6, 3) := by decide +kernel
theorem dL_prey_11 : decode cL_prey 11 = .ok (.astore_n 2, 1) := by decide +kernel
theorem dL_prey_12 : decode cL_prey 12 = .ok (.iconst 1, 1) := by decide +kernel
theorem dL_prey_13 : decode cL_prey 13 = .ok (.ireturn, 1) := by decide +kernel
theorem dL_prey_14 : decode cL_prey 14 = .ok (.iconst 0, 1) := by decide +kernel
theorem dL_prey_15 : decode cL_prey 15 = .ok (.ireturn, 1) := by decide +kernel
theorem dL_eatsIn_0 : decode cL_eatsIn 0 = .ok (.aload_n 1, 1) := by decide +kernel
theorem dL_eatsIn_1 : decode cL_eatsIn 1 = .ok (.iconst 0, 1) := by decide +kernel
theorem dL_eatsIn_2 : decode cL_eatsIn 2 = .ok (.aload_n 0, 1) := by decide +kernel
theorem dL_eatsIn_3 : decode cL_eatsIn 3 = .ok (.invokevirtual 99, 3) := by decide +kernel
theorem dL_eatsIn_6 : decode cL_eatsIn 6 = .ok (.i2l, 1) := by decide +kernel
theorem dL_eatsIn_7 : decode cL_eatsIn 7 = .ok (.lastore, 1) := by decide +kernel
theorem dL_eatsIn_8 : decode cL_eatsIn 8 = .ok (.goto 6, 3) := by decide +kernel
theorem dL_eatsIn_11 : decode cL_eatsIn 11 = .ok (.astore_n 2, 1) := by decide +kernel
theorem dL_eatsIn_12 : decode cL_eatsIn 12 = .ok (.iconst 1, 1) := by decide +kernel
theorem dL_eatsIn_13 : decode cL_eatsIn 13 = .ok (.ireturn, 1) := by decide +kernel
theorem dL_eatsIn_14 : decode cL_eatsIn 14 = .ok (.iconst 0, 1) := by decide +kernel
theorem dL_eatsIn_15 : decode cL_eatsIn 15 = .ok (.ireturn, 1) := by decide +kernel
theorem dL_pass_0 : decode cL_pass 0 = .ok (.aload_n 2, 1) := by decide +kernel
theorem dL_pass_1 : decode cL_pass 1 = .ok (.iconst 0, 1) := by decide +kernel
theorem dL_pass_2 : decode cL_pass 2 = .ok (.aload_n 0, 1) := by decide +kernel
theorem dL_pass_3 : decode cL_pass 3 = .ok (.iload_n 1, 1) := by decide +kernel
theorem dL_pass_4 : decode cL_pass 4 = .ok (.invokevirtual 102, 3) := by decide +kernel
theorem dL_pass_7 : decode cL_pass 7 = .ok (.i2l, 1) := by decide +kernel
theorem dL_pass_8 : decode cL_pass 8 = .ok (.lastore, 1) := by decide +kernel
theorem dL_pass_9 : decode cL_pass 9 = .ok (.goto 6, 3) := by decide +kernel
theorem dL_pass_12 : decode cL_pass 12 = .ok (.astore_n 3, 1) := by decide +kernel
theorem dL_pass_13 : decode cL_pass 13 = .ok (.iconst 1, 1) := by decide +kernel
theorem dL_pass_14 : decode cL_pass 14 = .ok (.ireturn, 1) := by decide +kernel
theorem dL_pass_15 : decode cL_pass 15 = .ok (.iconst 0, 1) := by decide +kernel
theorem dL_pass_16 : decode cL_pass 16 = .ok (.ireturn, 1) := by decide +kernel
theorem dL_sign_0 : decode cL_sign 0 = .ok (.aload_n 2, 1) := by decide +kernel
theorem dL_sign_1 : decode cL_sign 1 = .ok (.iconst 0, 1) := by decide +kernel
theorem dL_sign_2 : decode cL_sign 2 = .ok (.aload_n 0, 1) := by decide +kernel
theorem dL_sign_3 : decode cL_sign 3 = .ok (.iload_n 1, 1) := by decide +kernel
theorem dL_sign_4 : decode cL_sign 4 = .ok (.invokevirtual 105, 3) := by decide +kernel
theorem dL_sign_7 : decode cL_sign 7 = .ok (.i2l, 1) := by decide +kernel
theorem dL_sign_8 : decode cL_sign 8 = .ok (.lastore, 1) := by decide +kernel
theorem dL_sign_9 : decode cL_sign 9 = .ok (.goto 6, 3) := by decide +kernel
theorem dL_sign_12 : decode cL_sign 12 = .ok (.astore_n 3, 1) := by decide +kernel
theorem dL_sign_13 : decode cL_sign 13 = .ok (.iconst 1, 1) := by decide +kernel
theorem dL_sign_14 : decode cL_sign 14 = .ok (.ireturn, 1) := by decide +kernel
theorem dL_sign_15 : decode cL_sign 15 = .ok (.iconst 0, 1) := by decide +kernel
theorem dL_sign_16 : decode cL_sign 16 = .ok (.ireturn, 1) := by decide +kernel
theorem dL_append_0 : decode cL_append 0 = .ok (.aload_n 2, 1) := by decide +kernel
theorem dL_append_1 : decode cL_append 1 = .ok (.iconst 0, 1) := by decide +kernel
theorem dL_append_2 : decode cL_append 2 = .ok (.aload_n 0, 1) := by decide +kernel
theorem dL_append_3 : decode cL_append 3 = .ok (.iload_n 1, 1) := by decide +kernel
theorem dL_append_4 : decode cL_append 4 = .ok (.invokevirtual 109, 3) := by decide +kernel
theorem dL_append_7 : decode cL_append 7 = .ok (.i2l, 1) := by decide +kernel
theorem dL_append_8 : decode cL_append 8 = .ok (.lastore, 1) := by decide +kernel
theorem dL_append_9 : decode cL_append 9 = .ok (.goto 6, 3) := by decide +kernel
theorem dL_append_12 : decode cL_append 12 = .ok (.astore_n 3, 1) := by decide +kernel
theorem dL_append_13 : decode cL_append 13 = .ok (.iconst 1, 1) := by decide +kernel
theorem dL_append_14 : decode cL_append 14 = .ok (.ireturn, 1) := by decide +kernel
theorem dL_append_15 : decode cL_append 15 = .ok (.iconst 0, 1) := by decide +kernel
theorem dL_append_16 : decode cL_append 16 = .ok (.ireturn, 1) := by decide +kernel
theorem dL_run_0 : decode cL_run 0 = .ok (.aload_n 1, 1) := by decide +kernel
theorem dL_run_1 : decode cL_run 1 = .ok (.iconst 0, 1) := by decide +kernel
theorem dL_run_2 : decode cL_run 2 = .ok (.aload_n 0, 1) := by decide +kernel
theorem dL_run_3 : decode cL_run 3 = .ok (.invokevirtual 115, 3) := by decide +kernel
theorem dL_run_6 : decode cL_run 6 = .ok (.i2l, 1) := by decide +kernel
theorem dL_run_7 : decode cL_run 7 = .ok (.lastore, 1) := by decide +kernel
theorem dL_run_8 : decode cL_run 8 = .ok (.goto 9, 3) := by decide +kernel
theorem dL_run_11 : decode cL_run 11 = .ok (.astore_n 2, 1) := by decide +kernel
theorem dL_run_12 : decode cL_run 12 = .ok (.iconst 1, 1) := by decide +kernel
theorem dL_run_13 : decode cL_run 13 = .ok (.ireturn, 1) := by decide +kernel
theorem dL_run_14 : decode cL_run 14 = .ok (.astore_n 2, 1) := by decide +kernel
theorem dL_run_15 : decode cL_run 15 = .ok (.iconst 2, 1) := by decide +kernel
theorem dL_run_16 : decode cL_run 16 = .ok (.ireturn, 1) := by decide +kernel
theorem dL_run_17 : decode cL_run 17 = .ok (.iconst 0, 1) := by decide +kernel
theorem dL_run_18 : decode cL_run 18 = .ok (.ireturn, 1) := by decide +kernel
theorem dL_refusal_0 : decode cL_refusal 0 = .ok (.aload_n 2, 1) := by decide +kernel
theorem dL_refusal_1 : decode cL_refusal 1 = .ok (.iconst 0, 1) := by decide +kernel
theorem dL_refusal_2 : decode cL_refusal 2 = .ok (.aload_n 0, 1) := by decide +kernel
theorem dL_refusal_3 : decode cL_refusal 3 = .ok (.iload_n 1, 1) := by decide +kernel
theorem dL_refusal_4 : decode cL_refusal 4 = .ok (.invokevirtual 118, 3) := by decide +kernel
theorem dL_refusal_7 : decode cL_refusal 7 = .ok (.i2l, 1) := by decide +kernel
theorem dL_refusal_8 : decode cL_refusal 8 = .ok (.lastore, 1) := by decide +kernel
theorem dL_refusal_9 : decode cL_refusal 9 = .ok (.goto 6, 3) := by decide +kernel
theorem dL_refusal_12 : decode cL_refusal 12 = .ok (.astore_n 3, 1) := by decide +kernel
theorem dL_refusal_13 : decode cL_refusal 13 = .ok (.iconst 1, 1) := by decide +kernel
theorem dL_refusal_14 : decode cL_refusal 14 = .ok (.ireturn, 1) := by decide +kernel
theorem dL_refusal_15 : decode cL_refusal 15 = .ok (.iconst 0, 1) := by decide +kernel
theorem dL_refusal_16 : decode cL_refusal 16 = .ok (.ireturn, 1) := by decide +kernel
theorem dL_account_0 : decode cL_account 0 = .ok (.aload_n 2, 1) := by decide +kernel
theorem dL_account_1 : decode cL_account 1 = .ok (.iconst 0, 1) := by decide +kernel
theorem dL_account_2 : decode cL_account 2 = .ok (.aload_n 0, 1) := by decide +kernel
theorem dL_account_3 : decode cL_account 3 = .ok (.iload_n 1, 1) := by decide +kernel
theorem dL_account_4 : decode cL_account 4 = .ok (.invokevirtual 122, 3) := by decide +kernel
theorem dL_account_7 : decode cL_account 7 = .ok (.i2l, 1) := by decide +kernel
theorem dL_account_8 : decode cL_account 8 = .ok (.lastore, 1) := by decide +kernel
theorem dL_account_9 : decode cL_account 9 = .ok (.goto 6, 3) := by decide +kernel
theorem dL_account_12 : decode cL_account 12 = .ok (.astore_n 3, 1) := by decide +kernel
theorem dL_account_13 : decode cL_account 13 = .ok (.iconst 1, 1) := by decide +kernel
theorem dL_account_14 : decode cL_account 14 = .ok (.ireturn, 1) := by decide +kernel
theorem dL_account_15 : decode cL_account 15 = .ok (.iconst 0, 1) := by decide +kernel
theorem dL_account_16 : decode cL_account 16 = .ok (.ireturn, 1) := by decide +kernel
theorem dL_meanBits_0 : decode cL_meanBits 0 = .ok (.aload_n 1, 1) := by decide +kernel
theorem dL_meanBits_1 : decode cL_meanBits 1 = .ok (.iconst 0, 1) := by decide +kernel
theorem dL_meanBits_2 : decode cL_meanBits 2 = .ok (.aload_n 0, 1) := by decide +kernel
theorem dL_meanBits_3 : decode cL_meanBits 3 = .ok (.invokevirtual 125, 3) := by decide +kernel
theorem dL_meanBits_6 : decode cL_meanBits 6 = .ok (.lastore, 1) := by decide +kernel
theorem dL_meanBits_7 : decode cL_meanBits 7 = .ok (.goto 6, 3) := by decide +kernel
theorem dL_meanBits_10 : decode cL_meanBits 10 = .ok (.astore_n 2, 1) := by decide +kernel
theorem dL_meanBits_11 : decode cL_meanBits 11 = .ok (.iconst 1, 1) := by decide +kernel
theorem dL_meanBits_12 : decode cL_meanBits 12 = .ok (.ireturn, 1) := by decide +kernel
theorem dL_meanBits_13 : decode cL_meanBits 13 = .ok (.iconst 0, 1) := by decide +kernel
theorem dL_meanBits_14 : decode cL_meanBits 14 = .ok (.ireturn, 1) := by decide +kernel
theorem dL_undo_0 : decode cL_undo 0 = .ok (.aload_n 1, 1) := by decide +kernel
theorem dL_undo_1 : decode cL_undo 1 = .ok (.iconst 0, 1) := by decide +kernel
theorem dL_undo_2 : decode cL_undo 2 = .ok (.aload_n 0, 1) := by decide +kernel
theorem dL_undo_3 : decode cL_undo 3 = .ok (.invokevirtual 131, 3) := by decide +kernel
theorem dL_undo_6 : decode cL_undo 6 = .ok (.i2l, 1) := by decide +kernel
theorem dL_undo_7 : decode cL_undo 7 = .ok (.lastore, 1) := by decide +kernel
theorem dL_undo_8 : decode cL_undo 8 = .ok (.goto 6, 3) := by decide +kernel
theorem dL_undo_11 : decode cL_undo 11 = .ok (.astore_n 2, 1) := by decide +kernel
theorem dL_undo_12 : decode cL_undo 12 = .ok (.iconst 1, 1) := by decide +kernel
theorem dL_undo_13 : decode cL_undo 13 = .ok (.ireturn, 1) := by decide +kernel
theorem dL_undo_14 : decode cL_undo 14 = .ok (.iconst 0, 1) := by decide +kernel
theorem dL_undo_15 : decode cL_undo 15 = .ok (.ireturn, 1) := by decide +kernel
theorem dL_restore_0 : decode cL_restore 0 = .ok (.aload_n 1, 1) := by decide +kernel
theorem dL_restore_1 : decode cL_restore 1 = .ok (.iconst 0, 1) := by decide +kernel
theorem dL_restore_2 : decode cL_restore 2 = .ok (.aload_n 0, 1) := by decide +kernel
theorem dL_restore_3 : decode cL_restore 3 = .ok (.invokevirtual 134, 3) := by decide +kernel
theorem dL_restore_6 : decode cL_restore 6 = .ok (.i2l, 1) := by decide +kernel
theorem dL_restore_7 : decode cL_restore 7 = .ok (.lastore, 1) := by decide +kernel
theorem dL_restore_8 : decode cL_restore 8 = .ok (.goto 6, 3) := by decide +kernel
theorem dL_restore_11 : decode cL_restore 11 = .ok (.astore_n 2, 1) := by decide +kernel
theorem dL_restore_12 : decode cL_restore 12 = .ok (.iconst 1, 1) := by decide +kernel
theorem dL_restore_13 : decode cL_restore 13 = .ok (.ireturn, 1) := by decide +kernel
theorem dL_restore_14 : decode cL_restore 14 = .ok (.iconst 0, 1) := by decide +kernel
theorem dL_restore_15 : decode cL_restore 15 = .ok (.ireturn, 1) := by decide +kernel
