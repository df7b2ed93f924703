theorem dX3_init_0 : decode cX3_init 0 = .ok (.aload_n 0, 1) := by decide +kernel
theorem dX3_init_1 : decode cX3_init 1 = .ok (.invokespecial 1, 3) := by decide +kernel
theorem dX3_init_4 : decode cX3_init 4 = .ok (.aload_n 0, 1) := by decide +kernel
theorem dX3_init_5 : decode cX3_init 5 = .ok (.bipush 81, 2) := by decide +kernel
theorem dX3_init_7 : decode cX3_init 7 = .ok (.newarray .int, 2) := by decide +kernel
theorem dX3_init_9 : decode cX3_init 9 = .ok (.putfield 7, 3) := by decide +kernel
theorem dX3_init_12 : decode cX3_init 12 = .ok (.aload_n 0, 1) := by decide +kernel
theorem dX3_init_13 : decode cX3_init 13 = .ok (.bipush 81, 2) := by decide +kernel
theorem dX3_init_15 : decode cX3_init 15 = .ok (.newarray .long, 2) := by decide +kernel
theorem dX3_init_17 : decode cX3_init 17 = .ok (.putfield 13, 3) := by decide +kernel
theorem dX3_init_20 : decode cX3_init 20 = .ok (.aload_n 0, 1) := by decide +kernel
theorem dX3_init_21 : decode cX3_init 21 = .ok (.bipush 81, 2) := by decide +kernel
theorem dX3_init_23 : decode cX3_init 23 = .ok (.newarray .int, 2) := by decide +kernel
theorem dX3_init_25 : decode cX3_init 25 = .ok (.putfield 17, 3) := by decide +kernel
theorem dX3_init_28 : decode cX3_init 28 = .ok (.aload_n 0, 1) := by decide +kernel
theorem dX3_init_29 : decode cX3_init 29 = .ok (.bipush 81, 2) := by decide +kernel
theorem dX3_init_31 : decode cX3_init 31 = .ok (.newarray .int, 2) := by decide +kernel
theorem dX3_init_33 : decode cX3_init 33 = .ok (.putfield 20, 3) := by decide +kernel
theorem dX3_init_36 : decode cX3_init 36 = .ok (.aload_n 0, 1) := by decide +kernel
theorem dX3_init_37 : decode cX3_init 37 = .ok (.bipush 81, 2) := by decide +kernel
theorem dX3_init_39 : decode cX3_init 39 = .ok (.newarray .int, 2) := by decide +kernel
theorem dX3_init_41 : decode cX3_init 41 = .ok (.putfield 23, 3) := by decide +kernel
theorem dX3_init_44 : decode cX3_init 44 = .ok (.aload_n 0, 1) := by decide +kernel
theorem dX3_init_45 : decode cX3_init 45 = .ok (.bipush 81, 2) := by decide +kernel
theorem dX3_init_47 : decode cX3_init 47 = .ok (.newarray .int, 2) := by decide +kernel
theorem dX3_init_49 : decode cX3_init 49 = .ok (.putfield 26, 3) := by decide +kernel
theorem dX3_init_52 : decode cX3_init 52 = .ok (.aload_n 0, 1) := by decide +kernel
theorem dX3_init_53 : decode cX3_init 53 = .ok (.bipush 81, 2) := by decide +kernel
theorem dX3_init_55 : decode cX3_init 55 = .ok (.newarray .boolean, 2) := by decide +kernel
theorem dX3_init_57 : decode cX3_init 57 = .ok (.putfield 29, 3) := by decide +kernel
theorem dX3_init_60 : decode cX3_init 60 = .ok (.aload_n 0, 1) := by decide +kernel
theorem dX3_init_61 : decode cX3_init 61 = .ok (.bipush 81, 2) := by decide +kernel
theorem dX3_init_63 : decode cX3_init 63 = .ok (.newarray .int, 2) := by decide +kernel
theorem dX3_init_65 : decode cX3_init 65 = .ok (.putfield 33, 3) := by decide +kernel
theorem dX3_init_68 : decode cX3_init 68 = .ok (.aload_n 0, 1) := by decide +kernel
theorem dX3_init_69 : decode cX3_init 69 = .ok (.bipush 81, 2) := by decide +kernel
theorem dX3_init_71 : decode cX3_init 71 = .ok (.newarray .int, 2) := by decide +kernel
theorem dX3_init_73 : decode cX3_init 73 = .ok (.putfield 36, 3) := by decide +kernel
theorem dX3_init_76 : decode cX3_init 76 = .ok (.aload_n 0, 1) := by decide +kernel
theorem dX3_init_77 : decode cX3_init 77 = .ok (.bipush 60, 2) := by decide +kernel
theorem dX3_init_79 : decode cX3_init 79 = .ok (.newarray .boolean, 2) := by decide +kernel
theorem dX3_init_81 : decode cX3_init 81 = .ok (.putfield 39, 3) := by decide +kernel
theorem dX3_init_84 : decode cX3_init 84 = .ok (.aload_n 0, 1) := by decide +kernel
theorem dX3_init_85 : decode cX3_init 85 = .ok (.bipush 6, 2) := by decide +kernel
theorem dX3_init_87 : decode cX3_init 87 = .ok (.newarray .int, 2) := by decide +kernel
theorem dX3_init_89 : decode cX3_init 89 = .ok (.putfield 42, 3) := by decide +kernel
theorem dX3_init_92 : decode cX3_init 92 = .ok (.aload_n 0, 1) := by decide +kernel
theorem dX3_init_93 : decode cX3_init 93 = .ok (.sipush 5000, 3) := by decide +kernel
theorem dX3_init_96 : decode cX3_init 96 = .ok (.newarray .int, 2) := by decide +kernel
theorem dX3_init_98 : decode cX3_init 98 = .ok (.putfield 45, 3) := by decide +kernel
theorem dX3_init_101 : decode cX3_init 101 = .ok (.aload_n 0, 1) := by decide +kernel
theorem dX3_init_102 : decode cX3_init 102 = .ok (.sipush 5000, 3) := by decide +kernel
theorem dX3_init_105 : decode cX3_init 105 = .ok (.newarray .int, 2) := by decide +kernel
theorem dX3_init_107 : decode cX3_init 107 = .ok (.putfield 48, 3) := by decide +kernel
theorem dX3_init_110 : decode cX3_init 110 = .ok (.aload_n 0, 1) := by decide +kernel
theorem dX3_init_111 : decode cX3_init 111 = .ok (.sipush 5000, 3) := by decide +kernel
theorem dX3_init_114 : decode cX3_init 114 = .ok (.newarray .boolean, 2) := by decide +kernel
theorem dX3_init_116 : decode cX3_init 116 = .ok (.putfield 51, 3) := by decide +kernel
theorem dX3_init_119 : decode cX3_init 119 = .ok (.aload_n 0, 1) := by decide +kernel
theorem dX3_init_120 : decode cX3_init 120 = .ok (.sipush 5000, 3) := by decide +kernel
theorem dX3_init_123 : decode cX3_init 123 = .ok (.newarray .long, 2) := by decide +kernel
theorem dX3_init_125 : decode cX3_init 125 = .ok (.putfield 54, 3) := by decide +kernel
theorem dX3_init_128 : decode cX3_init 128 = .ok (.return_, 1) := by decide +kernel
theorem dX3_check_0 : decode cX3_check 0 = .ok (.aload_n 0, 1) := by decide +kernel
theorem dX3_check_1 : decode cX3_check 1 = .ok (.iconst 0, 1) := by decide +kernel
theorem dX3_check_2 : decode cX3_check 2 = .ok (.putfield 57, 3) := by decide +kernel
theorem dX3_check_5 : decode cX3_check 5 = .ok (.iload_n 3, 1) := by decide +kernel
theorem dX3_check_6 : decode cX3_check 6 = .ok (.iconst 1, 1) := by decide +kernel
theorem dX3_check_7 : decode cX3_check 7 = .ok (.if_icmp .lt 24, 3) := by decide +kernel
theorem dX3_check_10 : decode cX3_check 10 = .ok (.iload_n 3, 1) := by decide +kernel
theorem dX3_check_11 : decode cX3_check 11 = .ok (.bipush 12, 2) := by decide +kernel
theorem dX3_check_13 : decode cX3_check 13 = .ok (.if_icmp .gt 18, 3) := by decide +kernel
theorem dX3_check_16 : decode cX3_check 16 = .ok (.lload_n 1, 1) := by decide +kernel
theorem dX3_check_17 : decode cX3_check 17 = .ok (.lconst 0, 1) := by decide +kernel
theorem dX3_check_18 : decode cX3_check 18 = .ok (.lcmp, 1) := by decide +kernel
theorem dX3_check_19 : decode cX3_check 19 = .ok (.ifCond .lt 12, 3) := by decide +kernel
theorem dX3_check_22 : decode cX3_check 22 = .ok (.lload_n 1, 1) := by decide +kernel
theorem dX3_check_23 : decode cX3_check 23 = .ok (.iload_n 3, 1) := by decide +kernel
theorem dX3_check_24 : decode cX3_check 24 = .ok (.invokestatic 63, 3) := by decide +kernel
theorem dX3_check_27 : decode cX3_check 27 = .ok (.lcmp, 1) := by decide +kernel
theorem dX3_check_28 : decode cX3_check 28 = .ok (.ifCond .lt 7, 3) := by decide +kernel
theorem dX3_check_31 : decode cX3_check 31 = .ok (.iconst (-1), 1) := by decide +kernel
theorem dX3_check_32 : decode cX3_check 32 = .ok (.goto 7, 3) := by decide +kernel
theorem dX3_check_35 : decode cX3_check 35 = .ok (.lload_n 1, 1) := by decide +kernel
theorem dX3_check_36 : decode cX3_check 36 = .ok (.invokestatic 67, 3) := by decide +kernel
theorem dX3_check_39 : decode cX3_check 39 = .ok (.ireturn, 1) := by decide +kernel
theorem dX3_ten_0 : decode cX3_ten 0 = .ok (.lconst 1, 1) := by decide +kernel
theorem dX3_ten_1 : decode cX3_ten 1 = .ok (.lstore_n 1, 1) := by decide +kernel
theorem dX3_ten_2 : decode cX3_ten 2 = .ok (.iconst 0, 1) := by decide +kernel
theorem dX3_ten_3 : decode cX3_ten 3 = .ok (.istore_n 3, 1) := by decide +kernel
theorem dX3_ten_4 : decode cX3_ten 4 = .ok (.iload_n 3, 1) := by decide +kernel
theorem dX3_ten_5 : decode cX3_ten 5 = .ok (.iload_n 0, 1) := by decide +kernel
theorem dX3_ten_6 : decode cX3_ten 6 = .ok (.if_icmp .ge 15, 3) := by decide +kernel
theorem dX3_ten_9 : decode cX3_ten 9 = .ok (.ldc2_w 61, 3) := by decide +kernel
theorem dX3_ten_12 : decode cX3_ten 12 = .ok (.lload_n 1, 1) := by decide +kernel
theorem dX3_ten_13 : decode cX3_ten 13 = .ok (.lmul, 1) := by decide +kernel
theorem dX3_ten_14 : decode cX3_ten 14 = .ok (.lstore_n 1, 1) := by decide +kernel
theorem dX3_ten_15 : decode cX3_ten 15 = .ok (.iinc 3 1, 3) := by decide +kernel
theorem dX3_ten_18 : decode cX3_ten 18 = .ok (.goto (-14), 3) := by decide +kernel
theorem dX3_ten_21 : decode cX3_ten 21 = .ok (.lload_n 1, 1) := by decide +kernel
theorem dX3_ten_22 : decode cX3_ten 22 = .ok (.lreturn, 1) := by decide +kernel
theorem dX3_sign_0 : decode cX3_sign 0 = .ok (.iconst 0, 1) := by decide +kernel
theorem dX3_sign_1 : decode cX3_sign 1 = .ok (.istore_n 2, 1) := by decide +kernel
theorem dX3_sign_2 : decode cX3_sign 2 = .ok (.iconst 1, 1) := by decide +kernel
theorem dX3_sign_3 : decode cX3_sign 3 = .ok (.istore_n 3, 1) := by decide +kernel
theorem dX3_sign_4 : decode cX3_sign 4 = .ok (.lload_n 0, 1) := by decide +kernel
theorem dX3_sign_5 : decode cX3_sign 5 = .ok (.lstore 4, 2) := by decide +kernel
theorem dX3_sign_7 : decode cX3_sign 7 = .ok (.lload 4, 2) := by decide +kernel
theorem dX3_sign_9 : decode cX3_sign 9 = .ok (.lconst 0, 1) := by decide +kernel
theorem dX3_sign_10 : decode cX3_sign 10 = .ok (.lcmp, 1) := by decide +kernel
theorem dX3_sign_11 : decode cX3_sign 11 = .ok (.ifCond .le 68, 3) := by decide +kernel
theorem dX3_sign_14 : decode cX3_sign 14 = .ok (.lload 4, 2) := by decide +kernel
theorem dX3_sign_16 : decode cX3_sign 16 = .ok (.ldc2_w 61, 3) := by decide +kernel
theorem dX3_sign_19 : decode cX3_sign 19 = .ok (.lrem, 1) := by decide +kernel
theorem dX3_sign_20 : decode cX3_sign 20 = .ok (.l2i, 1) := by decide +kernel
theorem dX3_sign_21 : decode cX3_sign 21 = .ok (.istore 6, 2) := by decide +kernel
theorem dX3_sign_23 : decode cX3_sign 23 = .ok (.iload_n 3, 1) := by decide +kernel
theorem dX3_sign_24 : decode cX3_sign 24 = .ok (.ifCond .eq 10, 3) := by decide +kernel
theorem dX3_sign_27 : decode cX3_sign 27 = .ok (.iconst 2, 1) := by decide +kernel
theorem dX3_sign_28 : decode cX3_sign 28 = .ok (.iload 6, 2) := by decide +kernel
theorem dX3_sign_30 : decode cX3_sign 30 = .ok (.imul, 1) := by decide +kernel
theorem dX3_sign_31 : decode cX3_sign 31 = .ok (.goto 5, 3) := by decide +kernel
theorem dX3_sign_34 : decode cX3_sign 34 = .ok (.iload 6, 2) := by decide +kernel
theorem dX3_sign_36 : decode cX3_sign 36 = .ok (.istore 7, 2) := by decide +kernel
theorem dX3_sign_38 : decode cX3_sign 38 = .ok (.iload_n 2, 1) := by decide +kernel
theorem dX3_sign_39 : decode cX3_sign 39 = .ok (.iload 7, 2) := by decide +kernel
theorem dX3_sign_41 : decode cX3_sign 41 = .ok (.bipush 9, 2) := by decide +kernel
theorem dX3_sign_43 : decode cX3_sign 43 = .ok (.if_icmp .le 11, 3) := by decide +kernel
theorem dX3_sign_46 : decode cX3_sign 46 = .ok (.iload 7, 2) := by decide +kernel
theorem dX3_sign_48 : decode cX3_sign 48 = .ok (.bipush 9, 2) := by decide +kernel
theorem dX3_sign_50 : decode cX3_sign 50 = .ok (.isub, 1) := by decide +kernel
theorem dX3_sign_51 : decode cX3_sign 51 = .ok (.goto 5, 3) := by decide +kernel
theorem dX3_sign_54 : decode cX3_sign 54 = .ok (.iload 7, 2) := by decide +kernel
theorem dX3_sign_56 : decode cX3_sign 56 = .ok (.iadd, 1) := by decide +kernel
theorem dX3_sign_57 : decode cX3_sign 57 = .ok (.istore_n 2, 1) := by decide +kernel
theorem dX3_sign_58 : decode cX3_sign 58 = .ok (.iload_n 3, 1) := by decide +kernel
theorem dX3_sign_59 : decode cX3_sign 59 = .ok (.ifCond .ne 7, 3) := by decide +kernel
theorem dX3_sign_62 : decode cX3_sign 62 = .ok (.iconst 1, 1) := by decide +kernel
theorem dX3_sign_63 : decode cX3_sign 63 = .ok (.goto 4, 3) := by decide +kernel
theorem dX3_sign_66 : decode cX3_sign 66 = .ok (.iconst 0, 1) := by decide +kernel
theorem dX3_sign_67 : decode cX3_sign 67 = .ok (.istore_n 3, 1) := by decide +kernel
theorem dX3_sign_68 : decode cX3_sign 68 = .ok (.lload 4, 2) := by decide +kernel
theorem dX3_sign_70 : decode cX3_sign 70 = .ok (.ldc2_w 61, 3) := by decide +kernel
theorem dX3_sign_73 : decode cX3_sign 73 = .ok (.ldiv, 1) := by decide +kernel
theorem dX3_sign_74 : decode cX3_sign 74 = .ok (.lstore 4, 2) := by decide +kernel
theorem dX3_sign_76 : decode cX3_sign 76 = .ok (.goto (-69), 3) := by decide +kernel
theorem dX3_sign_79 : decode cX3_sign 79 = .ok (.bipush 10, 2) := by decide +kernel
theorem dX3_sign_81 : decode cX3_sign 81 = .ok (.iload_n 2, 1) := by decide +kernel
theorem dX3_sign_82 : decode cX3_sign 82 = .ok (.bipush 10, 2) := by decide +kernel
theorem dX3_sign_84 : decode cX3_sign 84 = .ok (.irem, 1) := by decide +kernel
theorem dX3_sign_85 : decode cX3_sign 85 = .ok (.isub, 1) := by decide +kernel
theorem dX3_sign_86 : decode cX3_sign 86 = .ok (.bipush 10, 2) := by decide +kernel
theorem dX3_sign_88 : decode cX3_sign 88 = .ok (.irem, 1) := by decide +kernel
theorem dX3_sign_89 : decode cX3_sign 89 = .ok (.ireturn, 1) := by decide +kernel
theorem dX3_copy_0 : decode cX3_copy 0 = .ok (.aload_n 0, 1) := by decide +kernel
theorem dX3_copy_1 : decode cX3_copy 1 = .ok (.iconst 0, 1) := by decide +kernel
theorem dX3_copy_2 : decode cX3_copy 2 = .ok (.putfield 57, 3) := by decide +kernel
theorem dX3_copy_5 : decode cX3_copy 5 = .ok (.iload_n 1, 1) := by decide +kernel
theorem dX3_copy_6 : decode cX3_copy 6 = .ok (.ifCond .lt 69, 3) := by decide +kernel
theorem dX3_copy_9 : decode cX3_copy 9 = .ok (.iload_n 1, 1) := by decide +kernel
theorem dX3_copy_10 : decode cX3_copy 10 = .ok (.iconst 5, 1) := by decide +kernel
theorem dX3_copy_11 : decode cX3_copy 11 = .ok (.if_icmp .gt 64, 3) := by decide +kernel
theorem dX3_copy_14 : decode cX3_copy 14 = .ok (.iload 5, 2) := by decide +kernel
theorem dX3_copy_16 : decode cX3_copy 16 = .ok (.ifCond .lt 59, 3) := by decide +kernel
theorem dX3_copy_19 : decode cX3_copy 19 = .ok (.iload 5, 2) := by decide +kernel
theorem dX3_copy_21 : decode cX3_copy 21 = .ok (.bipush 9, 2) := by decide +kernel
theorem dX3_copy_23 : decode cX3_copy 23 = .ok (.if_icmp .gt 52, 3) := by decide +kernel
theorem dX3_copy_26 : decode cX3_copy 26 = .ok (.iload 4, 2) := by decide +kernel
theorem dX3_copy_28 : decode cX3_copy 28 = .ok (.iconst 1, 1) := by decide +kernel
theorem dX3_copy_29 : decode cX3_copy 29 = .ok (.if_icmp .lt 46, 3) := by decide +kernel
theorem dX3_copy_32 : decode cX3_copy 32 = .ok (.iload 4, 2) := by decide +kernel
theorem dX3_copy_34 : decode cX3_copy 34 = .ok (.bipush 12, 2) := by decide +kernel
theorem dX3_copy_36 : decode cX3_copy 36 = .ok (.if_icmp .gt 39, 3) := by decide +kernel
theorem dX3_copy_39 : decode cX3_copy 39 = .ok (.lload_n 2, 1) := by decide +kernel
theorem dX3_copy_40 : decode cX3_copy 40 = .ok (.lconst 0, 1) := by decide +kernel
theorem dX3_copy_41 : decode cX3_copy 41 = .ok (.lcmp, 1) := by decide +kernel
theorem dX3_copy_42 : decode cX3_copy 42 = .ok (.ifCond .lt 33, 3) := by decide +kernel
theorem dX3_copy_45 : decode cX3_copy 45 = .ok (.lload_n 2, 1) := by decide +kernel
theorem dX3_copy_46 : decode cX3_copy 46 = .ok (.iload 4, 2) := by decide +kernel
theorem dX3_copy_48 : decode cX3_copy 48 = .ok (.iconst 1, 1) := by decide +kernel
theorem dX3_copy_49 : decode cX3_copy 49 = .ok (.iadd, 1) := by decide +kernel
theorem dX3_copy_50 : decode cX3_copy 50 = .ok (.invokestatic 63, 3) := by decide +kernel
theorem dX3_copy_53 : decode cX3_copy 53 = .ok (.lcmp, 1) := by decide +kernel
theorem dX3_copy_54 : decode cX3_copy 54 = .ok (.ifCond .ge 21, 3) := by decide +kernel
theorem dX3_copy_57 : decode cX3_copy 57 = .ok (.lload_n 2, 1) := by decide +kernel
theorem dX3_copy_58 : decode cX3_copy 58 = .ok (.ldc2_w 61, 3) := by decide +kernel
theorem dX3_copy_61 : decode cX3_copy 61 = .ok (.ldiv, 1) := by decide +kernel
theorem dX3_copy_62 : decode cX3_copy 62 = .ok (.invokestatic 67, 3) := by decide +kernel
theorem dX3_copy_65 : decode cX3_copy 65 = .ok (.i2l, 1) := by decide +kernel
theorem dX3_copy_66 : decode cX3_copy 66 = .ok (.lload_n 2, 1) := by decide +kernel
theorem dX3_copy_67 : decode cX3_copy 67 = .ok (.ldc2_w 61, 3) := by decide +kernel
theorem dX3_copy_70 : decode cX3_copy 70 = .ok (.lrem, 1) := by decide +kernel
theorem dX3_copy_71 : decode cX3_copy 71 = .ok (.lcmp, 1) := by decide +kernel
theorem dX3_copy_72 : decode cX3_copy 72 = .ok (.ifCond .eq 5, 3) := by decide +kernel
theorem dX3_copy_75 : decode cX3_copy 75 = .ok (.iconst (-1), 1) := by decide +kernel
theorem dX3_copy_76 : decode cX3_copy 76 = .ok (.ireturn, 1) := by decide +kernel
theorem dX3_copy_77 : decode cX3_copy 77 = .ok (.iconst 1, 1) := by decide +kernel
theorem dX3_copy_78 : decode cX3_copy 78 = .ok (.istore 6, 2) := by decide +kernel
theorem dX3_copy_80 : decode cX3_copy 80 = .ok (.iload 6, 2) := by decide +kernel
theorem dX3_copy_82 : decode cX3_copy 82 = .ok (.aload_n 0, 1) := by decide +kernel
theorem dX3_copy_83 : decode cX3_copy 83 = .ok (.getfield 71, 3) := by decide +kernel
theorem dX3_copy_86 : decode cX3_copy 86 = .ok (.if_icmp .gt 35, 3) := by decide +kernel
theorem dX3_copy_89 : decode cX3_copy 89 = .ok (.aload_n 0, 1) := by decide +kernel
theorem dX3_copy_90 : decode cX3_copy 90 = .ok (.getfield 13, 3) := by decide +kernel
theorem dX3_copy_93 : decode cX3_copy 93 = .ok (.iload 6, 2) := by decide +kernel
theorem dX3_copy_95 : decode cX3_copy 95 = .ok (.laload, 1) := by decide +kernel
theorem dX3_copy_96 : decode cX3_copy 96 = .ok (.lload_n 2, 1) := by decide +kernel
theorem dX3_copy_97 : decode cX3_copy 97 = .ok (.lcmp, 1) := by decide +kernel
theorem dX3_copy_98 : decode cX3_copy 98 = .ok (.ifCond .ne 17, 3) := by decide +kernel
theorem dX3_copy_101 : decode cX3_copy 101 = .ok (.aload_n 0, 1) := by decide +kernel
theorem dX3_copy_102 : decode cX3_copy 102 = .ok (.getfield 17, 3) := by decide +kernel
theorem dX3_copy_105 : decode cX3_copy 105 = .ok (.iload 6, 2) := by decide +kernel
theorem dX3_copy_107 : decode cX3_copy 107 = .ok (.iaload, 1) := by decide +kernel
theorem dX3_copy_108 : decode cX3_copy 108 = .ok (.iload 4, 2) := by decide +kernel
theorem dX3_copy_110 : decode cX3_copy 110 = .ok (.if_icmp .ne 5, 3) := by decide +kernel
theorem dX3_copy_113 : decode cX3_copy 113 = .ok (.iconst (-1), 1) := by decide +kernel
theorem dX3_copy_114 : decode cX3_copy 114 = .ok (.ireturn, 1) := by decide +kernel
theorem dX3_copy_115 : decode cX3_copy 115 = .ok (.iinc 6 1, 3) := by decide +kernel
theorem dX3_copy_118 : decode cX3_copy 118 = .ok (.goto (-38), 3) := by decide +kernel
theorem dX3_copy_121 : decode cX3_copy 121 = .ok (.aload_n 0, 1) := by decide +kernel
theorem dX3_copy_122 : decode cX3_copy 122 = .ok (.getfield 71, 3) := by decide +kernel
theorem dX3_copy_125 : decode cX3_copy 125 = .ok (.bipush 80, 2) := by decide +kernel
theorem dX3_copy_127 : decode cX3_copy 127 = .ok (.if_icmp .ne 5, 3) := by decide +kernel
theorem dX3_copy_130 : decode cX3_copy 130 = .ok (.iconst (-1), 1) := by decide +kernel
theorem dX3_copy_131 : decode cX3_copy 131 = .ok (.ireturn, 1) := by decide +kernel
theorem dX3_copy_132 : decode cX3_copy 132 = .ok (.aload_n 0, 1) := by decide +kernel
theorem dX3_copy_133 : decode cX3_copy 133 = .ok (.getfield 39, 3) := by decide +kernel
theorem dX3_copy_136 : decode cX3_copy 136 = .ok (.bipush 6, 2) := by decide +kernel
theorem dX3_copy_138 : decode cX3_copy 138 = .ok (.iload 5, 2) := by decide +kernel
theorem dX3_copy_140 : decode cX3_copy 140 = .ok (.imul, 1) := by decide +kernel
theorem dX3_copy_141 : decode cX3_copy 141 = .ok (.iload_n 1, 1) := by decide +kernel
theorem dX3_copy_142 : decode cX3_copy 142 = .ok (.iadd, 1) := by decide +kernel
theorem dX3_copy_143 : decode cX3_copy 143 = .ok (.baload, 1) := by decide +kernel
theorem dX3_copy_144 : decode cX3_copy 144 = .ok (.ifCond .eq 6, 3) := by decide +kernel
theorem dX3_copy_147 : decode cX3_copy 147 = .ok (.bipush (-3), 2) := by decide +kernel
theorem dX3_copy_149 : decode cX3_copy 149 = .ok (.ireturn, 1) := by decide +kernel
theorem dX3_copy_150 : decode cX3_copy 150 = .ok (.aload_n 0, 1) := by decide +kernel
theorem dX3_copy_151 : decode cX3_copy 151 = .ok (.dup, 1) := by decide +kernel
theorem dX3_copy_152 : decode cX3_copy 152 = .ok (.getfield 71, 3) := by decide +kernel
theorem dX3_copy_155 : decode cX3_copy 155 = .ok (.iconst 1, 1) := by decide +kernel
theorem dX3_copy_156 : decode cX3_copy 156 = .ok (.iadd, 1) := by decide +kernel
theorem dX3_copy_157 : decode cX3_copy 157 = .ok (.putfield 71, 3) := by decide +kernel
theorem dX3_copy_160 : decode cX3_copy 160 = .ok (.aload_n 0, 1) := by decide +kernel
theorem dX3_copy_161 : decode cX3_copy 161 = .ok (.getfield 7, 3) := by decide +kernel
theorem dX3_copy_164 : decode cX3_copy 164 = .ok (.aload_n 0, 1) := by decide +kernel
theorem dX3_copy_165 : decode cX3_copy 165 = .ok (.getfield 71, 3) := by decide +kernel
theorem dX3_copy_168 : decode cX3_copy 168 = .ok (.iload_n 1, 1) := by decide +kernel
theorem dX3_copy_169 : decode cX3_copy 169 = .ok (.iastore, 1) := by decide +kernel
theorem dX3_copy_170 : decode cX3_copy 170 = .ok (.aload_n 0, 1) := by decide +kernel
theorem dX3_copy_171 : decode cX3_copy 171 = .ok (.getfield 13, 3) := by decide +kernel
theorem dX3_copy_174 : decode cX3_copy 174 = .ok (.aload_n 0, 1) := by decide +kernel
theorem dX3_copy_175 : decode cX3_copy 175 = .ok (.getfield 71, 3) := by decide +kernel
theorem dX3_copy_178 : decode cX3_copy 178 = .ok (.lload_n 2, 1) := by decide +kernel
theorem dX3_copy_179 : decode cX3_copy 179 = .ok (.lastore, 1) := by decide +kernel
theorem dX3_copy_180 : decode cX3_copy 180 = .ok (.aload_n 0, 1) := by decide +kernel
theorem dX3_copy_181 : decode cX3_copy 181 = .ok (.getfield 17, 3) := by decide +kernel
theorem dX3_copy_184 : decode cX3_copy 184 = .ok (.aload_n 0, 1) := by decide +kernel
theorem dX3_copy_185 : decode cX3_copy 185 = .ok (.getfield 71, 3) := by decide +kernel
theorem dX3_copy_188 : decode cX3_copy 188 = .ok (.iload 4, 2) := by decide +kernel
theorem dX3_copy_190 : decode cX3_copy 190 = .ok (.iastore, 1) := by decide +kernel
theorem dX3_copy_191 : decode cX3_copy 191 = .ok (.aload_n 0, 1) := by decide +kernel
theorem dX3_copy_192 : decode cX3_copy 192 = .ok (.getfield 20, 3) := by decide +kernel
theorem dX3_copy_195 : decode cX3_copy 195 = .ok (.aload_n 0, 1) := by decide +kernel
theorem dX3_copy_196 : decode cX3_copy 196 = .ok (.getfield 71, 3) := by decide +kernel
theorem dX3_copy_199 : decode cX3_copy 199 = .ok (.iload 5, 2) := by decide +kernel
theorem dX3_copy_201 : decode cX3_copy 201 = .ok (.iastore, 1) := by decide +kernel
theorem dX3_copy_202 : decode cX3_copy 202 = .ok (.aload_n 0, 1) := by decide +kernel
theorem dX3_copy_203 : decode cX3_copy 203 = .ok (.getfield 23, 3) := by decide +kernel
theorem dX3_copy_206 : decode cX3_copy 206 = .ok (.aload_n 0, 1) := by decide +kernel
theorem dX3_copy_207 : decode cX3_copy 207 = .ok (.getfield 71, 3) := by decide +kernel
theorem dX3_copy_210 : decode cX3_copy 210 = .ok (.iload 5, 2) := by decide +kernel
theorem dX3_copy_212 : decode cX3_copy 212 = .ok (.iastore, 1) := by decide +kernel
theorem dX3_copy_213 : decode cX3_copy 213 = .ok (.aload_n 0, 1) := by decide +kernel
theorem dX3_copy_214 : decode cX3_copy 214 = .ok (.getfield 26, 3) := by decide +kernel
theorem dX3_copy_217 : decode cX3_copy 217 = .ok (.aload_n 0, 1) := by decide +kernel
theorem dX3_copy_218 : decode cX3_copy 218 = .ok (.getfield 71, 3) := by decide +kernel
theorem dX3_copy_221 : decode cX3_copy 221 = .ok (.iconst 3, 1) := by decide +kernel
theorem dX3_copy_222 : decode cX3_copy 222 = .ok (.iastore, 1) := by decide +kernel
theorem dX3_copy_223 : decode cX3_copy 223 = .ok (.aload_n 0, 1) := by decide +kernel
theorem dX3_copy_224 : decode cX3_copy 224 = .ok (.getfield 33, 3) := by decide +kernel
theorem dX3_copy_227 : decode cX3_copy 227 = .ok (.aload_n 0, 1) := by decide +kernel
theorem dX3_copy_228 : decode cX3_copy 228 = .ok (.getfield 71, 3) := by decide +kernel
theorem dX3_copy_231 : decode cX3_copy 231 = .ok (.iconst (-1), 1) := by decide +kernel
theorem dX3_copy_232 : decode cX3_copy 232 = .ok (.iastore, 1) := by decide +kernel
theorem dX3_copy_233 : decode cX3_copy 233 = .ok (.aload_n 0, 1) := by decide +kernel
theorem dX3_copy_234 : decode cX3_copy 234 = .ok (.getfield 71, 3) := by decide +kernel
theorem dX3_copy_237 : decode cX3_copy 237 = .ok (.ireturn, 1) := by decide +kernel
theorem dX3_right_0 : decode cX3_right 0 = .ok (.aload_n 0, 1) := by decide +kernel
theorem dX3_right_1 : decode cX3_right 1 = .ok (.iconst 0, 1) := by decide +kernel
theorem dX3_right_2 : decode cX3_right 2 = .ok (.putfield 57, 3) := by decide +kernel
theorem dX3_right_5 : decode cX3_right 5 = .ok (.iload_n 1, 1) := by decide +kernel
theorem dX3_right_6 : decode cX3_right 6 = .ok (.ifCond .lt 18, 3) := by decide +kernel
theorem dX3_right_9 : decode cX3_right 9 = .ok (.iload_n 1, 1) := by decide +kernel
theorem dX3_right_10 : decode cX3_right 10 = .ok (.bipush 9, 2) := by decide +kernel
theorem dX3_right_12 : decode cX3_right 12 = .ok (.if_icmp .gt 12, 3) := by decide +kernel
theorem dX3_right_15 : decode cX3_right 15 = .ok (.iload_n 2, 1) := by decide +kernel
theorem dX3_right_16 : decode cX3_right 16 = .ok (.ifCond .lt 8, 3) := by decide +kernel
theorem dX3_right_19 : decode cX3_right 19 = .ok (.iload_n 2, 1) := by decide +kernel
theorem dX3_right_20 : decode cX3_right 20 = .ok (.iconst 5, 1) := by decide +kernel
theorem dX3_right_21 : decode cX3_right 21 = .ok (.if_icmp .le 5, 3) := by decide +kernel
theorem dX3_right_24 : decode cX3_right 24 = .ok (.iconst 0, 1) := by decide +kernel
theorem dX3_right_25 : decode cX3_right 25 = .ok (.ireturn, 1) := by decide +kernel
theorem dX3_right_26 : decode cX3_right 26 = .ok (.aload_n 0, 1) := by decide +kernel
theorem dX3_right_27 : decode cX3_right 27 = .ok (.getfield 39, 3) := by decide +kernel
theorem dX3_right_30 : decode cX3_right 30 = .ok (.bipush 6, 2) := by decide +kernel
theorem dX3_right_32 : decode cX3_right 32 = .ok (.iload_n 1, 1) := by decide +kernel
theorem dX3_right_33 : decode cX3_right 33 = .ok (.imul, 1) := by decide +kernel
theorem dX3_right_34 : decode cX3_right 34 = .ok (.iload_n 2, 1) := by decide +kernel
theorem dX3_right_35 : decode cX3_right 35 = .ok (.iadd, 1) := by decide +kernel
theorem dX3_right_36 : decode cX3_right 36 = .ok (.baload, 1) := by decide +kernel
theorem dX3_right_37 : decode cX3_right 37 = .ok (.ifCond .ne 7, 3) := by decide +kernel
theorem dX3_right_40 : decode cX3_right 40 = .ok (.iconst 1, 1) := by decide +kernel
theorem dX3_right_41 : decode cX3_right 41 = .ok (.goto 4, 3) := by decide +kernel
theorem dX3_right_44 : decode cX3_right 44 = .ok (.iconst 0, 1) := by decide +kernel
theorem dX3_right_45 : decode cX3_right 45 = .ok (.istore 4, 2) := by decide +kernel
theorem dX3_right_47 : decode cX3_right 47 = .ok (.aload_n 0, 1) := by decide +kernel
theorem dX3_right_48 : decode cX3_right 48 = .ok (.getfield 39, 3) := by decide +kernel
theorem dX3_right_51 : decode cX3_right 51 = .ok (.bipush 6, 2) := by decide +kernel
theorem dX3_right_53 : decode cX3_right 53 = .ok (.iload_n 1, 1) := by decide +kernel
theorem dX3_right_54 : decode cX3_right 54 = .ok (.imul, 1) := by decide +kernel
theorem dX3_right_55 : decode cX3_right 55 = .ok (.iload_n 2, 1) := by decide +kernel
theorem dX3_right_56 : decode cX3_right 56 = .ok (.iadd, 1) := by decide +kernel
theorem dX3_right_57 : decode cX3_right 57 = .ok (.iload_n 3, 1) := by decide +kernel
theorem dX3_right_58 : decode cX3_right 58 = .ok (.ifCond .ne 7, 3) := by decide +kernel
theorem dX3_right_61 : decode cX3_right 61 = .ok (.iconst 1, 1) := by decide +kernel
theorem dX3_right_62 : decode cX3_right 62 = .ok (.goto 4, 3) := by decide +kernel
theorem dX3_right_65 : decode cX3_right 65 = .ok (.iconst 0, 1) := by decide +kernel
theorem dX3_right_66 : decode cX3_right 66 = .ok (.bastore, 1) := by decide +kernel
theorem dX3_right_67 : decode cX3_right 67 = .ok (.iload 4, 2) := by decide +kernel
theorem dX3_right_69 : decode cX3_right 69 = .ok (.ireturn, 1) := by decide +kernel
theorem dX3_fee_0 : decode cX3_fee 0 = .ok (.aload_n 0, 1) := by decide +kernel
theorem dX3_fee_1 : decode cX3_fee 1 = .ok (.iconst 0, 1) := by decide +kernel
theorem dX3_fee_2 : decode cX3_fee 2 = .ok (.putfield 57, 3) := by decide +kernel
theorem dX3_fee_5 : decode cX3_fee 5 = .ok (.iload_n 1, 1) := by decide +kernel
theorem dX3_fee_6 : decode cX3_fee 6 = .ok (.ifCond .lt 18, 3) := by decide +kernel
theorem dX3_fee_9 : decode cX3_fee 9 = .ok (.iload_n 1, 1) := by decide +kernel
theorem dX3_fee_10 : decode cX3_fee 10 = .ok (.iconst 5, 1) := by decide +kernel
theorem dX3_fee_11 : decode cX3_fee 11 = .ok (.if_icmp .gt 13, 3) := by decide +kernel
theorem dX3_fee_14 : decode cX3_fee 14 = .ok (.iload_n 2, 1) := by decide +kernel
theorem dX3_fee_15 : decode cX3_fee 15 = .ok (.ifCond .lt 9, 3) := by decide +kernel
theorem dX3_fee_18 : decode cX3_fee 18 = .ok (.iload_n 2, 1) := by decide +kernel
theorem dX3_fee_19 : decode cX3_fee 19 = .ok (.ldc 74, 2) := by decide +kernel
theorem dX3_fee_21 : decode cX3_fee 21 = .ok (.if_icmp .le 5, 3) := by decide +kernel
theorem dX3_fee_24 : decode cX3_fee 24 = .ok (.iconst (-1), 1) := by decide +kernel
theorem dX3_fee_25 : decode cX3_fee 25 = .ok (.ireturn, 1) := by decide +kernel
theorem dX3_fee_26 : decode cX3_fee 26 = .ok (.aload_n 0, 1) := by decide +kernel
theorem dX3_fee_27 : decode cX3_fee 27 = .ok (.getfield 42, 3) := by decide +kernel
theorem dX3_fee_30 : decode cX3_fee 30 = .ok (.iload_n 1, 1) := by decide +kernel
theorem dX3_fee_31 : decode cX3_fee 31 = .ok (.iaload, 1) := by decide +kernel
theorem dX3_fee_32 : decode cX3_fee 32 = .ok (.istore_n 3, 1) := by decide +kernel
theorem dX3_fee_33 : decode cX3_fee 33 = .ok (.aload_n 0, 1) := by decide +kernel
theorem dX3_fee_34 : decode cX3_fee 34 = .ok (.getfield 42, 3) := by decide +kernel
theorem dX3_fee_37 : decode cX3_fee 37 = .ok (.iload_n 1, 1) := by decide +kernel
theorem dX3_fee_38 : decode cX3_fee 38 = .ok (.iload_n 2, 1) := by decide +kernel
theorem dX3_fee_39 : decode cX3_fee 39 = .ok (.iastore, 1) := by decide +kernel
theorem dX3_fee_40 : decode cX3_fee 40 = .ok (.iload_n 3, 1) := by decide +kernel
theorem dX3_fee_41 : decode cX3_fee 41 = .ok (.ireturn, 1) := by decide +kernel
theorem dX3_state_0 : decode cX3_state 0 = .ok (.aload_n 0, 1) := by decide +kernel
theorem dX3_state_1 : decode cX3_state 1 = .ok (.iconst 0, 1) := by decide +kernel
theorem dX3_state_2 : decode cX3_state 2 = .ok (.putfield 57, 3) := by decide +kernel
theorem dX3_state_5 : decode cX3_state 5 = .ok (.aload_n 0, 1) := by decide +kernel
theorem dX3_state_6 : decode cX3_state 6 = .ok (.iload_n 1, 1) := by decide +kernel
theorem dX3_state_7 : decode cX3_state 7 = .ok (.invokevirtual 78, 3) := by decide +kernel
theorem dX3_state_10 : decode cX3_state 10 = .ok (.ifCond .ne 5, 3) := by decide +kernel
theorem dX3_state_13 : decode cX3_state 13 = .ok (.iconst (-1), 1) := by decide +kernel
theorem dX3_state_14 : decode cX3_state 14 = .ok (.ireturn, 1) := by decide +kernel
theorem dX3_state_15 : decode cX3_state 15 = .ok (.aload_n 0, 1) := by decide +kernel
theorem dX3_state_16 : decode cX3_state 16 = .ok (.iload_n 1, 1) := by decide +kernel
theorem dX3_state_17 : decode cX3_state 17 = .ok (.lload_n 2, 1) := by decide +kernel
theorem dX3_state_18 : decode cX3_state 18 = .ok (.invokevirtual 82, 3) := by decide +kernel
theorem dX3_state_21 : decode cX3_state 21 = .ok (.istore 4, 2) := by decide +kernel
theorem dX3_state_23 : decode cX3_state 23 = .ok (.iload 4, 2) := by decide +kernel
theorem dX3_state_25 : decode cX3_state 25 = .ok (.iconst (-1), 1) := by decide +kernel
theorem dX3_state_26 : decode cX3_state 26 = .ok (.if_icmp .ne 7, 3) := by decide +kernel
theorem dX3_state_29 : decode cX3_state 29 = .ok (.iconst 3, 1) := by decide +kernel
theorem dX3_state_30 : decode cX3_state 30 = .ok (.goto 10, 3) := by decide +kernel
theorem dX3_state_33 : decode cX3_state 33 = .ok (.aload_n 0, 1) := by decide +kernel
theorem dX3_state_34 : decode cX3_state 34 = .ok (.getfield 48, 3) := by decide +kernel
theorem dX3_state_37 : decode cX3_state 37 = .ok (.iload 4, 2) := by decide +kernel
theorem dX3_state_39 : decode cX3_state 39 = .ok (.iaload, 1) := by decide +kernel
theorem dX3_state_40 : decode cX3_state 40 = .ok (.ireturn, 1) := by decide +kernel
theorem dX3_isCopy_0 : decode cX3_isCopy 0 = .ok (.iload_n 1, 1) := by decide +kernel
theorem dX3_isCopy_1 : decode cX3_isCopy 1 = .ok (.ifCond .le 15, 3) := by decide +kernel
theorem dX3_isCopy_4 : decode cX3_isCopy 4 = .ok (.iload_n 1, 1) := by decide +kernel
theorem dX3_isCopy_5 : decode cX3_isCopy 5 = .ok (.aload_n 0, 1) := by decide +kernel
theorem dX3_isCopy_6 : decode cX3_isCopy 6 = .ok (.getfield 71, 3) := by decide +kernel
theorem dX3_isCopy_9 : decode cX3_isCopy 9 = .ok (.if_icmp .gt 7, 3) := by decide +kernel
theorem dX3_isCopy_12 : decode cX3_isCopy 12 = .ok (.iconst 1, 1) := by decide +kernel
theorem dX3_isCopy_13 : decode cX3_isCopy 13 = .ok (.goto 4, 3) := by decide +kernel
theorem dX3_isCopy_16 : decode cX3_isCopy 16 = .ok (.iconst 0, 1) := by decide +kernel
theorem dX3_isCopy_17 : decode cX3_isCopy 17 = .ok (.ireturn, 1) := by decide +kernel
theorem dX3_last_0 : decode cX3_last 0 = .ok (.aload_n 0, 1) := by decide +kernel
theorem dX3_last_1 : decode cX3_last 1 = .ok (.getfield 75, 3) := by decide +kernel
theorem dX3_last_4 : decode cX3_last 4 = .ok (.iconst 1, 1) := by decide +kernel
theorem dX3_last_5 : decode cX3_last 5 = .ok (.isub, 1) := by decide +kernel
theorem dX3_last_6 : decode cX3_last 6 = .ok (.istore 4, 2) := by decide +kernel
theorem dX3_last_8 : decode cX3_last 8 = .ok (.iload 4, 2) := by decide +kernel
theorem dX3_last_10 : decode cX3_last 10 = .ok (.ifCond .lt 32, 3) := by decide +kernel
theorem dX3_last_13 : decode cX3_last 13 = .ok (.aload_n 0, 1) := by decide +kernel
theorem dX3_last_14 : decode cX3_last 14 = .ok (.getfield 45, 3) := by decide +kernel
theorem dX3_last_17 : decode cX3_last 17 = .ok (.iload 4, 2) := by decide +kernel
theorem dX3_last_19 : decode cX3_last 19 = .ok (.iaload, 1) := by decide +kernel
theorem dX3_last_20 : decode cX3_last 20 = .ok (.iload_n 1, 1) := by decide +kernel
theorem dX3_last_21 : decode cX3_last 21 = .ok (.if_icmp .ne 15, 3) := by decide +kernel
theorem dX3_last_24 : decode cX3_last 24 = .ok (.aload_n 0, 1) := by decide +kernel
theorem dX3_last_25 : decode cX3_last 25 = .ok (.getfield 54, 3) := by decide +kernel
theorem dX3_last_28 : decode cX3_last 28 = .ok (.iload 4, 2) := by decide +kernel
theorem dX3_last_30 : decode cX3_last 30 = .ok (.laload, 1) := by decide +kernel
theorem dX3_last_31 : decode cX3_last 31 = .ok (.lload_n 2, 1) := by decide +kernel
theorem dX3_last_32 : decode cX3_last 32 = .ok (.lcmp, 1) := by decide +kernel
theorem dX3_last_33 : decode cX3_last 33 = .ok (.ifCond .le 9, 3) := by decide +kernel
theorem dX3_last_36 : decode cX3_last 36 = .ok (.iinc 4 (-1), 3) := by decide +kernel
theorem dX3_last_39 : decode cX3_last 39 = .ok (.goto (-31), 3) := by decide +kernel
theorem dX3_last_42 : decode cX3_last 42 = .ok (.iload 4, 2) := by decide +kernel
theorem dX3_last_44 : decode cX3_last 44 = .ok (.ireturn, 1) := by decide +kernel
theorem dX3_act_0 : decode cX3_act 0 = .ok (.aload_n 0, 1) := by decide +kernel
theorem dX3_act_1 : decode cX3_act 1 = .ok (.iconst 0, 1) := by decide +kernel
theorem dX3_act_2 : decode cX3_act 2 = .ok (.putfield 57, 3) := by decide +kernel
theorem dX3_act_5 : decode cX3_act 5 = .ok (.aload_n 0, 1) := by decide +kernel
theorem dX3_act_6 : decode cX3_act 6 = .ok (.iload_n 1, 1) := by decide +kernel
theorem dX3_act_7 : decode cX3_act 7 = .ok (.invokevirtual 78, 3) := by decide +kernel
theorem dX3_act_10 : decode cX3_act 10 = .ok (.ifCond .eq 54, 3) := by decide +kernel
theorem dX3_act_13 : decode cX3_act 13 = .ok (.iload_n 2, 1) := by decide +kernel
theorem dX3_act_14 : decode cX3_act 14 = .ok (.ifCond .lt 50, 3) := by decide +kernel
theorem dX3_act_17 : decode cX3_act 17 = .ok (.iload_n 2, 1) := by decide +kernel
theorem dX3_act_18 : decode cX3_act 18 = .ok (.bipush 6, 2) := by decide +kernel
theorem dX3_act_20 : decode cX3_act 20 = .ok (.if_icmp .gt 44, 3) := by decide +kernel
theorem dX3_act_23 : decode cX3_act 23 = .ok (.lload 4, 2) := by decide +kernel
theorem dX3_act_25 : decode cX3_act 25 = .ok (.lconst 0, 1) := by decide +kernel
theorem dX3_act_26 : decode cX3_act 26 = .ok (.lcmp, 1) := by decide +kernel
theorem dX3_act_27 : decode cX3_act 27 = .ok (.ifCond .lt 37, 3) := by decide +kernel
theorem dX3_act_30 : decode cX3_act 30 = .ok (.lload 4, 2) := by decide +kernel
theorem dX3_act_32 : decode cX3_act 32 = .ok (.ldc2_w 90, 3) := by decide +kernel
theorem dX3_act_35 : decode cX3_act 35 = .ok (.lcmp, 1) := by decide +kernel
theorem dX3_act_36 : decode cX3_act 36 = .ok (.ifCond .gt 28, 3) := by decide +kernel
theorem dX3_act_39 : decode cX3_act 39 = .ok (.iload_n 2, 1) := by decide +kernel
theorem dX3_act_40 : decode cX3_act 40 = .ok (.iconst 2, 1) := by decide +kernel
theorem dX3_act_41 : decode cX3_act 41 = .ok (.if_icmp .ne 25, 3) := by decide +kernel
theorem dX3_act_44 : decode cX3_act 44 = .ok (.iload_n 3, 1) := by decide +kernel
theorem dX3_act_45 : decode cX3_act 45 = .ok (.ifCond .lt 19, 3) := by decide +kernel
theorem dX3_act_48 : decode cX3_act 48 = .ok (.iload_n 3, 1) := by decide +kernel
theorem dX3_act_49 : decode cX3_act 49 = .ok (.bipush 9, 2) := by decide +kernel
theorem dX3_act_51 : decode cX3_act 51 = .ok (.if_icmp .gt 13, 3) := by decide +kernel
theorem dX3_act_54 : decode cX3_act 54 = .ok (.iload_n 3, 1) := by decide +kernel
theorem dX3_act_55 : decode cX3_act 55 = .ok (.aload_n 0, 1) := by decide +kernel
theorem dX3_act_56 : decode cX3_act 56 = .ok (.getfield 23, 3) := by decide +kernel
theorem dX3_act_59 : decode cX3_act 59 = .ok (.iload_n 1, 1) := by decide +kernel
theorem dX3_act_60 : decode cX3_act 60 = .ok (.iaload, 1) := by decide +kernel
theorem dX3_act_61 : decode cX3_act 61 = .ok (.if_icmp .ne 5, 3) := by decide +kernel
theorem dX3_act_64 : decode cX3_act 64 = .ok (.iconst (-1), 1) := by decide +kernel
theorem dX3_act_65 : decode cX3_act 65 = .ok (.ireturn, 1) := by decide +kernel
theorem dX3_act_66 : decode cX3_act 66 = .ok (.lload 4, 2) := by decide +kernel
theorem dX3_act_68 : decode cX3_act 68 = .ok (.aload_n 0, 1) := by decide +kernel
theorem dX3_act_69 : decode cX3_act 69 = .ok (.getfield 86, 3) := by decide +kernel
theorem dX3_act_72 : decode cX3_act 72 = .ok (.lcmp, 1) := by decide +kernel
theorem dX3_act_73 : decode cX3_act 73 = .ok (.ifCond .ge 7, 3) := by decide +kernel
theorem dX3_act_76 : decode cX3_act 76 = .ok (.iconst 1, 1) := by decide +kernel
theorem dX3_act_77 : decode cX3_act 77 = .ok (.goto 4, 3) := by decide +kernel
theorem dX3_act_80 : decode cX3_act 80 = .ok (.iconst 0, 1) := by decide +kernel
theorem dX3_act_81 : decode cX3_act 81 = .ok (.istore 6, 2) := by decide +kernel
theorem dX3_act_83 : decode cX3_act 83 = .ok (.iload 6, 2) := by decide +kernel
theorem dX3_act_85 : decode cX3_act 85 = .ok (.ifCond .eq 13, 3) := by decide +kernel
theorem dX3_act_88 : decode cX3_act 88 = .ok (.aload_n 0, 1) := by decide +kernel
theorem dX3_act_89 : decode cX3_act 89 = .ok (.iload_n 1, 1) := by decide +kernel
theorem dX3_act_90 : decode cX3_act 90 = .ok (.lload 4, 2) := by decide +kernel
theorem dX3_act_92 : decode cX3_act 92 = .ok (.invokevirtual 82, 3) := by decide +kernel
theorem dX3_act_95 : decode cX3_act 95 = .ok (.goto 4, 3) := by decide +kernel
theorem dX3_act_98 : decode cX3_act 98 = .ok (.iconst (-1), 1) := by decide +kernel
theorem dX3_act_99 : decode cX3_act 99 = .ok (.istore 7, 2) := by decide +kernel
theorem dX3_act_101 : decode cX3_act 101 = .ok (.iload 6, 2) := by decide +kernel
theorem dX3_act_103 : decode cX3_act 103 = .ok (.ifCond .ne 12, 3) := by decide +kernel
theorem dX3_act_106 : decode cX3_act 106 = .ok (.aload_n 0, 1) := by decide +kernel
theorem dX3_act_107 : decode cX3_act 107 = .ok (.getfield 26, 3) := by decide +kernel
theorem dX3_act_110 : decode cX3_act 110 = .ok (.iload_n 1, 1) := by decide +kernel
theorem dX3_act_111 : decode cX3_act 111 = .ok (.iaload, 1) := by decide +kernel
theorem dX3_act_112 : decode cX3_act 112 = .ok (.goto 20, 3) := by decide +kernel
theorem dX3_act_115 : decode cX3_act 115 = .ok (.iload 7, 2) := by decide +kernel
theorem dX3_act_117 : decode cX3_act 117 = .ok (.iconst (-1), 1) := by decide +kernel
theorem dX3_act_118 : decode cX3_act 118 = .ok (.if_icmp .ne 7, 3) := by decide +kernel
theorem dX3_act_121 : decode cX3_act 121 = .ok (.iconst 3, 1) := by decide +kernel
theorem dX3_act_122 : decode cX3_act 122 = .ok (.goto 10, 3) := by decide +kernel
theorem dX3_act_125 : decode cX3_act 125 = .ok (.aload_n 0, 1) := by decide +kernel
theorem dX3_act_126 : decode cX3_act 126 = .ok (.getfield 48, 3) := by decide +kernel
theorem dX3_act_129 : decode cX3_act 129 = .ok (.iload 7, 2) := by decide +kernel
theorem dX3_act_131 : decode cX3_act 131 = .ok (.iaload, 1) := by decide +kernel
theorem dX3_act_132 : decode cX3_act 132 = .ok (.istore 8, 2) := by decide +kernel
theorem dX3_act_134 : decode cX3_act 134 = .ok (.iload_n 2, 1) := by decide +kernel
theorem dX3_act_135 : decode cX3_act 135 = .ok (.iload 8, 2) := by decide +kernel
theorem dX3_act_137 : decode cX3_act 137 = .ok (.invokestatic 92, 3) := by decide +kernel
theorem dX3_act_140 : decode cX3_act 140 = .ok (.ifCond .ne 6, 3) := by decide +kernel
theorem dX3_act_143 : decode cX3_act 143 = .ok (.bipush (-2), 2) := by decide +kernel
theorem dX3_act_145 : decode cX3_act 145 = .ok (.ireturn, 1) := by decide +kernel
theorem dX3_act_146 : decode cX3_act 146 = .ok (.iload_n 2, 1) := by decide +kernel
theorem dX3_act_147 : decode cX3_act 147 = .ok (.iconst 2, 1) := by decide +kernel
theorem dX3_act_148 : decode cX3_act 148 = .ok (.if_icmp .ne 22, 3) := by decide +kernel
theorem dX3_act_151 : decode cX3_act 151 = .ok (.aload_n 0, 1) := by decide +kernel
theorem dX3_act_152 : decode cX3_act 152 = .ok (.getfield 39, 3) := by decide +kernel
theorem dX3_act_155 : decode cX3_act 155 = .ok (.bipush 6, 2) := by decide +kernel
theorem dX3_act_157 : decode cX3_act 157 = .ok (.iload_n 3, 1) := by decide +kernel
theorem dX3_act_158 : decode cX3_act 158 = .ok (.imul, 1) := by decide +kernel
theorem dX3_act_159 : decode cX3_act 159 = .ok (.aload_n 0, 1) := by decide +kernel
theorem dX3_act_160 : decode cX3_act 160 = .ok (.getfield 7, 3) := by decide +kernel
theorem dX3_act_163 : decode cX3_act 163 = .ok (.iload_n 1, 1) := by decide +kernel
theorem dX3_act_164 : decode cX3_act 164 = .ok (.iaload, 1) := by decide +kernel
theorem dX3_act_165 : decode cX3_act 165 = .ok (.iadd, 1) := by decide +kernel
theorem dX3_act_166 : decode cX3_act 166 = .ok (.baload, 1) := by decide +kernel
theorem dX3_act_167 : decode cX3_act 167 = .ok (.ifCond .ne 42, 3) := by decide +kernel
theorem dX3_act_170 : decode cX3_act 170 = .ok (.iload_n 2, 1) := by decide +kernel
theorem dX3_act_171 : decode cX3_act 171 = .ok (.ifCond .ne 41, 3) := by decide +kernel
theorem dX3_act_174 : decode cX3_act 174 = .ok (.iload 6, 2) := by decide +kernel
theorem dX3_act_176 : decode cX3_act 176 = .ok (.ifCond .ne 36, 3) := by decide +kernel
theorem dX3_act_179 : decode cX3_act 179 = .ok (.iload 8, 2) := by decide +kernel
theorem dX3_act_181 : decode cX3_act 181 = .ok (.iconst 2, 1) := by decide +kernel
theorem dX3_act_182 : decode cX3_act 182 = .ok (.if_icmp .ne 30, 3) := by decide +kernel
theorem dX3_act_185 : decode cX3_act 185 = .ok (.aload_n 0, 1) := by decide +kernel
theorem dX3_act_186 : decode cX3_act 186 = .ok (.getfield 39, 3) := by decide +kernel
theorem dX3_act_189 : decode cX3_act 189 = .ok (.bipush 6, 2) := by decide +kernel
theorem dX3_act_191 : decode cX3_act 191 = .ok (.aload_n 0, 1) := by decide +kernel
theorem dX3_act_192 : decode cX3_act 192 = .ok (.getfield 23, 3) := by decide +kernel
theorem dX3_act_195 : decode cX3_act 195 = .ok (.iload_n 1, 1) := by decide +kernel
theorem dX3_act_196 : decode cX3_act 196 = .ok (.iaload, 1) := by decide +kernel
theorem dX3_act_197 : decode cX3_act 197 = .ok (.imul, 1) := by decide +kernel
theorem dX3_act_198 : decode cX3_act 198 = .ok (.aload_n 0, 1) := by decide +kernel
theorem dX3_act_199 : decode cX3_act 199 = .ok (.getfield 7, 3) := by decide +kernel
theorem dX3_act_202 : decode cX3_act 202 = .ok (.iload_n 1, 1) := by decide +kernel
theorem dX3_act_203 : decode cX3_act 203 = .ok (.iaload, 1) := by decide +kernel
theorem dX3_act_204 : decode cX3_act 204 = .ok (.iadd, 1) := by decide +kernel
theorem dX3_act_205 : decode cX3_act 205 = .ok (.baload, 1) := by decide +kernel
theorem dX3_act_206 : decode cX3_act 206 = .ok (.ifCond .eq 6, 3) := by decide +kernel
theorem dX3_act_209 : decode cX3_act 209 = .ok (.bipush (-3), 2) := by decide +kernel
theorem dX3_act_211 : decode cX3_act 211 = .ok (.ireturn, 1) := by decide +kernel
theorem dX3_act_212 : decode cX3_act 212 = .ok (.aload_n 0, 1) := by decide +kernel
theorem dX3_act_213 : decode cX3_act 213 = .ok (.iload_n 1, 1) := by decide +kernel
theorem dX3_act_214 : decode cX3_act 214 = .ok (.iload_n 2, 1) := by decide +kernel
theorem dX3_act_215 : decode cX3_act 215 = .ok (.iload 6, 2) := by decide +kernel
theorem dX3_act_217 : decode cX3_act 217 = .ok (.lload 4, 2) := by decide +kernel
theorem dX3_act_219 : decode cX3_act 219 = .ok (.invokevirtual 96, 3) := by decide +kernel
theorem dX3_act_222 : decode cX3_act 222 = .ok (.iload 6, 2) := by decide +kernel
theorem dX3_act_224 : decode cX3_act 224 = .ok (.ifCond .eq 5, 3) := by decide +kernel
theorem dX3_act_227 : decode cX3_act 227 = .ok (.iload_n 2, 1) := by decide +kernel
theorem dX3_act_228 : decode cX3_act 228 = .ok (.ireturn, 1) := by decide +kernel
theorem dX3_act_229 : decode cX3_act 229 = .ok (.aload_n 0, 1) := by decide +kernel
theorem dX3_act_230 : decode cX3_act 230 = .ok (.getfield 36, 3) := by decide +kernel
theorem dX3_act_233 : decode cX3_act 233 = .ok (.iload_n 1, 1) := by decide +kernel
theorem dX3_act_234 : decode cX3_act 234 = .ok (.dup2, 1) := by decide +kernel
theorem dX3_act_235 : decode cX3_act 235 = .ok (.iaload, 1) := by decide +kernel
theorem dX3_act_236 : decode cX3_act 236 = .ok (.iload_n 2, 1) := by decide +kernel
theorem dX3_act_237 : decode cX3_act 237 = .ok (.bipush 6, 2) := by decide +kernel
theorem dX3_act_239 : decode cX3_act 239 = .ok (.if_icmp .ne 23, 3) := by decide +kernel
theorem dX3_act_242 : decode cX3_act 242 = .ok (.iload 8, 2) := by decide +kernel
theorem dX3_act_244 : decode cX3_act 244 = .ok (.iconst 1, 1) := by decide +kernel
theorem dX3_act_245 : decode cX3_act 245 = .ok (.if_icmp .ne 17, 3) := by decide +kernel
theorem dX3_act_248 : decode cX3_act 248 = .ok (.aload_n 0, 1) := by decide +kernel
theorem dX3_act_249 : decode cX3_act 249 = .ok (.getfield 42, 3) := by decide +kernel
theorem dX3_act_252 : decode cX3_act 252 = .ok (.aload_n 0, 1) := by decide +kernel
theorem dX3_act_253 : decode cX3_act 253 = .ok (.getfield 7, 3) := by decide +kernel
theorem dX3_act_256 : decode cX3_act 256 = .ok (.iload_n 1, 1) := by decide +kernel
theorem dX3_act_257 : decode cX3_act 257 = .ok (.iaload, 1) := by decide +kernel
theorem dX3_act_258 : decode cX3_act 258 = .ok (.iaload, 1) := by decide +kernel
theorem dX3_act_259 : decode cX3_act 259 = .ok (.goto 4, 3) := by decide +kernel
theorem dX3_act_262 : decode cX3_act 262 = .ok (.iconst 0, 1) := by decide +kernel
theorem dX3_act_263 : decode cX3_act 263 = .ok (.iadd, 1) := by decide +kernel
theorem dX3_act_264 : decode cX3_act 264 = .ok (.iastore, 1) := by decide +kernel
theorem dX3_act_265 : decode cX3_act 265 = .ok (.aload_n 0, 1) := by decide +kernel
theorem dX3_act_266 : decode cX3_act 266 = .ok (.getfield 26, 3) := by decide +kernel
theorem dX3_act_269 : decode cX3_act 269 = .ok (.iload_n 1, 1) := by decide +kernel
theorem dX3_act_270 : decode cX3_act 270 = .ok (.iload_n 2, 1) := by decide +kernel
theorem dX3_act_271 : decode cX3_act 271 = .ok (.iastore, 1) := by decide +kernel
theorem dX3_act_272 : decode cX3_act 272 = .ok (.aload_n 0, 1) := by decide +kernel
theorem dX3_act_273 : decode cX3_act 273 = .ok (.getfield 23, 3) := by decide +kernel
theorem dX3_act_276 : decode cX3_act 276 = .ok (.iload_n 1, 1) := by decide +kernel
theorem dX3_act_277 : decode cX3_act 277 = .ok (.iload_n 2, 1) := by decide +kernel
theorem dX3_act_278 : decode cX3_act 278 = .ok (.iconst 2, 1) := by decide +kernel
theorem dX3_act_279 : decode cX3_act 279 = .ok (.if_icmp .ne 7, 3) := by decide +kernel
theorem dX3_act_282 : decode cX3_act 282 = .ok (.iload_n 3, 1) := by decide +kernel
theorem dX3_act_283 : decode cX3_act 283 = .ok (.goto 9, 3) := by decide +kernel
theorem dX3_act_286 : decode cX3_act 286 = .ok (.aload_n 0, 1) := by decide +kernel
theorem dX3_act_287 : decode cX3_act 287 = .ok (.getfield 23, 3) := by decide +kernel
theorem dX3_act_290 : decode cX3_act 290 = .ok (.iload_n 1, 1) := by decide +kernel
theorem dX3_act_291 : decode cX3_act 291 = .ok (.iaload, 1) := by decide +kernel
theorem dX3_act_292 : decode cX3_act 292 = .ok (.iastore, 1) := by decide +kernel
theorem dX3_act_293 : decode cX3_act 293 = .ok (.aload_n 0, 1) := by decide +kernel
theorem dX3_act_294 : decode cX3_act 294 = .ok (.getfield 20, 3) := by decide +kernel
theorem dX3_act_297 : decode cX3_act 297 = .ok (.iload_n 1, 1) := by decide +kernel
theorem dX3_act_298 : decode cX3_act 298 = .ok (.iload_n 2, 1) := by decide +kernel
theorem dX3_act_299 : decode cX3_act 299 = .ok (.ifCond .ne 21, 3) := by decide +kernel
theorem dX3_act_302 : decode cX3_act 302 = .ok (.aload_n 0, 1) := by decide +kernel
theorem dX3_act_303 : decode cX3_act 303 = .ok (.getfield 29, 3) := by decide +kernel
theorem dX3_act_306 : decode cX3_act 306 = .ok (.iload_n 1, 1) := by decide +kernel
theorem dX3_act_307 : decode cX3_act 307 = .ok (.baload, 1) := by decide +kernel
theorem dX3_act_308 : decode cX3_act 308 = .ok (.ifCond .eq 12, 3) := by decide +kernel
theorem dX3_act_311 : decode cX3_act 311 = .ok (.aload_n 0, 1) := by decide +kernel
theorem dX3_act_312 : decode cX3_act 312 = .ok (.getfield 23, 3) := by decide +kernel
theorem dX3_act_315 : decode cX3_act 315 = .ok (.iload_n 1, 1) := by decide +kernel
theorem dX3_act_316 : decode cX3_act 316 = .ok (.iaload, 1) := by decide +kernel
theorem dX3_act_317 : decode cX3_act 317 = .ok (.goto 9, 3) := by decide +kernel
theorem dX3_act_320 : decode cX3_act 320 = .ok (.aload_n 0, 1) := by decide +kernel
theorem dX3_act_321 : decode cX3_act 321 = .ok (.getfield 20, 3) := by decide +kernel
theorem dX3_act_324 : decode cX3_act 324 = .ok (.iload_n 1, 1) := by decide +kernel
theorem dX3_act_325 : decode cX3_act 325 = .ok (.iaload, 1) := by decide +kernel
theorem dX3_act_326 : decode cX3_act 326 = .ok (.iastore, 1) := by decide +kernel
theorem dX3_act_327 : decode cX3_act 327 = .ok (.aload_n 0, 1) := by decide +kernel
theorem dX3_act_328 : decode cX3_act 328 = .ok (.getfield 33, 3) := by decide +kernel
theorem dX3_act_331 : decode cX3_act 331 = .ok (.iload_n 1, 1) := by decide +kernel
theorem dX3_act_332 : decode cX3_act 332 = .ok (.iconst (-1), 1) := by decide +kernel
theorem dX3_act_333 : decode cX3_act 333 = .ok (.iastore, 1) := by decide +kernel
theorem dX3_act_334 : decode cX3_act 334 = .ok (.iload_n 2, 1) := by decide +kernel
theorem dX3_act_335 : decode cX3_act 335 = .ok (.ireturn, 1) := by decide +kernel
theorem dX3_follows_0 : decode cX3_follows 0 = .ok (.iload_n 0, 1) := by decide +kernel
theorem dX3_follows_1 : decode cX3_follows 1 = .ok (.tableswitch 126 0 5 #[39, 55, 70, 85, 101, 111], 39) := by decide +kernel
theorem dX3_follows_40 : decode cX3_follows 40 = .ok (.iload_n 1, 1) := by decide +kernel
theorem dX3_follows_41 : decode cX3_follows 41 = .ok (.ifCond .le 13, 3) := by decide +kernel
theorem dX3_follows_44 : decode cX3_follows 44 = .ok (.iload_n 1, 1) := by decide +kernel
theorem dX3_follows_45 : decode cX3_follows 45 = .ok (.bipush 7, 2) := by decide +kernel
theorem dX3_follows_47 : decode cX3_follows 47 = .ok (.if_icmp .ge 7, 3) := by decide +kernel
theorem dX3_follows_50 : decode cX3_follows 50 = .ok (.iconst 1, 1) := by decide +kernel
theorem dX3_follows_51 : decode cX3_follows 51 = .ok (.goto 4, 3) := by decide +kernel
theorem dX3_follows_54 : decode cX3_follows 54 = .ok (.iconst 0, 1) := by decide +kernel
theorem dX3_follows_55 : decode cX3_follows 55 = .ok (.ireturn, 1) := by decide +kernel
theorem dX3_follows_56 : decode cX3_follows 56 = .ok (.iload_n 1, 1) := by decide +kernel
theorem dX3_follows_57 : decode cX3_follows 57 = .ok (.ifCond .eq 8, 3) := by decide +kernel
theorem dX3_follows_60 : decode cX3_follows 60 = .ok (.iload_n 1, 1) := by decide +kernel
theorem dX3_follows_61 : decode cX3_follows 61 = .ok (.iconst 4, 1) := by decide +kernel
theorem dX3_follows_62 : decode cX3_follows 62 = .ok (.if_icmp .ne 7, 3) := by decide +kernel
theorem dX3_follows_65 : decode cX3_follows 65 = .ok (.iconst 1, 1) := by decide +kernel
theorem dX3_follows_66 : decode cX3_follows 66 = .ok (.goto 4, 3) := by decide +kernel
theorem dX3_follows_69 : decode cX3_follows 69 = .ok (.iconst 0, 1) := by decide +kernel
theorem dX3_follows_70 : decode cX3_follows 70 = .ok (.ireturn, 1) := by decide +kernel
theorem dX3_follows_71 : decode cX3_follows 71 = .ok (.iload_n 1, 1) := by decide +kernel
theorem dX3_follows_72 : decode cX3_follows 72 = .ok (.ifCond .eq 8, 3) := by decide +kernel
theorem dX3_follows_75 : decode cX3_follows 75 = .ok (.iload_n 1, 1) := by decide +kernel
theorem dX3_follows_76 : decode cX3_follows 76 = .ok (.iconst 3, 1) := by decide +kernel
theorem dX3_follows_77 : decode cX3_follows 77 = .ok (.if_icmp .ne 7, 3) := by decide +kernel
theorem dX3_follows_80 : decode cX3_follows 80 = .ok (.iconst 1, 1) := by decide +kernel
theorem dX3_follows_81 : decode cX3_follows 81 = .ok (.goto 4, 3) := by decide +kernel
theorem dX3_follows_84 : decode cX3_follows 84 = .ok (.iconst 0, 1) := by decide +kernel
theorem dX3_follows_85 : decode cX3_follows 85 = .ok (.ireturn, 1) := by decide +kernel
theorem dX3_follows_86 : decode cX3_follows 86 = .ok (.iload_n 1, 1) := by decide +kernel
theorem dX3_follows_87 : decode cX3_follows 87 = .ok (.ifCond .eq 9, 3) := by decide +kernel
theorem dX3_follows_90 : decode cX3_follows 90 = .ok (.iload_n 1, 1) := by decide +kernel
theorem dX3_follows_91 : decode cX3_follows 91 = .ok (.bipush 6, 2) := by decide +kernel
theorem dX3_follows_93 : decode cX3_follows 93 = .ok (.if_icmp .ne 7, 3) := by decide +kernel
theorem dX3_follows_96 : decode cX3_follows 96 = .ok (.iconst 1, 1) := by decide +kernel
theorem dX3_follows_97 : decode cX3_follows 97 = .ok (.goto 4, 3) := by decide +kernel
theorem dX3_follows_100 : decode cX3_follows 100 = .ok (.iconst 0, 1) := by decide +kernel
theorem dX3_follows_101 : decode cX3_follows 101 = .ok (.ireturn, 1) := by decide +kernel
theorem dX3_follows_102 : decode cX3_follows 102 = .ok (.iload_n 1, 1) := by decide +kernel
theorem dX3_follows_103 : decode cX3_follows 103 = .ok (.ifCond .ne 7, 3) := by decide +kernel
theorem dX3_follows_106 : decode cX3_follows 106 = .ok (.iconst 1, 1) := by decide +kernel
theorem dX3_follows_107 : decode cX3_follows 107 = .ok (.goto 4, 3) := by decide +kernel
theorem dX3_follows_110 : decode cX3_follows 110 = .ok (.iconst 0, 1) := by decide +kernel
theorem dX3_follows_111 : decode cX3_follows 111 = .ok (.ireturn, 1) := by decide +kernel
theorem dX3_follows_112 : decode cX3_follows 112 = .ok (.iload_n 1, 1) := by decide +kernel
theorem dX3_follows_113 : decode cX3_follows 113 = .ok (.ifCond .eq 8, 3) := by decide +kernel
theorem dX3_follows_116 : decode cX3_follows 116 = .ok (.iload_n 1, 1) := by decide +kernel
theorem dX3_follows_117 : decode cX3_follows 117 = .ok (.iconst 3, 1) := by decide +kernel
theorem dX3_follows_118 : decode cX3_follows 118 = .ok (.if_icmp .ne 7, 3) := by decide +kernel
theorem dX3_follows_121 : decode cX3_follows 121 = .ok (.iconst 1, 1) := by decide +kernel
theorem dX3_follows_122 : decode cX3_follows 122 = .ok (.goto 4, 3) := by decide +kernel
theorem dX3_follows_125 : decode cX3_follows 125 = .ok (.iconst 0, 1) := by decide +kernel
theorem dX3_follows_126 : decode cX3_follows 126 = .ok (.ireturn, 1) := by decide +kernel
theorem dX3_follows_127 : decode cX3_follows 127 = .ok (.iload_n 1, 1) := by decide +kernel
theorem dX3_follows_128 : decode cX3_follows 128 = .ok (.bipush 6, 2) := by decide +kernel
theorem dX3_follows_130 : decode cX3_follows 130 = .ok (.if_icmp .ge 7, 3) := by decide +kernel
theorem dX3_follows_133 : decode cX3_follows 133 = .ok (.iconst 1, 1) := by decide +kernel
theorem dX3_follows_134 : decode cX3_follows 134 = .ok (.goto 4, 3) := by decide +kernel
theorem dX3_follows_137 : decode cX3_follows 137 = .ok (.iconst 0, 1) := by decide +kernel
theorem dX3_follows_138 : decode cX3_follows 138 = .ok (.ireturn, 1) := by decide +kernel
theorem dX3_enter_0 : decode cX3_enter 0 = .ok (.aload_n 0, 1) := by decide +kernel
theorem dX3_enter_1 : decode cX3_enter 1 = .ok (.getfield 75, 3) := by decide +kernel
theorem dX3_enter_4 : decode cX3_enter 4 = .ok (.istore 6, 2) := by decide +kernel
theorem dX3_enter_6 : decode cX3_enter 6 = .ok (.iload 6, 2) := by decide +kernel
theorem dX3_enter_8 : decode cX3_enter 8 = .ok (.ifCond .le 88, 3) := by decide +kernel
theorem dX3_enter_11 : decode cX3_enter 11 = .ok (.aload_n 0, 1) := by decide +kernel
theorem dX3_enter_12 : decode cX3_enter 12 = .ok (.getfield 54, 3) := by decide +kernel
theorem dX3_enter_15 : decode cX3_enter 15 = .ok (.iload 6, 2) := by decide +kernel
theorem dX3_enter_17 : decode cX3_enter 17 = .ok (.iconst 1, 1) := by decide +kernel
theorem dX3_enter_18 : decode cX3_enter 18 = .ok (.isub, 1) := by decide +kernel
theorem dX3_enter_19 : decode cX3_enter 19 = .ok (.laload, 1) := by decide +kernel
theorem dX3_enter_20 : decode cX3_enter 20 = .ok (.lload 4, 2) := by decide +kernel
theorem dX3_enter_22 : decode cX3_enter 22 = .ok (.lcmp, 1) := by decide +kernel
theorem dX3_enter_23 : decode cX3_enter 23 = .ok (.ifCond .le 73, 3) := by decide +kernel
theorem dX3_enter_26 : decode cX3_enter 26 = .ok (.aload_n 0, 1) := by decide +kernel
theorem dX3_enter_27 : decode cX3_enter 27 = .ok (.getfield 45, 3) := by decide +kernel
theorem dX3_enter_30 : decode cX3_enter 30 = .ok (.iload 6, 2) := by decide +kernel
theorem dX3_enter_32 : decode cX3_enter 32 = .ok (.aload_n 0, 1) := by decide +kernel
theorem dX3_enter_33 : decode cX3_enter 33 = .ok (.getfield 45, 3) := by decide +kernel
theorem dX3_enter_36 : decode cX3_enter 36 = .ok (.iload 6, 2) := by decide +kernel
theorem dX3_enter_38 : decode cX3_enter 38 = .ok (.iconst 1, 1) := by decide +kernel
theorem dX3_enter_39 : decode cX3_enter 39 = .ok (.isub, 1) := by decide +kernel
theorem dX3_enter_40 : decode cX3_enter 40 = .ok (.iaload, 1) := by decide +kernel
theorem dX3_enter_41 : decode cX3_enter 41 = .ok (.iastore, 1) := by decide +kernel
theorem dX3_enter_42 : decode cX3_enter 42 = .ok (.aload_n 0, 1) := by decide +kernel
theorem dX3_enter_43 : decode cX3_enter 43 = .ok (.getfield 48, 3) := by decide +kernel
theorem dX3_enter_46 : decode cX3_enter 46 = .ok (.iload 6, 2) := by decide +kernel
theorem dX3_enter_48 : decode cX3_enter 48 = .ok (.aload_n 0, 1) := by decide +kernel
theorem dX3_enter_49 : decode cX3_enter 49 = .ok (.getfield 48, 3) := by decide +kernel
theorem dX3_enter_52 : decode cX3_enter 52 = .ok (.iload 6, 2) := by decide +kernel
theorem dX3_enter_54 : decode cX3_enter 54 = .ok (.iconst 1, 1) := by decide +kernel
theorem dX3_enter_55 : decode cX3_enter 55 = .ok (.isub, 1) := by decide +kernel
theorem dX3_enter_56 : decode cX3_enter 56 = .ok (.iaload, 1) := by decide +kernel
theorem dX3_enter_57 : decode cX3_enter 57 = .ok (.iastore, 1) := by decide +kernel
theorem dX3_enter_58 : decode cX3_enter 58 = .ok (.aload_n 0, 1) := by decide +kernel
theorem dX3_enter_59 : decode cX3_enter 59 = .ok (.getfield 51, 3) := by decide +kernel
theorem dX3_enter_62 : decode cX3_enter 62 = .ok (.iload 6, 2) := by decide +kernel
theorem dX3_enter_64 : decode cX3_enter 64 = .ok (.aload_n 0, 1) := by decide +kernel
theorem dX3_enter_65 : decode cX3_enter 65 = .ok (.getfield 51, 3) := by decide +kernel
theorem dX3_enter_68 : decode cX3_enter 68 = .ok (.iload 6, 2) := by decide +kernel
theorem dX3_enter_70 : decode cX3_enter 70 = .ok (.iconst 1, 1) := by decide +kernel
theorem dX3_enter_71 : decode cX3_enter 71 = .ok (.isub, 1) := by decide +kernel
theorem dX3_enter_72 : decode cX3_enter 72 = .ok (.baload, 1) := by decide +kernel
theorem dX3_enter_73 : decode cX3_enter 73 = .ok (.bastore, 1) := by decide +kernel
theorem dX3_enter_74 : decode cX3_enter 74 = .ok (.aload_n 0, 1) := by decide +kernel
theorem dX3_enter_75 : decode cX3_enter 75 = .ok (.getfield 54, 3) := by decide +kernel
theorem dX3_enter_78 : decode cX3_enter 78 = .ok (.iload 6, 2) := by decide +kernel
theorem dX3_enter_80 : decode cX3_enter 80 = .ok (.aload_n 0, 1) := by decide +kernel
theorem dX3_enter_81 : decode cX3_enter 81 = .ok (.getfield 54, 3) := by decide +kernel
theorem dX3_enter_84 : decode cX3_enter 84 = .ok (.iload 6, 2) := by decide +kernel
theorem dX3_enter_86 : decode cX3_enter 86 = .ok (.iconst 1, 1) := by decide +kernel
theorem dX3_enter_87 : decode cX3_enter 87 = .ok (.isub, 1) := by decide +kernel
theorem dX3_enter_88 : decode cX3_enter 88 = .ok (.laload, 1) := by decide +kernel
theorem dX3_enter_89 : decode cX3_enter 89 = .ok (.lastore, 1) := by decide +kernel
theorem dX3_enter_90 : decode cX3_enter 90 = .ok (.iinc 6 (-1), 3) := by decide +kernel
theorem dX3_enter_93 : decode cX3_enter 93 = .ok (.goto (-87), 3) := by decide +kernel
theorem dX3_enter_96 : decode cX3_enter 96 = .ok (.aload_n 0, 1) := by decide +kernel
theorem dX3_enter_97 : decode cX3_enter 97 = .ok (.getfield 45, 3) := by decide +kernel
theorem dX3_enter_100 : decode cX3_enter 100 = .ok (.iload 6, 2) := by decide +kernel
theorem dX3_enter_102 : decode cX3_enter 102 = .ok (.iload_n 1, 1) := by decide +kernel
theorem dX3_enter_103 : decode cX3_enter 103 = .ok (.iastore, 1) := by decide +kernel
theorem dX3_enter_104 : decode cX3_enter 104 = .ok (.aload_n 0, 1) := by decide +kernel
theorem dX3_enter_105 : decode cX3_enter 105 = .ok (.getfield 48, 3) := by decide +kernel
theorem dX3_enter_108 : decode cX3_enter 108 = .ok (.iload 6, 2) := by decide +kernel
theorem dX3_enter_110 : decode cX3_enter 110 = .ok (.iload_n 2, 1) := by decide +kernel
theorem dX3_enter_111 : decode cX3_enter 111 = .ok (.iastore, 1) := by decide +kernel
theorem dX3_enter_112 : decode cX3_enter 112 = .ok (.aload_n 0, 1) := by decide +kernel
theorem dX3_enter_113 : decode cX3_enter 113 = .ok (.getfield 51, 3) := by decide +kernel
theorem dX3_enter_116 : decode cX3_enter 116 = .ok (.iload 6, 2) := by decide +kernel
theorem dX3_enter_118 : decode cX3_enter 118 = .ok (.iload_n 3, 1) := by decide +kernel
theorem dX3_enter_119 : decode cX3_enter 119 = .ok (.bastore, 1) := by decide +kernel
theorem dX3_enter_120 : decode cX3_enter 120 = .ok (.aload_n 0, 1) := by decide +kernel
theorem dX3_enter_121 : decode cX3_enter 121 = .ok (.getfield 54, 3) := by decide +kernel
theorem dX3_enter_124 : decode cX3_enter 124 = .ok (.iload 6, 2) := by decide +kernel
theorem dX3_enter_126 : decode cX3_enter 126 = .ok (.lload 4, 2) := by decide +kernel
theorem dX3_enter_128 : decode cX3_enter 128 = .ok (.lastore, 1) := by decide +kernel
theorem dX3_enter_129 : decode cX3_enter 129 = .ok (.aload_n 0, 1) := by decide +kernel
theorem dX3_enter_130 : decode cX3_enter 130 = .ok (.dup, 1) := by decide +kernel
theorem dX3_enter_131 : decode cX3_enter 131 = .ok (.getfield 75, 3) := by decide +kernel
theorem dX3_enter_134 : decode cX3_enter 134 = .ok (.iconst 1, 1) := by decide +kernel
theorem dX3_enter_135 : decode cX3_enter 135 = .ok (.iadd, 1) := by decide +kernel
theorem dX3_enter_136 : decode cX3_enter 136 = .ok (.putfield 75, 3) := by decide +kernel
theorem dX3_enter_139 : decode cX3_enter 139 = .ok (.aload_n 0, 1) := by decide +kernel
theorem dX3_enter_140 : decode cX3_enter 140 = .ok (.lload 4, 2) := by decide +kernel
theorem dX3_enter_142 : decode cX3_enter 142 = .ok (.aload_n 0, 1) := by decide +kernel
theorem dX3_enter_143 : decode cX3_enter 143 = .ok (.getfield 86, 3) := by decide +kernel
theorem dX3_enter_146 : decode cX3_enter 146 = .ok (.lcmp, 1) := by decide +kernel
theorem dX3_enter_147 : decode cX3_enter 147 = .ok (.ifCond .le 8, 3) := by decide +kernel
theorem dX3_enter_150 : decode cX3_enter 150 = .ok (.lload 4, 2) := by decide +kernel
theorem dX3_enter_152 : decode cX3_enter 152 = .ok (.goto 7, 3) := by decide +kernel
theorem dX3_enter_155 : decode cX3_enter 155 = .ok (.aload_n 0, 1) := by decide +kernel
theorem dX3_enter_156 : decode cX3_enter 156 = .ok (.getfield 86, 3) := by decide +kernel
theorem dX3_enter_159 : decode cX3_enter 159 = .ok (.putfield 86, 3) := by decide +kernel
theorem dX3_enter_162 : decode cX3_enter 162 = .ok (.return_, 1) := by decide +kernel
theorem dX3_weed_0 : decode cX3_weed 0 = .ok (.aload_n 0, 1) := by decide +kernel
theorem dX3_weed_1 : decode cX3_weed 1 = .ok (.iconst 0, 1) := by decide +kernel
theorem dX3_weed_2 : decode cX3_weed 2 = .ok (.putfield 57, 3) := by decide +kernel
theorem dX3_weed_5 : decode cX3_weed 5 = .ok (.aload_n 0, 1) := by decide +kernel
theorem dX3_weed_6 : decode cX3_weed 6 = .ok (.iload_n 1, 1) := by decide +kernel
theorem dX3_weed_7 : decode cX3_weed 7 = .ok (.invokevirtual 78, 3) := by decide +kernel
theorem dX3_weed_10 : decode cX3_weed 10 = .ok (.ifCond .eq 13, 3) := by decide +kernel
theorem dX3_weed_13 : decode cX3_weed 13 = .ok (.iload_n 2, 1) := by decide +kernel
theorem dX3_weed_14 : decode cX3_weed 14 = .ok (.ifCond .lt 9, 3) := by decide +kernel
theorem dX3_weed_17 : decode cX3_weed 17 = .ok (.iload_n 2, 1) := by decide +kernel
theorem dX3_weed_18 : decode cX3_weed 18 = .ok (.bipush 99, 2) := by decide +kernel
theorem dX3_weed_20 : decode cX3_weed 20 = .ok (.if_icmp .le 5, 3) := by decide +kernel
theorem dX3_weed_23 : decode cX3_weed 23 = .ok (.iconst (-1), 1) := by decide +kernel
theorem dX3_weed_24 : decode cX3_weed 24 = .ok (.ireturn, 1) := by decide +kernel
theorem dX3_weed_25 : decode cX3_weed 25 = .ok (.aload_n 0, 1) := by decide +kernel
theorem dX3_weed_26 : decode cX3_weed 26 = .ok (.getfield 26, 3) := by decide +kernel
theorem dX3_weed_29 : decode cX3_weed 29 = .ok (.iload_n 1, 1) := by decide +kernel
theorem dX3_weed_30 : decode cX3_weed 30 = .ok (.iaload, 1) := by decide +kernel
theorem dX3_weed_31 : decode cX3_weed 31 = .ok (.istore_n 3, 1) := by decide +kernel
theorem dX3_weed_32 : decode cX3_weed 32 = .ok (.iload_n 3, 1) := by decide +kernel
theorem dX3_weed_33 : decode cX3_weed 33 = .ok (.ifCond .eq 14, 3) := by decide +kernel
theorem dX3_weed_36 : decode cX3_weed 36 = .ok (.iload_n 3, 1) := by decide +kernel
theorem dX3_weed_37 : decode cX3_weed 37 = .ok (.iconst 3, 1) := by decide +kernel
theorem dX3_weed_38 : decode cX3_weed 38 = .ok (.if_icmp .eq 9, 3) := by decide +kernel
theorem dX3_weed_41 : decode cX3_weed 41 = .ok (.iload_n 3, 1) := by decide +kernel
theorem dX3_weed_42 : decode cX3_weed 42 = .ok (.bipush 6, 2) := by decide +kernel
theorem dX3_weed_44 : decode cX3_weed 44 = .ok (.if_icmp .ne 13, 3) := by decide +kernel
theorem dX3_weed_47 : decode cX3_weed 47 = .ok (.aload_n 0, 1) := by decide +kernel
theorem dX3_weed_48 : decode cX3_weed 48 = .ok (.getfield 33, 3) := by decide +kernel
theorem dX3_weed_51 : decode cX3_weed 51 = .ok (.iload_n 1, 1) := by decide +kernel
theorem dX3_weed_52 : decode cX3_weed 52 = .ok (.iaload, 1) := by decide +kernel
theorem dX3_weed_53 : decode cX3_weed 53 = .ok (.iload_n 2, 1) := by decide +kernel
theorem dX3_weed_54 : decode cX3_weed 54 = .ok (.if_icmp .ne 6, 3) := by decide +kernel
theorem dX3_weed_57 : decode cX3_weed 57 = .ok (.bipush (-2), 2) := by decide +kernel
theorem dX3_weed_59 : decode cX3_weed 59 = .ok (.ireturn, 1) := by decide +kernel
theorem dX3_weed_60 : decode cX3_weed 60 = .ok (.aload_n 0, 1) := by decide +kernel
theorem dX3_weed_61 : decode cX3_weed 61 = .ok (.getfield 33, 3) := by decide +kernel
theorem dX3_weed_64 : decode cX3_weed 64 = .ok (.iload_n 1, 1) := by decide +kernel
theorem dX3_weed_65 : decode cX3_weed 65 = .ok (.iaload, 1) := by decide +kernel
theorem dX3_weed_66 : decode cX3_weed 66 = .ok (.iconst (-1), 1) := by decide +kernel
theorem dX3_weed_67 : decode cX3_weed 67 = .ok (.if_icmp .ne 12, 3) := by decide +kernel
theorem dX3_weed_70 : decode cX3_weed 70 = .ok (.aload_n 0, 1) := by decide +kernel
theorem dX3_weed_71 : decode cX3_weed 71 = .ok (.getfield 33, 3) := by decide +kernel
theorem dX3_weed_74 : decode cX3_weed 74 = .ok (.iload_n 1, 1) := by decide +kernel
theorem dX3_weed_75 : decode cX3_weed 75 = .ok (.iload_n 2, 1) := by decide +kernel
theorem dX3_weed_76 : decode cX3_weed 76 = .ok (.iastore, 1) := by decide +kernel
theorem dX3_weed_77 : decode cX3_weed 77 = .ok (.iconst 1, 1) := by decide +kernel
theorem dX3_weed_78 : decode cX3_weed 78 = .ok (.ireturn, 1) := by decide +kernel
theorem dX3_weed_79 : decode cX3_weed 79 = .ok (.aload_n 0, 1) := by decide +kernel
theorem dX3_weed_80 : decode cX3_weed 80 = .ok (.iload_n 1, 1) := by decide +kernel
theorem dX3_weed_81 : decode cX3_weed 81 = .ok (.bipush 7, 2) := by decide +kernel
theorem dX3_weed_83 : decode cX3_weed 83 = .ok (.iconst 0, 1) := by decide +kernel
theorem dX3_weed_84 : decode cX3_weed 84 = .ok (.aload_n 0, 1) := by decide +kernel
theorem dX3_weed_85 : decode cX3_weed 85 = .ok (.getfield 86, 3) := by decide +kernel
theorem dX3_weed_88 : decode cX3_weed 88 = .ok (.lconst 1, 1) := by decide +kernel
theorem dX3_weed_89 : decode cX3_weed 89 = .ok (.ladd, 1) := by decide +kernel
theorem dX3_weed_90 : decode cX3_weed 90 = .ok (.invokevirtual 96, 3) := by decide +kernel
theorem dX3_weed_93 : decode cX3_weed 93 = .ok (.aload_n 0, 1) := by decide +kernel
theorem dX3_weed_94 : decode cX3_weed 94 = .ok (.getfield 26, 3) := by decide +kernel
theorem dX3_weed_97 : decode cX3_weed 97 = .ok (.iload_n 1, 1) := by decide +kernel
theorem dX3_weed_98 : decode cX3_weed 98 = .ok (.bipush 7, 2) := by decide +kernel
theorem dX3_weed_100 : decode cX3_weed 100 = .ok (.iastore, 1) := by decide +kernel
theorem dX3_weed_101 : decode cX3_weed 101 = .ok (.iconst 2, 1) := by decide +kernel
theorem dX3_weed_102 : decode cX3_weed 102 = .ok (.ireturn, 1) := by decide +kernel
theorem dX3_place_0 : decode cX3_place 0 = .ok (.aload_n 0, 1) := by decide +kernel
theorem dX3_place_1 : decode cX3_place 1 = .ok (.iconst 0, 1) := by decide +kernel
theorem dX3_place_2 : decode cX3_place 2 = .ok (.putfield 57, 3) := by decide +kernel
theorem dX3_place_5 : decode cX3_place 5 = .ok (.aload_n 0, 1) := by decide +kernel
theorem dX3_place_6 : decode cX3_place 6 = .ok (.iload_n 1, 1) := by decide +kernel
theorem dX3_place_7 : decode cX3_place 7 = .ok (.invokevirtual 78, 3) := by decide +kernel
theorem dX3_place_10 : decode cX3_place 10 = .ok (.ifCond .eq 12, 3) := by decide +kernel
theorem dX3_place_13 : decode cX3_place 13 = .ok (.aload_n 0, 1) := by decide +kernel
theorem dX3_place_14 : decode cX3_place 14 = .ok (.getfield 23, 3) := by decide +kernel
theorem dX3_place_17 : decode cX3_place 17 = .ok (.iload_n 1, 1) := by decide +kernel
theorem dX3_place_18 : decode cX3_place 18 = .ok (.iaload, 1) := by decide +kernel
theorem dX3_place_19 : decode cX3_place 19 = .ok (.goto 4, 3) := by decide +kernel
theorem dX3_place_22 : decode cX3_place 22 = .ok (.iconst (-1), 1) := by decide +kernel
theorem dX3_place_23 : decode cX3_place 23 = .ok (.ireturn, 1) := by decide +kernel
theorem dX3_floats_0 : decode cX3_floats 0 = .ok (.aload_n 0, 1) := by decide +kernel
theorem dX3_floats_1 : decode cX3_floats 1 = .ok (.iconst 0, 1) := by decide +kernel
theorem dX3_floats_2 : decode cX3_floats 2 = .ok (.putfield 57, 3) := by decide +kernel
theorem dX3_floats_5 : decode cX3_floats 5 = .ok (.aload_n 0, 1) := by decide +kernel
theorem dX3_floats_6 : decode cX3_floats 6 = .ok (.iload_n 1, 1) := by decide +kernel
theorem dX3_floats_7 : decode cX3_floats 7 = .ok (.invokevirtual 78, 3) := by decide +kernel
theorem dX3_floats_10 : decode cX3_floats 10 = .ok (.ifCond .ne 5, 3) := by decide +kernel
theorem dX3_floats_13 : decode cX3_floats 13 = .ok (.iconst 0, 1) := by decide +kernel
theorem dX3_floats_14 : decode cX3_floats 14 = .ok (.ireturn, 1) := by decide +kernel
theorem dX3_floats_15 : decode cX3_floats 15 = .ok (.aload_n 0, 1) := by decide +kernel
theorem dX3_floats_16 : decode cX3_floats 16 = .ok (.getfield 29, 3) := by decide +kernel
theorem dX3_floats_19 : decode cX3_floats 19 = .ok (.iload_n 1, 1) := by decide +kernel
theorem dX3_floats_20 : decode cX3_floats 20 = .ok (.baload, 1) := by decide +kernel
theorem dX3_floats_21 : decode cX3_floats 21 = .ok (.istore_n 3, 1) := by decide +kernel
theorem dX3_floats_22 : decode cX3_floats 22 = .ok (.aload_n 0, 1) := by decide +kernel
theorem dX3_floats_23 : decode cX3_floats 23 = .ok (.getfield 29, 3) := by decide +kernel
theorem dX3_floats_26 : decode cX3_floats 26 = .ok (.iload_n 1, 1) := by decide +kernel
theorem dX3_floats_27 : decode cX3_floats 27 = .ok (.iload_n 2, 1) := by decide +kernel
theorem dX3_floats_28 : decode cX3_floats 28 = .ok (.bastore, 1) := by decide +kernel
theorem dX3_floats_29 : decode cX3_floats 29 = .ok (.iload_n 3, 1) := by decide +kernel
theorem dX3_floats_30 : decode cX3_floats 30 = .ok (.ireturn, 1) := by decide +kernel
theorem dX3_home_0 : decode cX3_home 0 = .ok (.aload_n 0, 1) := by decide +kernel
theorem dX3_home_1 : decode cX3_home 1 = .ok (.iconst 0, 1) := by decide +kernel
theorem dX3_home_2 : decode cX3_home 2 = .ok (.putfield 57, 3) := by decide +kernel
theorem dX3_home_5 : decode cX3_home 5 = .ok (.aload_n 0, 1) := by decide +kernel
theorem dX3_home_6 : decode cX3_home 6 = .ok (.iload_n 1, 1) := by decide +kernel
theorem dX3_home_7 : decode cX3_home 7 = .ok (.invokevirtual 78, 3) := by decide +kernel
theorem dX3_home_10 : decode cX3_home 10 = .ok (.ifCond .eq 12, 3) := by decide +kernel
theorem dX3_home_13 : decode cX3_home 13 = .ok (.aload_n 0, 1) := by decide +kernel
theorem dX3_home_14 : decode cX3_home 14 = .ok (.getfield 20, 3) := by decide +kernel
theorem dX3_home_17 : decode cX3_home 17 = .ok (.iload_n 1, 1) := by decide +kernel
theorem dX3_home_18 : decode cX3_home 18 = .ok (.iaload, 1) := by decide +kernel
theorem dX3_home_19 : decode cX3_home 19 = .ok (.goto 4, 3) := by decide +kernel
theorem dX3_home_22 : decode cX3_home 22 = .ok (.iconst (-1), 1) := by decide +kernel
theorem dX3_home_23 : decode cX3_home 23 = .ok (.ireturn, 1) := by decide +kernel
theorem dX3_owed_0 : decode cX3_owed 0 = .ok (.aload_n 0, 1) := by decide +kernel
theorem dX3_owed_1 : decode cX3_owed 1 = .ok (.iconst 0, 1) := by decide +kernel
theorem dX3_owed_2 : decode cX3_owed 2 = .ok (.putfield 57, 3) := by decide +kernel
theorem dX3_owed_5 : decode cX3_owed 5 = .ok (.aload_n 0, 1) := by decide +kernel
theorem dX3_owed_6 : decode cX3_owed 6 = .ok (.iload_n 1, 1) := by decide +kernel
theorem dX3_owed_7 : decode cX3_owed 7 = .ok (.invokevirtual 78, 3) := by decide +kernel
theorem dX3_owed_10 : decode cX3_owed 10 = .ok (.ifCond .eq 12, 3) := by decide +kernel
theorem dX3_owed_13 : decode cX3_owed 13 = .ok (.aload_n 0, 1) := by decide +kernel
theorem dX3_owed_14 : decode cX3_owed 14 = .ok (.getfield 36, 3) := by decide +kernel
theorem dX3_owed_17 : decode cX3_owed 17 = .ok (.iload_n 1, 1) := by decide +kernel
theorem dX3_owed_18 : decode cX3_owed 18 = .ok (.iaload, 1) := by decide +kernel
theorem dX3_owed_19 : decode cX3_owed 19 = .ok (.goto 4, 3) := by decide +kernel
theorem dX3_owed_22 : decode cX3_owed 22 = .ok (.iconst (-1), 1) := by decide +kernel
theorem dX3_owed_23 : decode cX3_owed 23 = .ok (.ireturn, 1) := by decide +kernel
theorem dX3_history_0 : decode cX3_history 0 = .ok (.aload_n 0, 1) := by decide +kernel
theorem dX3_history_1 : decode cX3_history 1 = .ok (.iconst 0, 1) := by decide +kernel
theorem dX3_history_2 : decode cX3_history 2 = .ok (.putfield 57, 3) := by decide +kernel
theorem dX3_history_5 : decode cX3_history 5 = .ok (.iconst 0, 1) := by decide +kernel
theorem dX3_history_6 : decode cX3_history 6 = .ok (.istore 4, 2) := by decide +kernel
theorem dX3_history_8 : decode cX3_history 8 = .ok (.iconst 0, 1) := by decide +kernel
theorem dX3_history_9 : decode cX3_history 9 = .ok (.istore 5, 2) := by decide +kernel
theorem dX3_history_11 : decode cX3_history 11 = .ok (.iload 5, 2) := by decide +kernel
theorem dX3_history_13 : decode cX3_history 13 = .ok (.aload_n 0, 1) := by decide +kernel
theorem dX3_history_14 : decode cX3_history 14 = .ok (.getfield 75, 3) := by decide +kernel
theorem dX3_history_17 : decode cX3_history 17 = .ok (.if_icmp .ge 80, 3) := by decide +kernel
theorem dX3_history_20 : decode cX3_history 20 = .ok (.iload_n 2, 1) := by decide +kernel
theorem dX3_history_21 : decode cX3_history 21 = .ok (.ifCond .lt 76, 3) := by decide +kernel
theorem dX3_history_24 : decode cX3_history 24 = .ok (.aload_n 0, 1) := by decide +kernel
theorem dX3_history_25 : decode cX3_history 25 = .ok (.iload_n 1, 1) := by decide +kernel
theorem dX3_history_26 : decode cX3_history 26 = .ok (.invokevirtual 78, 3) := by decide +kernel
theorem dX3_history_29 : decode cX3_history 29 = .ok (.ifCond .eq 68, 3) := by decide +kernel
theorem dX3_history_32 : decode cX3_history 32 = .ok (.aload_n 0, 1) := by decide +kernel
theorem dX3_history_33 : decode cX3_history 33 = .ok (.getfield 45, 3) := by decide +kernel
theorem dX3_history_36 : decode cX3_history 36 = .ok (.iload 5, 2) := by decide +kernel
theorem dX3_history_38 : decode cX3_history 38 = .ok (.iaload, 1) := by decide +kernel
theorem dX3_history_39 : decode cX3_history 39 = .ok (.iload_n 1, 1) := by decide +kernel
theorem dX3_history_40 : decode cX3_history 40 = .ok (.if_icmp .ne 51, 3) := by decide +kernel
theorem dX3_history_43 : decode cX3_history 43 = .ok (.iload 4, 2) := by decide +kernel
theorem dX3_history_45 : decode cX3_history 45 = .ok (.iload_n 2, 1) := by decide +kernel
theorem dX3_history_46 : decode cX3_history 46 = .ok (.if_icmp .ne 42, 3) := by decide +kernel
theorem dX3_history_49 : decode cX3_history 49 = .ok (.iload_n 3, 1) := by decide +kernel
theorem dX3_history_50 : decode cX3_history 50 = .ok (.ifCond .ne 13, 3) := by decide +kernel
theorem dX3_history_53 : decode cX3_history 53 = .ok (.aload_n 0, 1) := by decide +kernel
theorem dX3_history_54 : decode cX3_history 54 = .ok (.getfield 48, 3) := by decide +kernel
theorem dX3_history_57 : decode cX3_history 57 = .ok (.iload 5, 2) := by decide +kernel
theorem dX3_history_59 : decode cX3_history 59 = .ok (.iaload, 1) := by decide +kernel
theorem dX3_history_60 : decode cX3_history 60 = .ok (.goto 27, 3) := by decide +kernel
theorem dX3_history_63 : decode cX3_history 63 = .ok (.iload_n 3, 1) := by decide +kernel
theorem dX3_history_64 : decode cX3_history 64 = .ok (.iconst 1, 1) := by decide +kernel
theorem dX3_history_65 : decode cX3_history 65 = .ok (.if_icmp .ne 21, 3) := by decide +kernel
theorem dX3_history_68 : decode cX3_history 68 = .ok (.aload_n 0, 1) := by decide +kernel
theorem dX3_history_69 : decode cX3_history 69 = .ok (.getfield 51, 3) := by decide +kernel
theorem dX3_history_72 : decode cX3_history 72 = .ok (.iload 5, 2) := by decide +kernel
theorem dX3_history_74 : decode cX3_history 74 = .ok (.baload, 1) := by decide +kernel
theorem dX3_history_75 : decode cX3_history 75 = .ok (.ifCond .eq 7, 3) := by decide +kernel
theorem dX3_history_78 : decode cX3_history 78 = .ok (.iconst 1, 1) := by decide +kernel
theorem dX3_history_79 : decode cX3_history 79 = .ok (.goto 8, 3) := by decide +kernel
theorem dX3_history_82 : decode cX3_history 82 = .ok (.iconst 0, 1) := by decide +kernel
theorem dX3_history_83 : decode cX3_history 83 = .ok (.goto 4, 3) := by decide +kernel
theorem dX3_history_86 : decode cX3_history 86 = .ok (.iconst (-1), 1) := by decide +kernel
theorem dX3_history_87 : decode cX3_history 87 = .ok (.ireturn, 1) := by decide +kernel
theorem dX3_history_88 : decode cX3_history 88 = .ok (.iinc 4 1, 3) := by decide +kernel
theorem dX3_history_91 : decode cX3_history 91 = .ok (.iinc 5 1, 3) := by decide +kernel
theorem dX3_history_94 : decode cX3_history 94 = .ok (.goto (-83), 3) := by decide +kernel
theorem dX3_history_97 : decode cX3_history 97 = .ok (.iconst (-1), 1) := by decide +kernel
theorem dX3_history_98 : decode cX3_history 98 = .ok (.ireturn, 1) := by decide +kernel
theorem dX3_count_0 : decode cX3_count 0 = .ok (.aload_n 0, 1) := by decide +kernel
theorem dX3_count_1 : decode cX3_count 1 = .ok (.iconst 0, 1) := by decide +kernel
theorem dX3_count_2 : decode cX3_count 2 = .ok (.putfield 57, 3) := by decide +kernel
theorem dX3_count_5 : decode cX3_count 5 = .ok (.iconst 0, 1) := by decide +kernel
theorem dX3_count_6 : decode cX3_count 6 = .ok (.istore_n 3, 1) := by decide +kernel
theorem dX3_count_7 : decode cX3_count 7 = .ok (.iconst 1, 1) := by decide +kernel
theorem dX3_count_8 : decode cX3_count 8 = .ok (.istore 4, 2) := by decide +kernel
theorem dX3_count_10 : decode cX3_count 10 = .ok (.iload 4, 2) := by decide +kernel
theorem dX3_count_12 : decode cX3_count 12 = .ok (.aload_n 0, 1) := by decide +kernel
theorem dX3_count_13 : decode cX3_count 13 = .ok (.getfield 71, 3) := by decide +kernel
theorem dX3_count_16 : decode cX3_count 16 = .ok (.if_icmp .gt 44, 3) := by decide +kernel
theorem dX3_count_19 : decode cX3_count 19 = .ok (.iload_n 3, 1) := by decide +kernel
theorem dX3_count_20 : decode cX3_count 20 = .ok (.aload_n 0, 1) := by decide +kernel
theorem dX3_count_21 : decode cX3_count 21 = .ok (.getfield 26, 3) := by decide +kernel
theorem dX3_count_24 : decode cX3_count 24 = .ok (.iload 4, 2) := by decide +kernel
theorem dX3_count_26 : decode cX3_count 26 = .ok (.iaload, 1) := by decide +kernel
theorem dX3_count_27 : decode cX3_count 27 = .ok (.iload_n 1, 1) := by decide +kernel
theorem dX3_count_28 : decode cX3_count 28 = .ok (.if_icmp .ne 23, 3) := by decide +kernel
theorem dX3_count_31 : decode cX3_count 31 = .ok (.iload_n 2, 1) := by decide +kernel
theorem dX3_count_32 : decode cX3_count 32 = .ok (.iconst (-1), 1) := by decide +kernel
theorem dX3_count_33 : decode cX3_count 33 = .ok (.if_icmp .eq 14, 3) := by decide +kernel
theorem dX3_count_36 : decode cX3_count 36 = .ok (.aload_n 0, 1) := by decide +kernel
theorem dX3_count_37 : decode cX3_count 37 = .ok (.getfield 20, 3) := by decide +kernel
theorem dX3_count_40 : decode cX3_count 40 = .ok (.iload 4, 2) := by decide +kernel
theorem dX3_count_42 : decode cX3_count 42 = .ok (.iaload, 1) := by decide +kernel
theorem dX3_count_43 : decode cX3_count 43 = .ok (.iload_n 2, 1) := by decide +kernel
theorem dX3_count_44 : decode cX3_count 44 = .ok (.if_icmp .ne 7, 3) := by decide +kernel
theorem dX3_count_47 : decode cX3_count 47 = .ok (.iconst 1, 1) := by decide +kernel
theorem dX3_count_48 : decode cX3_count 48 = .ok (.goto 4, 3) := by decide +kernel
theorem dX3_count_51 : decode cX3_count 51 = .ok (.iconst 0, 1) := by decide +kernel
theorem dX3_count_52 : decode cX3_count 52 = .ok (.iadd, 1) := by decide +kernel
theorem dX3_count_53 : decode cX3_count 53 = .ok (.istore_n 3, 1) := by decide +kernel
theorem dX3_count_54 : decode cX3_count 54 = .ok (.iinc 4 1, 3) := by decide +kernel
theorem dX3_count_57 : decode cX3_count 57 = .ok (.goto (-47), 3) := by decide +kernel
theorem dX3_count_60 : decode cX3_count 60 = .ok (.iload_n 3, 1) := by decide +kernel
theorem dX3_count_61 : decode cX3_count 61 = .ok (.ireturn, 1) := by decide +kernel
theorem dL_law_0 : decode code 0 = .ok (.new 7, 3) := by decide +kernel
theorem dL_law_3 : decode code 3 = .ok (.dup, 1) := by decide +kernel
theorem dL_law_4 : decode code 4 = .ok (.invokespecial 9, 3) := by decide +kernel
theorem dL_law_7 : decode code 7 = .ok (.astore_n 1, 1) := by decide +kernel
theorem dL_law_8 : decode code 8 = .ok (.new 10, 3) := by decide +kernel
theorem dL_law_11 : decode code 11 = .ok (.dup, 1) := by decide +kernel
theorem dL_law_12 : decode code 12 = .ok (.invokespecial 12, 3) := by decide +kernel
theorem dL_law_15 : decode code 15 = .ok (.astore_n 2, 1) := by decide +kernel
theorem dL_law_16 : decode code 16 = .ok (.iconst 0, 1) := by decide +kernel
theorem dL_law_17 : decode code 17 = .ok (.istore_n 3, 1) := by decide +kernel
theorem dL_law_18 : decode code 18 = .ok (.iload_n 3, 1) := by decide +kernel
theorem dL_law_19 : decode code 19 = .ok (.aload_n 0, 1) := by decide +kernel
theorem dL_law_20 : decode code 20 = .ok (.arraylength, 1) := by decide +kernel
theorem dL_law_21 : decode code 21 = .ok (.bipush 6, 2) := by decide +kernel
theorem dL_law_23 : decode code 23 = .ok (.isub, 1) := by decide +kernel
theorem dL_law_24 : decode code 24 = .ok (.if_icmp .gt 693, 3) := by decide +kernel
theorem dL_law_27 : decode code 27 = .ok (.aload_n 0, 1) := by decide +kernel
theorem dL_law_28 : decode code 28 = .ok (.iload_n 3, 1) := by decide +kernel
theorem dL_law_29 : decode code 29 = .ok (.iaload, 1) := by decide +kernel
theorem dL_law_30 : decode code 30 = .ok (.bipush 15, 2) := by decide +kernel
theorem dL_law_32 : decode code 32 = .ok (.iand, 1) := by decide +kernel
theorem dL_law_33 : decode code 33 = .ok (.tableswitch 678 0 12 #[67, 130, 213, 272, 305, 388, 451, 474, 523, 546, 579, 602, 645], 67) := by decide +kernel
theorem dL_law_100 : decode code 100 = .ok (.aload_n 1, 1) := by decide +kernel
theorem dL_law_101 : decode code 101 = .ok (.aload_n 0, 1) := by decide +kernel
theorem dL_law_102 : decode code 102 = .ok (.iload_n 3, 1) := by decide +kernel
theorem dL_law_103 : decode code 103 = .ok (.iconst 1, 1) := by decide +kernel
theorem dL_law_104 : decode code 104 = .ok (.iadd, 1) := by decide +kernel
theorem dL_law_105 : decode code 105 = .ok (.iaload, 1) := by decide +kernel
theorem dL_law_106 : decode code 106 = .ok (.i2l, 1) := by decide +kernel
theorem dL_law_107 : decode code 107 = .ok (.bipush 32, 2) := by decide +kernel
theorem dL_law_109 : decode code 109 = .ok (.lshl, 1) := by decide +kernel
theorem dL_law_110 : decode code 110 = .ok (.aload_n 0, 1) := by decide +kernel
theorem dL_law_111 : decode code 111 = .ok (.iload_n 3, 1) := by decide +kernel
theorem dL_law_112 : decode code 112 = .ok (.iconst 2, 1) := by decide +kernel
theorem dL_law_113 : decode code 113 = .ok (.iadd, 1) := by decide +kernel
theorem dL_law_114 : decode code 114 = .ok (.iaload, 1) := by decide +kernel
theorem dL_law_115 : decode code 115 = .ok (.i2l, 1) := by decide +kernel
theorem dL_law_116 : decode code 116 = .ok (.ldc2_w 13, 3) := by decide +kernel
theorem dL_law_119 : decode code 119 = .ok (.land, 1) := by decide +kernel
theorem dL_law_120 : decode code 120 = .ok (.lor, 1) := by decide +kernel
theorem dL_law_121 : decode code 121 = .ok (.aload_n 0, 1) := by decide +kernel
theorem dL_law_122 : decode code 122 = .ok (.iload_n 3, 1) := by decide +kernel
theorem dL_law_123 : decode code 123 = .ok (.iconst 3, 1) := by decide +kernel
theorem dL_law_124 : decode code 124 = .ok (.iadd, 1) := by decide +kernel
theorem dL_law_125 : decode code 125 = .ok (.iaload, 1) := by decide +kernel
theorem dL_law_126 : decode code 126 = .ok (.invokevirtual 15, 3) := by decide +kernel
theorem dL_law_129 : decode code 129 = .ok (.aload_n 2, 1) := by decide +kernel
theorem dL_law_130 : decode code 130 = .ok (.aload_n 0, 1) := by decide +kernel
theorem dL_law_131 : decode code 131 = .ok (.iload_n 3, 1) := by decide +kernel
theorem dL_law_132 : decode code 132 = .ok (.iconst 1, 1) := by decide +kernel
theorem dL_law_133 : decode code 133 = .ok (.iadd, 1) := by decide +kernel
theorem dL_law_134 : decode code 134 = .ok (.iaload, 1) := by decide +kernel
theorem dL_law_135 : decode code 135 = .ok (.i2l, 1) := by decide +kernel
theorem dL_law_136 : decode code 136 = .ok (.bipush 32, 2) := by decide +kernel
theorem dL_law_138 : decode code 138 = .ok (.lshl, 1) := by decide +kernel
theorem dL_law_139 : decode code 139 = .ok (.aload_n 0, 1) := by decide +kernel
theorem dL_law_140 : decode code 140 = .ok (.iload_n 3, 1) := by decide +kernel
theorem dL_law_141 : decode code 141 = .ok (.iconst 2, 1) := by decide +kernel
theorem dL_law_142 : decode code 142 = .ok (.iadd, 1) := by decide +kernel
theorem dL_law_143 : decode code 143 = .ok (.iaload, 1) := by decide +kernel
theorem dL_law_144 : decode code 144 = .ok (.i2l, 1) := by decide +kernel
theorem dL_law_145 : decode code 145 = .ok (.ldc2_w 13, 3) := by decide +kernel
theorem dL_law_148 : decode code 148 = .ok (.land, 1) := by decide +kernel
theorem dL_law_149 : decode code 149 = .ok (.lor, 1) := by decide +kernel
theorem dL_law_150 : decode code 150 = .ok (.aload_n 0, 1) := by decide +kernel
theorem dL_law_151 : decode code 151 = .ok (.iload_n 3, 1) := by decide +kernel
theorem dL_law_152 : decode code 152 = .ok (.iconst 3, 1) := by decide +kernel
theorem dL_law_153 : decode code 153 = .ok (.iadd, 1) := by decide +kernel
theorem dL_law_154 : decode code 154 = .ok (.iaload, 1) := by decide +kernel
theorem dL_law_155 : decode code 155 = .ok (.invokevirtual 19, 3) := by decide +kernel
theorem dL_law_158 : decode code 158 = .ok (.if_icmp .eq 553, 3) := by decide +kernel
theorem dL_law_161 : decode code 161 = .ok (.iconst 0, 1) := by decide +kernel
theorem dL_law_162 : decode code 162 = .ok (.ireturn, 1) := by decide +kernel
theorem dL_law_163 : decode code 163 = .ok (.aload_n 1, 1) := by decide +kernel
theorem dL_law_164 : decode code 164 = .ok (.aload_n 0, 1) := by decide +kernel
theorem dL_law_165 : decode code 165 = .ok (.iload_n 3, 1) := by decide +kernel
theorem dL_law_166 : decode code 166 = .ok (.iconst 1, 1) := by decide +kernel
theorem dL_law_167 : decode code 167 = .ok (.iadd, 1) := by decide +kernel
theorem dL_law_168 : decode code 168 = .ok (.iaload, 1) := by decide +kernel
theorem dL_law_169 : decode code 169 = .ok (.aload_n 0, 1) := by decide +kernel
theorem dL_law_170 : decode code 170 = .ok (.iload_n 3, 1) := by decide +kernel
theorem dL_law_171 : decode code 171 = .ok (.iconst 2, 1) := by decide +kernel
theorem dL_law_172 : decode code 172 = .ok (.iadd, 1) := by decide +kernel
theorem dL_law_173 : decode code 173 = .ok (.iaload, 1) := by decide +kernel
theorem dL_law_174 : decode code 174 = .ok (.i2l, 1) := by decide +kernel
theorem dL_law_175 : decode code 175 = .ok (.bipush 32, 2) := by decide +kernel
theorem dL_law_177 : decode code 177 = .ok (.lshl, 1) := by decide +kernel
theorem dL_law_178 : decode code 178 = .ok (.aload_n 0, 1) := by decide +kernel
theorem dL_law_179 : decode code 179 = .ok (.iload_n 3, 1) := by decide +kernel
theorem dL_law_180 : decode code 180 = .ok (.iconst 3, 1) := by decide +kernel
theorem dL_law_181 : decode code 181 = .ok (.iadd, 1) := by decide +kernel
theorem dL_law_182 : decode code 182 = .ok (.iaload, 1) := by decide +kernel
theorem dL_law_183 : decode code 183 = .ok (.i2l, 1) := by decide +kernel
theorem dL_law_184 : decode code 184 = .ok (.ldc2_w 13, 3) := by decide +kernel
theorem dL_law_187 : decode code 187 = .ok (.land, 1) := by decide +kernel
theorem dL_law_188 : decode code 188 = .ok (.lor, 1) := by decide +kernel
theorem dL_law_189 : decode code 189 = .ok (.aload_n 0, 1) := by decide +kernel
theorem dL_law_190 : decode code 190 = .ok (.iload_n 3, 1) := by decide +kernel
theorem dL_law_191 : decode code 191 = .ok (.iconst 4, 1) := by decide +kernel
theorem dL_law_192 : decode code 192 = .ok (.iadd, 1) := by decide +kernel
theorem dL_law_193 : decode code 193 = .ok (.iaload, 1) := by decide +kernel
theorem dL_law_194 : decode code 194 = .ok (.aload_n 0, 1) := by decide +kernel
theorem dL_law_195 : decode code 195 = .ok (.iload_n 3, 1) := by decide +kernel
theorem dL_law_196 : decode code 196 = .ok (.iconst 5, 1) := by decide +kernel
theorem dL_law_197 : decode code 197 = .ok (.iadd, 1) := by decide +kernel
theorem dL_law_198 : decode code 198 = .ok (.iaload, 1) := by decide +kernel
theorem dL_law_199 : decode code 199 = .ok (.invokevirtual 20, 3) := by decide +kernel
theorem dL_law_202 : decode code 202 = .ok (.aload_n 2, 1) := by decide +kernel
theorem dL_law_203 : decode code 203 = .ok (.aload_n 0, 1) := by decide +kernel
theorem dL_law_204 : decode code 204 = .ok (.iload_n 3, 1) := by decide +kernel
theorem dL_law_205 : decode code 205 = .ok (.iconst 1, 1) := by decide +kernel
theorem dL_law_206 : decode code 206 = .ok (.iadd, 1) := by decide +kernel
theorem dL_law_207 : decode code 207 = .ok (.iaload, 1) := by decide +kernel
theorem dL_law_208 : decode code 208 = .ok (.aload_n 0, 1) := by decide +kernel
theorem dL_law_209 : decode code 209 = .ok (.iload_n 3, 1) := by decide +kernel
theorem dL_law_210 : decode code 210 = .ok (.iconst 2, 1) := by decide +kernel
theorem dL_law_211 : decode code 211 = .ok (.iadd, 1) := by decide +kernel
theorem dL_law_212 : decode code 212 = .ok (.iaload, 1) := by decide +kernel
theorem dL_law_213 : decode code 213 = .ok (.i2l, 1) := by decide +kernel
theorem dL_law_214 : decode code 214 = .ok (.bipush 32, 2) := by decide +kernel
theorem dL_law_216 : decode code 216 = .ok (.lshl, 1) := by decide +kernel
theorem dL_law_217 : decode code 217 = .ok (.aload_n 0, 1) := by decide +kernel
theorem dL_law_218 : decode code 218 = .ok (.iload_n 3, 1) := by decide +kernel
theorem dL_law_219 : decode code 219 = .ok (.iconst 3, 1) := by decide +kernel
theorem dL_law_220 : decode code 220 = .ok (.iadd, 1) := by decide +kernel
theorem dL_law_221 : decode code 221 = .ok (.iaload, 1) := by decide +kernel
theorem dL_law_222 : decode code 222 = .ok (.i2l, 1) := by decide +kernel
theorem dL_law_223 : decode code 223 = .ok (.ldc2_w 13, 3) := by decide +kernel
theorem dL_law_226 : decode code 226 = .ok (.land, 1) := by decide +kernel
theorem dL_law_227 : decode code 227 = .ok (.lor, 1) := by decide +kernel
theorem dL_law_228 : decode code 228 = .ok (.aload_n 0, 1) := by decide +kernel
theorem dL_law_229 : decode code 229 = .ok (.iload_n 3, 1) := by decide +kernel
theorem dL_law_230 : decode code 230 = .ok (.iconst 4, 1) := by decide +kernel
theorem dL_law_231 : decode code 231 = .ok (.iadd, 1) := by decide +kernel
theorem dL_law_232 : decode code 232 = .ok (.iaload, 1) := by decide +kernel
theorem dL_law_233 : decode code 233 = .ok (.aload_n 0, 1) := by decide +kernel
theorem dL_law_234 : decode code 234 = .ok (.iload_n 3, 1) := by decide +kernel
theorem dL_law_235 : decode code 235 = .ok (.iconst 5, 1) := by decide +kernel
theorem dL_law_236 : decode code 236 = .ok (.iadd, 1) := by decide +kernel
theorem dL_law_237 : decode code 237 = .ok (.iaload, 1) := by decide +kernel
theorem dL_law_238 : decode code 238 = .ok (.invokevirtual 24, 3) := by decide +kernel
theorem dL_law_241 : decode code 241 = .ok (.if_icmp .eq 470, 3) := by decide +kernel
theorem dL_law_244 : decode code 244 = .ok (.iconst 0, 1) := by decide +kernel
theorem dL_law_245 : decode code 245 = .ok (.ireturn, 1) := by decide +kernel
theorem dL_law_246 : decode code 246 = .ok (.aload_n 1, 1) := by decide +kernel
theorem dL_law_247 : decode code 247 = .ok (.aload_n 0, 1) := by decide +kernel
theorem dL_law_248 : decode code 248 = .ok (.iload_n 3, 1) := by decide +kernel
theorem dL_law_249 : decode code 249 = .ok (.iconst 1, 1) := by decide +kernel
theorem dL_law_250 : decode code 250 = .ok (.iadd, 1) := by decide +kernel
theorem dL_law_251 : decode code 251 = .ok (.iaload, 1) := by decide +kernel
theorem dL_law_252 : decode code 252 = .ok (.aload_n 0, 1) := by decide +kernel
theorem dL_law_253 : decode code 253 = .ok (.iload_n 3, 1) := by decide +kernel
theorem dL_law_254 : decode code 254 = .ok (.iconst 2, 1) := by decide +kernel
theorem dL_law_255 : decode code 255 = .ok (.iadd, 1) := by decide +kernel
theorem dL_law_256 : decode code 256 = .ok (.iaload, 1) := by decide +kernel
theorem dL_law_257 : decode code 257 = .ok (.aload_n 0, 1) := by decide +kernel
theorem dL_law_258 : decode code 258 = .ok (.iload_n 3, 1) := by decide +kernel
theorem dL_law_259 : decode code 259 = .ok (.iconst 3, 1) := by decide +kernel
theorem dL_law_260 : decode code 260 = .ok (.iadd, 1) := by decide +kernel
theorem dL_law_261 : decode code 261 = .ok (.iaload, 1) := by decide +kernel
theorem dL_law_262 : decode code 262 = .ok (.ifCond .eq 7, 3) := by decide +kernel
theorem dL_law_265 : decode code 265 = .ok (.iconst 1, 1) := by decide +kernel
theorem dL_law_266 : decode code 266 = .ok (.goto 4, 3) := by decide +kernel
theorem dL_law_269 : decode code 269 = .ok (.iconst 0, 1) := by decide +kernel
theorem dL_law_270 : decode code 270 = .ok (.invokevirtual 25, 3) := by decide +kernel
theorem dL_law_273 : decode code 273 = .ok (.aload_n 2, 1) := by decide +kernel
theorem dL_law_274 : decode code 274 = .ok (.aload_n 0, 1) := by decide +kernel
theorem dL_law_275 : decode code 275 = .ok (.iload_n 3, 1) := by decide +kernel
theorem dL_law_276 : decode code 276 = .ok (.iconst 1, 1) := by decide +kernel
theorem dL_law_277 : decode code 277 = .ok (.iadd, 1) := by decide +kernel
theorem dL_law_278 : decode code 278 = .ok (.iaload, 1) := by decide +kernel
theorem dL_law_279 : decode code 279 = .ok (.aload_n 0, 1) := by decide +kernel
theorem dL_law_280 : decode code 280 = .ok (.iload_n 3, 1) := by decide +kernel
theorem dL_law_281 : decode code 281 = .ok (.iconst 2, 1) := by decide +kernel
theorem dL_law_282 : decode code 282 = .ok (.iadd, 1) := by decide +kernel
theorem dL_law_283 : decode code 283 = .ok (.iaload, 1) := by decide +kernel
theorem dL_law_284 : decode code 284 = .ok (.aload_n 0, 1) := by decide +kernel
theorem dL_law_285 : decode code 285 = .ok (.iload_n 3, 1) := by decide +kernel
theorem dL_law_286 : decode code 286 = .ok (.iconst 3, 1) := by decide +kernel
theorem dL_law_287 : decode code 287 = .ok (.iadd, 1) := by decide +kernel
theorem dL_law_288 : decode code 288 = .ok (.iaload, 1) := by decide +kernel
theorem dL_law_289 : decode code 289 = .ok (.ifCond .eq 7, 3) := by decide +kernel
theorem dL_law_292 : decode code 292 = .ok (.iconst 1, 1) := by decide +kernel
theorem dL_law_293 : decode code 293 = .ok (.goto 4, 3) := by decide +kernel
theorem dL_law_296 : decode code 296 = .ok (.iconst 0, 1) := by decide +kernel
theorem dL_law_297 : decode code 297 = .ok (.invokevirtual 29, 3) := by decide +kernel
theorem dL_law_300 : decode code 300 = .ok (.if_icmp .eq 411, 3) := by decide +kernel
theorem dL_law_303 : decode code 303 = .ok (.iconst 0, 1) := by decide +kernel
theorem dL_law_304 : decode code 304 = .ok (.ireturn, 1) := by decide +kernel
theorem dL_law_305 : decode code 305 = .ok (.aload_n 1, 1) := by decide +kernel
theorem dL_law_306 : decode code 306 = .ok (.aload_n 0, 1) := by decide +kernel
theorem dL_law_307 : decode code 307 = .ok (.iload_n 3, 1) := by decide +kernel
theorem dL_law_308 : decode code 308 = .ok (.iconst 1, 1) := by decide +kernel
theorem dL_law_309 : decode code 309 = .ok (.iadd, 1) := by decide +kernel
theorem dL_law_310 : decode code 310 = .ok (.iaload, 1) := by decide +kernel
theorem dL_law_311 : decode code 311 = .ok (.aload_n 0, 1) := by decide +kernel
theorem dL_law_312 : decode code 312 = .ok (.iload_n 3, 1) := by decide +kernel
theorem dL_law_313 : decode code 313 = .ok (.iconst 2, 1) := by decide +kernel
theorem dL_law_314 : decode code 314 = .ok (.iadd, 1) := by decide +kernel
theorem dL_law_315 : decode code 315 = .ok (.iaload, 1) := by decide +kernel
theorem dL_law_316 : decode code 316 = .ok (.invokevirtual 30, 3) := by decide +kernel
theorem dL_law_319 : decode code 319 = .ok (.aload_n 2, 1) := by decide +kernel
theorem dL_law_320 : decode code 320 = .ok (.aload_n 0, 1) := by decide +kernel
theorem dL_law_321 : decode code 321 = .ok (.iload_n 3, 1) := by decide +kernel
theorem dL_law_322 : decode code 322 = .ok (.iconst 1, 1) := by decide +kernel
theorem dL_law_323 : decode code 323 = .ok (.iadd, 1) := by decide +kernel
theorem dL_law_324 : decode code 324 = .ok (.iaload, 1) := by decide +kernel
theorem dL_law_325 : decode code 325 = .ok (.aload_n 0, 1) := by decide +kernel
theorem dL_law_326 : decode code 326 = .ok (.iload_n 3, 1) := by decide +kernel
theorem dL_law_327 : decode code 327 = .ok (.iconst 2, 1) := by decide +kernel
theorem dL_law_328 : decode code 328 = .ok (.iadd, 1) := by decide +kernel
theorem dL_law_329 : decode code 329 = .ok (.iaload, 1) := by decide +kernel
theorem dL_law_330 : decode code 330 = .ok (.invokevirtual 34, 3) := by decide +kernel
theorem dL_law_333 : decode code 333 = .ok (.if_icmp .eq 378, 3) := by decide +kernel
theorem dL_law_336 : decode code 336 = .ok (.iconst 0, 1) := by decide +kernel
theorem dL_law_337 : decode code 337 = .ok (.ireturn, 1) := by decide +kernel
theorem dL_law_338 : decode code 338 = .ok (.aload_n 1, 1) := by decide +kernel
theorem dL_law_339 : decode code 339 = .ok (.aload_n 0, 1) := by decide +kernel
theorem dL_law_340 : decode code 340 = .ok (.iload_n 3, 1) := by decide +kernel
theorem dL_law_341 : decode code 341 = .ok (.iconst 1, 1) := by decide +kernel
theorem dL_law_342 : decode code 342 = .ok (.iadd, 1) := by decide +kernel
theorem dL_law_343 : decode code 343 = .ok (.iaload, 1) := by decide +kernel
theorem dL_law_344 : decode code 344 = .ok (.aload_n 0, 1) := by decide +kernel
theorem dL_law_345 : decode code 345 = .ok (.iload_n 3, 1) := by decide +kernel
theorem dL_law_346 : decode code 346 = .ok (.iconst 2, 1) := by decide +kernel
theorem dL_law_347 : decode code 347 = .ok (.iadd, 1) := by decide +kernel
theorem dL_law_348 : decode code 348 = .ok (.iaload, 1) := by decide +kernel
theorem dL_law_349 : decode code 349 = .ok (.aload_n 0, 1) := by decide +kernel
theorem dL_law_350 : decode code 350 = .ok (.iload_n 3, 1) := by decide +kernel
theorem dL_law_351 : decode code 351 = .ok (.iconst 3, 1) := by decide +kernel
theorem dL_law_352 : decode code 352 = .ok (.iadd, 1) := by decide +kernel
theorem dL_law_353 : decode code 353 = .ok (.iaload, 1) := by decide +kernel
theorem dL_law_354 : decode code 354 = .ok (.aload_n 0, 1) := by decide +kernel
theorem dL_law_355 : decode code 355 = .ok (.iload_n 3, 1) := by decide +kernel
theorem dL_law_356 : decode code 356 = .ok (.iconst 4, 1) := by decide +kernel
theorem dL_law_357 : decode code 357 = .ok (.iadd, 1) := by decide +kernel
theorem dL_law_358 : decode code 358 = .ok (.iaload, 1) := by decide +kernel
theorem dL_law_359 : decode code 359 = .ok (.i2l, 1) := by decide +kernel
theorem dL_law_360 : decode code 360 = .ok (.bipush 32, 2) := by decide +kernel
theorem dL_law_362 : decode code 362 = .ok (.lshl, 1) := by decide +kernel
theorem dL_law_363 : decode code 363 = .ok (.aload_n 0, 1) := by decide +kernel
theorem dL_law_364 : decode code 364 = .ok (.iload_n 3, 1) := by decide +kernel
theorem dL_law_365 : decode code 365 = .ok (.iconst 5, 1) := by decide +kernel
theorem dL_law_366 : decode code 366 = .ok (.iadd, 1) := by decide +kernel
theorem dL_law_367 : decode code 367 = .ok (.iaload, 1) := by decide +kernel
theorem dL_law_368 : decode code 368 = .ok (.i2l, 1) := by decide +kernel
theorem dL_law_369 : decode code 369 = .ok (.ldc2_w 13, 3) := by decide +kernel
theorem dL_law_372 : decode code 372 = .ok (.land, 1) := by decide +kernel
theorem dL_law_373 : decode code 373 = .ok (.lor, 1) := by decide +kernel
theorem dL_law_374 : decode code 374 = .ok (.invokevirtual 35, 3) := by decide +kernel
theorem dL_law_377 : decode code 377 = .ok (.aload_n 2, 1) := by decide +kernel
theorem dL_law_378 : decode code 378 = .ok (.aload_n 0, 1) := by decide +kernel
theorem dL_law_379 : decode code 379 = .ok (.iload_n 3, 1) := by decide +kernel
theorem dL_law_380 : decode code 380 = .ok (.iconst 1, 1) := by decide +kernel
theorem dL_law_381 : decode code 381 = .ok (.iadd, 1) := by decide +kernel
theorem dL_law_382 : decode code 382 = .ok (.iaload, 1) := by decide +kernel
theorem dL_law_383 : decode code 383 = .ok (.aload_n 0, 1) := by decide +kernel
theorem dL_law_384 : decode code 384 = .ok (.iload_n 3, 1) := by decide +kernel
theorem dL_law_385 : decode code 385 = .ok (.iconst 2, 1) := by decide +kernel
theorem dL_law_386 : decode code 386 = .ok (.iadd, 1) := by decide +kernel
theorem dL_law_387 : decode code 387 = .ok (.iaload, 1) := by decide +kernel
theorem dL_law_388 : decode code 388 = .ok (.aload_n 0, 1) := by decide +kernel
theorem dL_law_389 : decode code 389 = .ok (.iload_n 3, 1) := by decide +kernel
theorem dL_law_390 : decode code 390 = .ok (.iconst 3, 1) := by decide +kernel
theorem dL_law_391 : decode code 391 = .ok (.iadd, 1) := by decide +kernel
theorem dL_law_392 : decode code 392 = .ok (.iaload, 1) := by decide +kernel
theorem dL_law_393 : decode code 393 = .ok (.aload_n 0, 1) := by decide +kernel
theorem dL_law_394 : decode code 394 = .ok (.iload_n 3, 1) := by decide +kernel
theorem dL_law_395 : decode code 395 = .ok (.iconst 4, 1) := by decide +kernel
theorem dL_law_396 : decode code 396 = .ok (.iadd, 1) := by decide +kernel
theorem dL_law_397 : decode code 397 = .ok (.iaload, 1) := by decide +kernel
theorem dL_law_398 : decode code 398 = .ok (.i2l, 1) := by decide +kernel
theorem dL_law_399 : decode code 399 = .ok (.bipush 32, 2) := by decide +kernel
theorem dL_law_401 : decode code 401 = .ok (.lshl, 1) := by decide +kernel
theorem dL_law_402 : decode code 402 = .ok (.aload_n 0, 1) := by decide +kernel
theorem dL_law_403 : decode code 403 = .ok (.iload_n 3, 1) := by decide +kernel
theorem dL_law_404 : decode code 404 = .ok (.iconst 5, 1) := by decide +kernel
theorem dL_law_405 : decode code 405 = .ok (.iadd, 1) := by decide +kernel
theorem dL_law_406 : decode code 406 = .ok (.iaload, 1) := by decide +kernel
theorem dL_law_407 : decode code 407 = .ok (.i2l, 1) := by decide +kernel
theorem dL_law_408 : decode code 408 = .ok (.ldc2_w 13, 3) := by decide +kernel
theorem dL_law_411 : decode code 411 = .ok (.land, 1) := by decide +kernel
theorem dL_law_412 : decode code 412 = .ok (.lor, 1) := by decide +kernel
theorem dL_law_413 : decode code 413 = .ok (.invokevirtual 39, 3) := by decide +kernel
theorem dL_law_416 : decode code 416 = .ok (.if_icmp .eq 295, 3) := by decide +kernel
theorem dL_law_419 : decode code 419 = .ok (.iconst 0, 1) := by decide +kernel
theorem dL_law_420 : decode code 420 = .ok (.ireturn, 1) := by decide +kernel
theorem dL_law_421 : decode code 421 = .ok (.aload_n 1, 1) := by decide +kernel
theorem dL_law_422 : decode code 422 = .ok (.aload_n 0, 1) := by decide +kernel
theorem dL_law_423 : decode code 423 = .ok (.iload_n 3, 1) := by decide +kernel
theorem dL_law_424 : decode code 424 = .ok (.iconst 1, 1) := by decide +kernel
theorem dL_law_425 : decode code 425 = .ok (.iadd, 1) := by decide +kernel
theorem dL_law_426 : decode code 426 = .ok (.iaload, 1) := by decide +kernel
theorem dL_law_427 : decode code 427 = .ok (.aload_n 0, 1) := by decide +kernel
theorem dL_law_428 : decode code 428 = .ok (.iload_n 3, 1) := by decide +kernel
theorem dL_law_429 : decode code 429 = .ok (.iconst 2, 1) := by decide +kernel
theorem dL_law_430 : decode code 430 = .ok (.iadd, 1) := by decide +kernel
theorem dL_law_431 : decode code 431 = .ok (.iaload, 1) := by decide +kernel
theorem dL_law_432 : decode code 432 = .ok (.i2l, 1) := by decide +kernel
theorem dL_law_433 : decode code 433 = .ok (.bipush 32, 2) := by decide +kernel
theorem dL_law_435 : decode code 435 = .ok (.lshl, 1) := by decide +kernel
theorem dL_law_436 : decode code 436 = .ok (.aload_n 0, 1) := by decide +kernel
theorem dL_law_437 : decode code 437 = .ok (.iload_n 3, 1) := by decide +kernel
theorem dL_law_438 : decode code 438 = .ok (.iconst 3, 1) := by decide +kernel
theorem dL_law_439 : decode code 439 = .ok (.iadd, 1) := by decide +kernel
theorem dL_law_440 : decode code 440 = .ok (.iaload, 1) := by decide +kernel
theorem dL_law_441 : decode code 441 = .ok (.i2l, 1) := by decide +kernel
theorem dL_law_442 : decode code 442 = .ok (.ldc2_w 13, 3) := by decide +kernel
theorem dL_law_445 : decode code 445 = .ok (.land, 1) := by decide +kernel
theorem dL_law_446 : decode code 446 = .ok (.lor, 1) := by decide +kernel
theorem dL_law_447 : decode code 447 = .ok (.invokevirtual 40, 3) := by decide +kernel
theorem dL_law_450 : decode code 450 = .ok (.aload_n 2, 1) := by decide +kernel
theorem dL_law_451 : decode code 451 = .ok (.aload_n 0, 1) := by decide +kernel
theorem dL_law_452 : decode code 452 = .ok (.iload_n 3, 1) := by decide +kernel
theorem dL_law_453 : decode code 453 = .ok (.iconst 1, 1) := by decide +kernel
theorem dL_law_454 : decode code 454 = .ok (.iadd, 1) := by decide +kernel
theorem dL_law_455 : decode code 455 = .ok (.iaload, 1) := by decide +kernel
theorem dL_law_456 : decode code 456 = .ok (.aload_n 0, 1) := by decide +kernel
theorem dL_law_457 : decode code 457 = .ok (.iload_n 3, 1) := by decide +kernel
theorem dL_law_458 : decode code 458 = .ok (.iconst 2, 1) := by decide +kernel
theorem dL_law_459 : decode code 459 = .ok (.iadd, 1) := by decide +kernel
theorem dL_law_460 : decode code 460 = .ok (.iaload, 1) := by decide +kernel
theorem dL_law_461 : decode code 461 = .ok (.i2l, 1) := by decide +kernel
theorem dL_law_462 : decode code 462 = .ok (.bipush 32, 2) := by decide +kernel
theorem dL_law_464 : decode code 464 = .ok (.lshl, 1) := by decide +kernel
theorem dL_law_465 : decode code 465 = .ok (.aload_n 0, 1) := by decide +kernel
theorem dL_law_466 : decode code 466 = .ok (.iload_n 3, 1) := by decide +kernel
theorem dL_law_467 : decode code 467 = .ok (.iconst 3, 1) := by decide +kernel
theorem dL_law_468 : decode code 468 = .ok (.iadd, 1) := by decide +kernel
theorem dL_law_469 : decode code 469 = .ok (.iaload, 1) := by decide +kernel
theorem dL_law_470 : decode code 470 = .ok (.i2l, 1) := by decide +kernel
theorem dL_law_471 : decode code 471 = .ok (.ldc2_w 13, 3) := by decide +kernel
theorem dL_law_474 : decode code 474 = .ok (.land, 1) := by decide +kernel
theorem dL_law_475 : decode code 475 = .ok (.lor, 1) := by decide +kernel
theorem dL_law_476 : decode code 476 = .ok (.invokevirtual 44, 3) := by decide +kernel
theorem dL_law_479 : decode code 479 = .ok (.if_icmp .eq 232, 3) := by decide +kernel
theorem dL_law_482 : decode code 482 = .ok (.iconst 0, 1) := by decide +kernel
theorem dL_law_483 : decode code 483 = .ok (.ireturn, 1) := by decide +kernel
theorem dL_law_484 : decode code 484 = .ok (.aload_n 1, 1) := by decide +kernel
theorem dL_law_485 : decode code 485 = .ok (.aload_n 0, 1) := by decide +kernel
theorem dL_law_486 : decode code 486 = .ok (.iload_n 3, 1) := by decide +kernel
theorem dL_law_487 : decode code 487 = .ok (.iconst 1, 1) := by decide +kernel
theorem dL_law_488 : decode code 488 = .ok (.iadd, 1) := by decide +kernel
theorem dL_law_489 : decode code 489 = .ok (.iaload, 1) := by decide +kernel
theorem dL_law_490 : decode code 490 = .ok (.invokevirtual 45, 3) := by decide +kernel
theorem dL_law_493 : decode code 493 = .ok (.aload_n 2, 1) := by decide +kernel
theorem dL_law_494 : decode code 494 = .ok (.aload_n 0, 1) := by decide +kernel
theorem dL_law_495 : decode code 495 = .ok (.iload_n 3, 1) := by decide +kernel
theorem dL_law_496 : decode code 496 = .ok (.iconst 1, 1) := by decide +kernel
theorem dL_law_497 : decode code 497 = .ok (.iadd, 1) := by decide +kernel
theorem dL_law_498 : decode code 498 = .ok (.iaload, 1) := by decide +kernel
theorem dL_law_499 : decode code 499 = .ok (.invokevirtual 49, 3) := by decide +kernel
theorem dL_law_502 : decode code 502 = .ok (.if_icmp .eq 209, 3) := by decide +kernel
theorem dL_law_505 : decode code 505 = .ok (.iconst 0, 1) := by decide +kernel
theorem dL_law_506 : decode code 506 = .ok (.ireturn, 1) := by decide +kernel
theorem dL_law_507 : decode code 507 = .ok (.aload_n 1, 1) := by decide +kernel
theorem dL_law_508 : decode code 508 = .ok (.aload_n 0, 1) := by decide +kernel
theorem dL_law_509 : decode code 509 = .ok (.iload_n 3, 1) := by decide +kernel
theorem dL_law_510 : decode code 510 = .ok (.iconst 1, 1) := by decide +kernel
theorem dL_law_511 : decode code 511 = .ok (.iadd, 1) := by decide +kernel
theorem dL_law_512 : decode code 512 = .ok (.iaload, 1) := by decide +kernel
theorem dL_law_513 : decode code 513 = .ok (.aload_n 0, 1) := by decide +kernel
theorem dL_law_514 : decode code 514 = .ok (.iload_n 3, 1) := by decide +kernel
theorem dL_law_515 : decode code 515 = .ok (.iconst 2, 1) := by decide +kernel
theorem dL_law_516 : decode code 516 = .ok (.iadd, 1) := by decide +kernel
theorem dL_law_517 : decode code 517 = .ok (.iaload, 1) := by decide +kernel
theorem dL_law_518 : decode code 518 = .ok (.ifCond .eq 7, 3) := by decide +kernel
theorem dL_law_521 : decode code 521 = .ok (.iconst 1, 1) := by decide +kernel
theorem dL_law_522 : decode code 522 = .ok (.goto 4, 3) := by decide +kernel
theorem dL_law_525 : decode code 525 = .ok (.iconst 0, 1) := by decide +kernel
theorem dL_law_526 : decode code 526 = .ok (.invokevirtual 50, 3) := by decide +kernel
theorem dL_law_529 : decode code 529 = .ok (.aload_n 2, 1) := by decide +kernel
theorem dL_law_530 : decode code 530 = .ok (.aload_n 0, 1) := by decide +kernel
theorem dL_law_531 : decode code 531 = .ok (.iload_n 3, 1) := by decide +kernel
theorem dL_law_532 : decode code 532 = .ok (.iconst 1, 1) := by decide +kernel
theorem dL_law_533 : decode code 533 = .ok (.iadd, 1) := by decide +kernel
theorem dL_law_534 : decode code 534 = .ok (.iaload, 1) := by decide +kernel
theorem dL_law_535 : decode code 535 = .ok (.aload_n 0, 1) := by decide +kernel
theorem dL_law_536 : decode code 536 = .ok (.iload_n 3, 1) := by decide +kernel
theorem dL_law_537 : decode code 537 = .ok (.iconst 2, 1) := by decide +kernel
theorem dL_law_538 : decode code 538 = .ok (.iadd, 1) := by decide +kernel
theorem dL_law_539 : decode code 539 = .ok (.iaload, 1) := by decide +kernel
theorem dL_law_540 : decode code 540 = .ok (.ifCond .eq 7, 3) := by decide +kernel
theorem dL_law_543 : decode code 543 = .ok (.iconst 1, 1) := by decide +kernel
theorem dL_law_544 : decode code 544 = .ok (.goto 4, 3) := by decide +kernel
theorem dL_law_547 : decode code 547 = .ok (.iconst 0, 1) := by decide +kernel
theorem dL_law_548 : decode code 548 = .ok (.invokevirtual 54, 3) := by decide +kernel
theorem dL_law_551 : decode code 551 = .ok (.if_icmp .eq 160, 3) := by decide +kernel
theorem dL_law_554 : decode code 554 = .ok (.iconst 0, 1) := by decide +kernel
theorem dL_law_555 : decode code 555 = .ok (.ireturn, 1) := by decide +kernel
theorem dL_law_556 : decode code 556 = .ok (.aload_n 1, 1) := by decide +kernel
theorem dL_law_557 : decode code 557 = .ok (.aload_n 0, 1) := by decide +kernel
theorem dL_law_558 : decode code 558 = .ok (.iload_n 3, 1) := by decide +kernel
theorem dL_law_559 : decode code 559 = .ok (.iconst 1, 1) := by decide +kernel
theorem dL_law_560 : decode code 560 = .ok (.iadd, 1) := by decide +kernel
theorem dL_law_561 : decode code 561 = .ok (.iaload, 1) := by decide +kernel
theorem dL_law_562 : decode code 562 = .ok (.invokevirtual 55, 3) := by decide +kernel
theorem dL_law_565 : decode code 565 = .ok (.aload_n 2, 1) := by decide +kernel
theorem dL_law_566 : decode code 566 = .ok (.aload_n 0, 1) := by decide +kernel
theorem dL_law_567 : decode code 567 = .ok (.iload_n 3, 1) := by decide +kernel
theorem dL_law_568 : decode code 568 = .ok (.iconst 1, 1) := by decide +kernel
theorem dL_law_569 : decode code 569 = .ok (.iadd, 1) := by decide +kernel
theorem dL_law_570 : decode code 570 = .ok (.iaload, 1) := by decide +kernel
theorem dL_law_571 : decode code 571 = .ok (.invokevirtual 58, 3) := by decide +kernel
theorem dL_law_574 : decode code 574 = .ok (.if_icmp .eq 137, 3) := by decide +kernel
theorem dL_law_577 : decode code 577 = .ok (.iconst 0, 1) := by decide +kernel
theorem dL_law_578 : decode code 578 = .ok (.ireturn, 1) := by decide +kernel
theorem dL_law_579 : decode code 579 = .ok (.aload_n 1, 1) := by decide +kernel
theorem dL_law_580 : decode code 580 = .ok (.aload_n 0, 1) := by decide +kernel
theorem dL_law_581 : decode code 581 = .ok (.iload_n 3, 1) := by decide +kernel
theorem dL_law_582 : decode code 582 = .ok (.iconst 1, 1) := by decide +kernel
theorem dL_law_583 : decode code 583 = .ok (.iadd, 1) := by decide +kernel
theorem dL_law_584 : decode code 584 = .ok (.iaload, 1) := by decide +kernel
theorem dL_law_585 : decode code 585 = .ok (.aload_n 0, 1) := by decide +kernel
theorem dL_law_586 : decode code 586 = .ok (.iload_n 3, 1) := by decide +kernel
theorem dL_law_587 : decode code 587 = .ok (.iconst 2, 1) := by decide +kernel
theorem dL_law_588 : decode code 588 = .ok (.iadd, 1) := by decide +kernel
theorem dL_law_589 : decode code 589 = .ok (.iaload, 1) := by decide +kernel
theorem dL_law_590 : decode code 590 = .ok (.invokevirtual 59, 3) := by decide +kernel
theorem dL_law_593 : decode code 593 = .ok (.aload_n 2, 1) := by decide +kernel
theorem dL_law_594 : decode code 594 = .ok (.aload_n 0, 1) := by decide +kernel
theorem dL_law_595 : decode code 595 = .ok (.iload_n 3, 1) := by decide +kernel
theorem dL_law_596 : decode code 596 = .ok (.iconst 1, 1) := by decide +kernel
theorem dL_law_597 : decode code 597 = .ok (.iadd, 1) := by decide +kernel
theorem dL_law_598 : decode code 598 = .ok (.iaload, 1) := by decide +kernel
theorem dL_law_599 : decode code 599 = .ok (.aload_n 0, 1) := by decide +kernel
theorem dL_law_600 : decode code 600 = .ok (.iload_n 3, 1) := by decide +kernel
theorem dL_law_601 : decode code 601 = .ok (.iconst 2, 1) := by decide +kernel
theorem dL_law_602 : decode code 602 = .ok (.iadd, 1) := by decide +kernel
theorem dL_law_603 : decode code 603 = .ok (.iaload, 1) := by decide +kernel
theorem dL_law_604 : decode code 604 = .ok (.invokevirtual 62, 3) := by decide +kernel
theorem dL_law_607 : decode code 607 = .ok (.if_icmp .eq 104, 3) := by decide +kernel
theorem dL_law_610 : decode code 610 = .ok (.iconst 0, 1) := by decide +kernel
theorem dL_law_611 : decode code 611 = .ok (.ireturn, 1) := by decide +kernel
theorem dL_law_612 : decode code 612 = .ok (.aload_n 1, 1) := by decide +kernel
theorem dL_law_613 : decode code 613 = .ok (.aload_n 0, 1) := by decide +kernel
theorem dL_law_614 : decode code 614 = .ok (.iload_n 3, 1) := by decide +kernel
theorem dL_law_615 : decode code 615 = .ok (.iconst 1, 1) := by decide +kernel
theorem dL_law_616 : decode code 616 = .ok (.iadd, 1) := by decide +kernel
theorem dL_law_617 : decode code 617 = .ok (.iaload, 1) := by decide +kernel
theorem dL_law_618 : decode code 618 = .ok (.invokevirtual 63, 3) := by decide +kernel
theorem dL_law_621 : decode code 621 = .ok (.aload_n 2, 1) := by decide +kernel
theorem dL_law_622 : decode code 622 = .ok (.aload_n 0, 1) := by decide +kernel
theorem dL_law_623 : decode code 623 = .ok (.iload_n 3, 1) := by decide +kernel
theorem dL_law_624 : decode code 624 = .ok (.iconst 1, 1) := by decide +kernel
theorem dL_law_625 : decode code 625 = .ok (.iadd, 1) := by decide +kernel
theorem dL_law_626 : decode code 626 = .ok (.iaload, 1) := by decide +kernel
theorem dL_law_627 : decode code 627 = .ok (.invokevirtual 66, 3) := by decide +kernel
theorem dL_law_630 : decode code 630 = .ok (.if_icmp .eq 81, 3) := by decide +kernel
theorem dL_law_633 : decode code 633 = .ok (.iconst 0, 1) := by decide +kernel
theorem dL_law_634 : decode code 634 = .ok (.ireturn, 1) := by decide +kernel
theorem dL_law_635 : decode code 635 = .ok (.aload_n 1, 1) := by decide +kernel
theorem dL_law_636 : decode code 636 = .ok (.aload_n 0, 1) := by decide +kernel
theorem dL_law_637 : decode code 637 = .ok (.iload_n 3, 1) := by decide +kernel
theorem dL_law_638 : decode code 638 = .ok (.iconst 1, 1) := by decide +kernel
theorem dL_law_639 : decode code 639 = .ok (.iadd, 1) := by decide +kernel
theorem dL_law_640 : decode code 640 = .ok (.iaload, 1) := by decide +kernel
theorem dL_law_641 : decode code 641 = .ok (.aload_n 0, 1) := by decide +kernel
theorem dL_law_642 : decode code 642 = .ok (.iload_n 3, 1) := by decide +kernel
theorem dL_law_643 : decode code 643 = .ok (.iconst 2, 1) := by decide +kernel
theorem dL_law_644 : decode code 644 = .ok (.iadd, 1) := by decide +kernel
theorem dL_law_645 : decode code 645 = .ok (.iaload, 1) := by decide +kernel
theorem dL_law_646 : decode code 646 = .ok (.aload_n 0, 1) := by decide +kernel
theorem dL_law_647 : decode code 647 = .ok (.iload_n 3, 1) := by decide +kernel
theorem dL_law_648 : decode code 648 = .ok (.iconst 3, 1) := by decide +kernel
theorem dL_law_649 : decode code 649 = .ok (.iadd, 1) := by decide +kernel
theorem dL_law_650 : decode code 650 = .ok (.iaload, 1) := by decide +kernel
theorem dL_law_651 : decode code 651 = .ok (.invokevirtual 67, 3) := by decide +kernel
theorem dL_law_654 : decode code 654 = .ok (.aload_n 2, 1) := by decide +kernel
theorem dL_law_655 : decode code 655 = .ok (.aload_n 0, 1) := by decide +kernel
theorem dL_law_656 : decode code 656 = .ok (.iload_n 3, 1) := by decide +kernel
theorem dL_law_657 : decode code 657 = .ok (.iconst 1, 1) := by decide +kernel
theorem dL_law_658 : decode code 658 = .ok (.iadd, 1) := by decide +kernel
theorem dL_law_659 : decode code 659 = .ok (.iaload, 1) := by decide +kernel
theorem dL_law_660 : decode code 660 = .ok (.aload_n 0, 1) := by decide +kernel
theorem dL_law_661 : decode code 661 = .ok (.iload_n 3, 1) := by decide +kernel
theorem dL_law_662 : decode code 662 = .ok (.iconst 2, 1) := by decide +kernel
theorem dL_law_663 : decode code 663 = .ok (.iadd, 1) := by decide +kernel
theorem dL_law_664 : decode code 664 = .ok (.iaload, 1) := by decide +kernel
theorem dL_law_665 : decode code 665 = .ok (.aload_n 0, 1) := by decide +kernel
theorem dL_law_666 : decode code 666 = .ok (.iload_n 3, 1) := by decide +kernel
theorem dL_law_667 : decode code 667 = .ok (.iconst 3, 1) := by decide +kernel
theorem dL_law_668 : decode code 668 = .ok (.iadd, 1) := by decide +kernel
theorem dL_law_669 : decode code 669 = .ok (.iaload, 1) := by decide +kernel
theorem dL_law_670 : decode code 670 = .ok (.invokevirtual 71, 3) := by decide +kernel
theorem dL_law_673 : decode code 673 = .ok (.if_icmp .eq 38, 3) := by decide +kernel
theorem dL_law_676 : decode code 676 = .ok (.iconst 0, 1) := by decide +kernel
theorem dL_law_677 : decode code 677 = .ok (.ireturn, 1) := by decide +kernel
theorem dL_law_678 : decode code 678 = .ok (.aload_n 1, 1) := by decide +kernel
theorem dL_law_679 : decode code 679 = .ok (.aload_n 0, 1) := by decide +kernel
theorem dL_law_680 : decode code 680 = .ok (.iload_n 3, 1) := by decide +kernel
theorem dL_law_681 : decode code 681 = .ok (.iconst 1, 1) := by decide +kernel
theorem dL_law_682 : decode code 682 = .ok (.iadd, 1) := by decide +kernel
theorem dL_law_683 : decode code 683 = .ok (.iaload, 1) := by decide +kernel
theorem dL_law_684 : decode code 684 = .ok (.aload_n 0, 1) := by decide +kernel
theorem dL_law_685 : decode code 685 = .ok (.iload_n 3, 1) := by decide +kernel
theorem dL_law_686 : decode code 686 = .ok (.iconst 2, 1) := by decide +kernel
theorem dL_law_687 : decode code 687 = .ok (.iadd, 1) := by decide +kernel
theorem dL_law_688 : decode code 688 = .ok (.iaload, 1) := by decide +kernel
theorem dL_law_689 : decode code 689 = .ok (.invokevirtual 72, 3) := by decide +kernel
theorem dL_law_692 : decode code 692 = .ok (.aload_n 2, 1) := by decide +kernel
theorem dL_law_693 : decode code 693 = .ok (.aload_n 0, 1) := by decide +kernel
theorem dL_law_694 : decode code 694 = .ok (.iload_n 3, 1) := by decide +kernel
theorem dL_law_695 : decode code 695 = .ok (.iconst 1, 1) := by decide +kernel
theorem dL_law_696 : decode code 696 = .ok (.iadd, 1) := by decide +kernel
theorem dL_law_697 : decode code 697 = .ok (.iaload, 1) := by decide +kernel
theorem dL_law_698 : decode code 698 = .ok (.aload_n 0, 1) := by decide +kernel
theorem dL_law_699 : decode code 699 = .ok (.iload_n 3, 1) := by decide +kernel
theorem dL_law_700 : decode code 700 = .ok (.iconst 2, 1) := by decide +kernel
theorem dL_law_701 : decode code 701 = .ok (.iadd, 1) := by decide +kernel
theorem dL_law_702 : decode code 702 = .ok (.iaload, 1) := by decide +kernel
theorem dL_law_703 : decode code 703 = .ok (.invokevirtual 75, 3) := by decide +kernel
theorem dL_law_706 : decode code 706 = .ok (.if_icmp .eq 5, 3) := by decide +kernel
theorem dL_law_709 : decode code 709 = .ok (.iconst 0, 1) := by decide +kernel
theorem dL_law_710 : decode code 710 = .ok (.ireturn, 1) := by decide +kernel
theorem dL_law_711 : decode code 711 = .ok (.iinc 3 6, 3) := by decide +kernel
theorem dL_law_714 : decode code 714 = .ok (.goto (-696), 3) := by decide +kernel
theorem dL_law_717 : decode code 717 = .ok (.iconst 1, 1) := by decide +kernel
theorem dL_law_718 : decode code 718 = .ok (.ireturn, 1) := by decide +kernel
