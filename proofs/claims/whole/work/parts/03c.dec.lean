theorem dX4_init_0 : decode cX4_init 0 = .ok (.aload_n 0, 1) := by decide +kernel
theorem dX4_init_1 : decode cX4_init 1 = .ok (.invokespecial 1, 3) := by decide +kernel
theorem dX4_init_4 : decode cX4_init 4 = .ok (.aload_n 0, 1) := by decide +kernel
theorem dX4_init_5 : decode cX4_init 5 = .ok (.sipush 700, 3) := by decide +kernel
theorem dX4_init_8 : decode cX4_init 8 = .ok (.newarray .int, 2) := by decide +kernel
theorem dX4_init_10 : decode cX4_init 10 = .ok (.putfield 7, 3) := by decide +kernel
theorem dX4_init_13 : decode cX4_init 13 = .ok (.aload_n 0, 1) := by decide +kernel
theorem dX4_init_14 : decode cX4_init 14 = .ok (.sipush 351, 3) := by decide +kernel
theorem dX4_init_17 : decode cX4_init 17 = .ok (.newarray .int, 2) := by decide +kernel
theorem dX4_init_19 : decode cX4_init 19 = .ok (.putfield 13, 3) := by decide +kernel
theorem dX4_init_22 : decode cX4_init 22 = .ok (.aload_n 0, 1) := by decide +kernel
theorem dX4_init_23 : decode cX4_init 23 = .ok (.sipush 351, 3) := by decide +kernel
theorem dX4_init_26 : decode cX4_init 26 = .ok (.newarray .int, 2) := by decide +kernel
theorem dX4_init_28 : decode cX4_init 28 = .ok (.putfield 16, 3) := by decide +kernel
theorem dX4_init_31 : decode cX4_init 31 = .ok (.aload_n 0, 1) := by decide +kernel
theorem dX4_init_32 : decode cX4_init 32 = .ok (.iconst 4, 1) := by decide +kernel
theorem dX4_init_33 : decode cX4_init 33 = .ok (.newarray .int, 2) := by decide +kernel
theorem dX4_init_35 : decode cX4_init 35 = .ok (.putfield 19, 3) := by decide +kernel
theorem dX4_init_38 : decode cX4_init 38 = .ok (.aload_n 0, 1) := by decide +kernel
theorem dX4_init_39 : decode cX4_init 39 = .ok (.bipush 90, 2) := by decide +kernel
theorem dX4_init_41 : decode cX4_init 41 = .ok (.newarray .int, 2) := by decide +kernel
theorem dX4_init_43 : decode cX4_init 43 = .ok (.putfield 22, 3) := by decide +kernel
theorem dX4_init_46 : decode cX4_init 46 = .ok (.aload_n 0, 1) := by decide +kernel
theorem dX4_init_47 : decode cX4_init 47 = .ok (.bipush 27, 2) := by decide +kernel
theorem dX4_init_49 : decode cX4_init 49 = .ok (.newarray .int, 2) := by decide +kernel
theorem dX4_init_51 : decode cX4_init 51 = .ok (.putfield 25, 3) := by decide +kernel
theorem dX4_init_54 : decode cX4_init 54 = .ok (.aload_n 0, 1) := by decide +kernel
theorem dX4_init_55 : decode cX4_init 55 = .ok (.bipush 36, 2) := by decide +kernel
theorem dX4_init_57 : decode cX4_init 57 = .ok (.newarray .int, 2) := by decide +kernel
theorem dX4_init_59 : decode cX4_init 59 = .ok (.putfield 28, 3) := by decide +kernel
theorem dX4_init_62 : decode cX4_init 62 = .ok (.aload_n 0, 1) := by decide +kernel
theorem dX4_init_63 : decode cX4_init 63 = .ok (.iconst 4, 1) := by decide +kernel
theorem dX4_init_64 : decode cX4_init 64 = .ok (.newarray .int, 2) := by decide +kernel
theorem dX4_init_66 : decode cX4_init 66 = .ok (.putfield 31, 3) := by decide +kernel
theorem dX4_init_69 : decode cX4_init 69 = .ok (.aload_n 0, 1) := by decide +kernel
theorem dX4_init_70 : decode cX4_init 70 = .ok (.bipush 90, 2) := by decide +kernel
theorem dX4_init_72 : decode cX4_init 72 = .ok (.newarray .int, 2) := by decide +kernel
theorem dX4_init_74 : decode cX4_init 74 = .ok (.putfield 34, 3) := by decide +kernel
theorem dX4_init_77 : decode cX4_init 77 = .ok (.aload_n 0, 1) := by decide +kernel
theorem dX4_init_78 : decode cX4_init 78 = .ok (.bipush 27, 2) := by decide +kernel
theorem dX4_init_80 : decode cX4_init 80 = .ok (.newarray .int, 2) := by decide +kernel
theorem dX4_init_82 : decode cX4_init 82 = .ok (.putfield 37, 3) := by decide +kernel
theorem dX4_init_85 : decode cX4_init 85 = .ok (.aload_n 0, 1) := by decide +kernel
theorem dX4_init_86 : decode cX4_init 86 = .ok (.bipush 36, 2) := by decide +kernel
theorem dX4_init_88 : decode cX4_init 88 = .ok (.newarray .int, 2) := by decide +kernel
theorem dX4_init_90 : decode cX4_init 90 = .ok (.putfield 40, 3) := by decide +kernel
theorem dX4_init_93 : decode cX4_init 93 = .ok (.aload_n 0, 1) := by decide +kernel
theorem dX4_init_94 : decode cX4_init 94 = .ok (.sipush 1400, 3) := by decide +kernel
theorem dX4_init_97 : decode cX4_init 97 = .ok (.newarray .int, 2) := by decide +kernel
theorem dX4_init_99 : decode cX4_init 99 = .ok (.putfield 43, 3) := by decide +kernel
theorem dX4_init_102 : decode cX4_init 102 = .ok (.aload_n 0, 1) := by decide +kernel
theorem dX4_init_103 : decode cX4_init 103 = .ok (.sipush 1400, 3) := by decide +kernel
theorem dX4_init_106 : decode cX4_init 106 = .ok (.newarray .int, 2) := by decide +kernel
theorem dX4_init_108 : decode cX4_init 108 = .ok (.putfield 46, 3) := by decide +kernel
theorem dX4_init_111 : decode cX4_init 111 = .ok (.return_, 1) := by decide +kernel
theorem dX4_type_0 : decode cX4_type 0 = .ok (.iload_n 3, 1) := by decide +kernel
theorem dX4_type_1 : decode cX4_type 1 = .ok (.iconst 1, 1) := by decide +kernel
theorem dX4_type_2 : decode cX4_type 2 = .ok (.if_icmp .lt 21, 3) := by decide +kernel
theorem dX4_type_5 : decode cX4_type 5 = .ok (.iload_n 3, 1) := by decide +kernel
theorem dX4_type_6 : decode cX4_type 6 = .ok (.bipush 8, 2) := by decide +kernel
theorem dX4_type_8 : decode cX4_type 8 = .ok (.if_icmp .gt 15, 3) := by decide +kernel
theorem dX4_type_11 : decode cX4_type 11 = .ok (.aload_n 0, 1) := by decide +kernel
theorem dX4_type_12 : decode cX4_type 12 = .ok (.getfield 49, 3) := by decide +kernel
theorem dX4_type_15 : decode cX4_type 15 = .ok (.iload_n 3, 1) := by decide +kernel
theorem dX4_type_16 : decode cX4_type 16 = .ok (.iadd, 1) := by decide +kernel
theorem dX4_type_17 : decode cX4_type 17 = .ok (.sipush 700, 3) := by decide +kernel
theorem dX4_type_20 : decode cX4_type 20 = .ok (.if_icmp .le 5, 3) := by decide +kernel
theorem dX4_type_23 : decode cX4_type 23 = .ok (.iconst (-1), 1) := by decide +kernel
theorem dX4_type_24 : decode cX4_type 24 = .ok (.ireturn, 1) := by decide +kernel
theorem dX4_type_25 : decode cX4_type 25 = .ok (.iconst 0, 1) := by decide +kernel
theorem dX4_type_26 : decode cX4_type 26 = .ok (.istore 4, 2) := by decide +kernel
theorem dX4_type_28 : decode cX4_type 28 = .ok (.iload 4, 2) := by decide +kernel
theorem dX4_type_30 : decode cX4_type 30 = .ok (.iload_n 3, 1) := by decide +kernel
theorem dX4_type_31 : decode cX4_type 31 = .ok (.if_icmp .ge 42, 3) := by decide +kernel
theorem dX4_type_34 : decode cX4_type 34 = .ok (.lload_n 1, 1) := by decide +kernel
theorem dX4_type_35 : decode cX4_type 35 = .ok (.bipush 8, 2) := by decide +kernel
theorem dX4_type_37 : decode cX4_type 37 = .ok (.iload 4, 2) := by decide +kernel
theorem dX4_type_39 : decode cX4_type 39 = .ok (.imul, 1) := by decide +kernel
theorem dX4_type_40 : decode cX4_type 40 = .ok (.lshr, 1) := by decide +kernel
theorem dX4_type_41 : decode cX4_type 41 = .ok (.ldc2_w 53, 3) := by decide +kernel
theorem dX4_type_44 : decode cX4_type 44 = .ok (.land, 1) := by decide +kernel
theorem dX4_type_45 : decode cX4_type 45 = .ok (.lstore 5, 2) := by decide +kernel
theorem dX4_type_47 : decode cX4_type 47 = .ok (.lload 5, 2) := by decide +kernel
theorem dX4_type_49 : decode cX4_type 49 = .ok (.ldc2_w 55, 3) := by decide +kernel
theorem dX4_type_52 : decode cX4_type 52 = .ok (.lcmp, 1) := by decide +kernel
theorem dX4_type_53 : decode cX4_type 53 = .ok (.ifCond .lt 12, 3) := by decide +kernel
theorem dX4_type_56 : decode cX4_type 56 = .ok (.lload 5, 2) := by decide +kernel
theorem dX4_type_58 : decode cX4_type 58 = .ok (.ldc2_w 57, 3) := by decide +kernel
theorem dX4_type_61 : decode cX4_type 61 = .ok (.lcmp, 1) := by decide +kernel
theorem dX4_type_62 : decode cX4_type 62 = .ok (.ifCond .le 5, 3) := by decide +kernel
theorem dX4_type_65 : decode cX4_type 65 = .ok (.iconst (-1), 1) := by decide +kernel
theorem dX4_type_66 : decode cX4_type 66 = .ok (.ireturn, 1) := by decide +kernel
theorem dX4_type_67 : decode cX4_type 67 = .ok (.iinc 4 1, 3) := by decide +kernel
theorem dX4_type_70 : decode cX4_type 70 = .ok (.goto (-42), 3) := by decide +kernel
theorem dX4_type_73 : decode cX4_type 73 = .ok (.iload_n 3, 1) := by decide +kernel
theorem dX4_type_74 : decode cX4_type 74 = .ok (.iconst 1, 1) := by decide +kernel
theorem dX4_type_75 : decode cX4_type 75 = .ok (.isub, 1) := by decide +kernel
theorem dX4_type_76 : decode cX4_type 76 = .ok (.istore 4, 2) := by decide +kernel
theorem dX4_type_78 : decode cX4_type 78 = .ok (.iload 4, 2) := by decide +kernel
theorem dX4_type_80 : decode cX4_type 80 = .ok (.ifCond .lt 40, 3) := by decide +kernel
theorem dX4_type_83 : decode cX4_type 83 = .ok (.aload_n 0, 1) := by decide +kernel
theorem dX4_type_84 : decode cX4_type 84 = .ok (.getfield 7, 3) := by decide +kernel
theorem dX4_type_87 : decode cX4_type 87 = .ok (.aload_n 0, 1) := by decide +kernel
theorem dX4_type_88 : decode cX4_type 88 = .ok (.getfield 49, 3) := by decide +kernel
theorem dX4_type_91 : decode cX4_type 91 = .ok (.lload_n 1, 1) := by decide +kernel
theorem dX4_type_92 : decode cX4_type 92 = .ok (.bipush 8, 2) := by decide +kernel
theorem dX4_type_94 : decode cX4_type 94 = .ok (.iload 4, 2) := by decide +kernel
theorem dX4_type_96 : decode cX4_type 96 = .ok (.imul, 1) := by decide +kernel
theorem dX4_type_97 : decode cX4_type 97 = .ok (.lshr, 1) := by decide +kernel
theorem dX4_type_98 : decode cX4_type 98 = .ok (.ldc2_w 53, 3) := by decide +kernel
theorem dX4_type_101 : decode cX4_type 101 = .ok (.land, 1) := by decide +kernel
theorem dX4_type_102 : decode cX4_type 102 = .ok (.l2i, 1) := by decide +kernel
theorem dX4_type_103 : decode cX4_type 103 = .ok (.iastore, 1) := by decide +kernel
theorem dX4_type_104 : decode cX4_type 104 = .ok (.aload_n 0, 1) := by decide +kernel
theorem dX4_type_105 : decode cX4_type 105 = .ok (.dup, 1) := by decide +kernel
theorem dX4_type_106 : decode cX4_type 106 = .ok (.getfield 49, 3) := by decide +kernel
theorem dX4_type_109 : decode cX4_type 109 = .ok (.iconst 1, 1) := by decide +kernel
theorem dX4_type_110 : decode cX4_type 110 = .ok (.iadd, 1) := by decide +kernel
theorem dX4_type_111 : decode cX4_type 111 = .ok (.putfield 49, 3) := by decide +kernel
theorem dX4_type_114 : decode cX4_type 114 = .ok (.iinc 4 (-1), 3) := by decide +kernel
theorem dX4_type_117 : decode cX4_type 117 = .ok (.goto (-39), 3) := by decide +kernel
theorem dX4_type_120 : decode cX4_type 120 = .ok (.aload_n 0, 1) := by decide +kernel
theorem dX4_type_121 : decode cX4_type 121 = .ok (.getfield 49, 3) := by decide +kernel
theorem dX4_type_124 : decode cX4_type 124 = .ok (.ireturn, 1) := by decide +kernel
theorem dX4_split_0 : decode cX4_split 0 = .ok (.aload_n 0, 1) := by decide +kernel
theorem dX4_split_1 : decode cX4_split 1 = .ok (.iconst 0, 1) := by decide +kernel
theorem dX4_split_2 : decode cX4_split 2 = .ok (.putfield 59, 3) := by decide +kernel
theorem dX4_split_5 : decode cX4_split 5 = .ok (.iconst 0, 1) := by decide +kernel
theorem dX4_split_6 : decode cX4_split 6 = .ok (.istore_n 1, 1) := by decide +kernel
theorem dX4_split_7 : decode cX4_split 7 = .ok (.iload_n 1, 1) := by decide +kernel
theorem dX4_split_8 : decode cX4_split 8 = .ok (.aload_n 0, 1) := by decide +kernel
theorem dX4_split_9 : decode cX4_split 9 = .ok (.getfield 49, 3) := by decide +kernel
theorem dX4_split_12 : decode cX4_split 12 = .ok (.if_icmp .ge 78, 3) := by decide +kernel
theorem dX4_split_15 : decode cX4_split 15 = .ok (.aload_n 0, 1) := by decide +kernel
theorem dX4_split_16 : decode cX4_split 16 = .ok (.getfield 7, 3) := by decide +kernel
theorem dX4_split_19 : decode cX4_split 19 = .ok (.iload_n 1, 1) := by decide +kernel
theorem dX4_split_20 : decode cX4_split 20 = .ok (.iaload, 1) := by decide +kernel
theorem dX4_split_21 : decode cX4_split 21 = .ok (.bipush 32, 2) := by decide +kernel
theorem dX4_split_23 : decode cX4_split 23 = .ok (.if_icmp .ne 9, 3) := by decide +kernel
theorem dX4_split_26 : decode cX4_split 26 = .ok (.iinc 1 1, 3) := by decide +kernel
theorem dX4_split_29 : decode cX4_split 29 = .ok (.goto (-22), 3) := by decide +kernel
theorem dX4_split_32 : decode cX4_split 32 = .ok (.aload_n 0, 1) := by decide +kernel
theorem dX4_split_33 : decode cX4_split 33 = .ok (.getfield 13, 3) := by decide +kernel
theorem dX4_split_36 : decode cX4_split 36 = .ok (.aload_n 0, 1) := by decide +kernel
theorem dX4_split_37 : decode cX4_split 37 = .ok (.getfield 59, 3) := by decide +kernel
theorem dX4_split_40 : decode cX4_split 40 = .ok (.iload_n 1, 1) := by decide +kernel
theorem dX4_split_41 : decode cX4_split 41 = .ok (.iastore, 1) := by decide +kernel
theorem dX4_split_42 : decode cX4_split 42 = .ok (.iload_n 1, 1) := by decide +kernel
theorem dX4_split_43 : decode cX4_split 43 = .ok (.aload_n 0, 1) := by decide +kernel
theorem dX4_split_44 : decode cX4_split 44 = .ok (.getfield 49, 3) := by decide +kernel
theorem dX4_split_47 : decode cX4_split 47 = .ok (.if_icmp .ge 20, 3) := by decide +kernel
theorem dX4_split_50 : decode cX4_split 50 = .ok (.aload_n 0, 1) := by decide +kernel
theorem dX4_split_51 : decode cX4_split 51 = .ok (.getfield 7, 3) := by decide +kernel
theorem dX4_split_54 : decode cX4_split 54 = .ok (.iload_n 1, 1) := by decide +kernel
theorem dX4_split_55 : decode cX4_split 55 = .ok (.iaload, 1) := by decide +kernel
theorem dX4_split_56 : decode cX4_split 56 = .ok (.bipush 32, 2) := by decide +kernel
theorem dX4_split_58 : decode cX4_split 58 = .ok (.if_icmp .eq 9, 3) := by decide +kernel
theorem dX4_split_61 : decode cX4_split 61 = .ok (.iinc 1 1, 3) := by decide +kernel
theorem dX4_split_64 : decode cX4_split 64 = .ok (.goto (-22), 3) := by decide +kernel
theorem dX4_split_67 : decode cX4_split 67 = .ok (.aload_n 0, 1) := by decide +kernel
theorem dX4_split_68 : decode cX4_split 68 = .ok (.getfield 16, 3) := by decide +kernel
theorem dX4_split_71 : decode cX4_split 71 = .ok (.aload_n 0, 1) := by decide +kernel
theorem dX4_split_72 : decode cX4_split 72 = .ok (.getfield 59, 3) := by decide +kernel
theorem dX4_split_75 : decode cX4_split 75 = .ok (.iload_n 1, 1) := by decide +kernel
theorem dX4_split_76 : decode cX4_split 76 = .ok (.iastore, 1) := by decide +kernel
theorem dX4_split_77 : decode cX4_split 77 = .ok (.aload_n 0, 1) := by decide +kernel
theorem dX4_split_78 : decode cX4_split 78 = .ok (.dup, 1) := by decide +kernel
theorem dX4_split_79 : decode cX4_split 79 = .ok (.getfield 59, 3) := by decide +kernel
theorem dX4_split_82 : decode cX4_split 82 = .ok (.iconst 1, 1) := by decide +kernel
theorem dX4_split_83 : decode cX4_split 83 = .ok (.iadd, 1) := by decide +kernel
theorem dX4_split_84 : decode cX4_split 84 = .ok (.putfield 59, 3) := by decide +kernel
theorem dX4_split_87 : decode cX4_split 87 = .ok (.goto (-80), 3) := by decide +kernel
theorem dX4_split_90 : decode cX4_split 90 = .ok (.return_, 1) := by decide +kernel
theorem dX4_size_0 : decode cX4_size 0 = .ok (.aload_n 0, 1) := by decide +kernel
theorem dX4_size_1 : decode cX4_size 1 = .ok (.getfield 62, 3) := by decide +kernel
theorem dX4_size_4 : decode cX4_size 4 = .ok (.aload_n 0, 1) := by decide +kernel
theorem dX4_size_5 : decode cX4_size 5 = .ok (.getfield 59, 3) := by decide +kernel
theorem dX4_size_8 : decode cX4_size 8 = .ok (.if_icmp .ge 25, 3) := by decide +kernel
theorem dX4_size_11 : decode cX4_size 11 = .ok (.aload_n 0, 1) := by decide +kernel
theorem dX4_size_12 : decode cX4_size 12 = .ok (.getfield 16, 3) := by decide +kernel
theorem dX4_size_15 : decode cX4_size 15 = .ok (.aload_n 0, 1) := by decide +kernel
theorem dX4_size_16 : decode cX4_size 16 = .ok (.getfield 62, 3) := by decide +kernel
theorem dX4_size_19 : decode cX4_size 19 = .ok (.iaload, 1) := by decide +kernel
theorem dX4_size_20 : decode cX4_size 20 = .ok (.aload_n 0, 1) := by decide +kernel
theorem dX4_size_21 : decode cX4_size 21 = .ok (.getfield 13, 3) := by decide +kernel
theorem dX4_size_24 : decode cX4_size 24 = .ok (.aload_n 0, 1) := by decide +kernel
theorem dX4_size_25 : decode cX4_size 25 = .ok (.getfield 62, 3) := by decide +kernel
theorem dX4_size_28 : decode cX4_size 28 = .ok (.iaload, 1) := by decide +kernel
theorem dX4_size_29 : decode cX4_size 29 = .ok (.isub, 1) := by decide +kernel
theorem dX4_size_30 : decode cX4_size 30 = .ok (.goto 4, 3) := by decide +kernel
theorem dX4_size_33 : decode cX4_size 33 = .ok (.iconst 0, 1) := by decide +kernel
theorem dX4_size_34 : decode cX4_size 34 = .ok (.ireturn, 1) := by decide +kernel
theorem dX4_sign_0 : decode cX4_sign 0 = .ok (.iload_n 1, 1) := by decide +kernel
theorem dX4_sign_1 : decode cX4_sign 1 = .ok (.aload_n 0, 1) := by decide +kernel
theorem dX4_sign_2 : decode cX4_sign 2 = .ok (.invokevirtual 65, 3) := by decide +kernel
theorem dX4_sign_5 : decode cX4_sign 5 = .ok (.if_icmp .ge 22, 3) := by decide +kernel
theorem dX4_sign_8 : decode cX4_sign 8 = .ok (.aload_n 0, 1) := by decide +kernel
theorem dX4_sign_9 : decode cX4_sign 9 = .ok (.getfield 7, 3) := by decide +kernel
theorem dX4_sign_12 : decode cX4_sign 12 = .ok (.aload_n 0, 1) := by decide +kernel
theorem dX4_sign_13 : decode cX4_sign 13 = .ok (.getfield 13, 3) := by decide +kernel
theorem dX4_sign_16 : decode cX4_sign 16 = .ok (.aload_n 0, 1) := by decide +kernel
theorem dX4_sign_17 : decode cX4_sign 17 = .ok (.getfield 62, 3) := by decide +kernel
theorem dX4_sign_20 : decode cX4_sign 20 = .ok (.iaload, 1) := by decide +kernel
theorem dX4_sign_21 : decode cX4_sign 21 = .ok (.iload_n 1, 1) := by decide +kernel
theorem dX4_sign_22 : decode cX4_sign 22 = .ok (.iadd, 1) := by decide +kernel
theorem dX4_sign_23 : decode cX4_sign 23 = .ok (.iaload, 1) := by decide +kernel
theorem dX4_sign_24 : decode cX4_sign 24 = .ok (.goto 4, 3) := by decide +kernel
theorem dX4_sign_27 : decode cX4_sign 27 = .ok (.iconst 0, 1) := by decide +kernel
theorem dX4_sign_28 : decode cX4_sign 28 = .ok (.ireturn, 1) := by decide +kernel
theorem dX4_word_0 : decode cX4_word 0 = .ok (.lconst 0, 1) := by decide +kernel
theorem dX4_word_1 : decode cX4_word 1 = .ok (.lstore_n 1, 1) := by decide +kernel
theorem dX4_word_2 : decode cX4_word 2 = .ok (.iconst 0, 1) := by decide +kernel
theorem dX4_word_3 : decode cX4_word 3 = .ok (.istore_n 3, 1) := by decide +kernel
theorem dX4_word_4 : decode cX4_word 4 = .ok (.iload_n 3, 1) := by decide +kernel
theorem dX4_word_5 : decode cX4_word 5 = .ok (.aload_n 0, 1) := by decide +kernel
theorem dX4_word_6 : decode cX4_word 6 = .ok (.invokevirtual 65, 3) := by decide +kernel
theorem dX4_word_9 : decode cX4_word 9 = .ok (.if_icmp .ge 30, 3) := by decide +kernel
theorem dX4_word_12 : decode cX4_word 12 = .ok (.aload_n 0, 1) := by decide +kernel
theorem dX4_word_13 : decode cX4_word 13 = .ok (.invokevirtual 65, 3) := by decide +kernel
theorem dX4_word_16 : decode cX4_word 16 = .ok (.bipush 8, 2) := by decide +kernel
theorem dX4_word_18 : decode cX4_word 18 = .ok (.if_icmp .gt 21, 3) := by decide +kernel
theorem dX4_word_21 : decode cX4_word 21 = .ok (.lload_n 1, 1) := by decide +kernel
theorem dX4_word_22 : decode cX4_word 22 = .ok (.bipush 8, 2) := by decide +kernel
theorem dX4_word_24 : decode cX4_word 24 = .ok (.lshl, 1) := by decide +kernel
theorem dX4_word_25 : decode cX4_word 25 = .ok (.aload_n 0, 1) := by decide +kernel
theorem dX4_word_26 : decode cX4_word 26 = .ok (.iload_n 3, 1) := by decide +kernel
theorem dX4_word_27 : decode cX4_word 27 = .ok (.invokevirtual 69, 3) := by decide +kernel
theorem dX4_word_30 : decode cX4_word 30 = .ok (.i2l, 1) := by decide +kernel
theorem dX4_word_31 : decode cX4_word 31 = .ok (.lor, 1) := by decide +kernel
theorem dX4_word_32 : decode cX4_word 32 = .ok (.lstore_n 1, 1) := by decide +kernel
theorem dX4_word_33 : decode cX4_word 33 = .ok (.iinc 3 1, 3) := by decide +kernel
theorem dX4_word_36 : decode cX4_word 36 = .ok (.goto (-32), 3) := by decide +kernel
theorem dX4_word_39 : decode cX4_word 39 = .ok (.lload_n 1, 1) := by decide +kernel
theorem dX4_word_40 : decode cX4_word 40 = .ok (.lreturn, 1) := by decide +kernel
theorem dX4_number_0 : decode cX4_number 0 = .ok (.iconst 0, 1) := by decide +kernel
theorem dX4_number_1 : decode cX4_number 1 = .ok (.istore_n 3, 1) := by decide +kernel
theorem dX4_number_2 : decode cX4_number 2 = .ok (.iload_n 1, 1) := by decide +kernel
theorem dX4_number_3 : decode cX4_number 3 = .ok (.istore 4, 2) := by decide +kernel
theorem dX4_number_5 : decode cX4_number 5 = .ok (.iload 4, 2) := by decide +kernel
theorem dX4_number_7 : decode cX4_number 7 = .ok (.iload_n 1, 1) := by decide +kernel
theorem dX4_number_8 : decode cX4_number 8 = .ok (.iload_n 2, 1) := by decide +kernel
theorem dX4_number_9 : decode cX4_number 9 = .ok (.iadd, 1) := by decide +kernel
theorem dX4_number_10 : decode cX4_number 10 = .ok (.if_icmp .ge 48, 3) := by decide +kernel
theorem dX4_number_13 : decode cX4_number 13 = .ok (.aload_n 0, 1) := by decide +kernel
theorem dX4_number_14 : decode cX4_number 14 = .ok (.iload 4, 2) := by decide +kernel
theorem dX4_number_16 : decode cX4_number 16 = .ok (.invokevirtual 69, 3) := by decide +kernel
theorem dX4_number_19 : decode cX4_number 19 = .ok (.bipush 48, 2) := by decide +kernel
theorem dX4_number_21 : decode cX4_number 21 = .ok (.if_icmp .lt 14, 3) := by decide +kernel
theorem dX4_number_24 : decode cX4_number 24 = .ok (.aload_n 0, 1) := by decide +kernel
theorem dX4_number_25 : decode cX4_number 25 = .ok (.iload 4, 2) := by decide +kernel
theorem dX4_number_27 : decode cX4_number 27 = .ok (.invokevirtual 69, 3) := by decide +kernel
theorem dX4_number_30 : decode cX4_number 30 = .ok (.bipush 57, 2) := by decide +kernel
theorem dX4_number_32 : decode cX4_number 32 = .ok (.if_icmp .le 5, 3) := by decide +kernel
theorem dX4_number_35 : decode cX4_number 35 = .ok (.iconst (-1), 1) := by decide +kernel
theorem dX4_number_36 : decode cX4_number 36 = .ok (.ireturn, 1) := by decide +kernel
theorem dX4_number_37 : decode cX4_number 37 = .ok (.bipush 10, 2) := by decide +kernel
theorem dX4_number_39 : decode cX4_number 39 = .ok (.iload_n 3, 1) := by decide +kernel
theorem dX4_number_40 : decode cX4_number 40 = .ok (.imul, 1) := by decide +kernel
theorem dX4_number_41 : decode cX4_number 41 = .ok (.aload_n 0, 1) := by decide +kernel
theorem dX4_number_42 : decode cX4_number 42 = .ok (.iload 4, 2) := by decide +kernel
theorem dX4_number_44 : decode cX4_number 44 = .ok (.invokevirtual 69, 3) := by decide +kernel
theorem dX4_number_47 : decode cX4_number 47 = .ok (.iadd, 1) := by decide +kernel
theorem dX4_number_48 : decode cX4_number 48 = .ok (.bipush 48, 2) := by decide +kernel
theorem dX4_number_50 : decode cX4_number 50 = .ok (.isub, 1) := by decide +kernel
theorem dX4_number_51 : decode cX4_number 51 = .ok (.istore_n 3, 1) := by decide +kernel
theorem dX4_number_52 : decode cX4_number 52 = .ok (.iinc 4 1, 3) := by decide +kernel
theorem dX4_number_55 : decode cX4_number 55 = .ok (.goto (-50), 3) := by decide +kernel
theorem dX4_number_58 : decode cX4_number 58 = .ok (.iload_n 3, 1) := by decide +kernel
theorem dX4_number_59 : decode cX4_number 59 = .ok (.ireturn, 1) := by decide +kernel
theorem dX4_pair_0 : decode cX4_pair 0 = .ok (.sipush 256, 3) := by decide +kernel
theorem dX4_pair_3 : decode cX4_pair 3 = .ok (.aload_n 0, 1) := by decide +kernel
theorem dX4_pair_4 : decode cX4_pair 4 = .ok (.iload_n 1, 1) := by decide +kernel
theorem dX4_pair_5 : decode cX4_pair 5 = .ok (.invokevirtual 69, 3) := by decide +kernel
theorem dX4_pair_8 : decode cX4_pair 8 = .ok (.imul, 1) := by decide +kernel
theorem dX4_pair_9 : decode cX4_pair 9 = .ok (.aload_n 0, 1) := by decide +kernel
theorem dX4_pair_10 : decode cX4_pair 10 = .ok (.iload_n 1, 1) := by decide +kernel
theorem dX4_pair_11 : decode cX4_pair 11 = .ok (.iconst 1, 1) := by decide +kernel
theorem dX4_pair_12 : decode cX4_pair 12 = .ok (.iadd, 1) := by decide +kernel
theorem dX4_pair_13 : decode cX4_pair 13 = .ok (.invokevirtual 69, 3) := by decide +kernel
theorem dX4_pair_16 : decode cX4_pair 16 = .ok (.iadd, 1) := by decide +kernel
theorem dX4_pair_17 : decode cX4_pair 17 = .ok (.ireturn, 1) := by decide +kernel
theorem dX4_station_0 : decode cX4_station 0 = .ok (.aload_n 0, 1) := by decide +kernel
theorem dX4_station_1 : decode cX4_station 1 = .ok (.invokevirtual 65, 3) := by decide +kernel
theorem dX4_station_4 : decode cX4_station 4 = .ok (.iconst 4, 1) := by decide +kernel
theorem dX4_station_5 : decode cX4_station 5 = .ok (.if_icmp .ne 7, 3) := by decide +kernel
theorem dX4_station_8 : decode cX4_station 8 = .ok (.iconst 1, 1) := by decide +kernel
theorem dX4_station_9 : decode cX4_station 9 = .ok (.goto 4, 3) := by decide +kernel
theorem dX4_station_12 : decode cX4_station 12 = .ok (.iconst 0, 1) := by decide +kernel
theorem dX4_station_13 : decode cX4_station 13 = .ok (.istore_n 1, 1) := by decide +kernel
theorem dX4_station_14 : decode cX4_station 14 = .ok (.iconst 0, 1) := by decide +kernel
theorem dX4_station_15 : decode cX4_station 15 = .ok (.istore_n 2, 1) := by decide +kernel
theorem dX4_station_16 : decode cX4_station 16 = .ok (.iload_n 2, 1) := by decide +kernel
theorem dX4_station_17 : decode cX4_station 17 = .ok (.iconst 4, 1) := by decide +kernel
theorem dX4_station_18 : decode cX4_station 18 = .ok (.if_icmp .ge 50, 3) := by decide +kernel
theorem dX4_station_21 : decode cX4_station 21 = .ok (.iload_n 1, 1) := by decide +kernel
theorem dX4_station_22 : decode cX4_station 22 = .ok (.ifCond .eq 46, 3) := by decide +kernel
theorem dX4_station_25 : decode cX4_station 25 = .ok (.aload_n 0, 1) := by decide +kernel
theorem dX4_station_26 : decode cX4_station 26 = .ok (.iload_n 2, 1) := by decide +kernel
theorem dX4_station_27 : decode cX4_station 27 = .ok (.invokevirtual 69, 3) := by decide +kernel
theorem dX4_station_30 : decode cX4_station 30 = .ok (.bipush 65, 2) := by decide +kernel
theorem dX4_station_32 : decode cX4_station 32 = .ok (.if_icmp .lt 17, 3) := by decide +kernel
theorem dX4_station_35 : decode cX4_station 35 = .ok (.aload_n 0, 1) := by decide +kernel
theorem dX4_station_36 : decode cX4_station 36 = .ok (.iload_n 2, 1) := by decide +kernel
theorem dX4_station_37 : decode cX4_station 37 = .ok (.invokevirtual 69, 3) := by decide +kernel
theorem dX4_station_40 : decode cX4_station 40 = .ok (.bipush 90, 2) := by decide +kernel
theorem dX4_station_42 : decode cX4_station 42 = .ok (.if_icmp .gt 7, 3) := by decide +kernel
theorem dX4_station_45 : decode cX4_station 45 = .ok (.iconst 1, 1) := by decide +kernel
theorem dX4_station_46 : decode cX4_station 46 = .ok (.goto 4, 3) := by decide +kernel
theorem dX4_station_49 : decode cX4_station 49 = .ok (.iconst 0, 1) := by decide +kernel
theorem dX4_station_50 : decode cX4_station 50 = .ok (.istore_n 1, 1) := by decide +kernel
theorem dX4_station_51 : decode cX4_station 51 = .ok (.aload_n 0, 1) := by decide +kernel
theorem dX4_station_52 : decode cX4_station 52 = .ok (.getfield 19, 3) := by decide +kernel
theorem dX4_station_55 : decode cX4_station 55 = .ok (.iload_n 2, 1) := by decide +kernel
theorem dX4_station_56 : decode cX4_station 56 = .ok (.aload_n 0, 1) := by decide +kernel
theorem dX4_station_57 : decode cX4_station 57 = .ok (.iload_n 2, 1) := by decide +kernel
theorem dX4_station_58 : decode cX4_station 58 = .ok (.invokevirtual 69, 3) := by decide +kernel
theorem dX4_station_61 : decode cX4_station 61 = .ok (.iastore, 1) := by decide +kernel
theorem dX4_station_62 : decode cX4_station 62 = .ok (.iinc 2 1, 3) := by decide +kernel
theorem dX4_station_65 : decode cX4_station 65 = .ok (.goto (-49), 3) := by decide +kernel
theorem dX4_station_68 : decode cX4_station 68 = .ok (.aload_n 0, 1) := by decide +kernel
theorem dX4_station_69 : decode cX4_station 69 = .ok (.iload_n 1, 1) := by decide +kernel
theorem dX4_station_70 : decode cX4_station 70 = .ok (.ifCond .eq 12, 3) := by decide +kernel
theorem dX4_station_73 : decode cX4_station 73 = .ok (.aload_n 0, 1) := by decide +kernel
theorem dX4_station_74 : decode cX4_station 74 = .ok (.getfield 62, 3) := by decide +kernel
theorem dX4_station_77 : decode cX4_station 77 = .ok (.iconst 1, 1) := by decide +kernel
theorem dX4_station_78 : decode cX4_station 78 = .ok (.iadd, 1) := by decide +kernel
theorem dX4_station_79 : decode cX4_station 79 = .ok (.goto 7, 3) := by decide +kernel
theorem dX4_station_82 : decode cX4_station 82 = .ok (.aload_n 0, 1) := by decide +kernel
theorem dX4_station_83 : decode cX4_station 83 = .ok (.getfield 62, 3) := by decide +kernel
theorem dX4_station_86 : decode cX4_station 86 = .ok (.putfield 62, 3) := by decide +kernel
theorem dX4_station_89 : decode cX4_station 89 = .ok (.iload_n 1, 1) := by decide +kernel
theorem dX4_station_90 : decode cX4_station 90 = .ok (.ireturn, 1) := by decide +kernel
theorem dX4_isDay_0 : decode cX4_isDay 0 = .ok (.iload_n 1, 1) := by decide +kernel
theorem dX4_isDay_1 : decode cX4_isDay 1 = .ok (.iconst 1, 1) := by decide +kernel
theorem dX4_isDay_2 : decode cX4_isDay 2 = .ok (.if_icmp .lt 15, 3) := by decide +kernel
theorem dX4_isDay_5 : decode cX4_isDay 5 = .ok (.iload_n 1, 1) := by decide +kernel
theorem dX4_isDay_6 : decode cX4_isDay 6 = .ok (.aload_n 0, 1) := by decide +kernel
theorem dX4_isDay_7 : decode cX4_isDay 7 = .ok (.getfield 73, 3) := by decide +kernel
theorem dX4_isDay_10 : decode cX4_isDay 10 = .ok (.if_icmp .gt 7, 3) := by decide +kernel
theorem dX4_isDay_13 : decode cX4_isDay 13 = .ok (.iconst 1, 1) := by decide +kernel
theorem dX4_isDay_14 : decode cX4_isDay 14 = .ok (.goto 4, 3) := by decide +kernel
theorem dX4_isDay_17 : decode cX4_isDay 17 = .ok (.iconst 0, 1) := by decide +kernel
theorem dX4_isDay_18 : decode cX4_isDay 18 = .ok (.ireturn, 1) := by decide +kernel
theorem dX4_isIn_0 : decode cX4_isIn 0 = .ok (.iload_n 1, 1) := by decide +kernel
theorem dX4_isIn_1 : decode cX4_isIn 1 = .ok (.ifCond .lt 12, 3) := by decide +kernel
theorem dX4_isIn_4 : decode cX4_isIn 4 = .ok (.iload_n 1, 1) := by decide +kernel
theorem dX4_isIn_5 : decode cX4_isIn 5 = .ok (.iload_n 2, 1) := by decide +kernel
theorem dX4_isIn_6 : decode cX4_isIn 6 = .ok (.if_icmp .gt 7, 3) := by decide +kernel
theorem dX4_isIn_9 : decode cX4_isIn 9 = .ok (.iconst 1, 1) := by decide +kernel
theorem dX4_isIn_10 : decode cX4_isIn 10 = .ok (.goto 4, 3) := by decide +kernel
theorem dX4_isIn_13 : decode cX4_isIn 13 = .ok (.iconst 0, 1) := by decide +kernel
theorem dX4_isIn_14 : decode cX4_isIn 14 = .ok (.ireturn, 1) := by decide +kernel
theorem dX4_issued_0 : decode cX4_issued 0 = .ok (.aload_n 0, 1) := by decide +kernel
theorem dX4_issued_1 : decode cX4_issued 1 = .ok (.aload_n 0, 1) := by decide +kernel
theorem dX4_issued_2 : decode cX4_issued 2 = .ok (.iconst 0, 1) := by decide +kernel
theorem dX4_issued_3 : decode cX4_issued 3 = .ok (.iconst 2, 1) := by decide +kernel
theorem dX4_issued_4 : decode cX4_issued 4 = .ok (.invokevirtual 76, 3) := by decide +kernel
theorem dX4_issued_7 : decode cX4_issued 7 = .ok (.putfield 80, 3) := by decide +kernel
theorem dX4_issued_10 : decode cX4_issued 10 = .ok (.aload_n 0, 1) := by decide +kernel
theorem dX4_issued_11 : decode cX4_issued 11 = .ok (.invokevirtual 65, 3) := by decide +kernel
theorem dX4_issued_14 : decode cX4_issued 14 = .ok (.bipush 7, 2) := by decide +kernel
theorem dX4_issued_16 : decode cX4_issued 16 = .ok (.if_icmp .ne 59, 3) := by decide +kernel
theorem dX4_issued_19 : decode cX4_issued 19 = .ok (.aload_n 0, 1) := by decide +kernel
theorem dX4_issued_20 : decode cX4_issued 20 = .ok (.bipush 6, 2) := by decide +kernel
theorem dX4_issued_22 : decode cX4_issued 22 = .ok (.invokevirtual 69, 3) := by decide +kernel
theorem dX4_issued_25 : decode cX4_issued 25 = .ok (.bipush 90, 2) := by decide +kernel
theorem dX4_issued_27 : decode cX4_issued 27 = .ok (.if_icmp .ne 48, 3) := by decide +kernel
theorem dX4_issued_30 : decode cX4_issued 30 = .ok (.aload_n 0, 1) := by decide +kernel
theorem dX4_issued_31 : decode cX4_issued 31 = .ok (.aload_n 0, 1) := by decide +kernel
theorem dX4_issued_32 : decode cX4_issued 32 = .ok (.getfield 80, 3) := by decide +kernel
theorem dX4_issued_35 : decode cX4_issued 35 = .ok (.invokevirtual 83, 3) := by decide +kernel
theorem dX4_issued_38 : decode cX4_issued 38 = .ok (.ifCond .eq 37, 3) := by decide +kernel
theorem dX4_issued_41 : decode cX4_issued 41 = .ok (.aload_n 0, 1) := by decide +kernel
theorem dX4_issued_42 : decode cX4_issued 42 = .ok (.aload_n 0, 1) := by decide +kernel
theorem dX4_issued_43 : decode cX4_issued 43 = .ok (.iconst 2, 1) := by decide +kernel
theorem dX4_issued_44 : decode cX4_issued 44 = .ok (.iconst 2, 1) := by decide +kernel
theorem dX4_issued_45 : decode cX4_issued 45 = .ok (.invokevirtual 76, 3) := by decide +kernel
theorem dX4_issued_48 : decode cX4_issued 48 = .ok (.bipush 23, 2) := by decide +kernel
theorem dX4_issued_50 : decode cX4_issued 50 = .ok (.invokevirtual 87, 3) := by decide +kernel
theorem dX4_issued_53 : decode cX4_issued 53 = .ok (.ifCond .eq 22, 3) := by decide +kernel
theorem dX4_issued_56 : decode cX4_issued 56 = .ok (.aload_n 0, 1) := by decide +kernel
theorem dX4_issued_57 : decode cX4_issued 57 = .ok (.aload_n 0, 1) := by decide +kernel
theorem dX4_issued_58 : decode cX4_issued 58 = .ok (.iconst 4, 1) := by decide +kernel
theorem dX4_issued_59 : decode cX4_issued 59 = .ok (.iconst 2, 1) := by decide +kernel
theorem dX4_issued_60 : decode cX4_issued 60 = .ok (.invokevirtual 76, 3) := by decide +kernel
theorem dX4_issued_63 : decode cX4_issued 63 = .ok (.bipush 59, 2) := by decide +kernel
theorem dX4_issued_65 : decode cX4_issued 65 = .ok (.invokevirtual 87, 3) := by decide +kernel
theorem dX4_issued_68 : decode cX4_issued 68 = .ok (.ifCond .eq 7, 3) := by decide +kernel
theorem dX4_issued_71 : decode cX4_issued 71 = .ok (.iconst 1, 1) := by decide +kernel
theorem dX4_issued_72 : decode cX4_issued 72 = .ok (.goto 4, 3) := by decide +kernel
theorem dX4_issued_75 : decode cX4_issued 75 = .ok (.iconst 0, 1) := by decide +kernel
theorem dX4_issued_76 : decode cX4_issued 76 = .ok (.istore_n 1, 1) := by decide +kernel
theorem dX4_issued_77 : decode cX4_issued 77 = .ok (.aload_n 0, 1) := by decide +kernel
theorem dX4_issued_78 : decode cX4_issued 78 = .ok (.sipush 1440, 3) := by decide +kernel
theorem dX4_issued_81 : decode cX4_issued 81 = .ok (.aload_n 0, 1) := by decide +kernel
theorem dX4_issued_82 : decode cX4_issued 82 = .ok (.getfield 80, 3) := by decide +kernel
theorem dX4_issued_85 : decode cX4_issued 85 = .ok (.iconst 1, 1) := by decide +kernel
theorem dX4_issued_86 : decode cX4_issued 86 = .ok (.isub, 1) := by decide +kernel
theorem dX4_issued_87 : decode cX4_issued 87 = .ok (.imul, 1) := by decide +kernel
theorem dX4_issued_88 : decode cX4_issued 88 = .ok (.bipush 60, 2) := by decide +kernel
theorem dX4_issued_90 : decode cX4_issued 90 = .ok (.aload_n 0, 1) := by decide +kernel
theorem dX4_issued_91 : decode cX4_issued 91 = .ok (.iconst 2, 1) := by decide +kernel
theorem dX4_issued_92 : decode cX4_issued 92 = .ok (.iconst 2, 1) := by decide +kernel
theorem dX4_issued_93 : decode cX4_issued 93 = .ok (.invokevirtual 76, 3) := by decide +kernel
theorem dX4_issued_96 : decode cX4_issued 96 = .ok (.imul, 1) := by decide +kernel
theorem dX4_issued_97 : decode cX4_issued 97 = .ok (.iadd, 1) := by decide +kernel
theorem dX4_issued_98 : decode cX4_issued 98 = .ok (.aload_n 0, 1) := by decide +kernel
theorem dX4_issued_99 : decode cX4_issued 99 = .ok (.iconst 4, 1) := by decide +kernel
theorem dX4_issued_100 : decode cX4_issued 100 = .ok (.iconst 2, 1) := by decide +kernel
theorem dX4_issued_101 : decode cX4_issued 101 = .ok (.invokevirtual 76, 3) := by decide +kernel
theorem dX4_issued_104 : decode cX4_issued 104 = .ok (.iadd, 1) := by decide +kernel
theorem dX4_issued_105 : decode cX4_issued 105 = .ok (.putfield 91, 3) := by decide +kernel
theorem dX4_issued_108 : decode cX4_issued 108 = .ok (.aload_n 0, 1) := by decide +kernel
theorem dX4_issued_109 : decode cX4_issued 109 = .ok (.iload_n 1, 1) := by decide +kernel
theorem dX4_issued_110 : decode cX4_issued 110 = .ok (.ifCond .eq 12, 3) := by decide +kernel
theorem dX4_issued_113 : decode cX4_issued 113 = .ok (.aload_n 0, 1) := by decide +kernel
theorem dX4_issued_114 : decode cX4_issued 114 = .ok (.getfield 62, 3) := by decide +kernel
theorem dX4_issued_117 : decode cX4_issued 117 = .ok (.iconst 1, 1) := by decide +kernel
theorem dX4_issued_118 : decode cX4_issued 118 = .ok (.iadd, 1) := by decide +kernel
theorem dX4_issued_119 : decode cX4_issued 119 = .ok (.goto 7, 3) := by decide +kernel
theorem dX4_issued_122 : decode cX4_issued 122 = .ok (.aload_n 0, 1) := by decide +kernel
theorem dX4_issued_123 : decode cX4_issued 123 = .ok (.getfield 62, 3) := by decide +kernel
theorem dX4_issued_126 : decode cX4_issued 126 = .ok (.putfield 62, 3) := by decide +kernel
theorem dX4_issued_129 : decode cX4_issued 129 = .ok (.iload_n 1, 1) := by decide +kernel
theorem dX4_issued_130 : decode cX4_issued 130 = .ok (.ireturn, 1) := by decide +kernel
theorem dX4_ends_0 : decode cX4_ends 0 = .ok (.aload_n 0, 1) := by decide +kernel
theorem dX4_ends_1 : decode cX4_ends 1 = .ok (.iconst 0, 1) := by decide +kernel
theorem dX4_ends_2 : decode cX4_ends 2 = .ok (.invokevirtual 69, 3) := by decide +kernel
theorem dX4_ends_5 : decode cX4_ends 5 = .ok (.bipush 77, 2) := by decide +kernel
theorem dX4_ends_7 : decode cX4_ends 7 = .ok (.if_icmp .ne 7, 3) := by decide +kernel
theorem dX4_ends_10 : decode cX4_ends 10 = .ok (.iconst 1, 1) := by decide +kernel
theorem dX4_ends_11 : decode cX4_ends 11 = .ok (.goto 4, 3) := by decide +kernel
theorem dX4_ends_14 : decode cX4_ends 14 = .ok (.iconst 0, 1) := by decide +kernel
theorem dX4_ends_15 : decode cX4_ends 15 = .ok (.istore_n 1, 1) := by decide +kernel
theorem dX4_ends_16 : decode cX4_ends 16 = .ok (.iload_n 1, 1) := by decide +kernel
theorem dX4_ends_17 : decode cX4_ends 17 = .ok (.iconst 2, 1) := by decide +kernel
theorem dX4_ends_18 : decode cX4_ends 18 = .ok (.iadd, 1) := by decide +kernel
theorem dX4_ends_19 : decode cX4_ends 19 = .ok (.istore_n 2, 1) := by decide +kernel
theorem dX4_ends_20 : decode cX4_ends 20 = .ok (.aload_n 0, 1) := by decide +kernel
theorem dX4_ends_21 : decode cX4_ends 21 = .ok (.iload_n 2, 1) := by decide +kernel
theorem dX4_ends_22 : decode cX4_ends 22 = .ok (.iconst 1, 1) := by decide +kernel
theorem dX4_ends_23 : decode cX4_ends 23 = .ok (.iadd, 1) := by decide +kernel
theorem dX4_ends_24 : decode cX4_ends 24 = .ok (.invokevirtual 69, 3) := by decide +kernel
theorem dX4_ends_27 : decode cX4_ends 27 = .ok (.bipush 77, 2) := by decide +kernel
theorem dX4_ends_29 : decode cX4_ends 29 = .ok (.if_icmp .ne 7, 3) := by decide +kernel
theorem dX4_ends_32 : decode cX4_ends 32 = .ok (.iconst 1, 1) := by decide +kernel
theorem dX4_ends_33 : decode cX4_ends 33 = .ok (.goto 4, 3) := by decide +kernel
theorem dX4_ends_36 : decode cX4_ends 36 = .ok (.iconst 0, 1) := by decide +kernel
theorem dX4_ends_37 : decode cX4_ends 37 = .ok (.istore_n 3, 1) := by decide +kernel
theorem dX4_ends_38 : decode cX4_ends 38 = .ok (.aload_n 0, 1) := by decide +kernel
theorem dX4_ends_39 : decode cX4_ends 39 = .ok (.aload_n 0, 1) := by decide +kernel
theorem dX4_ends_40 : decode cX4_ends 40 = .ok (.iload_n 1, 1) := by decide +kernel
theorem dX4_ends_41 : decode cX4_ends 41 = .ok (.iconst 2, 1) := by decide +kernel
theorem dX4_ends_42 : decode cX4_ends 42 = .ok (.invokevirtual 76, 3) := by decide +kernel
theorem dX4_ends_45 : decode cX4_ends 45 = .ok (.putfield 94, 3) := by decide +kernel
theorem dX4_ends_48 : decode cX4_ends 48 = .ok (.aload_n 0, 1) := by decide +kernel
theorem dX4_ends_49 : decode cX4_ends 49 = .ok (.aload_n 0, 1) := by decide +kernel
theorem dX4_ends_50 : decode cX4_ends 50 = .ok (.iload_n 2, 1) := by decide +kernel
theorem dX4_ends_51 : decode cX4_ends 51 = .ok (.iconst 1, 1) := by decide +kernel
theorem dX4_ends_52 : decode cX4_ends 52 = .ok (.iadd, 1) := by decide +kernel
theorem dX4_ends_53 : decode cX4_ends 53 = .ok (.iload_n 3, 1) := by decide +kernel
theorem dX4_ends_54 : decode cX4_ends 54 = .ok (.iadd, 1) := by decide +kernel
theorem dX4_ends_55 : decode cX4_ends 55 = .ok (.iconst 2, 1) := by decide +kernel
theorem dX4_ends_56 : decode cX4_ends 56 = .ok (.invokevirtual 76, 3) := by decide +kernel
theorem dX4_ends_59 : decode cX4_ends 59 = .ok (.putfield 97, 3) := by decide +kernel
theorem dX4_ends_62 : decode cX4_ends 62 = .ok (.aload_n 0, 1) := by decide +kernel
theorem dX4_ends_63 : decode cX4_ends 63 = .ok (.getfield 94, 3) := by decide +kernel
theorem dX4_ends_66 : decode cX4_ends 66 = .ok (.ifCond .lt 36, 3) := by decide +kernel
theorem dX4_ends_69 : decode cX4_ends 69 = .ok (.aload_n 0, 1) := by decide +kernel
theorem dX4_ends_70 : decode cX4_ends 70 = .ok (.getfield 97, 3) := by decide +kernel
theorem dX4_ends_73 : decode cX4_ends 73 = .ok (.ifCond .lt 29, 3) := by decide +kernel
theorem dX4_ends_76 : decode cX4_ends 76 = .ok (.aload_n 0, 1) := by decide +kernel
theorem dX4_ends_77 : decode cX4_ends 77 = .ok (.iload_n 2, 1) := by decide +kernel
theorem dX4_ends_78 : decode cX4_ends 78 = .ok (.invokevirtual 69, 3) := by decide +kernel
theorem dX4_ends_81 : decode cX4_ends 81 = .ok (.bipush 47, 2) := by decide +kernel
theorem dX4_ends_83 : decode cX4_ends 83 = .ok (.if_icmp .ne 19, 3) := by decide +kernel
theorem dX4_ends_86 : decode cX4_ends 86 = .ok (.aload_n 0, 1) := by decide +kernel
theorem dX4_ends_87 : decode cX4_ends 87 = .ok (.invokevirtual 65, 3) := by decide +kernel
theorem dX4_ends_90 : decode cX4_ends 90 = .ok (.iload_n 2, 1) := by decide +kernel
theorem dX4_ends_91 : decode cX4_ends 91 = .ok (.iconst 3, 1) := by decide +kernel
theorem dX4_ends_92 : decode cX4_ends 92 = .ok (.iadd, 1) := by decide +kernel
theorem dX4_ends_93 : decode cX4_ends 93 = .ok (.iload_n 3, 1) := by decide +kernel
theorem dX4_ends_94 : decode cX4_ends 94 = .ok (.iadd, 1) := by decide +kernel
theorem dX4_ends_95 : decode cX4_ends 95 = .ok (.if_icmp .ne 7, 3) := by decide +kernel
theorem dX4_ends_98 : decode cX4_ends 98 = .ok (.iconst 1, 1) := by decide +kernel
theorem dX4_ends_99 : decode cX4_ends 99 = .ok (.goto 4, 3) := by decide +kernel
theorem dX4_ends_102 : decode cX4_ends 102 = .ok (.iconst 0, 1) := by decide +kernel
theorem dX4_ends_103 : decode cX4_ends 103 = .ok (.istore 4, 2) := by decide +kernel
theorem dX4_ends_105 : decode cX4_ends 105 = .ok (.aload_n 0, 1) := by decide +kernel
theorem dX4_ends_106 : decode cX4_ends 106 = .ok (.iload_n 1, 1) := by decide +kernel
theorem dX4_ends_107 : decode cX4_ends 107 = .ok (.iconst 1, 1) := by decide +kernel
theorem dX4_ends_108 : decode cX4_ends 108 = .ok (.if_icmp .ne 11, 3) := by decide +kernel
theorem dX4_ends_111 : decode cX4_ends 111 = .ok (.aload_n 0, 1) := by decide +kernel
theorem dX4_ends_112 : decode cX4_ends 112 = .ok (.getfield 94, 3) := by decide +kernel
theorem dX4_ends_115 : decode cX4_ends 115 = .ok (.ineg, 1) := by decide +kernel
theorem dX4_ends_116 : decode cX4_ends 116 = .ok (.goto 7, 3) := by decide +kernel
theorem dX4_ends_119 : decode cX4_ends 119 = .ok (.aload_n 0, 1) := by decide +kernel
theorem dX4_ends_120 : decode cX4_ends 120 = .ok (.getfield 94, 3) := by decide +kernel
theorem dX4_ends_123 : decode cX4_ends 123 = .ok (.putfield 94, 3) := by decide +kernel
theorem dX4_ends_126 : decode cX4_ends 126 = .ok (.aload_n 0, 1) := by decide +kernel
theorem dX4_ends_127 : decode cX4_ends 127 = .ok (.iload_n 3, 1) := by decide +kernel
theorem dX4_ends_128 : decode cX4_ends 128 = .ok (.iconst 1, 1) := by decide +kernel
theorem dX4_ends_129 : decode cX4_ends 129 = .ok (.if_icmp .ne 11, 3) := by decide +kernel
theorem dX4_ends_132 : decode cX4_ends 132 = .ok (.aload_n 0, 1) := by decide +kernel
theorem dX4_ends_133 : decode cX4_ends 133 = .ok (.getfield 97, 3) := by decide +kernel
theorem dX4_ends_136 : decode cX4_ends 136 = .ok (.ineg, 1) := by decide +kernel
theorem dX4_ends_137 : decode cX4_ends 137 = .ok (.goto 7, 3) := by decide +kernel
theorem dX4_ends_140 : decode cX4_ends 140 = .ok (.aload_n 0, 1) := by decide +kernel
theorem dX4_ends_141 : decode cX4_ends 141 = .ok (.getfield 97, 3) := by decide +kernel
theorem dX4_ends_144 : decode cX4_ends 144 = .ok (.putfield 97, 3) := by decide +kernel
theorem dX4_ends_147 : decode cX4_ends 147 = .ok (.aload_n 0, 1) := by decide +kernel
theorem dX4_ends_148 : decode cX4_ends 148 = .ok (.iload 4, 2) := by decide +kernel
theorem dX4_ends_150 : decode cX4_ends 150 = .ok (.ifCond .eq 12, 3) := by decide +kernel
theorem dX4_ends_153 : decode cX4_ends 153 = .ok (.aload_n 0, 1) := by decide +kernel
theorem dX4_ends_154 : decode cX4_ends 154 = .ok (.getfield 62, 3) := by decide +kernel
theorem dX4_ends_157 : decode cX4_ends 157 = .ok (.iconst 1, 1) := by decide +kernel
theorem dX4_ends_158 : decode cX4_ends 158 = .ok (.iadd, 1) := by decide +kernel
theorem dX4_ends_159 : decode cX4_ends 159 = .ok (.goto 7, 3) := by decide +kernel
theorem dX4_ends_162 : decode cX4_ends 162 = .ok (.aload_n 0, 1) := by decide +kernel
theorem dX4_ends_163 : decode cX4_ends 163 = .ok (.getfield 62, 3) := by decide +kernel
theorem dX4_ends_166 : decode cX4_ends 166 = .ok (.putfield 62, 3) := by decide +kernel
theorem dX4_ends_169 : decode cX4_ends 169 = .ok (.iload 4, 2) := by decide +kernel
theorem dX4_ends_171 : decode cX4_ends 171 = .ok (.ifCond .ne 5, 3) := by decide +kernel
theorem dX4_ends_174 : decode cX4_ends 174 = .ok (.iconst 0, 1) := by decide +kernel
theorem dX4_ends_175 : decode cX4_ends 175 = .ok (.ireturn, 1) := by decide +kernel
theorem dX4_ends_176 : decode cX4_ends 176 = .ok (.aload_n 0, 1) := by decide +kernel
theorem dX4_ends_177 : decode cX4_ends 177 = .ok (.aload_n 0, 1) := by decide +kernel
theorem dX4_ends_178 : decode cX4_ends 178 = .ok (.iconst 1, 1) := by decide +kernel
theorem dX4_ends_179 : decode cX4_ends 179 = .ok (.iconst 4, 1) := by decide +kernel
theorem dX4_ends_180 : decode cX4_ends 180 = .ok (.invokevirtual 76, 3) := by decide +kernel
theorem dX4_ends_183 : decode cX4_ends 183 = .ok (.putfield 100, 3) := by decide +kernel
theorem dX4_ends_186 : decode cX4_ends 186 = .ok (.aload_n 0, 1) := by decide +kernel
theorem dX4_ends_187 : decode cX4_ends 187 = .ok (.iconst 0, 1) := by decide +kernel
theorem dX4_ends_188 : decode cX4_ends 188 = .ok (.invokevirtual 69, 3) := by decide +kernel
theorem dX4_ends_191 : decode cX4_ends 191 = .ok (.bipush 81, 2) := by decide +kernel
theorem dX4_ends_193 : decode cX4_ends 193 = .ok (.if_icmp .ne 22, 3) := by decide +kernel
theorem dX4_ends_196 : decode cX4_ends 196 = .ok (.aload_n 0, 1) := by decide +kernel
theorem dX4_ends_197 : decode cX4_ends 197 = .ok (.invokevirtual 65, 3) := by decide +kernel
theorem dX4_ends_200 : decode cX4_ends 200 = .ok (.iconst 5, 1) := by decide +kernel
theorem dX4_ends_201 : decode cX4_ends 201 = .ok (.if_icmp .ne 14, 3) := by decide +kernel
theorem dX4_ends_204 : decode cX4_ends 204 = .ok (.aload_n 0, 1) := by decide +kernel
theorem dX4_ends_205 : decode cX4_ends 205 = .ok (.getfield 100, 3) := by decide +kernel
theorem dX4_ends_208 : decode cX4_ends 208 = .ok (.ifCond .lt 7, 3) := by decide +kernel
theorem dX4_ends_211 : decode cX4_ends 211 = .ok (.iconst 1, 1) := by decide +kernel
theorem dX4_ends_212 : decode cX4_ends 212 = .ok (.goto 4, 3) := by decide +kernel
theorem dX4_ends_215 : decode cX4_ends 215 = .ok (.iconst 0, 1) := by decide +kernel
theorem dX4_ends_216 : decode cX4_ends 216 = .ok (.istore 5, 2) := by decide +kernel
theorem dX4_ends_218 : decode cX4_ends 218 = .ok (.aload_n 0, 1) := by decide +kernel
theorem dX4_ends_219 : decode cX4_ends 219 = .ok (.iload 5, 2) := by decide +kernel
theorem dX4_ends_221 : decode cX4_ends 221 = .ok (.ifCond .eq 12, 3) := by decide +kernel
theorem dX4_ends_224 : decode cX4_ends 224 = .ok (.aload_n 0, 1) := by decide +kernel
theorem dX4_ends_225 : decode cX4_ends 225 = .ok (.getfield 62, 3) := by decide +kernel
theorem dX4_ends_228 : decode cX4_ends 228 = .ok (.iconst 1, 1) := by decide +kernel
theorem dX4_ends_229 : decode cX4_ends 229 = .ok (.iadd, 1) := by decide +kernel
theorem dX4_ends_230 : decode cX4_ends 230 = .ok (.goto 7, 3) := by decide +kernel
theorem dX4_ends_233 : decode cX4_ends 233 = .ok (.aload_n 0, 1) := by decide +kernel
theorem dX4_ends_234 : decode cX4_ends 234 = .ok (.getfield 62, 3) := by decide +kernel
theorem dX4_ends_237 : decode cX4_ends 237 = .ok (.putfield 62, 3) := by decide +kernel
theorem dX4_ends_240 : decode cX4_ends 240 = .ok (.iload 5, 2) := by decide +kernel
theorem dX4_ends_242 : decode cX4_ends 242 = .ok (.ifCond .eq 18, 3) := by decide +kernel
theorem dX4_ends_245 : decode cX4_ends 245 = .ok (.aload_n 0, 1) := by decide +kernel
theorem dX4_ends_246 : decode cX4_ends 246 = .ok (.getfield 62, 3) := by decide +kernel
theorem dX4_ends_249 : decode cX4_ends 249 = .ok (.aload_n 0, 1) := by decide +kernel
theorem dX4_ends_250 : decode cX4_ends 250 = .ok (.getfield 59, 3) := by decide +kernel
theorem dX4_ends_253 : decode cX4_ends 253 = .ok (.if_icmp .ne 7, 3) := by decide +kernel
theorem dX4_ends_256 : decode cX4_ends 256 = .ok (.iconst 1, 1) := by decide +kernel
theorem dX4_ends_257 : decode cX4_ends 257 = .ok (.goto 4, 3) := by decide +kernel
theorem dX4_ends_260 : decode cX4_ends 260 = .ok (.iconst 0, 1) := by decide +kernel
theorem dX4_ends_261 : decode cX4_ends 261 = .ok (.ireturn, 1) := by decide +kernel
theorem dX4_wind_0 : decode cX4_wind 0 = .ok (.aload_n 0, 1) := by decide +kernel
theorem dX4_wind_1 : decode cX4_wind 1 = .ok (.invokevirtual 65, 3) := by decide +kernel
theorem dX4_wind_4 : decode cX4_wind 4 = .ok (.istore_n 2, 1) := by decide +kernel
theorem dX4_wind_5 : decode cX4_wind 5 = .ok (.aload_n 0, 1) := by decide +kernel
theorem dX4_wind_6 : decode cX4_wind 6 = .ok (.iconst 0, 1) := by decide +kernel
theorem dX4_wind_7 : decode cX4_wind 7 = .ok (.invokevirtual 69, 3) := by decide +kernel
theorem dX4_wind_10 : decode cX4_wind 10 = .ok (.bipush 86, 2) := by decide +kernel
theorem dX4_wind_12 : decode cX4_wind 12 = .ok (.if_icmp .ne 27, 3) := by decide +kernel
theorem dX4_wind_15 : decode cX4_wind 15 = .ok (.aload_n 0, 1) := by decide +kernel
theorem dX4_wind_16 : decode cX4_wind 16 = .ok (.iconst 1, 1) := by decide +kernel
theorem dX4_wind_17 : decode cX4_wind 17 = .ok (.invokevirtual 69, 3) := by decide +kernel
theorem dX4_wind_20 : decode cX4_wind 20 = .ok (.bipush 82, 2) := by decide +kernel
theorem dX4_wind_22 : decode cX4_wind 22 = .ok (.if_icmp .ne 17, 3) := by decide +kernel
theorem dX4_wind_25 : decode cX4_wind 25 = .ok (.aload_n 0, 1) := by decide +kernel
theorem dX4_wind_26 : decode cX4_wind 26 = .ok (.iconst 2, 1) := by decide +kernel
theorem dX4_wind_27 : decode cX4_wind 27 = .ok (.invokevirtual 69, 3) := by decide +kernel
theorem dX4_wind_30 : decode cX4_wind 30 = .ok (.bipush 66, 2) := by decide +kernel
theorem dX4_wind_32 : decode cX4_wind 32 = .ok (.if_icmp .ne 7, 3) := by decide +kernel
theorem dX4_wind_35 : decode cX4_wind 35 = .ok (.iconst 1, 1) := by decide +kernel
theorem dX4_wind_36 : decode cX4_wind 36 = .ok (.goto 4, 3) := by decide +kernel
theorem dX4_wind_39 : decode cX4_wind 39 = .ok (.iconst 0, 1) := by decide +kernel
theorem dX4_wind_40 : decode cX4_wind 40 = .ok (.istore_n 3, 1) := by decide +kernel
theorem dX4_wind_41 : decode cX4_wind 41 = .ok (.iload_n 3, 1) := by decide +kernel
theorem dX4_wind_42 : decode cX4_wind 42 = .ok (.ifCond .eq 8, 3) := by decide +kernel
theorem dX4_wind_45 : decode cX4_wind 45 = .ok (.bipush (-2), 2) := by decide +kernel
theorem dX4_wind_47 : decode cX4_wind 47 = .ok (.goto 9, 3) := by decide +kernel
theorem dX4_wind_50 : decode cX4_wind 50 = .ok (.aload_n 0, 1) := by decide +kernel
theorem dX4_wind_51 : decode cX4_wind 51 = .ok (.iconst 0, 1) := by decide +kernel
theorem dX4_wind_52 : decode cX4_wind 52 = .ok (.iconst 3, 1) := by decide +kernel
theorem dX4_wind_53 : decode cX4_wind 53 = .ok (.invokevirtual 76, 3) := by decide +kernel
theorem dX4_wind_56 : decode cX4_wind 56 = .ok (.istore 4, 2) := by decide +kernel
theorem dX4_wind_58 : decode cX4_wind 58 = .ok (.aload_n 0, 1) := by decide +kernel
theorem dX4_wind_59 : decode cX4_wind 59 = .ok (.iconst 3, 1) := by decide +kernel
theorem dX4_wind_60 : decode cX4_wind 60 = .ok (.iconst 2, 1) := by decide +kernel
theorem dX4_wind_61 : decode cX4_wind 61 = .ok (.invokevirtual 76, 3) := by decide +kernel
theorem dX4_wind_64 : decode cX4_wind 64 = .ok (.istore 5, 2) := by decide +kernel
theorem dX4_wind_66 : decode cX4_wind 66 = .ok (.iload_n 2, 1) := by decide +kernel
theorem dX4_wind_67 : decode cX4_wind 67 = .ok (.bipush 10, 2) := by decide +kernel
theorem dX4_wind_69 : decode cX4_wind 69 = .ok (.if_icmp .ne 13, 3) := by decide +kernel
theorem dX4_wind_72 : decode cX4_wind 72 = .ok (.aload_n 0, 1) := by decide +kernel
theorem dX4_wind_73 : decode cX4_wind 73 = .ok (.bipush 6, 2) := by decide +kernel
theorem dX4_wind_75 : decode cX4_wind 75 = .ok (.iconst 2, 1) := by decide +kernel
theorem dX4_wind_76 : decode cX4_wind 76 = .ok (.invokevirtual 76, 3) := by decide +kernel
theorem dX4_wind_79 : decode cX4_wind 79 = .ok (.goto 4, 3) := by decide +kernel
theorem dX4_wind_82 : decode cX4_wind 82 = .ok (.iconst 0, 1) := by decide +kernel
theorem dX4_wind_83 : decode cX4_wind 83 = .ok (.istore 6, 2) := by decide +kernel
theorem dX4_wind_85 : decode cX4_wind 85 = .ok (.iload_n 2, 1) := by decide +kernel
theorem dX4_wind_86 : decode cX4_wind 86 = .ok (.bipush 7, 2) := by decide +kernel
theorem dX4_wind_88 : decode cX4_wind 88 = .ok (.if_icmp .eq 26, 3) := by decide +kernel
theorem dX4_wind_91 : decode cX4_wind 91 = .ok (.iload_n 2, 1) := by decide +kernel
theorem dX4_wind_92 : decode cX4_wind 92 = .ok (.bipush 10, 2) := by decide +kernel
theorem dX4_wind_94 : decode cX4_wind 94 = .ok (.if_icmp .ne 78, 3) := by decide +kernel
theorem dX4_wind_97 : decode cX4_wind 97 = .ok (.aload_n 0, 1) := by decide +kernel
theorem dX4_wind_98 : decode cX4_wind 98 = .ok (.iconst 5, 1) := by decide +kernel
theorem dX4_wind_99 : decode cX4_wind 99 = .ok (.invokevirtual 69, 3) := by decide +kernel
theorem dX4_wind_102 : decode cX4_wind 102 = .ok (.bipush 71, 2) := by decide +kernel
theorem dX4_wind_104 : decode cX4_wind 104 = .ok (.if_icmp .ne 68, 3) := by decide +kernel
theorem dX4_wind_107 : decode cX4_wind 107 = .ok (.iload 6, 2) := by decide +kernel
theorem dX4_wind_109 : decode cX4_wind 109 = .ok (.iload 5, 2) := by decide +kernel
theorem dX4_wind_111 : decode cX4_wind 111 = .ok (.if_icmp .le 61, 3) := by decide +kernel
theorem dX4_wind_114 : decode cX4_wind 114 = .ok (.aload_n 0, 1) := by decide +kernel
theorem dX4_wind_115 : decode cX4_wind 115 = .ok (.iload_n 2, 1) := by decide +kernel
theorem dX4_wind_116 : decode cX4_wind 116 = .ok (.iconst 2, 1) := by decide +kernel
theorem dX4_wind_117 : decode cX4_wind 117 = .ok (.isub, 1) := by decide +kernel
theorem dX4_wind_118 : decode cX4_wind 118 = .ok (.invokevirtual 69, 3) := by decide +kernel
theorem dX4_wind_121 : decode cX4_wind 121 = .ok (.bipush 75, 2) := by decide +kernel
theorem dX4_wind_123 : decode cX4_wind 123 = .ok (.if_icmp .ne 49, 3) := by decide +kernel
theorem dX4_wind_126 : decode cX4_wind 126 = .ok (.aload_n 0, 1) := by decide +kernel
theorem dX4_wind_127 : decode cX4_wind 127 = .ok (.iload_n 2, 1) := by decide +kernel
theorem dX4_wind_128 : decode cX4_wind 128 = .ok (.iconst 1, 1) := by decide +kernel
theorem dX4_wind_129 : decode cX4_wind 129 = .ok (.isub, 1) := by decide +kernel
theorem dX4_wind_130 : decode cX4_wind 130 = .ok (.invokevirtual 69, 3) := by decide +kernel
theorem dX4_wind_133 : decode cX4_wind 133 = .ok (.bipush 84, 2) := by decide +kernel
theorem dX4_wind_135 : decode cX4_wind 135 = .ok (.if_icmp .ne 37, 3) := by decide +kernel
theorem dX4_wind_138 : decode cX4_wind 138 = .ok (.iload 5, 2) := by decide +kernel
theorem dX4_wind_140 : decode cX4_wind 140 = .ok (.ifCond .lt 32, 3) := by decide +kernel
theorem dX4_wind_143 : decode cX4_wind 143 = .ok (.iload_n 3, 1) := by decide +kernel
theorem dX4_wind_144 : decode cX4_wind 144 = .ok (.ifCond .ne 24, 3) := by decide +kernel
theorem dX4_wind_147 : decode cX4_wind 147 = .ok (.iload 4, 2) := by decide +kernel
theorem dX4_wind_149 : decode cX4_wind 149 = .ok (.ifCond .lt 23, 3) := by decide +kernel
theorem dX4_wind_152 : decode cX4_wind 152 = .ok (.iload 4, 2) := by decide +kernel
theorem dX4_wind_154 : decode cX4_wind 154 = .ok (.sipush 360, 3) := by decide +kernel
theorem dX4_wind_157 : decode cX4_wind 157 = .ok (.if_icmp .gt 15, 3) := by decide +kernel
theorem dX4_wind_160 : decode cX4_wind 160 = .ok (.iload 4, 2) := by decide +kernel
theorem dX4_wind_162 : decode cX4_wind 162 = .ok (.bipush 10, 2) := by decide +kernel
theorem dX4_wind_164 : decode cX4_wind 164 = .ok (.irem, 1) := by decide +kernel
theorem dX4_wind_165 : decode cX4_wind 165 = .ok (.ifCond .ne 7, 3) := by decide +kernel
theorem dX4_wind_168 : decode cX4_wind 168 = .ok (.iconst 1, 1) := by decide +kernel
theorem dX4_wind_169 : decode cX4_wind 169 = .ok (.goto 4, 3) := by decide +kernel
theorem dX4_wind_172 : decode cX4_wind 172 = .ok (.iconst 0, 1) := by decide +kernel
theorem dX4_wind_173 : decode cX4_wind 173 = .ok (.istore 7, 2) := by decide +kernel
theorem dX4_wind_175 : decode cX4_wind 175 = .ok (.iload 7, 2) := by decide +kernel
theorem dX4_wind_177 : decode cX4_wind 177 = .ok (.ifCond .eq 53, 3) := by decide +kernel
theorem dX4_wind_180 : decode cX4_wind 180 = .ok (.aload_n 0, 1) := by decide +kernel
theorem dX4_wind_181 : decode cX4_wind 181 = .ok (.getfield 22, 3) := by decide +kernel
theorem dX4_wind_184 : decode cX4_wind 184 = .ok (.bipush 10, 2) := by decide +kernel
theorem dX4_wind_186 : decode cX4_wind 186 = .ok (.iload_n 1, 1) := by decide +kernel
theorem dX4_wind_187 : decode cX4_wind 187 = .ok (.imul, 1) := by decide +kernel
theorem dX4_wind_188 : decode cX4_wind 188 = .ok (.iconst 4, 1) := by decide +kernel
theorem dX4_wind_189 : decode cX4_wind 189 = .ok (.iadd, 1) := by decide +kernel
theorem dX4_wind_190 : decode cX4_wind 190 = .ok (.iload 4, 2) := by decide +kernel
theorem dX4_wind_192 : decode cX4_wind 192 = .ok (.iastore, 1) := by decide +kernel
theorem dX4_wind_193 : decode cX4_wind 193 = .ok (.aload_n 0, 1) := by decide +kernel
theorem dX4_wind_194 : decode cX4_wind 194 = .ok (.getfield 22, 3) := by decide +kernel
theorem dX4_wind_197 : decode cX4_wind 197 = .ok (.bipush 10, 2) := by decide +kernel
theorem dX4_wind_199 : decode cX4_wind 199 = .ok (.iload_n 1, 1) := by decide +kernel
theorem dX4_wind_200 : decode cX4_wind 200 = .ok (.imul, 1) := by decide +kernel
theorem dX4_wind_201 : decode cX4_wind 201 = .ok (.iconst 5, 1) := by decide +kernel
theorem dX4_wind_202 : decode cX4_wind 202 = .ok (.iadd, 1) := by decide +kernel
theorem dX4_wind_203 : decode cX4_wind 203 = .ok (.iload 5, 2) := by decide +kernel
theorem dX4_wind_205 : decode cX4_wind 205 = .ok (.iastore, 1) := by decide +kernel
theorem dX4_wind_206 : decode cX4_wind 206 = .ok (.aload_n 0, 1) := by decide +kernel
theorem dX4_wind_207 : decode cX4_wind 207 = .ok (.getfield 22, 3) := by decide +kernel
theorem dX4_wind_210 : decode cX4_wind 210 = .ok (.bipush 10, 2) := by decide +kernel
theorem dX4_wind_212 : decode cX4_wind 212 = .ok (.iload_n 1, 1) := by decide +kernel
theorem dX4_wind_213 : decode cX4_wind 213 = .ok (.imul, 1) := by decide +kernel
theorem dX4_wind_214 : decode cX4_wind 214 = .ok (.bipush 6, 2) := by decide +kernel
theorem dX4_wind_216 : decode cX4_wind 216 = .ok (.iadd, 1) := by decide +kernel
theorem dX4_wind_217 : decode cX4_wind 217 = .ok (.iload 6, 2) := by decide +kernel
theorem dX4_wind_219 : decode cX4_wind 219 = .ok (.iastore, 1) := by decide +kernel
theorem dX4_wind_220 : decode cX4_wind 220 = .ok (.aload_n 0, 1) := by decide +kernel
theorem dX4_wind_221 : decode cX4_wind 221 = .ok (.dup, 1) := by decide +kernel
theorem dX4_wind_222 : decode cX4_wind 222 = .ok (.getfield 62, 3) := by decide +kernel
theorem dX4_wind_225 : decode cX4_wind 225 = .ok (.iconst 1, 1) := by decide +kernel
theorem dX4_wind_226 : decode cX4_wind 226 = .ok (.iadd, 1) := by decide +kernel
theorem dX4_wind_227 : decode cX4_wind 227 = .ok (.putfield 62, 3) := by decide +kernel
theorem dX4_wind_230 : decode cX4_wind 230 = .ok (.iload 7, 2) := by decide +kernel
theorem dX4_wind_232 : decode cX4_wind 232 = .ok (.ireturn, 1) := by decide +kernel
theorem dX4_visibility_0 : decode cX4_visibility 0 = .ok (.aload_n 0, 1) := by decide +kernel
theorem dX4_visibility_1 : decode cX4_visibility 1 = .ok (.invokevirtual 65, 3) := by decide +kernel
theorem dX4_visibility_4 : decode cX4_visibility 4 = .ok (.iconst 4, 1) := by decide +kernel
theorem dX4_visibility_5 : decode cX4_visibility 5 = .ok (.if_icmp .ne 16, 3) := by decide +kernel
theorem dX4_visibility_8 : decode cX4_visibility 8 = .ok (.aload_n 0, 1) := by decide +kernel
theorem dX4_visibility_9 : decode cX4_visibility 9 = .ok (.iconst 0, 1) := by decide +kernel
theorem dX4_visibility_10 : decode cX4_visibility 10 = .ok (.iconst 4, 1) := by decide +kernel
theorem dX4_visibility_11 : decode cX4_visibility 11 = .ok (.invokevirtual 76, 3) := by decide +kernel
theorem dX4_visibility_14 : decode cX4_visibility 14 = .ok (.ifCond .lt 7, 3) := by decide +kernel
theorem dX4_visibility_17 : decode cX4_visibility 17 = .ok (.iconst 1, 1) := by decide +kernel
theorem dX4_visibility_18 : decode cX4_visibility 18 = .ok (.goto 4, 3) := by decide +kernel
theorem dX4_visibility_21 : decode cX4_visibility 21 = .ok (.iconst 0, 1) := by decide +kernel
theorem dX4_visibility_22 : decode cX4_visibility 22 = .ok (.istore_n 2, 1) := by decide +kernel
theorem dX4_visibility_23 : decode cX4_visibility 23 = .ok (.iload_n 2, 1) := by decide +kernel
theorem dX4_visibility_24 : decode cX4_visibility 24 = .ok (.ifCond .eq 31, 3) := by decide +kernel
theorem dX4_visibility_27 : decode cX4_visibility 27 = .ok (.aload_n 0, 1) := by decide +kernel
theorem dX4_visibility_28 : decode cX4_visibility 28 = .ok (.getfield 22, 3) := by decide +kernel
theorem dX4_visibility_31 : decode cX4_visibility 31 = .ok (.bipush 10, 2) := by decide +kernel
theorem dX4_visibility_33 : decode cX4_visibility 33 = .ok (.iload_n 1, 1) := by decide +kernel
theorem dX4_visibility_34 : decode cX4_visibility 34 = .ok (.imul, 1) := by decide +kernel
theorem dX4_visibility_35 : decode cX4_visibility 35 = .ok (.bipush 7, 2) := by decide +kernel
theorem dX4_visibility_37 : decode cX4_visibility 37 = .ok (.iadd, 1) := by decide +kernel
theorem dX4_visibility_38 : decode cX4_visibility 38 = .ok (.aload_n 0, 1) := by decide +kernel
theorem dX4_visibility_39 : decode cX4_visibility 39 = .ok (.iconst 0, 1) := by decide +kernel
theorem dX4_visibility_40 : decode cX4_visibility 40 = .ok (.iconst 4, 1) := by decide +kernel
theorem dX4_visibility_41 : decode cX4_visibility 41 = .ok (.invokevirtual 76, 3) := by decide +kernel
theorem dX4_visibility_44 : decode cX4_visibility 44 = .ok (.iastore, 1) := by decide +kernel
theorem dX4_visibility_45 : decode cX4_visibility 45 = .ok (.aload_n 0, 1) := by decide +kernel
theorem dX4_visibility_46 : decode cX4_visibility 46 = .ok (.dup, 1) := by decide +kernel
theorem dX4_visibility_47 : decode cX4_visibility 47 = .ok (.getfield 62, 3) := by decide +kernel
theorem dX4_visibility_50 : decode cX4_visibility 50 = .ok (.iconst 1, 1) := by decide +kernel
theorem dX4_visibility_51 : decode cX4_visibility 51 = .ok (.iadd, 1) := by decide +kernel
theorem dX4_visibility_52 : decode cX4_visibility 52 = .ok (.putfield 62, 3) := by decide +kernel
theorem dX4_visibility_55 : decode cX4_visibility 55 = .ok (.iload_n 2, 1) := by decide +kernel
theorem dX4_visibility_56 : decode cX4_visibility 56 = .ok (.ireturn, 1) := by decide +kernel
theorem dX4_firstKind_0 : decode cX4_firstKind 0 = .ok (.iload_n 0, 1) := by decide +kernel
theorem dX4_firstKind_1 : decode cX4_firstKind 1 = .ok (.lookupswitch 93 #[(16963, 77), (16972, 83), (17490, 81), (18010, 90), (19785, 75), (20562, 79), (21320, 85), (21587, 87)], 75) := by decide +kernel
theorem dX4_firstKind_76 : decode cX4_firstKind 76 = .ok (.iconst 0, 1) := by decide +kernel
theorem dX4_firstKind_77 : decode cX4_firstKind 77 = .ok (.ireturn, 1) := by decide +kernel
theorem dX4_firstKind_78 : decode cX4_firstKind 78 = .ok (.iconst 1, 1) := by decide +kernel
theorem dX4_firstKind_79 : decode cX4_firstKind 79 = .ok (.ireturn, 1) := by decide +kernel
theorem dX4_firstKind_80 : decode cX4_firstKind 80 = .ok (.iconst 2, 1) := by decide +kernel
theorem dX4_firstKind_81 : decode cX4_firstKind 81 = .ok (.ireturn, 1) := by decide +kernel
theorem dX4_firstKind_82 : decode cX4_firstKind 82 = .ok (.iconst 3, 1) := by decide +kernel
theorem dX4_firstKind_83 : decode cX4_firstKind 83 = .ok (.ireturn, 1) := by decide +kernel
theorem dX4_firstKind_84 : decode cX4_firstKind 84 = .ok (.iconst 4, 1) := by decide +kernel
theorem dX4_firstKind_85 : decode cX4_firstKind 85 = .ok (.ireturn, 1) := by decide +kernel
theorem dX4_firstKind_86 : decode cX4_firstKind 86 = .ok (.iconst 5, 1) := by decide +kernel
theorem dX4_firstKind_87 : decode cX4_firstKind 87 = .ok (.ireturn, 1) := by decide +kernel
theorem dX4_firstKind_88 : decode cX4_firstKind 88 = .ok (.bipush 6, 2) := by decide +kernel
theorem dX4_firstKind_90 : decode cX4_firstKind 90 = .ok (.ireturn, 1) := by decide +kernel
theorem dX4_firstKind_91 : decode cX4_firstKind 91 = .ok (.bipush 7, 2) := by decide +kernel
theorem dX4_firstKind_93 : decode cX4_firstKind 93 = .ok (.ireturn, 1) := by decide +kernel
theorem dX4_firstKind_94 : decode cX4_firstKind 94 = .ok (.iconst (-1), 1) := by decide +kernel
theorem dX4_firstKind_95 : decode cX4_firstKind 95 = .ok (.ireturn, 1) := by decide +kernel
theorem dX4_secondKind_0 : decode cX4_secondKind 0 = .ok (.iload_n 0, 1) := by decide +kernel
theorem dX4_secondKind_1 : decode cX4_secondKind 1 = .ok (.lookupswitch 115 #[(16978, 106), (17498, 91), (17991, 109), (18005, 112), (18258, 101), (18259, 103), (20556, 99), (21057, 93), (21319, 97), (21326, 95)], 91) := by decide +kernel
theorem dX4_secondKind_92 : decode cX4_secondKind 92 = .ok (.iconst 0, 1) := by decide +kernel
theorem dX4_secondKind_93 : decode cX4_secondKind 93 = .ok (.ireturn, 1) := by decide +kernel
theorem dX4_secondKind_94 : decode cX4_secondKind 94 = .ok (.iconst 1, 1) := by decide +kernel
theorem dX4_secondKind_95 : decode cX4_secondKind 95 = .ok (.ireturn, 1) := by decide +kernel
theorem dX4_secondKind_96 : decode cX4_secondKind 96 = .ok (.iconst 2, 1) := by decide +kernel
theorem dX4_secondKind_97 : decode cX4_secondKind 97 = .ok (.ireturn, 1) := by decide +kernel
theorem dX4_secondKind_98 : decode cX4_secondKind 98 = .ok (.iconst 3, 1) := by decide +kernel
theorem dX4_secondKind_99 : decode cX4_secondKind 99 = .ok (.ireturn, 1) := by decide +kernel
theorem dX4_secondKind_100 : decode cX4_secondKind 100 = .ok (.iconst 4, 1) := by decide +kernel
theorem dX4_secondKind_101 : decode cX4_secondKind 101 = .ok (.ireturn, 1) := by decide +kernel
theorem dX4_secondKind_102 : decode cX4_secondKind 102 = .ok (.iconst 5, 1) := by decide +kernel
theorem dX4_secondKind_103 : decode cX4_secondKind 103 = .ok (.ireturn, 1) := by decide +kernel
theorem dX4_secondKind_104 : decode cX4_secondKind 104 = .ok (.bipush 6, 2) := by decide +kernel
theorem dX4_secondKind_106 : decode cX4_secondKind 106 = .ok (.ireturn, 1) := by decide +kernel
theorem dX4_secondKind_107 : decode cX4_secondKind 107 = .ok (.bipush 7, 2) := by decide +kernel
theorem dX4_secondKind_109 : decode cX4_secondKind 109 = .ok (.ireturn, 1) := by decide +kernel
theorem dX4_secondKind_110 : decode cX4_secondKind 110 = .ok (.bipush 8, 2) := by decide +kernel
theorem dX4_secondKind_112 : decode cX4_secondKind 112 = .ok (.ireturn, 1) := by decide +kernel
theorem dX4_secondKind_113 : decode cX4_secondKind 113 = .ok (.bipush 9, 2) := by decide +kernel
theorem dX4_secondKind_115 : decode cX4_secondKind 115 = .ok (.ireturn, 1) := by decide +kernel
theorem dX4_secondKind_116 : decode cX4_secondKind 116 = .ok (.iload_n 0, 1) := by decide +kernel
theorem dX4_secondKind_117 : decode cX4_secondKind 117 = .ok (.invokestatic 103, 3) := by decide +kernel
theorem dX4_secondKind_120 : decode cX4_secondKind 120 = .ok (.ireturn, 1) := by decide +kernel
theorem dX4_thirdKind_0 : decode cX4_thirdKind 0 = .ok (.iload_n 0, 1) := by decide +kernel
theorem dX4_thirdKind_1 : decode cX4_thirdKind 1 = .ok (.lookupswitch 110 #[(17491, 107), (17493, 86), (17987, 101), (18522, 92), (20559, 95), (21313, 89), (21329, 98), (21331, 104), (22081, 83)], 83) := by decide +kernel
theorem dX4_thirdKind_84 : decode cX4_thirdKind 84 = .ok (.bipush 10, 2) := by decide +kernel
theorem dX4_thirdKind_86 : decode cX4_thirdKind 86 = .ok (.ireturn, 1) := by decide +kernel
theorem dX4_thirdKind_87 : decode cX4_thirdKind 87 = .ok (.bipush 11, 2) := by decide +kernel
theorem dX4_thirdKind_89 : decode cX4_thirdKind 89 = .ok (.ireturn, 1) := by decide +kernel
theorem dX4_thirdKind_90 : decode cX4_thirdKind 90 = .ok (.bipush 12, 2) := by decide +kernel
theorem dX4_thirdKind_92 : decode cX4_thirdKind 92 = .ok (.ireturn, 1) := by decide +kernel
theorem dX4_thirdKind_93 : decode cX4_thirdKind 93 = .ok (.bipush 13, 2) := by decide +kernel
theorem dX4_thirdKind_95 : decode cX4_thirdKind 95 = .ok (.ireturn, 1) := by decide +kernel
theorem dX4_thirdKind_96 : decode cX4_thirdKind 96 = .ok (.bipush 14, 2) := by decide +kernel
theorem dX4_thirdKind_98 : decode cX4_thirdKind 98 = .ok (.ireturn, 1) := by decide +kernel
theorem dX4_thirdKind_99 : decode cX4_thirdKind 99 = .ok (.bipush 15, 2) := by decide +kernel
theorem dX4_thirdKind_101 : decode cX4_thirdKind 101 = .ok (.ireturn, 1) := by decide +kernel
theorem dX4_thirdKind_102 : decode cX4_thirdKind 102 = .ok (.bipush 16, 2) := by decide +kernel
theorem dX4_thirdKind_104 : decode cX4_thirdKind 104 = .ok (.ireturn, 1) := by decide +kernel
theorem dX4_thirdKind_105 : decode cX4_thirdKind 105 = .ok (.bipush 17, 2) := by decide +kernel
theorem dX4_thirdKind_107 : decode cX4_thirdKind 107 = .ok (.ireturn, 1) := by decide +kernel
theorem dX4_thirdKind_108 : decode cX4_thirdKind 108 = .ok (.bipush 18, 2) := by decide +kernel
theorem dX4_thirdKind_110 : decode cX4_thirdKind 110 = .ok (.ireturn, 1) := by decide +kernel
theorem dX4_thirdKind_111 : decode cX4_thirdKind 111 = .ok (.iconst (-1), 1) := by decide +kernel
theorem dX4_thirdKind_112 : decode cX4_thirdKind 112 = .ok (.ireturn, 1) := by decide +kernel
theorem dX4_weatherHere_0 : decode cX4_weatherHere 0 = .ok (.aload_n 0, 1) := by decide +kernel
theorem dX4_weatherHere_1 : decode cX4_weatherHere 1 = .ok (.iconst 0, 1) := by decide +kernel
theorem dX4_weatherHere_2 : decode cX4_weatherHere 2 = .ok (.invokevirtual 69, 3) := by decide +kernel
theorem dX4_weatherHere_5 : decode cX4_weatherHere 5 = .ok (.bipush 45, 2) := by decide +kernel
theorem dX4_weatherHere_7 : decode cX4_weatherHere 7 = .ok (.if_icmp .ne 7, 3) := by decide +kernel
theorem dX4_weatherHere_10 : decode cX4_weatherHere 10 = .ok (.iconst 1, 1) := by decide +kernel
theorem dX4_weatherHere_11 : decode cX4_weatherHere 11 = .ok (.goto 42, 3) := by decide +kernel
theorem dX4_weatherHere_14 : decode cX4_weatherHere 14 = .ok (.aload_n 0, 1) := by decide +kernel
theorem dX4_weatherHere_15 : decode cX4_weatherHere 15 = .ok (.iconst 0, 1) := by decide +kernel
theorem dX4_weatherHere_16 : decode cX4_weatherHere 16 = .ok (.invokevirtual 69, 3) := by decide +kernel
theorem dX4_weatherHere_19 : decode cX4_weatherHere 19 = .ok (.bipush 43, 2) := by decide +kernel
theorem dX4_weatherHere_21 : decode cX4_weatherHere 21 = .ok (.if_icmp .ne 7, 3) := by decide +kernel
theorem dX4_weatherHere_24 : decode cX4_weatherHere 24 = .ok (.iconst 2, 1) := by decide +kernel
theorem dX4_weatherHere_25 : decode cX4_weatherHere 25 = .ok (.goto 28, 3) := by decide +kernel
theorem dX4_weatherHere_28 : decode cX4_weatherHere 28 = .ok (.aload_n 0, 1) := by decide +kernel
theorem dX4_weatherHere_29 : decode cX4_weatherHere 29 = .ok (.iconst 0, 1) := by decide +kernel
theorem dX4_weatherHere_30 : decode cX4_weatherHere 30 = .ok (.invokevirtual 69, 3) := by decide +kernel
theorem dX4_weatherHere_33 : decode cX4_weatherHere 33 = .ok (.bipush 86, 2) := by decide +kernel
theorem dX4_weatherHere_35 : decode cX4_weatherHere 35 = .ok (.if_icmp .ne 17, 3) := by decide +kernel
theorem dX4_weatherHere_38 : decode cX4_weatherHere 38 = .ok (.aload_n 0, 1) := by decide +kernel
theorem dX4_weatherHere_39 : decode cX4_weatherHere 39 = .ok (.iconst 1, 1) := by decide +kernel
theorem dX4_weatherHere_40 : decode cX4_weatherHere 40 = .ok (.invokevirtual 69, 3) := by decide +kernel
theorem dX4_weatherHere_43 : decode cX4_weatherHere 43 = .ok (.bipush 67, 2) := by decide +kernel
theorem dX4_weatherHere_45 : decode cX4_weatherHere 45 = .ok (.if_icmp .ne 7, 3) := by decide +kernel
theorem dX4_weatherHere_48 : decode cX4_weatherHere 48 = .ok (.iconst 3, 1) := by decide +kernel
theorem dX4_weatherHere_49 : decode cX4_weatherHere 49 = .ok (.goto 4, 3) := by decide +kernel
theorem dX4_weatherHere_52 : decode cX4_weatherHere 52 = .ok (.iconst 0, 1) := by decide +kernel
theorem dX4_weatherHere_53 : decode cX4_weatherHere 53 = .ok (.istore_n 1, 1) := by decide +kernel
theorem dX4_weatherHere_54 : decode cX4_weatherHere 54 = .ok (.iload_n 1, 1) := by decide +kernel
theorem dX4_weatherHere_55 : decode cX4_weatherHere 55 = .ok (.iconst 3, 1) := by decide +kernel
theorem dX4_weatherHere_56 : decode cX4_weatherHere 56 = .ok (.if_icmp .ne 7, 3) := by decide +kernel
theorem dX4_weatherHere_59 : decode cX4_weatherHere 59 = .ok (.iconst 2, 1) := by decide +kernel
theorem dX4_weatherHere_60 : decode cX4_weatherHere 60 = .ok (.goto 12, 3) := by decide +kernel
theorem dX4_weatherHere_63 : decode cX4_weatherHere 63 = .ok (.iload_n 1, 1) := by decide +kernel
theorem dX4_weatherHere_64 : decode cX4_weatherHere 64 = .ok (.ifCond .le 7, 3) := by decide +kernel
theorem dX4_weatherHere_67 : decode cX4_weatherHere 67 = .ok (.iconst 1, 1) := by decide +kernel
theorem dX4_weatherHere_68 : decode cX4_weatherHere 68 = .ok (.goto 4, 3) := by decide +kernel
theorem dX4_weatherHere_71 : decode cX4_weatherHere 71 = .ok (.iconst 0, 1) := by decide +kernel
theorem dX4_weatherHere_72 : decode cX4_weatherHere 72 = .ok (.istore_n 2, 1) := by decide +kernel
theorem dX4_weatherHere_73 : decode cX4_weatherHere 73 = .ok (.aload_n 0, 1) := by decide +kernel
theorem dX4_weatherHere_74 : decode cX4_weatherHere 74 = .ok (.iload_n 2, 1) := by decide +kernel
theorem dX4_weatherHere_75 : decode cX4_weatherHere 75 = .ok (.invokevirtual 106, 3) := by decide +kernel
theorem dX4_weatherHere_78 : decode cX4_weatherHere 78 = .ok (.invokestatic 109, 3) := by decide +kernel
theorem dX4_weatherHere_81 : decode cX4_weatherHere 81 = .ok (.istore_n 3, 1) := by decide +kernel
theorem dX4_weatherHere_82 : decode cX4_weatherHere 82 = .ok (.iload_n 3, 1) := by decide +kernel
theorem dX4_weatherHere_83 : decode cX4_weatherHere 83 = .ok (.ifCond .lt 9, 3) := by decide +kernel
theorem dX4_weatherHere_86 : decode cX4_weatherHere 86 = .ok (.iload_n 2, 1) := by decide +kernel
theorem dX4_weatherHere_87 : decode cX4_weatherHere 87 = .ok (.iconst 2, 1) := by decide +kernel
theorem dX4_weatherHere_88 : decode cX4_weatherHere 88 = .ok (.iadd, 1) := by decide +kernel
theorem dX4_weatherHere_89 : decode cX4_weatherHere 89 = .ok (.goto 4, 3) := by decide +kernel
theorem dX4_weatherHere_92 : decode cX4_weatherHere 92 = .ok (.iload_n 2, 1) := by decide +kernel
theorem dX4_weatherHere_93 : decode cX4_weatherHere 93 = .ok (.istore_n 2, 1) := by decide +kernel
theorem dX4_weatherHere_94 : decode cX4_weatherHere 94 = .ok (.iload_n 3, 1) := by decide +kernel
theorem dX4_weatherHere_95 : decode cX4_weatherHere 95 = .ok (.ifCond .lt 13, 3) := by decide +kernel
theorem dX4_weatherHere_98 : decode cX4_weatherHere 98 = .ok (.iload_n 1, 1) := by decide +kernel
theorem dX4_weatherHere_99 : decode cX4_weatherHere 99 = .ok (.iconst 4, 1) := by decide +kernel
theorem dX4_weatherHere_100 : decode cX4_weatherHere 100 = .ok (.iload_n 3, 1) := by decide +kernel
theorem dX4_weatherHere_101 : decode cX4_weatherHere 101 = .ok (.iconst 1, 1) := by decide +kernel
theorem dX4_weatherHere_102 : decode cX4_weatherHere 102 = .ok (.iadd, 1) := by decide +kernel
theorem dX4_weatherHere_103 : decode cX4_weatherHere 103 = .ok (.imul, 1) := by decide +kernel
theorem dX4_weatherHere_104 : decode cX4_weatherHere 104 = .ok (.iadd, 1) := by decide +kernel
theorem dX4_weatherHere_105 : decode cX4_weatherHere 105 = .ok (.goto 4, 3) := by decide +kernel
theorem dX4_weatherHere_108 : decode cX4_weatherHere 108 = .ok (.iload_n 1, 1) := by decide +kernel
theorem dX4_weatherHere_109 : decode cX4_weatherHere 109 = .ok (.istore_n 1, 1) := by decide +kernel
theorem dX4_weatherHere_110 : decode cX4_weatherHere 110 = .ok (.bipush 64, 2) := by decide +kernel
theorem dX4_weatherHere_112 : decode cX4_weatherHere 112 = .ok (.istore 4, 2) := by decide +kernel
theorem dX4_weatherHere_114 : decode cX4_weatherHere 114 = .ok (.iconst 0, 1) := by decide +kernel
theorem dX4_weatherHere_115 : decode cX4_weatherHere 115 = .ok (.istore 5, 2) := by decide +kernel
theorem dX4_weatherHere_117 : decode cX4_weatherHere 117 = .ok (.iload 5, 2) := by decide +kernel
theorem dX4_weatherHere_119 : decode cX4_weatherHere 119 = .ok (.iconst 3, 1) := by decide +kernel
theorem dX4_weatherHere_120 : decode cX4_weatherHere 120 = .ok (.if_icmp .ge 54, 3) := by decide +kernel
theorem dX4_weatherHere_123 : decode cX4_weatherHere 123 = .ok (.iload_n 2, 1) := by decide +kernel
theorem dX4_weatherHere_124 : decode cX4_weatherHere 124 = .ok (.aload_n 0, 1) := by decide +kernel
theorem dX4_weatherHere_125 : decode cX4_weatherHere 125 = .ok (.invokevirtual 65, 3) := by decide +kernel
theorem dX4_weatherHere_128 : decode cX4_weatherHere 128 = .ok (.if_icmp .ge 46, 3) := by decide +kernel
theorem dX4_weatherHere_131 : decode cX4_weatherHere 131 = .ok (.aload_n 0, 1) := by decide +kernel
theorem dX4_weatherHere_132 : decode cX4_weatherHere 132 = .ok (.iload_n 2, 1) := by decide +kernel
theorem dX4_weatherHere_133 : decode cX4_weatherHere 133 = .ok (.invokevirtual 106, 3) := by decide +kernel
theorem dX4_weatherHere_136 : decode cX4_weatherHere 136 = .ok (.invokestatic 112, 3) := by decide +kernel
theorem dX4_weatherHere_139 : decode cX4_weatherHere 139 = .ok (.ifCond .lt 35, 3) := by decide +kernel
theorem dX4_weatherHere_142 : decode cX4_weatherHere 142 = .ok (.iload_n 1, 1) := by decide +kernel
theorem dX4_weatherHere_143 : decode cX4_weatherHere 143 = .ok (.iload 4, 2) := by decide +kernel
theorem dX4_weatherHere_145 : decode cX4_weatherHere 145 = .ok (.aload_n 0, 1) := by decide +kernel
theorem dX4_weatherHere_146 : decode cX4_weatherHere 146 = .ok (.iload_n 2, 1) := by decide +kernel
theorem dX4_weatherHere_147 : decode cX4_weatherHere 147 = .ok (.invokevirtual 106, 3) := by decide +kernel
theorem dX4_weatherHere_150 : decode cX4_weatherHere 150 = .ok (.invokestatic 112, 3) := by decide +kernel
theorem dX4_weatherHere_153 : decode cX4_weatherHere 153 = .ok (.iconst 1, 1) := by decide +kernel
theorem dX4_weatherHere_154 : decode cX4_weatherHere 154 = .ok (.iadd, 1) := by decide +kernel
theorem dX4_weatherHere_155 : decode cX4_weatherHere 155 = .ok (.imul, 1) := by decide +kernel
theorem dX4_weatherHere_156 : decode cX4_weatherHere 156 = .ok (.iadd, 1) := by decide +kernel
theorem dX4_weatherHere_157 : decode cX4_weatherHere 157 = .ok (.istore_n 1, 1) := by decide +kernel
theorem dX4_weatherHere_158 : decode cX4_weatherHere 158 = .ok (.iload 4, 2) := by decide +kernel
theorem dX4_weatherHere_160 : decode cX4_weatherHere 160 = .ok (.bipush 32, 2) := by decide +kernel
theorem dX4_weatherHere_162 : decode cX4_weatherHere 162 = .ok (.imul, 1) := by decide +kernel
theorem dX4_weatherHere_163 : decode cX4_weatherHere 163 = .ok (.istore 4, 2) := by decide +kernel
theorem dX4_weatherHere_165 : decode cX4_weatherHere 165 = .ok (.iinc 5 1, 3) := by decide +kernel
theorem dX4_weatherHere_168 : decode cX4_weatherHere 168 = .ok (.iinc 2 2, 3) := by decide +kernel
theorem dX4_weatherHere_171 : decode cX4_weatherHere 171 = .ok (.goto (-54), 3) := by decide +kernel
theorem dX4_weatherHere_174 : decode cX4_weatherHere 174 = .ok (.iload_n 2, 1) := by decide +kernel
theorem dX4_weatherHere_175 : decode cX4_weatherHere 175 = .ok (.aload_n 0, 1) := by decide +kernel
theorem dX4_weatherHere_176 : decode cX4_weatherHere 176 = .ok (.invokevirtual 65, 3) := by decide +kernel
theorem dX4_weatherHere_179 : decode cX4_weatherHere 179 = .ok (.if_icmp .ne 25, 3) := by decide +kernel
theorem dX4_weatherHere_182 : decode cX4_weatherHere 182 = .ok (.aload_n 0, 1) := by decide +kernel
theorem dX4_weatherHere_183 : decode cX4_weatherHere 183 = .ok (.invokevirtual 65, 3) := by decide +kernel
theorem dX4_weatherHere_186 : decode cX4_weatherHere 186 = .ok (.ifCond .le 18, 3) := by decide +kernel
theorem dX4_weatherHere_189 : decode cX4_weatherHere 189 = .ok (.iload 5, 2) := by decide +kernel
theorem dX4_weatherHere_191 : decode cX4_weatherHere 191 = .ok (.ifCond .gt 9, 3) := by decide +kernel
theorem dX4_weatherHere_194 : decode cX4_weatherHere 194 = .ok (.iload_n 3, 1) := by decide +kernel
theorem dX4_weatherHere_195 : decode cX4_weatherHere 195 = .ok (.bipush 6, 2) := by decide +kernel
theorem dX4_weatherHere_197 : decode cX4_weatherHere 197 = .ok (.if_icmp .ne 7, 3) := by decide +kernel
theorem dX4_weatherHere_200 : decode cX4_weatherHere 200 = .ok (.iload_n 1, 1) := by decide +kernel
theorem dX4_weatherHere_201 : decode cX4_weatherHere 201 = .ok (.goto 4, 3) := by decide +kernel
theorem dX4_weatherHere_204 : decode cX4_weatherHere 204 = .ok (.iconst (-1), 1) := by decide +kernel
theorem dX4_weatherHere_205 : decode cX4_weatherHere 205 = .ok (.ireturn, 1) := by decide +kernel
theorem dX4_cloudHere_0 : decode cX4_cloudHere 0 = .ok (.aload_n 0, 1) := by decide +kernel
theorem dX4_cloudHere_1 : decode cX4_cloudHere 1 = .ok (.invokevirtual 65, 3) := by decide +kernel
theorem dX4_cloudHere_4 : decode cX4_cloudHere 4 = .ok (.istore_n 1, 1) := by decide +kernel
theorem dX4_cloudHere_5 : decode cX4_cloudHere 5 = .ok (.sipush 256, 3) := by decide +kernel
theorem dX4_cloudHere_8 : decode cX4_cloudHere 8 = .ok (.aload_n 0, 1) := by decide +kernel
theorem dX4_cloudHere_9 : decode cX4_cloudHere 9 = .ok (.iconst 0, 1) := by decide +kernel
theorem dX4_cloudHere_10 : decode cX4_cloudHere 10 = .ok (.invokevirtual 106, 3) := by decide +kernel
theorem dX4_cloudHere_13 : decode cX4_cloudHere 13 = .ok (.imul, 1) := by decide +kernel
theorem dX4_cloudHere_14 : decode cX4_cloudHere 14 = .ok (.aload_n 0, 1) := by decide +kernel
theorem dX4_cloudHere_15 : decode cX4_cloudHere 15 = .ok (.iconst 2, 1) := by decide +kernel
theorem dX4_cloudHere_16 : decode cX4_cloudHere 16 = .ok (.invokevirtual 69, 3) := by decide +kernel
theorem dX4_cloudHere_19 : decode cX4_cloudHere 19 = .ok (.iadd, 1) := by decide +kernel
theorem dX4_cloudHere_20 : decode cX4_cloudHere 20 = .ok (.istore_n 2, 1) := by decide +kernel
theorem dX4_cloudHere_21 : decode cX4_cloudHere 21 = .ok (.iload_n 2, 1) := by decide +kernel
theorem dX4_cloudHere_22 : decode cX4_cloudHere 22 = .ok (.ldc 115, 2) := by decide +kernel
theorem dX4_cloudHere_24 : decode cX4_cloudHere 24 = .ok (.if_icmp .ne 7, 3) := by decide +kernel
theorem dX4_cloudHere_27 : decode cX4_cloudHere 27 = .ok (.iconst 1, 1) := by decide +kernel
theorem dX4_cloudHere_28 : decode cX4_cloudHere 28 = .ok (.goto 34, 3) := by decide +kernel
theorem dX4_cloudHere_31 : decode cX4_cloudHere 31 = .ok (.iload_n 2, 1) := by decide +kernel
theorem dX4_cloudHere_32 : decode cX4_cloudHere 32 = .ok (.ldc 116, 2) := by decide +kernel
theorem dX4_cloudHere_34 : decode cX4_cloudHere 34 = .ok (.if_icmp .ne 7, 3) := by decide +kernel
theorem dX4_cloudHere_37 : decode cX4_cloudHere 37 = .ok (.iconst 2, 1) := by decide +kernel
theorem dX4_cloudHere_38 : decode cX4_cloudHere 38 = .ok (.goto 24, 3) := by decide +kernel
theorem dX4_cloudHere_41 : decode cX4_cloudHere 41 = .ok (.iload_n 2, 1) := by decide +kernel
theorem dX4_cloudHere_42 : decode cX4_cloudHere 42 = .ok (.ldc 117, 2) := by decide +kernel
theorem dX4_cloudHere_44 : decode cX4_cloudHere 44 = .ok (.if_icmp .ne 7, 3) := by decide +kernel
theorem dX4_cloudHere_47 : decode cX4_cloudHere 47 = .ok (.iconst 3, 1) := by decide +kernel
theorem dX4_cloudHere_48 : decode cX4_cloudHere 48 = .ok (.goto 14, 3) := by decide +kernel
theorem dX4_cloudHere_51 : decode cX4_cloudHere 51 = .ok (.iload_n 2, 1) := by decide +kernel
theorem dX4_cloudHere_52 : decode cX4_cloudHere 52 = .ok (.ldc 118, 2) := by decide +kernel
theorem dX4_cloudHere_54 : decode cX4_cloudHere 54 = .ok (.if_icmp .ne 7, 3) := by decide +kernel
theorem dX4_cloudHere_57 : decode cX4_cloudHere 57 = .ok (.iconst 4, 1) := by decide +kernel
theorem dX4_cloudHere_58 : decode cX4_cloudHere 58 = .ok (.goto 4, 3) := by decide +kernel
theorem dX4_cloudHere_61 : decode cX4_cloudHere 61 = .ok (.iconst 0, 1) := by decide +kernel
theorem dX4_cloudHere_62 : decode cX4_cloudHere 62 = .ok (.istore_n 3, 1) := by decide +kernel
theorem dX4_cloudHere_63 : decode cX4_cloudHere 63 = .ok (.aload_n 0, 1) := by decide +kernel
theorem dX4_cloudHere_64 : decode cX4_cloudHere 64 = .ok (.iconst 3, 1) := by decide +kernel
theorem dX4_cloudHere_65 : decode cX4_cloudHere 65 = .ok (.iconst 3, 1) := by decide +kernel
theorem dX4_cloudHere_66 : decode cX4_cloudHere 66 = .ok (.invokevirtual 76, 3) := by decide +kernel
theorem dX4_cloudHere_69 : decode cX4_cloudHere 69 = .ok (.istore 4, 2) := by decide +kernel
theorem dX4_cloudHere_71 : decode cX4_cloudHere 71 = .ok (.iload_n 1, 1) := by decide +kernel
theorem dX4_cloudHere_72 : decode cX4_cloudHere 72 = .ok (.bipush 8, 2) := by decide +kernel
theorem dX4_cloudHere_74 : decode cX4_cloudHere 74 = .ok (.if_icmp .ne 19, 3) := by decide +kernel
theorem dX4_cloudHere_77 : decode cX4_cloudHere 77 = .ok (.aload_n 0, 1) := by decide +kernel
theorem dX4_cloudHere_78 : decode cX4_cloudHere 78 = .ok (.bipush 6, 2) := by decide +kernel
theorem dX4_cloudHere_80 : decode cX4_cloudHere 80 = .ok (.invokevirtual 106, 3) := by decide +kernel
theorem dX4_cloudHere_83 : decode cX4_cloudHere 83 = .ok (.sipush 17218, 3) := by decide +kernel
theorem dX4_cloudHere_86 : decode cX4_cloudHere 86 = .ok (.if_icmp .ne 7, 3) := by decide +kernel
theorem dX4_cloudHere_89 : decode cX4_cloudHere 89 = .ok (.iconst 1, 1) := by decide +kernel
theorem dX4_cloudHere_90 : decode cX4_cloudHere 90 = .ok (.goto 37, 3) := by decide +kernel
theorem dX4_cloudHere_93 : decode cX4_cloudHere 93 = .ok (.iload_n 1, 1) := by decide +kernel
theorem dX4_cloudHere_94 : decode cX4_cloudHere 94 = .ok (.bipush 9, 2) := by decide +kernel
theorem dX4_cloudHere_96 : decode cX4_cloudHere 96 = .ok (.if_icmp .ne 30, 3) := by decide +kernel
theorem dX4_cloudHere_99 : decode cX4_cloudHere 99 = .ok (.aload_n 0, 1) := by decide +kernel
theorem dX4_cloudHere_100 : decode cX4_cloudHere 100 = .ok (.bipush 6, 2) := by decide +kernel
theorem dX4_cloudHere_102 : decode cX4_cloudHere 102 = .ok (.invokevirtual 69, 3) := by decide +kernel
theorem dX4_cloudHere_105 : decode cX4_cloudHere 105 = .ok (.bipush 84, 2) := by decide +kernel
theorem dX4_cloudHere_107 : decode cX4_cloudHere 107 = .ok (.if_icmp .ne 19, 3) := by decide +kernel
theorem dX4_cloudHere_110 : decode cX4_cloudHere 110 = .ok (.aload_n 0, 1) := by decide +kernel
theorem dX4_cloudHere_111 : decode cX4_cloudHere 111 = .ok (.bipush 7, 2) := by decide +kernel
theorem dX4_cloudHere_113 : decode cX4_cloudHere 113 = .ok (.invokevirtual 106, 3) := by decide +kernel
theorem dX4_cloudHere_116 : decode cX4_cloudHere 116 = .ok (.sipush 17237, 3) := by decide +kernel
theorem dX4_cloudHere_119 : decode cX4_cloudHere 119 = .ok (.if_icmp .ne 7, 3) := by decide +kernel
theorem dX4_cloudHere_122 : decode cX4_cloudHere 122 = .ok (.iconst 2, 1) := by decide +kernel
theorem dX4_cloudHere_123 : decode cX4_cloudHere 123 = .ok (.goto 4, 3) := by decide +kernel
theorem dX4_cloudHere_126 : decode cX4_cloudHere 126 = .ok (.iconst 0, 1) := by decide +kernel
theorem dX4_cloudHere_127 : decode cX4_cloudHere 127 = .ok (.istore 5, 2) := by decide +kernel
theorem dX4_cloudHere_129 : decode cX4_cloudHere 129 = .ok (.iload_n 3, 1) := by decide +kernel
theorem dX4_cloudHere_130 : decode cX4_cloudHere 130 = .ok (.ifCond .le 36, 3) := by decide +kernel
theorem dX4_cloudHere_133 : decode cX4_cloudHere 133 = .ok (.iload 4, 2) := by decide +kernel
theorem dX4_cloudHere_135 : decode cX4_cloudHere 135 = .ok (.ifCond .lt 31, 3) := by decide +kernel
theorem dX4_cloudHere_138 : decode cX4_cloudHere 138 = .ok (.iload_n 1, 1) := by decide +kernel
theorem dX4_cloudHere_139 : decode cX4_cloudHere 139 = .ok (.bipush 6, 2) := by decide +kernel
theorem dX4_cloudHere_141 : decode cX4_cloudHere 141 = .ok (.if_icmp .eq 8, 3) := by decide +kernel
theorem dX4_cloudHere_144 : decode cX4_cloudHere 144 = .ok (.iload 5, 2) := by decide +kernel
theorem dX4_cloudHere_146 : decode cX4_cloudHere 146 = .ok (.ifCond .le 20, 3) := by decide +kernel
theorem dX4_cloudHere_149 : decode cX4_cloudHere 149 = .ok (.iload_n 3, 1) := by decide +kernel
theorem dX4_cloudHere_150 : decode cX4_cloudHere 150 = .ok (.bipush 8, 2) := by decide +kernel
theorem dX4_cloudHere_152 : decode cX4_cloudHere 152 = .ok (.iload 4, 2) := by decide +kernel
theorem dX4_cloudHere_154 : decode cX4_cloudHere 154 = .ok (.imul, 1) := by decide +kernel
theorem dX4_cloudHere_155 : decode cX4_cloudHere 155 = .ok (.iadd, 1) := by decide +kernel
theorem dX4_cloudHere_156 : decode cX4_cloudHere 156 = .ok (.sipush 8192, 3) := by decide +kernel
theorem dX4_cloudHere_159 : decode cX4_cloudHere 159 = .ok (.iload 5, 2) := by decide +kernel
theorem dX4_cloudHere_161 : decode cX4_cloudHere 161 = .ok (.imul, 1) := by decide +kernel
theorem dX4_cloudHere_162 : decode cX4_cloudHere 162 = .ok (.iadd, 1) := by decide +kernel
theorem dX4_cloudHere_163 : decode cX4_cloudHere 163 = .ok (.goto 4, 3) := by decide +kernel
theorem dX4_cloudHere_166 : decode cX4_cloudHere 166 = .ok (.iconst (-1), 1) := by decide +kernel
theorem dX4_cloudHere_167 : decode cX4_cloudHere 167 = .ok (.ireturn, 1) := by decide +kernel
theorem dX4_weatherOf_0 : decode cX4_weatherOf 0 = .ok (.iconst 0, 1) := by decide +kernel
theorem dX4_weatherOf_1 : decode cX4_weatherOf 1 = .ok (.istore_n 2, 1) := by decide +kernel
theorem dX4_weatherOf_2 : decode cX4_weatherOf 2 = .ok (.iload_n 2, 1) := by decide +kernel
theorem dX4_weatherOf_3 : decode cX4_weatherOf 3 = .ok (.iconst 3, 1) := by decide +kernel
theorem dX4_weatherOf_4 : decode cX4_weatherOf 4 = .ok (.if_icmp .ge 40, 3) := by decide +kernel
theorem dX4_weatherOf_7 : decode cX4_weatherOf 7 = .ok (.aload_n 0, 1) := by decide +kernel
theorem dX4_weatherOf_8 : decode cX4_weatherOf 8 = .ok (.invokevirtual 119, 3) := by decide +kernel
theorem dX4_weatherOf_11 : decode cX4_weatherOf 11 = .ok (.ifCond .lt 33, 3) := by decide +kernel
theorem dX4_weatherOf_14 : decode cX4_weatherOf 14 = .ok (.aload_n 0, 1) := by decide +kernel
theorem dX4_weatherOf_15 : decode cX4_weatherOf 15 = .ok (.getfield 25, 3) := by decide +kernel
theorem dX4_weatherOf_18 : decode cX4_weatherOf 18 = .ok (.iconst 3, 1) := by decide +kernel
theorem dX4_weatherOf_19 : decode cX4_weatherOf 19 = .ok (.iload_n 1, 1) := by decide +kernel
theorem dX4_weatherOf_20 : decode cX4_weatherOf 20 = .ok (.imul, 1) := by decide +kernel
theorem dX4_weatherOf_21 : decode cX4_weatherOf 21 = .ok (.iload_n 2, 1) := by decide +kernel
theorem dX4_weatherOf_22 : decode cX4_weatherOf 22 = .ok (.iadd, 1) := by decide +kernel
theorem dX4_weatherOf_23 : decode cX4_weatherOf 23 = .ok (.aload_n 0, 1) := by decide +kernel
theorem dX4_weatherOf_24 : decode cX4_weatherOf 24 = .ok (.invokevirtual 119, 3) := by decide +kernel
theorem dX4_weatherOf_27 : decode cX4_weatherOf 27 = .ok (.iastore, 1) := by decide +kernel
theorem dX4_weatherOf_28 : decode cX4_weatherOf 28 = .ok (.iinc 2 1, 3) := by decide +kernel
theorem dX4_weatherOf_31 : decode cX4_weatherOf 31 = .ok (.aload_n 0, 1) := by decide +kernel
theorem dX4_weatherOf_32 : decode cX4_weatherOf 32 = .ok (.dup, 1) := by decide +kernel
theorem dX4_weatherOf_33 : decode cX4_weatherOf 33 = .ok (.getfield 62, 3) := by decide +kernel
theorem dX4_weatherOf_36 : decode cX4_weatherOf 36 = .ok (.iconst 1, 1) := by decide +kernel
theorem dX4_weatherOf_37 : decode cX4_weatherOf 37 = .ok (.iadd, 1) := by decide +kernel
theorem dX4_weatherOf_38 : decode cX4_weatherOf 38 = .ok (.putfield 62, 3) := by decide +kernel
theorem dX4_weatherOf_41 : decode cX4_weatherOf 41 = .ok (.goto (-39), 3) := by decide +kernel
theorem dX4_weatherOf_44 : decode cX4_weatherOf 44 = .ok (.iload_n 2, 1) := by decide +kernel
theorem dX4_weatherOf_45 : decode cX4_weatherOf 45 = .ok (.ireturn, 1) := by decide +kernel
theorem dX4_cloudsOf_0 : decode cX4_cloudsOf 0 = .ok (.aload_n 0, 1) := by decide +kernel
theorem dX4_cloudsOf_1 : decode cX4_cloudsOf 1 = .ok (.invokevirtual 122, 3) := by decide +kernel
theorem dX4_cloudsOf_4 : decode cX4_cloudsOf 4 = .ok (.ldc2_w 126, 3) := by decide +kernel
theorem dX4_cloudsOf_7 : decode cX4_cloudsOf 7 = .ok (.lcmp, 1) := by decide +kernel
theorem dX4_cloudsOf_8 : decode cX4_cloudsOf 8 = .ok (.ifCond .ne 28, 3) := by decide +kernel
theorem dX4_cloudsOf_11 : decode cX4_cloudsOf 11 = .ok (.aload_n 0, 1) := by decide +kernel
theorem dX4_cloudsOf_12 : decode cX4_cloudsOf 12 = .ok (.getfield 22, 3) := by decide +kernel
theorem dX4_cloudsOf_15 : decode cX4_cloudsOf 15 = .ok (.bipush 10, 2) := by decide +kernel
theorem dX4_cloudsOf_17 : decode cX4_cloudsOf 17 = .ok (.iload_n 1, 1) := by decide +kernel
theorem dX4_cloudsOf_18 : decode cX4_cloudsOf 18 = .ok (.imul, 1) := by decide +kernel
theorem dX4_cloudsOf_19 : decode cX4_cloudsOf 19 = .ok (.bipush 9, 2) := by decide +kernel
theorem dX4_cloudsOf_21 : decode cX4_cloudsOf 21 = .ok (.iadd, 1) := by decide +kernel
theorem dX4_cloudsOf_22 : decode cX4_cloudsOf 22 = .ok (.iconst 0, 1) := by decide +kernel
theorem dX4_cloudsOf_23 : decode cX4_cloudsOf 23 = .ok (.iastore, 1) := by decide +kernel
theorem dX4_cloudsOf_24 : decode cX4_cloudsOf 24 = .ok (.aload_n 0, 1) := by decide +kernel
theorem dX4_cloudsOf_25 : decode cX4_cloudsOf 25 = .ok (.dup, 1) := by decide +kernel
theorem dX4_cloudsOf_26 : decode cX4_cloudsOf 26 = .ok (.getfield 62, 3) := by decide +kernel
theorem dX4_cloudsOf_29 : decode cX4_cloudsOf 29 = .ok (.iconst 1, 1) := by decide +kernel
theorem dX4_cloudsOf_30 : decode cX4_cloudsOf 30 = .ok (.iadd, 1) := by decide +kernel
theorem dX4_cloudsOf_31 : decode cX4_cloudsOf 31 = .ok (.putfield 62, 3) := by decide +kernel
theorem dX4_cloudsOf_34 : decode cX4_cloudsOf 34 = .ok (.iconst 1, 1) := by decide +kernel
theorem dX4_cloudsOf_35 : decode cX4_cloudsOf 35 = .ok (.ireturn, 1) := by decide +kernel
theorem dX4_cloudsOf_36 : decode cX4_cloudsOf 36 = .ok (.aload_n 0, 1) := by decide +kernel
theorem dX4_cloudsOf_37 : decode cX4_cloudsOf 37 = .ok (.invokevirtual 65, 3) := by decide +kernel
theorem dX4_cloudsOf_40 : decode cX4_cloudsOf 40 = .ok (.iconst 5, 1) := by decide +kernel
theorem dX4_cloudsOf_41 : decode cX4_cloudsOf 41 = .ok (.if_icmp .ne 67, 3) := by decide +kernel
theorem dX4_cloudsOf_44 : decode cX4_cloudsOf 44 = .ok (.aload_n 0, 1) := by decide +kernel
theorem dX4_cloudsOf_45 : decode cX4_cloudsOf 45 = .ok (.iconst 0, 1) := by decide +kernel
theorem dX4_cloudsOf_46 : decode cX4_cloudsOf 46 = .ok (.invokevirtual 106, 3) := by decide +kernel
theorem dX4_cloudsOf_49 : decode cX4_cloudsOf 49 = .ok (.sipush 22102, 3) := by decide +kernel
theorem dX4_cloudsOf_52 : decode cX4_cloudsOf 52 = .ok (.if_icmp .ne 56, 3) := by decide +kernel
theorem dX4_cloudsOf_55 : decode cX4_cloudsOf 55 = .ok (.aload_n 0, 1) := by decide +kernel
theorem dX4_cloudsOf_56 : decode cX4_cloudsOf 56 = .ok (.iconst 2, 1) := by decide +kernel
theorem dX4_cloudsOf_57 : decode cX4_cloudsOf 57 = .ok (.iconst 3, 1) := by decide +kernel
theorem dX4_cloudsOf_58 : decode cX4_cloudsOf 58 = .ok (.invokevirtual 76, 3) := by decide +kernel
theorem dX4_cloudsOf_61 : decode cX4_cloudsOf 61 = .ok (.ifCond .lt 47, 3) := by decide +kernel
theorem dX4_cloudsOf_64 : decode cX4_cloudsOf 64 = .ok (.aload_n 0, 1) := by decide +kernel
theorem dX4_cloudsOf_65 : decode cX4_cloudsOf 65 = .ok (.getfield 28, 3) := by decide +kernel
theorem dX4_cloudsOf_68 : decode cX4_cloudsOf 68 = .ok (.iconst 4, 1) := by decide +kernel
theorem dX4_cloudsOf_69 : decode cX4_cloudsOf 69 = .ok (.iload_n 1, 1) := by decide +kernel
theorem dX4_cloudsOf_70 : decode cX4_cloudsOf 70 = .ok (.imul, 1) := by decide +kernel
theorem dX4_cloudsOf_71 : decode cX4_cloudsOf 71 = .ok (.iconst 5, 1) := by decide +kernel
theorem dX4_cloudsOf_72 : decode cX4_cloudsOf 72 = .ok (.bipush 8, 2) := by decide +kernel
theorem dX4_cloudsOf_74 : decode cX4_cloudsOf 74 = .ok (.aload_n 0, 1) := by decide +kernel
theorem dX4_cloudsOf_75 : decode cX4_cloudsOf 75 = .ok (.iconst 2, 1) := by decide +kernel
theorem dX4_cloudsOf_76 : decode cX4_cloudsOf 76 = .ok (.iconst 3, 1) := by decide +kernel
theorem dX4_cloudsOf_77 : decode cX4_cloudsOf 77 = .ok (.invokevirtual 76, 3) := by decide +kernel
theorem dX4_cloudsOf_80 : decode cX4_cloudsOf 80 = .ok (.imul, 1) := by decide +kernel
theorem dX4_cloudsOf_81 : decode cX4_cloudsOf 81 = .ok (.iadd, 1) := by decide +kernel
theorem dX4_cloudsOf_82 : decode cX4_cloudsOf 82 = .ok (.iastore, 1) := by decide +kernel
theorem dX4_cloudsOf_83 : decode cX4_cloudsOf 83 = .ok (.aload_n 0, 1) := by decide +kernel
theorem dX4_cloudsOf_84 : decode cX4_cloudsOf 84 = .ok (.getfield 22, 3) := by decide +kernel
theorem dX4_cloudsOf_87 : decode cX4_cloudsOf 87 = .ok (.bipush 10, 2) := by decide +kernel
theorem dX4_cloudsOf_89 : decode cX4_cloudsOf 89 = .ok (.iload_n 1, 1) := by decide +kernel
theorem dX4_cloudsOf_90 : decode cX4_cloudsOf 90 = .ok (.imul, 1) := by decide +kernel
theorem dX4_cloudsOf_91 : decode cX4_cloudsOf 91 = .ok (.bipush 9, 2) := by decide +kernel
theorem dX4_cloudsOf_93 : decode cX4_cloudsOf 93 = .ok (.iadd, 1) := by decide +kernel
theorem dX4_cloudsOf_94 : decode cX4_cloudsOf 94 = .ok (.iconst 1, 1) := by decide +kernel
theorem dX4_cloudsOf_95 : decode cX4_cloudsOf 95 = .ok (.iastore, 1) := by decide +kernel
theorem dX4_cloudsOf_96 : decode cX4_cloudsOf 96 = .ok (.aload_n 0, 1) := by decide +kernel
theorem dX4_cloudsOf_97 : decode cX4_cloudsOf 97 = .ok (.dup, 1) := by decide +kernel
theorem dX4_cloudsOf_98 : decode cX4_cloudsOf 98 = .ok (.getfield 62, 3) := by decide +kernel
theorem dX4_cloudsOf_101 : decode cX4_cloudsOf 101 = .ok (.iconst 1, 1) := by decide +kernel
theorem dX4_cloudsOf_102 : decode cX4_cloudsOf 102 = .ok (.iadd, 1) := by decide +kernel
theorem dX4_cloudsOf_103 : decode cX4_cloudsOf 103 = .ok (.putfield 62, 3) := by decide +kernel
theorem dX4_cloudsOf_106 : decode cX4_cloudsOf 106 = .ok (.iconst 1, 1) := by decide +kernel
theorem dX4_cloudsOf_107 : decode cX4_cloudsOf 107 = .ok (.ireturn, 1) := by decide +kernel
theorem dX4_cloudsOf_108 : decode cX4_cloudsOf 108 = .ok (.iconst 0, 1) := by decide +kernel
theorem dX4_cloudsOf_109 : decode cX4_cloudsOf 109 = .ok (.istore_n 2, 1) := by decide +kernel
theorem dX4_cloudsOf_110 : decode cX4_cloudsOf 110 = .ok (.iconst 0, 1) := by decide +kernel
theorem dX4_cloudsOf_111 : decode cX4_cloudsOf 111 = .ok (.istore_n 3, 1) := by decide +kernel
theorem dX4_cloudsOf_112 : decode cX4_cloudsOf 112 = .ok (.iload_n 2, 1) := by decide +kernel
theorem dX4_cloudsOf_113 : decode cX4_cloudsOf 113 = .ok (.iconst 4, 1) := by decide +kernel
theorem dX4_cloudsOf_114 : decode cX4_cloudsOf 114 = .ok (.if_icmp .ge 67, 3) := by decide +kernel
theorem dX4_cloudsOf_117 : decode cX4_cloudsOf 117 = .ok (.aload_n 0, 1) := by decide +kernel
theorem dX4_cloudsOf_118 : decode cX4_cloudsOf 118 = .ok (.invokevirtual 128, 3) := by decide +kernel
theorem dX4_cloudsOf_121 : decode cX4_cloudsOf 121 = .ok (.ifCond .lt 60, 3) := by decide +kernel
theorem dX4_cloudsOf_124 : decode cX4_cloudsOf 124 = .ok (.aload_n 0, 1) := by decide +kernel
theorem dX4_cloudsOf_125 : decode cX4_cloudsOf 125 = .ok (.invokevirtual 128, 3) := by decide +kernel
theorem dX4_cloudsOf_128 : decode cX4_cloudsOf 128 = .ok (.sipush 8192, 3) := by decide +kernel
theorem dX4_cloudsOf_131 : decode cX4_cloudsOf 131 = .ok (.irem, 1) := by decide +kernel
theorem dX4_cloudsOf_132 : decode cX4_cloudsOf 132 = .ok (.bipush 8, 2) := by decide +kernel
theorem dX4_cloudsOf_134 : decode cX4_cloudsOf 134 = .ok (.idiv, 1) := by decide +kernel
theorem dX4_cloudsOf_135 : decode cX4_cloudsOf 135 = .ok (.iload_n 3, 1) := by decide +kernel
theorem dX4_cloudsOf_136 : decode cX4_cloudsOf 136 = .ok (.if_icmp .lt 45, 3) := by decide +kernel
theorem dX4_cloudsOf_139 : decode cX4_cloudsOf 139 = .ok (.aload_n 0, 1) := by decide +kernel
theorem dX4_cloudsOf_140 : decode cX4_cloudsOf 140 = .ok (.invokevirtual 128, 3) := by decide +kernel
theorem dX4_cloudsOf_143 : decode cX4_cloudsOf 143 = .ok (.sipush 8192, 3) := by decide +kernel
theorem dX4_cloudsOf_146 : decode cX4_cloudsOf 146 = .ok (.irem, 1) := by decide +kernel
theorem dX4_cloudsOf_147 : decode cX4_cloudsOf 147 = .ok (.bipush 8, 2) := by decide +kernel
theorem dX4_cloudsOf_149 : decode cX4_cloudsOf 149 = .ok (.idiv, 1) := by decide +kernel
theorem dX4_cloudsOf_150 : decode cX4_cloudsOf 150 = .ok (.istore_n 3, 1) := by decide +kernel
theorem dX4_cloudsOf_151 : decode cX4_cloudsOf 151 = .ok (.aload_n 0, 1) := by decide +kernel
theorem dX4_cloudsOf_152 : decode cX4_cloudsOf 152 = .ok (.getfield 28, 3) := by decide +kernel
theorem dX4_cloudsOf_155 : decode cX4_cloudsOf 155 = .ok (.iconst 4, 1) := by decide +kernel
theorem dX4_cloudsOf_156 : decode cX4_cloudsOf 156 = .ok (.iload_n 1, 1) := by decide +kernel
theorem dX4_cloudsOf_157 : decode cX4_cloudsOf 157 = .ok (.imul, 1) := by decide +kernel
theorem dX4_cloudsOf_158 : decode cX4_cloudsOf 158 = .ok (.iload_n 2, 1) := by decide +kernel
theorem dX4_cloudsOf_159 : decode cX4_cloudsOf 159 = .ok (.iadd, 1) := by decide +kernel
theorem dX4_cloudsOf_160 : decode cX4_cloudsOf 160 = .ok (.aload_n 0, 1) := by decide +kernel
theorem dX4_cloudsOf_161 : decode cX4_cloudsOf 161 = .ok (.invokevirtual 128, 3) := by decide +kernel
theorem dX4_cloudsOf_164 : decode cX4_cloudsOf 164 = .ok (.iastore, 1) := by decide +kernel
theorem dX4_cloudsOf_165 : decode cX4_cloudsOf 165 = .ok (.iinc 2 1, 3) := by decide +kernel
theorem dX4_cloudsOf_168 : decode cX4_cloudsOf 168 = .ok (.aload_n 0, 1) := by decide +kernel
theorem dX4_cloudsOf_169 : decode cX4_cloudsOf 169 = .ok (.dup, 1) := by decide +kernel
theorem dX4_cloudsOf_170 : decode cX4_cloudsOf 170 = .ok (.getfield 62, 3) := by decide +kernel
theorem dX4_cloudsOf_173 : decode cX4_cloudsOf 173 = .ok (.iconst 1, 1) := by decide +kernel
theorem dX4_cloudsOf_174 : decode cX4_cloudsOf 174 = .ok (.iadd, 1) := by decide +kernel
theorem dX4_cloudsOf_175 : decode cX4_cloudsOf 175 = .ok (.putfield 62, 3) := by decide +kernel
theorem dX4_cloudsOf_178 : decode cX4_cloudsOf 178 = .ok (.goto (-66), 3) := by decide +kernel
theorem dX4_cloudsOf_181 : decode cX4_cloudsOf 181 = .ok (.aload_n 0, 1) := by decide +kernel
theorem dX4_cloudsOf_182 : decode cX4_cloudsOf 182 = .ok (.getfield 22, 3) := by decide +kernel
theorem dX4_cloudsOf_185 : decode cX4_cloudsOf 185 = .ok (.bipush 10, 2) := by decide +kernel
theorem dX4_cloudsOf_187 : decode cX4_cloudsOf 187 = .ok (.iload_n 1, 1) := by decide +kernel
theorem dX4_cloudsOf_188 : decode cX4_cloudsOf 188 = .ok (.imul, 1) := by decide +kernel
theorem dX4_cloudsOf_189 : decode cX4_cloudsOf 189 = .ok (.bipush 9, 2) := by decide +kernel
theorem dX4_cloudsOf_191 : decode cX4_cloudsOf 191 = .ok (.iadd, 1) := by decide +kernel
theorem dX4_cloudsOf_192 : decode cX4_cloudsOf 192 = .ok (.iload_n 2, 1) := by decide +kernel
theorem dX4_cloudsOf_193 : decode cX4_cloudsOf 193 = .ok (.ifCond .le 7, 3) := by decide +kernel
theorem dX4_cloudsOf_196 : decode cX4_cloudsOf 196 = .ok (.iload_n 2, 1) := by decide +kernel
theorem dX4_cloudsOf_197 : decode cX4_cloudsOf 197 = .ok (.goto 4, 3) := by decide +kernel
theorem dX4_cloudsOf_200 : decode cX4_cloudsOf 200 = .ok (.iconst (-1), 1) := by decide +kernel
theorem dX4_cloudsOf_201 : decode cX4_cloudsOf 201 = .ok (.iastore, 1) := by decide +kernel
theorem dX4_cloudsOf_202 : decode cX4_cloudsOf 202 = .ok (.iload_n 2, 1) := by decide +kernel
theorem dX4_cloudsOf_203 : decode cX4_cloudsOf 203 = .ok (.ifCond .le 7, 3) := by decide +kernel
theorem dX4_cloudsOf_206 : decode cX4_cloudsOf 206 = .ok (.iconst 1, 1) := by decide +kernel
theorem dX4_cloudsOf_207 : decode cX4_cloudsOf 207 = .ok (.goto 4, 3) := by decide +kernel
theorem dX4_cloudsOf_210 : decode cX4_cloudsOf 210 = .ok (.iconst 0, 1) := by decide +kernel
theorem dX4_cloudsOf_211 : decode cX4_cloudsOf 211 = .ok (.ireturn, 1) := by decide +kernel
theorem dX4_clear_0 : decode cX4_clear 0 = .ok (.aload_n 0, 1) := by decide +kernel
theorem dX4_clear_1 : decode cX4_clear 1 = .ok (.invokevirtual 122, 3) := by decide +kernel
theorem dX4_clear_4 : decode cX4_clear 4 = .ok (.ldc2_w 131, 3) := by decide +kernel
theorem dX4_clear_7 : decode cX4_clear 7 = .ok (.lcmp, 1) := by decide +kernel
theorem dX4_clear_8 : decode cX4_clear 8 = .ok (.ifCond .eq 5, 3) := by decide +kernel
theorem dX4_clear_11 : decode cX4_clear 11 = .ok (.iconst 0, 1) := by decide +kernel
theorem dX4_clear_12 : decode cX4_clear 12 = .ok (.ireturn, 1) := by decide +kernel
theorem dX4_clear_13 : decode cX4_clear 13 = .ok (.aload_n 0, 1) := by decide +kernel
theorem dX4_clear_14 : decode cX4_clear 14 = .ok (.getfield 22, 3) := by decide +kernel
theorem dX4_clear_17 : decode cX4_clear 17 = .ok (.bipush 10, 2) := by decide +kernel
theorem dX4_clear_19 : decode cX4_clear 19 = .ok (.iload_n 1, 1) := by decide +kernel
theorem dX4_clear_20 : decode cX4_clear 20 = .ok (.imul, 1) := by decide +kernel
theorem dX4_clear_21 : decode cX4_clear 21 = .ok (.bipush 7, 2) := by decide +kernel
theorem dX4_clear_23 : decode cX4_clear 23 = .ok (.iadd, 1) := by decide +kernel
theorem dX4_clear_24 : decode cX4_clear 24 = .ok (.sipush 10000, 3) := by decide +kernel
theorem dX4_clear_27 : decode cX4_clear 27 = .ok (.iastore, 1) := by decide +kernel
theorem dX4_clear_28 : decode cX4_clear 28 = .ok (.aload_n 0, 1) := by decide +kernel
theorem dX4_clear_29 : decode cX4_clear 29 = .ok (.getfield 22, 3) := by decide +kernel
theorem dX4_clear_32 : decode cX4_clear 32 = .ok (.bipush 10, 2) := by decide +kernel
theorem dX4_clear_34 : decode cX4_clear 34 = .ok (.iload_n 1, 1) := by decide +kernel
theorem dX4_clear_35 : decode cX4_clear 35 = .ok (.imul, 1) := by decide +kernel
theorem dX4_clear_36 : decode cX4_clear 36 = .ok (.bipush 8, 2) := by decide +kernel
theorem dX4_clear_38 : decode cX4_clear 38 = .ok (.iadd, 1) := by decide +kernel
theorem dX4_clear_39 : decode cX4_clear 39 = .ok (.iconst 0, 1) := by decide +kernel
theorem dX4_clear_40 : decode cX4_clear 40 = .ok (.iastore, 1) := by decide +kernel
theorem dX4_clear_41 : decode cX4_clear 41 = .ok (.aload_n 0, 1) := by decide +kernel
theorem dX4_clear_42 : decode cX4_clear 42 = .ok (.getfield 22, 3) := by decide +kernel
theorem dX4_clear_45 : decode cX4_clear 45 = .ok (.bipush 10, 2) := by decide +kernel
theorem dX4_clear_47 : decode cX4_clear 47 = .ok (.iload_n 1, 1) := by decide +kernel
theorem dX4_clear_48 : decode cX4_clear 48 = .ok (.imul, 1) := by decide +kernel
theorem dX4_clear_49 : decode cX4_clear 49 = .ok (.bipush 9, 2) := by decide +kernel
theorem dX4_clear_51 : decode cX4_clear 51 = .ok (.iadd, 1) := by decide +kernel
theorem dX4_clear_52 : decode cX4_clear 52 = .ok (.iconst 0, 1) := by decide +kernel
theorem dX4_clear_53 : decode cX4_clear 53 = .ok (.iastore, 1) := by decide +kernel
theorem dX4_clear_54 : decode cX4_clear 54 = .ok (.aload_n 0, 1) := by decide +kernel
theorem dX4_clear_55 : decode cX4_clear 55 = .ok (.dup, 1) := by decide +kernel
theorem dX4_clear_56 : decode cX4_clear 56 = .ok (.getfield 62, 3) := by decide +kernel
theorem dX4_clear_59 : decode cX4_clear 59 = .ok (.iconst 1, 1) := by decide +kernel
theorem dX4_clear_60 : decode cX4_clear 60 = .ok (.iadd, 1) := by decide +kernel
theorem dX4_clear_61 : decode cX4_clear 61 = .ok (.putfield 62, 3) := by decide +kernel
theorem dX4_clear_64 : decode cX4_clear 64 = .ok (.iconst 1, 1) := by decide +kernel
theorem dX4_clear_65 : decode cX4_clear 65 = .ok (.ireturn, 1) := by decide +kernel
theorem dX4_sky_0 : decode cX4_sky 0 = .ok (.aload_n 0, 1) := by decide +kernel
theorem dX4_sky_1 : decode cX4_sky 1 = .ok (.iload_n 1, 1) := by decide +kernel
theorem dX4_sky_2 : decode cX4_sky 2 = .ok (.invokevirtual 133, 3) := by decide +kernel
theorem dX4_sky_5 : decode cX4_sky 5 = .ok (.ifCond .eq 5, 3) := by decide +kernel
theorem dX4_sky_8 : decode cX4_sky 8 = .ok (.iconst 1, 1) := by decide +kernel
theorem dX4_sky_9 : decode cX4_sky 9 = .ok (.ireturn, 1) := by decide +kernel
theorem dX4_sky_10 : decode cX4_sky 10 = .ok (.aload_n 0, 1) := by decide +kernel
theorem dX4_sky_11 : decode cX4_sky 11 = .ok (.iload_n 1, 1) := by decide +kernel
theorem dX4_sky_12 : decode cX4_sky 12 = .ok (.invokevirtual 136, 3) := by decide +kernel
theorem dX4_sky_15 : decode cX4_sky 15 = .ok (.ifCond .ne 5, 3) := by decide +kernel
theorem dX4_sky_18 : decode cX4_sky 18 = .ok (.iconst 0, 1) := by decide +kernel
theorem dX4_sky_19 : decode cX4_sky 19 = .ok (.ireturn, 1) := by decide +kernel
theorem dX4_sky_20 : decode cX4_sky 20 = .ok (.aload_n 0, 1) := by decide +kernel
theorem dX4_sky_21 : decode cX4_sky 21 = .ok (.getfield 22, 3) := by decide +kernel
theorem dX4_sky_24 : decode cX4_sky 24 = .ok (.bipush 10, 2) := by decide +kernel
theorem dX4_sky_26 : decode cX4_sky 26 = .ok (.iload_n 1, 1) := by decide +kernel
theorem dX4_sky_27 : decode cX4_sky 27 = .ok (.imul, 1) := by decide +kernel
theorem dX4_sky_28 : decode cX4_sky 28 = .ok (.bipush 8, 2) := by decide +kernel
theorem dX4_sky_30 : decode cX4_sky 30 = .ok (.iadd, 1) := by decide +kernel
theorem dX4_sky_31 : decode cX4_sky 31 = .ok (.aload_n 0, 1) := by decide +kernel
theorem dX4_sky_32 : decode cX4_sky 32 = .ok (.iload_n 1, 1) := by decide +kernel
theorem dX4_sky_33 : decode cX4_sky 33 = .ok (.invokevirtual 139, 3) := by decide +kernel
theorem dX4_sky_36 : decode cX4_sky 36 = .ok (.iastore, 1) := by decide +kernel
theorem dX4_sky_37 : decode cX4_sky 37 = .ok (.aload_n 0, 1) := by decide +kernel
theorem dX4_sky_38 : decode cX4_sky 38 = .ok (.iload_n 1, 1) := by decide +kernel
theorem dX4_sky_39 : decode cX4_sky 39 = .ok (.invokevirtual 142, 3) := by decide +kernel
theorem dX4_sky_42 : decode cX4_sky 42 = .ok (.ireturn, 1) := by decide +kernel
theorem dX4_parts_0 : decode cX4_parts 0 = .ok (.aload_n 0, 1) := by decide +kernel
theorem dX4_parts_1 : decode cX4_parts 1 = .ok (.iload_n 1, 1) := by decide +kernel
theorem dX4_parts_2 : decode cX4_parts 2 = .ok (.invokevirtual 145, 3) := by decide +kernel
theorem dX4_parts_5 : decode cX4_parts 5 = .ok (.istore_n 2, 1) := by decide +kernel
theorem dX4_parts_6 : decode cX4_parts 6 = .ok (.aload_n 0, 1) := by decide +kernel
theorem dX4_parts_7 : decode cX4_parts 7 = .ok (.iload_n 1, 1) := by decide +kernel
theorem dX4_parts_8 : decode cX4_parts 8 = .ok (.invokevirtual 133, 3) := by decide +kernel
theorem dX4_parts_11 : decode cX4_parts 11 = .ok (.ifCond .eq 5, 3) := by decide +kernel
theorem dX4_parts_14 : decode cX4_parts 14 = .ok (.iconst 1, 1) := by decide +kernel
theorem dX4_parts_15 : decode cX4_parts 15 = .ok (.ireturn, 1) := by decide +kernel
theorem dX4_parts_16 : decode cX4_parts 16 = .ok (.aload_n 0, 1) := by decide +kernel
theorem dX4_parts_17 : decode cX4_parts 17 = .ok (.iload_n 1, 1) := by decide +kernel
theorem dX4_parts_18 : decode cX4_parts 18 = .ok (.invokevirtual 136, 3) := by decide +kernel
theorem dX4_parts_21 : decode cX4_parts 21 = .ok (.ifCond .ne 7, 3) := by decide +kernel
theorem dX4_parts_24 : decode cX4_parts 24 = .ok (.iload_n 2, 1) := by decide +kernel
theorem dX4_parts_25 : decode cX4_parts 25 = .ok (.ifCond .eq 7, 3) := by decide +kernel
theorem dX4_parts_28 : decode cX4_parts 28 = .ok (.iconst 1, 1) := by decide +kernel
theorem dX4_parts_29 : decode cX4_parts 29 = .ok (.goto 4, 3) := by decide +kernel
theorem dX4_parts_32 : decode cX4_parts 32 = .ok (.iconst 0, 1) := by decide +kernel
theorem dX4_parts_33 : decode cX4_parts 33 = .ok (.istore_n 2, 1) := by decide +kernel
theorem dX4_parts_34 : decode cX4_parts 34 = .ok (.aload_n 0, 1) := by decide +kernel
theorem dX4_parts_35 : decode cX4_parts 35 = .ok (.invokevirtual 122, 3) := by decide +kernel
theorem dX4_parts_38 : decode cX4_parts 38 = .ok (.ldc2_w 148, 3) := by decide +kernel
theorem dX4_parts_41 : decode cX4_parts 41 = .ok (.lcmp, 1) := by decide +kernel
theorem dX4_parts_42 : decode cX4_parts 42 = .ok (.ifCond .ne 31, 3) := by decide +kernel
theorem dX4_parts_45 : decode cX4_parts 45 = .ok (.aload_n 0, 1) := by decide +kernel
theorem dX4_parts_46 : decode cX4_parts 46 = .ok (.getfield 22, 3) := by decide +kernel
theorem dX4_parts_49 : decode cX4_parts 49 = .ok (.bipush 10, 2) := by decide +kernel
theorem dX4_parts_51 : decode cX4_parts 51 = .ok (.iload_n 1, 1) := by decide +kernel
theorem dX4_parts_52 : decode cX4_parts 52 = .ok (.imul, 1) := by decide +kernel
theorem dX4_parts_53 : decode cX4_parts 53 = .ok (.bipush 8, 2) := by decide +kernel
theorem dX4_parts_55 : decode cX4_parts 55 = .ok (.iadd, 1) := by decide +kernel
theorem dX4_parts_56 : decode cX4_parts 56 = .ok (.iconst 0, 1) := by decide +kernel
theorem dX4_parts_57 : decode cX4_parts 57 = .ok (.iastore, 1) := by decide +kernel
theorem dX4_parts_58 : decode cX4_parts 58 = .ok (.iconst 1, 1) := by decide +kernel
theorem dX4_parts_59 : decode cX4_parts 59 = .ok (.istore_n 2, 1) := by decide +kernel
theorem dX4_parts_60 : decode cX4_parts 60 = .ok (.aload_n 0, 1) := by decide +kernel
theorem dX4_parts_61 : decode cX4_parts 61 = .ok (.dup, 1) := by decide +kernel
theorem dX4_parts_62 : decode cX4_parts 62 = .ok (.getfield 62, 3) := by decide +kernel
theorem dX4_parts_65 : decode cX4_parts 65 = .ok (.iconst 1, 1) := by decide +kernel
theorem dX4_parts_66 : decode cX4_parts 66 = .ok (.iadd, 1) := by decide +kernel
theorem dX4_parts_67 : decode cX4_parts 67 = .ok (.putfield 62, 3) := by decide +kernel
theorem dX4_parts_70 : decode cX4_parts 70 = .ok (.goto 44, 3) := by decide +kernel
theorem dX4_parts_73 : decode cX4_parts 73 = .ok (.aload_n 0, 1) := by decide +kernel
theorem dX4_parts_74 : decode cX4_parts 74 = .ok (.iload_n 1, 1) := by decide +kernel
theorem dX4_parts_75 : decode cX4_parts 75 = .ok (.invokevirtual 139, 3) := by decide +kernel
theorem dX4_parts_78 : decode cX4_parts 78 = .ok (.istore_n 3, 1) := by decide +kernel
theorem dX4_parts_79 : decode cX4_parts 79 = .ok (.aload_n 0, 1) := by decide +kernel
theorem dX4_parts_80 : decode cX4_parts 80 = .ok (.getfield 22, 3) := by decide +kernel
theorem dX4_parts_83 : decode cX4_parts 83 = .ok (.bipush 10, 2) := by decide +kernel
theorem dX4_parts_85 : decode cX4_parts 85 = .ok (.iload_n 1, 1) := by decide +kernel
theorem dX4_parts_86 : decode cX4_parts 86 = .ok (.imul, 1) := by decide +kernel
theorem dX4_parts_87 : decode cX4_parts 87 = .ok (.bipush 8, 2) := by decide +kernel
theorem dX4_parts_89 : decode cX4_parts 89 = .ok (.iadd, 1) := by decide +kernel
theorem dX4_parts_90 : decode cX4_parts 90 = .ok (.iload_n 3, 1) := by decide +kernel
theorem dX4_parts_91 : decode cX4_parts 91 = .ok (.ifCond .le 7, 3) := by decide +kernel
theorem dX4_parts_94 : decode cX4_parts 94 = .ok (.iload_n 3, 1) := by decide +kernel
theorem dX4_parts_95 : decode cX4_parts 95 = .ok (.goto 4, 3) := by decide +kernel
theorem dX4_parts_98 : decode cX4_parts 98 = .ok (.iconst (-1), 1) := by decide +kernel
theorem dX4_parts_99 : decode cX4_parts 99 = .ok (.iastore, 1) := by decide +kernel
theorem dX4_parts_100 : decode cX4_parts 100 = .ok (.iload_n 2, 1) := by decide +kernel
theorem dX4_parts_101 : decode cX4_parts 101 = .ok (.ifCond .ne 7, 3) := by decide +kernel
theorem dX4_parts_104 : decode cX4_parts 104 = .ok (.iload_n 3, 1) := by decide +kernel
theorem dX4_parts_105 : decode cX4_parts 105 = .ok (.ifCond .le 7, 3) := by decide +kernel
theorem dX4_parts_108 : decode cX4_parts 108 = .ok (.iconst 1, 1) := by decide +kernel
theorem dX4_parts_109 : decode cX4_parts 109 = .ok (.goto 4, 3) := by decide +kernel
theorem dX4_parts_112 : decode cX4_parts 112 = .ok (.iconst 0, 1) := by decide +kernel
theorem dX4_parts_113 : decode cX4_parts 113 = .ok (.istore_n 2, 1) := by decide +kernel
theorem dX4_parts_114 : decode cX4_parts 114 = .ok (.aload_n 0, 1) := by decide +kernel
theorem dX4_parts_115 : decode cX4_parts 115 = .ok (.iload_n 1, 1) := by decide +kernel
theorem dX4_parts_116 : decode cX4_parts 116 = .ok (.invokevirtual 142, 3) := by decide +kernel
theorem dX4_parts_119 : decode cX4_parts 119 = .ok (.ifCond .ne 7, 3) := by decide +kernel
theorem dX4_parts_122 : decode cX4_parts 122 = .ok (.iload_n 2, 1) := by decide +kernel
theorem dX4_parts_123 : decode cX4_parts 123 = .ok (.ifCond .eq 7, 3) := by decide +kernel
theorem dX4_parts_126 : decode cX4_parts 126 = .ok (.iconst 1, 1) := by decide +kernel
theorem dX4_parts_127 : decode cX4_parts 127 = .ok (.goto 4, 3) := by decide +kernel
theorem dX4_parts_130 : decode cX4_parts 130 = .ok (.iconst 0, 1) := by decide +kernel
theorem dX4_parts_131 : decode cX4_parts 131 = .ok (.ireturn, 1) := by decide +kernel
theorem dX4_isPeriod_0 : decode cX4_isPeriod 0 = .ok (.aload_n 0, 1) := by decide +kernel
theorem dX4_isPeriod_1 : decode cX4_isPeriod 1 = .ok (.invokevirtual 65, 3) := by decide +kernel
theorem dX4_isPeriod_4 : decode cX4_isPeriod 4 = .ok (.bipush 9, 2) := by decide +kernel
theorem dX4_isPeriod_6 : decode cX4_isPeriod 6 = .ok (.if_icmp .ne 74, 3) := by decide +kernel
theorem dX4_isPeriod_9 : decode cX4_isPeriod 9 = .ok (.aload_n 0, 1) := by decide +kernel
theorem dX4_isPeriod_10 : decode cX4_isPeriod 10 = .ok (.iconst 4, 1) := by decide +kernel
theorem dX4_isPeriod_11 : decode cX4_isPeriod 11 = .ok (.invokevirtual 69, 3) := by decide +kernel
theorem dX4_isPeriod_14 : decode cX4_isPeriod 14 = .ok (.bipush 47, 2) := by decide +kernel
theorem dX4_isPeriod_16 : decode cX4_isPeriod 16 = .ok (.if_icmp .ne 64, 3) := by decide +kernel
theorem dX4_isPeriod_19 : decode cX4_isPeriod 19 = .ok (.aload_n 0, 1) := by decide +kernel
theorem dX4_isPeriod_20 : decode cX4_isPeriod 20 = .ok (.aload_n 0, 1) := by decide +kernel
theorem dX4_isPeriod_21 : decode cX4_isPeriod 21 = .ok (.iconst 0, 1) := by decide +kernel
theorem dX4_isPeriod_22 : decode cX4_isPeriod 22 = .ok (.iconst 2, 1) := by decide +kernel
theorem dX4_isPeriod_23 : decode cX4_isPeriod 23 = .ok (.invokevirtual 76, 3) := by decide +kernel
theorem dX4_isPeriod_26 : decode cX4_isPeriod 26 = .ok (.invokevirtual 83, 3) := by decide +kernel
theorem dX4_isPeriod_29 : decode cX4_isPeriod 29 = .ok (.ifCond .eq 51, 3) := by decide +kernel
theorem dX4_isPeriod_32 : decode cX4_isPeriod 32 = .ok (.aload_n 0, 1) := by decide +kernel
theorem dX4_isPeriod_33 : decode cX4_isPeriod 33 = .ok (.aload_n 0, 1) := by decide +kernel
theorem dX4_isPeriod_34 : decode cX4_isPeriod 34 = .ok (.iconst 2, 1) := by decide +kernel
theorem dX4_isPeriod_35 : decode cX4_isPeriod 35 = .ok (.iconst 2, 1) := by decide +kernel
theorem dX4_isPeriod_36 : decode cX4_isPeriod 36 = .ok (.invokevirtual 76, 3) := by decide +kernel
theorem dX4_isPeriod_39 : decode cX4_isPeriod 39 = .ok (.bipush 23, 2) := by decide +kernel
theorem dX4_isPeriod_41 : decode cX4_isPeriod 41 = .ok (.invokevirtual 87, 3) := by decide +kernel
theorem dX4_isPeriod_44 : decode cX4_isPeriod 44 = .ok (.ifCond .eq 36, 3) := by decide +kernel
theorem dX4_isPeriod_47 : decode cX4_isPeriod 47 = .ok (.aload_n 0, 1) := by decide +kernel
theorem dX4_isPeriod_48 : decode cX4_isPeriod 48 = .ok (.aload_n 0, 1) := by decide +kernel
theorem dX4_isPeriod_49 : decode cX4_isPeriod 49 = .ok (.iconst 5, 1) := by decide +kernel
theorem dX4_isPeriod_50 : decode cX4_isPeriod 50 = .ok (.iconst 2, 1) := by decide +kernel
theorem dX4_isPeriod_51 : decode cX4_isPeriod 51 = .ok (.invokevirtual 76, 3) := by decide +kernel
theorem dX4_isPeriod_54 : decode cX4_isPeriod 54 = .ok (.invokevirtual 83, 3) := by decide +kernel
theorem dX4_isPeriod_57 : decode cX4_isPeriod 57 = .ok (.ifCond .eq 23, 3) := by decide +kernel
theorem dX4_isPeriod_60 : decode cX4_isPeriod 60 = .ok (.aload_n 0, 1) := by decide +kernel
theorem dX4_isPeriod_61 : decode cX4_isPeriod 61 = .ok (.aload_n 0, 1) := by decide +kernel
theorem dX4_isPeriod_62 : decode cX4_isPeriod 62 = .ok (.bipush 7, 2) := by decide +kernel
theorem dX4_isPeriod_64 : decode cX4_isPeriod 64 = .ok (.iconst 2, 1) := by decide +kernel
theorem dX4_isPeriod_65 : decode cX4_isPeriod 65 = .ok (.invokevirtual 76, 3) := by decide +kernel
theorem dX4_isPeriod_68 : decode cX4_isPeriod 68 = .ok (.bipush 24, 2) := by decide +kernel
theorem dX4_isPeriod_70 : decode cX4_isPeriod 70 = .ok (.invokevirtual 87, 3) := by decide +kernel
theorem dX4_isPeriod_73 : decode cX4_isPeriod 73 = .ok (.ifCond .eq 7, 3) := by decide +kernel
theorem dX4_isPeriod_76 : decode cX4_isPeriod 76 = .ok (.iconst 1, 1) := by decide +kernel
theorem dX4_isPeriod_77 : decode cX4_isPeriod 77 = .ok (.goto 4, 3) := by decide +kernel
theorem dX4_isPeriod_80 : decode cX4_isPeriod 80 = .ok (.iconst 0, 1) := by decide +kernel
theorem dX4_isPeriod_81 : decode cX4_isPeriod 81 = .ok (.ireturn, 1) := by decide +kernel
theorem dX4_period_0 : decode cX4_period 0 = .ok (.aload_n 0, 1) := by decide +kernel
theorem dX4_period_1 : decode cX4_period 1 = .ok (.invokevirtual 150, 3) := by decide +kernel
theorem dX4_period_4 : decode cX4_period 4 = .ok (.ifCond .ne 5, 3) := by decide +kernel
theorem dX4_period_7 : decode cX4_period 7 = .ok (.iconst 0, 1) := by decide +kernel
theorem dX4_period_8 : decode cX4_period 8 = .ok (.ireturn, 1) := by decide +kernel
theorem dX4_period_9 : decode cX4_period 9 = .ok (.sipush 1440, 3) := by decide +kernel
theorem dX4_period_12 : decode cX4_period 12 = .ok (.aload_n 0, 1) := by decide +kernel
theorem dX4_period_13 : decode cX4_period 13 = .ok (.iconst 0, 1) := by decide +kernel
theorem dX4_period_14 : decode cX4_period 14 = .ok (.iconst 2, 1) := by decide +kernel
theorem dX4_period_15 : decode cX4_period 15 = .ok (.invokevirtual 76, 3) := by decide +kernel
theorem dX4_period_18 : decode cX4_period 18 = .ok (.iconst 1, 1) := by decide +kernel
theorem dX4_period_19 : decode cX4_period 19 = .ok (.isub, 1) := by decide +kernel
theorem dX4_period_20 : decode cX4_period 20 = .ok (.imul, 1) := by decide +kernel
theorem dX4_period_21 : decode cX4_period 21 = .ok (.bipush 60, 2) := by decide +kernel
