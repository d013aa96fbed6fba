theorem dX0_init_0 : decode cX0_init 0 = .ok (.aload_n 0, 1) := by decide +kernel
theorem dX0_init_1 : decode cX0_init 1 = .ok (.invokespecial 3, 3) := by decide +kernel
theorem dX0_init_4 : decode cX0_init 4 = .ok (.aload_n 0, 1) := by decide +kernel
theorem dX0_init_5 : decode cX0_init 5 = .ok (.iconst 4, 1) := by decide +kernel
theorem dX0_init_6 : decode cX0_init 6 = .ok (.newarray .int, 2) := by decide +kernel
theorem dX0_init_8 : decode cX0_init 8 = .ok (.putfield 9, 3) := by decide +kernel
theorem dX0_init_11 : decode cX0_init 11 = .ok (.aload_n 0, 1) := by decide +kernel
theorem dX0_init_12 : decode cX0_init 12 = .ok (.bipush 9, 2) := by decide +kernel
theorem dX0_init_14 : decode cX0_init 14 = .ok (.anewarray 15, 3) := by decide +kernel
theorem dX0_init_17 : decode cX0_init 17 = .ok (.putfield 17, 3) := by decide +kernel
theorem dX0_init_20 : decode cX0_init 20 = .ok (.aload_n 0, 1) := by decide +kernel
theorem dX0_init_21 : decode cX0_init 21 = .ok (.sipush 700, 3) := by decide +kernel
theorem dX0_init_24 : decode cX0_init 24 = .ok (.newarray .char, 2) := by decide +kernel
theorem dX0_init_26 : decode cX0_init 26 = .ok (.putfield 21, 3) := by decide +kernel
theorem dX0_init_29 : decode cX0_init 29 = .ok (.iconst 0, 1) := by decide +kernel
theorem dX0_init_30 : decode cX0_init 30 = .ok (.istore_n 1, 1) := by decide +kernel
theorem dX0_init_31 : decode cX0_init 31 = .ok (.iload_n 1, 1) := by decide +kernel
theorem dX0_init_32 : decode cX0_init 32 = .ok (.bipush 9, 2) := by decide +kernel
theorem dX0_init_34 : decode cX0_init 34 = .ok (.if_icmp .ge 22, 3) := by decide +kernel
theorem dX0_init_37 : decode cX0_init 37 = .ok (.aload_n 0, 1) := by decide +kernel
theorem dX0_init_38 : decode cX0_init 38 = .ok (.getfield 17, 3) := by decide +kernel
theorem dX0_init_41 : decode cX0_init 41 = .ok (.iload_n 1, 1) := by decide +kernel
theorem dX0_init_42 : decode cX0_init 42 = .ok (.new 15, 3) := by decide +kernel
theorem dX0_init_45 : decode cX0_init 45 = .ok (.dup, 1) := by decide +kernel
theorem dX0_init_46 : decode cX0_init 46 = .ok (.invokespecial 25, 3) := by decide +kernel
theorem dX0_init_49 : decode cX0_init 49 = .ok (.aastore, 1) := by decide +kernel
theorem dX0_init_50 : decode cX0_init 50 = .ok (.iinc 1 1, 3) := by decide +kernel
theorem dX0_init_53 : decode cX0_init 53 = .ok (.goto (-22), 3) := by decide +kernel
theorem dX0_init_56 : decode cX0_init 56 = .ok (.return_, 1) := by decide +kernel
theorem dX0_start_0 : decode cX0_start 0 = .ok (.aload_n 0, 1) := by decide +kernel
theorem dX0_start_1 : decode cX0_start 1 = .ok (.iconst 0, 1) := by decide +kernel
theorem dX0_start_2 : decode cX0_start 2 = .ok (.putfield 26, 3) := by decide +kernel
theorem dX0_start_5 : decode cX0_start 5 = .ok (.aload_n 0, 1) := by decide +kernel
theorem dX0_start_6 : decode cX0_start 6 = .ok (.iload_n 1, 1) := by decide +kernel
theorem dX0_start_7 : decode cX0_start 7 = .ok (.putfield 30, 3) := by decide +kernel
theorem dX0_start_10 : decode cX0_start 10 = .ok (.aload_n 0, 1) := by decide +kernel
theorem dX0_start_11 : decode cX0_start 11 = .ok (.iconst (-1), 1) := by decide +kernel
theorem dX0_start_12 : decode cX0_start 12 = .ok (.putfield 33, 3) := by decide +kernel
theorem dX0_start_15 : decode cX0_start 15 = .ok (.aload_n 0, 1) := by decide +kernel
theorem dX0_start_16 : decode cX0_start 16 = .ok (.sipush (-1001), 3) := by decide +kernel
theorem dX0_start_19 : decode cX0_start 19 = .ok (.putfield 36, 3) := by decide +kernel
theorem dX0_start_22 : decode cX0_start 22 = .ok (.aload_n 0, 1) := by decide +kernel
theorem dX0_start_23 : decode cX0_start 23 = .ok (.sipush (-1001), 3) := by decide +kernel
theorem dX0_start_26 : decode cX0_start 26 = .ok (.putfield 39, 3) := by decide +kernel
theorem dX0_start_29 : decode cX0_start 29 = .ok (.aload_n 0, 1) := by decide +kernel
theorem dX0_start_30 : decode cX0_start 30 = .ok (.sipush (-1001), 3) := by decide +kernel
theorem dX0_start_33 : decode cX0_start 33 = .ok (.putfield 42, 3) := by decide +kernel
theorem dX0_start_36 : decode cX0_start 36 = .ok (.aload_n 0, 1) := by decide +kernel
theorem dX0_start_37 : decode cX0_start 37 = .ok (.iconst 0, 1) := by decide +kernel
theorem dX0_start_38 : decode cX0_start 38 = .ok (.putfield 45, 3) := by decide +kernel
theorem dX0_start_41 : decode cX0_start 41 = .ok (.aload_n 0, 1) := by decide +kernel
theorem dX0_start_42 : decode cX0_start 42 = .ok (.iconst 0, 1) := by decide +kernel
theorem dX0_start_43 : decode cX0_start 43 = .ok (.putfield 48, 3) := by decide +kernel
theorem dX0_start_46 : decode cX0_start 46 = .ok (.aload_n 0, 1) := by decide +kernel
theorem dX0_start_47 : decode cX0_start 47 = .ok (.invokevirtual 51, 3) := by decide +kernel
theorem dX0_start_50 : decode cX0_start 50 = .ok (.return_, 1) := by decide +kernel
theorem dX0_hasGroup_0 : decode cX0_hasGroup 0 = .ok (.iload_n 1, 1) := by decide +kernel
theorem dX0_hasGroup_1 : decode cX0_hasGroup 1 = .ok (.ifCond .lt 21, 3) := by decide +kernel
theorem dX0_hasGroup_4 : decode cX0_hasGroup 4 = .ok (.iload_n 1, 1) := by decide +kernel
theorem dX0_hasGroup_5 : decode cX0_hasGroup 5 = .ok (.aload_n 0, 1) := by decide +kernel
theorem dX0_hasGroup_6 : decode cX0_hasGroup 6 = .ok (.getfield 48, 3) := by decide +kernel
theorem dX0_hasGroup_9 : decode cX0_hasGroup 9 = .ok (.if_icmp .ge 13, 3) := by decide +kernel
theorem dX0_hasGroup_12 : decode cX0_hasGroup 12 = .ok (.iload_n 1, 1) := by decide +kernel
theorem dX0_hasGroup_13 : decode cX0_hasGroup 13 = .ok (.bipush 9, 2) := by decide +kernel
theorem dX0_hasGroup_15 : decode cX0_hasGroup 15 = .ok (.if_icmp .ge 7, 3) := by decide +kernel
theorem dX0_hasGroup_18 : decode cX0_hasGroup 18 = .ok (.iconst 1, 1) := by decide +kernel
theorem dX0_hasGroup_19 : decode cX0_hasGroup 19 = .ok (.goto 4, 3) := by decide +kernel
theorem dX0_hasGroup_22 : decode cX0_hasGroup 22 = .ok (.iconst 0, 1) := by decide +kernel
theorem dX0_hasGroup_23 : decode cX0_hasGroup 23 = .ok (.ireturn, 1) := by decide +kernel
theorem dX0_addGroup_0 : decode cX0_addGroup 0 = .ok (.aload_n 0, 1) := by decide +kernel
theorem dX0_addGroup_1 : decode cX0_addGroup 1 = .ok (.getfield 48, 3) := by decide +kernel
theorem dX0_addGroup_4 : decode cX0_addGroup 4 = .ok (.bipush 9, 2) := by decide +kernel
theorem dX0_addGroup_6 : decode cX0_addGroup 6 = .ok (.if_icmp .ge 25, 3) := by decide +kernel
theorem dX0_addGroup_9 : decode cX0_addGroup 9 = .ok (.aload_n 0, 1) := by decide +kernel
theorem dX0_addGroup_10 : decode cX0_addGroup 10 = .ok (.getfield 17, 3) := by decide +kernel
theorem dX0_addGroup_13 : decode cX0_addGroup 13 = .ok (.aload_n 0, 1) := by decide +kernel
theorem dX0_addGroup_14 : decode cX0_addGroup 14 = .ok (.getfield 48, 3) := by decide +kernel
theorem dX0_addGroup_17 : decode cX0_addGroup 17 = .ok (.aaload, 1) := by decide +kernel
theorem dX0_addGroup_18 : decode cX0_addGroup 18 = .ok (.invokevirtual 54, 3) := by decide +kernel
theorem dX0_addGroup_21 : decode cX0_addGroup 21 = .ok (.aload_n 0, 1) := by decide +kernel
theorem dX0_addGroup_22 : decode cX0_addGroup 22 = .ok (.dup, 1) := by decide +kernel
theorem dX0_addGroup_23 : decode cX0_addGroup 23 = .ok (.getfield 48, 3) := by decide +kernel
theorem dX0_addGroup_26 : decode cX0_addGroup 26 = .ok (.iconst 1, 1) := by decide +kernel
theorem dX0_addGroup_27 : decode cX0_addGroup 27 = .ok (.iadd, 1) := by decide +kernel
theorem dX0_addGroup_28 : decode cX0_addGroup 28 = .ok (.putfield 48, 3) := by decide +kernel
theorem dX0_addGroup_31 : decode cX0_addGroup 31 = .ok (.return_, 1) := by decide +kernel
theorem dX0_keepTokens_0 : decode cX0_keepTokens 0 = .ok (.aload_n 0, 1) := by decide +kernel
theorem dX0_keepTokens_1 : decode cX0_keepTokens 1 = .ok (.iconst 0, 1) := by decide +kernel
theorem dX0_keepTokens_2 : decode cX0_keepTokens 2 = .ok (.putfield 45, 3) := by decide +kernel
theorem dX0_keepTokens_5 : decode cX0_keepTokens 5 = .ok (.iconst 0, 1) := by decide +kernel
theorem dX0_keepTokens_6 : decode cX0_keepTokens 6 = .ok (.istore_n 3, 1) := by decide +kernel
theorem dX0_keepTokens_7 : decode cX0_keepTokens 7 = .ok (.iconst 0, 1) := by decide +kernel
theorem dX0_keepTokens_8 : decode cX0_keepTokens 8 = .ok (.istore 4, 2) := by decide +kernel
theorem dX0_keepTokens_10 : decode cX0_keepTokens 10 = .ok (.iload 4, 2) := by decide +kernel
theorem dX0_keepTokens_12 : decode cX0_keepTokens 12 = .ok (.iload_n 2, 1) := by decide +kernel
theorem dX0_keepTokens_13 : decode cX0_keepTokens 13 = .ok (.if_icmp .ge 108, 3) := by decide +kernel
theorem dX0_keepTokens_16 : decode cX0_keepTokens 16 = .ok (.iload 4, 2) := by decide +kernel
theorem dX0_keepTokens_18 : decode cX0_keepTokens 18 = .ok (.aload_n 1, 1) := by decide +kernel
theorem dX0_keepTokens_19 : decode cX0_keepTokens 19 = .ok (.arraylength, 1) := by decide +kernel
theorem dX0_keepTokens_20 : decode cX0_keepTokens 20 = .ok (.if_icmp .ge 101, 3) := by decide +kernel
theorem dX0_keepTokens_23 : decode cX0_keepTokens 23 = .ok (.iload 4, 2) := by decide +kernel
theorem dX0_keepTokens_25 : decode cX0_keepTokens 25 = .ok (.sipush 700, 3) := by decide +kernel
theorem dX0_keepTokens_28 : decode cX0_keepTokens 28 = .ok (.if_icmp .ge 93, 3) := by decide +kernel
theorem dX0_keepTokens_31 : decode cX0_keepTokens 31 = .ok (.aload_n 1, 1) := by decide +kernel
theorem dX0_keepTokens_32 : decode cX0_keepTokens 32 = .ok (.iload 4, 2) := by decide +kernel
theorem dX0_keepTokens_34 : decode cX0_keepTokens 34 = .ok (.caload, 1) := by decide +kernel
theorem dX0_keepTokens_35 : decode cX0_keepTokens 35 = .ok (.bipush 32, 2) := by decide +kernel
theorem dX0_keepTokens_37 : decode cX0_keepTokens 37 = .ok (.if_icmp .ne 7, 3) := by decide +kernel
theorem dX0_keepTokens_40 : decode cX0_keepTokens 40 = .ok (.iconst 1, 1) := by decide +kernel
theorem dX0_keepTokens_41 : decode cX0_keepTokens 41 = .ok (.goto 4, 3) := by decide +kernel
theorem dX0_keepTokens_44 : decode cX0_keepTokens 44 = .ok (.iconst 0, 1) := by decide +kernel
theorem dX0_keepTokens_45 : decode cX0_keepTokens 45 = .ok (.istore 5, 2) := by decide +kernel
theorem dX0_keepTokens_47 : decode cX0_keepTokens 47 = .ok (.iload 5, 2) := by decide +kernel
theorem dX0_keepTokens_49 : decode cX0_keepTokens 49 = .ok (.ifCond .ne 35, 3) := by decide +kernel
theorem dX0_keepTokens_52 : decode cX0_keepTokens 52 = .ok (.iload_n 3, 1) := by decide +kernel
theorem dX0_keepTokens_53 : decode cX0_keepTokens 53 = .ok (.ifCond .eq 31, 3) := by decide +kernel
theorem dX0_keepTokens_56 : decode cX0_keepTokens 56 = .ok (.aload_n 0, 1) := by decide +kernel
theorem dX0_keepTokens_57 : decode cX0_keepTokens 57 = .ok (.getfield 45, 3) := by decide +kernel
theorem dX0_keepTokens_60 : decode cX0_keepTokens 60 = .ok (.ifCond .le 24, 3) := by decide +kernel
theorem dX0_keepTokens_63 : decode cX0_keepTokens 63 = .ok (.aload_n 0, 1) := by decide +kernel
theorem dX0_keepTokens_64 : decode cX0_keepTokens 64 = .ok (.getfield 21, 3) := by decide +kernel
theorem dX0_keepTokens_67 : decode cX0_keepTokens 67 = .ok (.aload_n 0, 1) := by decide +kernel
theorem dX0_keepTokens_68 : decode cX0_keepTokens 68 = .ok (.getfield 45, 3) := by decide +kernel
theorem dX0_keepTokens_71 : decode cX0_keepTokens 71 = .ok (.bipush 32, 2) := by decide +kernel
theorem dX0_keepTokens_73 : decode cX0_keepTokens 73 = .ok (.castore, 1) := by decide +kernel
theorem dX0_keepTokens_74 : decode cX0_keepTokens 74 = .ok (.aload_n 0, 1) := by decide +kernel
theorem dX0_keepTokens_75 : decode cX0_keepTokens 75 = .ok (.dup, 1) := by decide +kernel
theorem dX0_keepTokens_76 : decode cX0_keepTokens 76 = .ok (.getfield 45, 3) := by decide +kernel
theorem dX0_keepTokens_79 : decode cX0_keepTokens 79 = .ok (.iconst 1, 1) := by decide +kernel
theorem dX0_keepTokens_80 : decode cX0_keepTokens 80 = .ok (.iadd, 1) := by decide +kernel
theorem dX0_keepTokens_81 : decode cX0_keepTokens 81 = .ok (.putfield 45, 3) := by decide +kernel
theorem dX0_keepTokens_84 : decode cX0_keepTokens 84 = .ok (.iload 5, 2) := by decide +kernel
theorem dX0_keepTokens_86 : decode cX0_keepTokens 86 = .ok (.ifCond .ne 26, 3) := by decide +kernel
theorem dX0_keepTokens_89 : decode cX0_keepTokens 89 = .ok (.aload_n 0, 1) := by decide +kernel
theorem dX0_keepTokens_90 : decode cX0_keepTokens 90 = .ok (.getfield 21, 3) := by decide +kernel
theorem dX0_keepTokens_93 : decode cX0_keepTokens 93 = .ok (.aload_n 0, 1) := by decide +kernel
theorem dX0_keepTokens_94 : decode cX0_keepTokens 94 = .ok (.getfield 45, 3) := by decide +kernel
theorem dX0_keepTokens_97 : decode cX0_keepTokens 97 = .ok (.aload_n 1, 1) := by decide +kernel
theorem dX0_keepTokens_98 : decode cX0_keepTokens 98 = .ok (.iload 4, 2) := by decide +kernel
theorem dX0_keepTokens_100 : decode cX0_keepTokens 100 = .ok (.caload, 1) := by decide +kernel
theorem dX0_keepTokens_101 : decode cX0_keepTokens 101 = .ok (.castore, 1) := by decide +kernel
theorem dX0_keepTokens_102 : decode cX0_keepTokens 102 = .ok (.aload_n 0, 1) := by decide +kernel
theorem dX0_keepTokens_103 : decode cX0_keepTokens 103 = .ok (.dup, 1) := by decide +kernel
theorem dX0_keepTokens_104 : decode cX0_keepTokens 104 = .ok (.getfield 45, 3) := by decide +kernel
theorem dX0_keepTokens_107 : decode cX0_keepTokens 107 = .ok (.iconst 1, 1) := by decide +kernel
theorem dX0_keepTokens_108 : decode cX0_keepTokens 108 = .ok (.iadd, 1) := by decide +kernel
theorem dX0_keepTokens_109 : decode cX0_keepTokens 109 = .ok (.putfield 45, 3) := by decide +kernel
theorem dX0_keepTokens_112 : decode cX0_keepTokens 112 = .ok (.iload 5, 2) := by decide +kernel
theorem dX0_keepTokens_114 : decode cX0_keepTokens 114 = .ok (.istore_n 3, 1) := by decide +kernel
theorem dX0_keepTokens_115 : decode cX0_keepTokens 115 = .ok (.iinc 4 1, 3) := by decide +kernel
theorem dX0_keepTokens_118 : decode cX0_keepTokens 118 = .ok (.goto (-108), 3) := by decide +kernel
theorem dX0_keepTokens_121 : decode cX0_keepTokens 121 = .ok (.return_, 1) := by decide +kernel
theorem dX0_covers_0 : decode cX0_covers 0 = .ok (.aload_n 0, 1) := by decide +kernel
theorem dX0_covers_1 : decode cX0_covers 1 = .ok (.getfield 26, 3) := by decide +kernel
theorem dX0_covers_4 : decode cX0_covers 4 = .ok (.iconst 2, 1) := by decide +kernel
theorem dX0_covers_5 : decode cX0_covers 5 = .ok (.if_icmp .ne 33, 3) := by decide +kernel
theorem dX0_covers_8 : decode cX0_covers 8 = .ok (.iload_n 1, 1) := by decide +kernel
theorem dX0_covers_9 : decode cX0_covers 9 = .ok (.aload_n 0, 1) := by decide +kernel
theorem dX0_covers_10 : decode cX0_covers 10 = .ok (.getfield 17, 3) := by decide +kernel
theorem dX0_covers_13 : decode cX0_covers 13 = .ok (.iconst 0, 1) := by decide +kernel
theorem dX0_covers_14 : decode cX0_covers 14 = .ok (.aaload, 1) := by decide +kernel
theorem dX0_covers_15 : decode cX0_covers 15 = .ok (.getfield 57, 3) := by decide +kernel
theorem dX0_covers_18 : decode cX0_covers 18 = .ok (.if_icmp .lt 20, 3) := by decide +kernel
theorem dX0_covers_21 : decode cX0_covers 21 = .ok (.iload_n 1, 1) := by decide +kernel
theorem dX0_covers_22 : decode cX0_covers 22 = .ok (.aload_n 0, 1) := by decide +kernel
theorem dX0_covers_23 : decode cX0_covers 23 = .ok (.getfield 17, 3) := by decide +kernel
theorem dX0_covers_26 : decode cX0_covers 26 = .ok (.iconst 0, 1) := by decide +kernel
theorem dX0_covers_27 : decode cX0_covers 27 = .ok (.aaload, 1) := by decide +kernel
theorem dX0_covers_28 : decode cX0_covers 28 = .ok (.getfield 60, 3) := by decide +kernel
theorem dX0_covers_31 : decode cX0_covers 31 = .ok (.if_icmp .ge 7, 3) := by decide +kernel
theorem dX0_covers_34 : decode cX0_covers 34 = .ok (.iconst 1, 1) := by decide +kernel
theorem dX0_covers_35 : decode cX0_covers 35 = .ok (.goto 4, 3) := by decide +kernel
theorem dX0_covers_38 : decode cX0_covers 38 = .ok (.iconst 0, 1) := by decide +kernel
theorem dX0_covers_39 : decode cX0_covers 39 = .ok (.ireturn, 1) := by decide +kernel
theorem dX0_teller_0 : decode cX0_teller 0 = .ok (.iconst 0, 1) := by decide +kernel
theorem dX0_teller_1 : decode cX0_teller 1 = .ok (.istore_n 3, 1) := by decide +kernel
theorem dX0_teller_2 : decode cX0_teller 2 = .ok (.iconst 1, 1) := by decide +kernel
theorem dX0_teller_3 : decode cX0_teller 3 = .ok (.istore 4, 2) := by decide +kernel
theorem dX0_teller_5 : decode cX0_teller 5 = .ok (.iload 4, 2) := by decide +kernel
theorem dX0_teller_7 : decode cX0_teller 7 = .ok (.aload_n 0, 1) := by decide +kernel
theorem dX0_teller_8 : decode cX0_teller 8 = .ok (.getfield 48, 3) := by decide +kernel
theorem dX0_teller_11 : decode cX0_teller 11 = .ok (.if_icmp .ge 47, 3) := by decide +kernel
theorem dX0_teller_14 : decode cX0_teller 14 = .ok (.iload 4, 2) := by decide +kernel
theorem dX0_teller_16 : decode cX0_teller 16 = .ok (.bipush 9, 2) := by decide +kernel
theorem dX0_teller_18 : decode cX0_teller 18 = .ok (.if_icmp .ge 40, 3) := by decide +kernel
theorem dX0_teller_21 : decode cX0_teller 21 = .ok (.aload_n 0, 1) := by decide +kernel
theorem dX0_teller_22 : decode cX0_teller 22 = .ok (.getfield 17, 3) := by decide +kernel
theorem dX0_teller_25 : decode cX0_teller 25 = .ok (.iload 4, 2) := by decide +kernel
theorem dX0_teller_27 : decode cX0_teller 27 = .ok (.aaload, 1) := by decide +kernel
theorem dX0_teller_28 : decode cX0_teller 28 = .ok (.iload_n 1, 1) := by decide +kernel
theorem dX0_teller_29 : decode cX0_teller 29 = .ok (.invokevirtual 63, 3) := by decide +kernel
theorem dX0_teller_32 : decode cX0_teller 32 = .ok (.ifCond .eq 20, 3) := by decide +kernel
theorem dX0_teller_35 : decode cX0_teller 35 = .ok (.aload_n 0, 1) := by decide +kernel
theorem dX0_teller_36 : decode cX0_teller 36 = .ok (.getfield 17, 3) := by decide +kernel
theorem dX0_teller_39 : decode cX0_teller 39 = .ok (.iload 4, 2) := by decide +kernel
theorem dX0_teller_41 : decode cX0_teller 41 = .ok (.aaload, 1) := by decide +kernel
theorem dX0_teller_42 : decode cX0_teller 42 = .ok (.iload_n 2, 1) := by decide +kernel
theorem dX0_teller_43 : decode cX0_teller 43 = .ok (.invokevirtual 67, 3) := by decide +kernel
theorem dX0_teller_46 : decode cX0_teller 46 = .ok (.ifCond .eq 6, 3) := by decide +kernel
theorem dX0_teller_49 : decode cX0_teller 49 = .ok (.iload 4, 2) := by decide +kernel
theorem dX0_teller_51 : decode cX0_teller 51 = .ok (.istore_n 3, 1) := by decide +kernel
theorem dX0_teller_52 : decode cX0_teller 52 = .ok (.iinc 4 1, 3) := by decide +kernel
theorem dX0_teller_55 : decode cX0_teller 55 = .ok (.goto (-50), 3) := by decide +kernel
theorem dX0_teller_58 : decode cX0_teller 58 = .ok (.iload_n 3, 1) := by decide +kernel
theorem dX0_teller_59 : decode cX0_teller 59 = .ok (.ireturn, 1) := by decide +kernel
theorem dX0_countActive_0 : decode cX0_countActive 0 = .ok (.iconst 0, 1) := by decide +kernel
theorem dX0_countActive_1 : decode cX0_countActive 1 = .ok (.istore_n 2, 1) := by decide +kernel
theorem dX0_countActive_2 : decode cX0_countActive 2 = .ok (.iconst 1, 1) := by decide +kernel
theorem dX0_countActive_3 : decode cX0_countActive 3 = .ok (.istore_n 3, 1) := by decide +kernel
theorem dX0_countActive_4 : decode cX0_countActive 4 = .ok (.iload_n 3, 1) := by decide +kernel
theorem dX0_countActive_5 : decode cX0_countActive 5 = .ok (.aload_n 0, 1) := by decide +kernel
theorem dX0_countActive_6 : decode cX0_countActive 6 = .ok (.getfield 48, 3) := by decide +kernel
theorem dX0_countActive_9 : decode cX0_countActive 9 = .ok (.if_icmp .ge 31, 3) := by decide +kernel
theorem dX0_countActive_12 : decode cX0_countActive 12 = .ok (.iload_n 3, 1) := by decide +kernel
theorem dX0_countActive_13 : decode cX0_countActive 13 = .ok (.bipush 9, 2) := by decide +kernel
theorem dX0_countActive_15 : decode cX0_countActive 15 = .ok (.if_icmp .ge 25, 3) := by decide +kernel
theorem dX0_countActive_18 : decode cX0_countActive 18 = .ok (.aload_n 0, 1) := by decide +kernel
theorem dX0_countActive_19 : decode cX0_countActive 19 = .ok (.getfield 17, 3) := by decide +kernel
theorem dX0_countActive_22 : decode cX0_countActive 22 = .ok (.iload_n 3, 1) := by decide +kernel
theorem dX0_countActive_23 : decode cX0_countActive 23 = .ok (.aaload, 1) := by decide +kernel
theorem dX0_countActive_24 : decode cX0_countActive 24 = .ok (.iload_n 1, 1) := by decide +kernel
theorem dX0_countActive_25 : decode cX0_countActive 25 = .ok (.invokevirtual 70, 3) := by decide +kernel
theorem dX0_countActive_28 : decode cX0_countActive 28 = .ok (.ifCond .eq 6, 3) := by decide +kernel
theorem dX0_countActive_31 : decode cX0_countActive 31 = .ok (.iinc 2 1, 3) := by decide +kernel
theorem dX0_countActive_34 : decode cX0_countActive 34 = .ok (.iinc 3 1, 3) := by decide +kernel
theorem dX0_countActive_37 : decode cX0_countActive 37 = .ok (.goto (-33), 3) := by decide +kernel
theorem dX0_countActive_40 : decode cX0_countActive 40 = .ok (.iload_n 2, 1) := by decide +kernel
theorem dX0_countActive_41 : decode cX0_countActive 41 = .ok (.ireturn, 1) := by decide +kernel
theorem dX0_findActive_0 : decode cX0_findActive 0 = .ok (.iconst 0, 1) := by decide +kernel
theorem dX0_findActive_1 : decode cX0_findActive 1 = .ok (.istore_n 3, 1) := by decide +kernel
theorem dX0_findActive_2 : decode cX0_findActive 2 = .ok (.iconst 1, 1) := by decide +kernel
theorem dX0_findActive_3 : decode cX0_findActive 3 = .ok (.istore 4, 2) := by decide +kernel
theorem dX0_findActive_5 : decode cX0_findActive 5 = .ok (.iload 4, 2) := by decide +kernel
theorem dX0_findActive_7 : decode cX0_findActive 7 = .ok (.aload_n 0, 1) := by decide +kernel
theorem dX0_findActive_8 : decode cX0_findActive 8 = .ok (.getfield 48, 3) := by decide +kernel
theorem dX0_findActive_11 : decode cX0_findActive 11 = .ok (.if_icmp .ge 41, 3) := by decide +kernel
theorem dX0_findActive_14 : decode cX0_findActive 14 = .ok (.iload 4, 2) := by decide +kernel
theorem dX0_findActive_16 : decode cX0_findActive 16 = .ok (.bipush 9, 2) := by decide +kernel
theorem dX0_findActive_18 : decode cX0_findActive 18 = .ok (.if_icmp .ge 34, 3) := by decide +kernel
theorem dX0_findActive_21 : decode cX0_findActive 21 = .ok (.aload_n 0, 1) := by decide +kernel
theorem dX0_findActive_22 : decode cX0_findActive 22 = .ok (.getfield 17, 3) := by decide +kernel
theorem dX0_findActive_25 : decode cX0_findActive 25 = .ok (.iload 4, 2) := by decide +kernel
theorem dX0_findActive_27 : decode cX0_findActive 27 = .ok (.aaload, 1) := by decide +kernel
theorem dX0_findActive_28 : decode cX0_findActive 28 = .ok (.iload_n 1, 1) := by decide +kernel
theorem dX0_findActive_29 : decode cX0_findActive 29 = .ok (.invokevirtual 70, 3) := by decide +kernel
theorem dX0_findActive_32 : decode cX0_findActive 32 = .ok (.ifCond .eq 14, 3) := by decide +kernel
theorem dX0_findActive_35 : decode cX0_findActive 35 = .ok (.iload_n 3, 1) := by decide +kernel
theorem dX0_findActive_36 : decode cX0_findActive 36 = .ok (.iload_n 2, 1) := by decide +kernel
theorem dX0_findActive_37 : decode cX0_findActive 37 = .ok (.if_icmp .ne 6, 3) := by decide +kernel
theorem dX0_findActive_40 : decode cX0_findActive 40 = .ok (.iload 4, 2) := by decide +kernel
theorem dX0_findActive_42 : decode cX0_findActive 42 = .ok (.ireturn, 1) := by decide +kernel
theorem dX0_findActive_43 : decode cX0_findActive 43 = .ok (.iinc 3 1, 3) := by decide +kernel
theorem dX0_findActive_46 : decode cX0_findActive 46 = .ok (.iinc 4 1, 3) := by decide +kernel
theorem dX0_findActive_49 : decode cX0_findActive 49 = .ok (.goto (-44), 3) := by decide +kernel
theorem dX0_findActive_52 : decode cX0_findActive 52 = .ok (.iconst (-1), 1) := by decide +kernel
theorem dX0_findActive_53 : decode cX0_findActive 53 = .ok (.ireturn, 1) := by decide +kernel
theorem dX0_leastVisibility_0 : decode cX0_leastVisibility 0 = .ok (.aload_n 0, 1) := by decide +kernel
theorem dX0_leastVisibility_1 : decode cX0_leastVisibility 1 = .ok (.getfield 17, 3) := by decide +kernel
theorem dX0_leastVisibility_4 : decode cX0_leastVisibility 4 = .ok (.aload_n 0, 1) := by decide +kernel
theorem dX0_leastVisibility_5 : decode cX0_leastVisibility 5 = .ok (.iload_n 1, 1) := by decide +kernel
theorem dX0_leastVisibility_6 : decode cX0_leastVisibility 6 = .ok (.iconst 1, 1) := by decide +kernel
theorem dX0_leastVisibility_7 : decode cX0_leastVisibility 7 = .ok (.invokevirtual 73, 3) := by decide +kernel
theorem dX0_leastVisibility_10 : decode cX0_leastVisibility 10 = .ok (.aaload, 1) := by decide +kernel
theorem dX0_leastVisibility_11 : decode cX0_leastVisibility 11 = .ok (.getfield 77, 3) := by decide +kernel
theorem dX0_leastVisibility_14 : decode cX0_leastVisibility 14 = .ok (.istore_n 2, 1) := by decide +kernel
theorem dX0_leastVisibility_15 : decode cX0_leastVisibility 15 = .ok (.iconst 1, 1) := by decide +kernel
theorem dX0_leastVisibility_16 : decode cX0_leastVisibility 16 = .ok (.istore_n 3, 1) := by decide +kernel
theorem dX0_leastVisibility_17 : decode cX0_leastVisibility 17 = .ok (.iload_n 3, 1) := by decide +kernel
theorem dX0_leastVisibility_18 : decode cX0_leastVisibility 18 = .ok (.aload_n 0, 1) := by decide +kernel
theorem dX0_leastVisibility_19 : decode cX0_leastVisibility 19 = .ok (.getfield 48, 3) := by decide +kernel
theorem dX0_leastVisibility_22 : decode cX0_leastVisibility 22 = .ok (.if_icmp .ge 55, 3) := by decide +kernel
theorem dX0_leastVisibility_25 : decode cX0_leastVisibility 25 = .ok (.iload_n 3, 1) := by decide +kernel
theorem dX0_leastVisibility_26 : decode cX0_leastVisibility 26 = .ok (.bipush 9, 2) := by decide +kernel
theorem dX0_leastVisibility_28 : decode cX0_leastVisibility 28 = .ok (.if_icmp .ge 49, 3) := by decide +kernel
theorem dX0_leastVisibility_31 : decode cX0_leastVisibility 31 = .ok (.aload_n 0, 1) := by decide +kernel
theorem dX0_leastVisibility_32 : decode cX0_leastVisibility 32 = .ok (.getfield 17, 3) := by decide +kernel
theorem dX0_leastVisibility_35 : decode cX0_leastVisibility 35 = .ok (.iload_n 3, 1) := by decide +kernel
theorem dX0_leastVisibility_36 : decode cX0_leastVisibility 36 = .ok (.aaload, 1) := by decide +kernel
theorem dX0_leastVisibility_37 : decode cX0_leastVisibility 37 = .ok (.iload_n 1, 1) := by decide +kernel
theorem dX0_leastVisibility_38 : decode cX0_leastVisibility 38 = .ok (.invokevirtual 70, 3) := by decide +kernel
theorem dX0_leastVisibility_41 : decode cX0_leastVisibility 41 = .ok (.ifCond .eq 30, 3) := by decide +kernel
theorem dX0_leastVisibility_44 : decode cX0_leastVisibility 44 = .ok (.aload_n 0, 1) := by decide +kernel
theorem dX0_leastVisibility_45 : decode cX0_leastVisibility 45 = .ok (.getfield 17, 3) := by decide +kernel
theorem dX0_leastVisibility_48 : decode cX0_leastVisibility 48 = .ok (.iload_n 3, 1) := by decide +kernel
theorem dX0_leastVisibility_49 : decode cX0_leastVisibility 49 = .ok (.aaload, 1) := by decide +kernel
theorem dX0_leastVisibility_50 : decode cX0_leastVisibility 50 = .ok (.iconst 1, 1) := by decide +kernel
theorem dX0_leastVisibility_51 : decode cX0_leastVisibility 51 = .ok (.invokevirtual 67, 3) := by decide +kernel
theorem dX0_leastVisibility_54 : decode cX0_leastVisibility 54 = .ok (.ifCond .eq 17, 3) := by decide +kernel
theorem dX0_leastVisibility_57 : decode cX0_leastVisibility 57 = .ok (.iload_n 2, 1) := by decide +kernel
theorem dX0_leastVisibility_58 : decode cX0_leastVisibility 58 = .ok (.aload_n 0, 1) := by decide +kernel
theorem dX0_leastVisibility_59 : decode cX0_leastVisibility 59 = .ok (.getfield 17, 3) := by decide +kernel
theorem dX0_leastVisibility_62 : decode cX0_leastVisibility 62 = .ok (.iload_n 3, 1) := by decide +kernel
theorem dX0_leastVisibility_63 : decode cX0_leastVisibility 63 = .ok (.aaload, 1) := by decide +kernel
theorem dX0_leastVisibility_64 : decode cX0_leastVisibility 64 = .ok (.getfield 77, 3) := by decide +kernel
theorem dX0_leastVisibility_67 : decode cX0_leastVisibility 67 = .ok (.invokestatic 80, 3) := by decide +kernel
theorem dX0_leastVisibility_70 : decode cX0_leastVisibility 70 = .ok (.istore_n 2, 1) := by decide +kernel
theorem dX0_leastVisibility_71 : decode cX0_leastVisibility 71 = .ok (.iinc 3 1, 3) := by decide +kernel
theorem dX0_leastVisibility_74 : decode cX0_leastVisibility 74 = .ok (.goto (-57), 3) := by decide +kernel
theorem dX0_leastVisibility_77 : decode cX0_leastVisibility 77 = .ok (.iload_n 2, 1) := by decide +kernel
theorem dX0_leastVisibility_78 : decode cX0_leastVisibility 78 = .ok (.ireturn, 1) := by decide +kernel
theorem dX0_lowestCeiling_0 : decode cX0_lowestCeiling 0 = .ok (.aload_n 0, 1) := by decide +kernel
theorem dX0_lowestCeiling_1 : decode cX0_lowestCeiling 1 = .ok (.getfield 17, 3) := by decide +kernel
theorem dX0_lowestCeiling_4 : decode cX0_lowestCeiling 4 = .ok (.aload_n 0, 1) := by decide +kernel
theorem dX0_lowestCeiling_5 : decode cX0_lowestCeiling 5 = .ok (.iload_n 1, 1) := by decide +kernel
theorem dX0_lowestCeiling_6 : decode cX0_lowestCeiling 6 = .ok (.iconst 3, 1) := by decide +kernel
theorem dX0_lowestCeiling_7 : decode cX0_lowestCeiling 7 = .ok (.invokevirtual 73, 3) := by decide +kernel
theorem dX0_lowestCeiling_10 : decode cX0_lowestCeiling 10 = .ok (.aaload, 1) := by decide +kernel
theorem dX0_lowestCeiling_11 : decode cX0_lowestCeiling 11 = .ok (.bipush (-2), 2) := by decide +kernel
theorem dX0_lowestCeiling_13 : decode cX0_lowestCeiling 13 = .ok (.invokevirtual 85, 3) := by decide +kernel
theorem dX0_lowestCeiling_16 : decode cX0_lowestCeiling 16 = .ok (.istore_n 3, 1) := by decide +kernel
theorem dX0_lowestCeiling_17 : decode cX0_lowestCeiling 17 = .ok (.iconst 1, 1) := by decide +kernel
theorem dX0_lowestCeiling_18 : decode cX0_lowestCeiling 18 = .ok (.istore 4, 2) := by decide +kernel
theorem dX0_lowestCeiling_20 : decode cX0_lowestCeiling 20 = .ok (.iload 4, 2) := by decide +kernel
theorem dX0_lowestCeiling_22 : decode cX0_lowestCeiling 22 = .ok (.aload_n 0, 1) := by decide +kernel
theorem dX0_lowestCeiling_23 : decode cX0_lowestCeiling 23 = .ok (.getfield 48, 3) := by decide +kernel
theorem dX0_lowestCeiling_26 : decode cX0_lowestCeiling 26 = .ok (.if_icmp .ge 46, 3) := by decide +kernel
theorem dX0_lowestCeiling_29 : decode cX0_lowestCeiling 29 = .ok (.iload 4, 2) := by decide +kernel
theorem dX0_lowestCeiling_31 : decode cX0_lowestCeiling 31 = .ok (.bipush 9, 2) := by decide +kernel
theorem dX0_lowestCeiling_33 : decode cX0_lowestCeiling 33 = .ok (.if_icmp .ge 39, 3) := by decide +kernel
theorem dX0_lowestCeiling_36 : decode cX0_lowestCeiling 36 = .ok (.iload_n 2, 1) := by decide +kernel
theorem dX0_lowestCeiling_37 : decode cX0_lowestCeiling 37 = .ok (.ifCond .eq 29, 3) := by decide +kernel
theorem dX0_lowestCeiling_40 : decode cX0_lowestCeiling 40 = .ok (.aload_n 0, 1) := by decide +kernel
theorem dX0_lowestCeiling_41 : decode cX0_lowestCeiling 41 = .ok (.getfield 17, 3) := by decide +kernel
theorem dX0_lowestCeiling_44 : decode cX0_lowestCeiling 44 = .ok (.iload 4, 2) := by decide +kernel
theorem dX0_lowestCeiling_46 : decode cX0_lowestCeiling 46 = .ok (.aaload, 1) := by decide +kernel
theorem dX0_lowestCeiling_47 : decode cX0_lowestCeiling 47 = .ok (.iload_n 1, 1) := by decide +kernel
theorem dX0_lowestCeiling_48 : decode cX0_lowestCeiling 48 = .ok (.invokevirtual 70, 3) := by decide +kernel
theorem dX0_lowestCeiling_51 : decode cX0_lowestCeiling 51 = .ok (.ifCond .eq 15, 3) := by decide +kernel
theorem dX0_lowestCeiling_54 : decode cX0_lowestCeiling 54 = .ok (.aload_n 0, 1) := by decide +kernel
theorem dX0_lowestCeiling_55 : decode cX0_lowestCeiling 55 = .ok (.getfield 17, 3) := by decide +kernel
theorem dX0_lowestCeiling_58 : decode cX0_lowestCeiling 58 = .ok (.iload 4, 2) := by decide +kernel
theorem dX0_lowestCeiling_60 : decode cX0_lowestCeiling 60 = .ok (.aaload, 1) := by decide +kernel
theorem dX0_lowestCeiling_61 : decode cX0_lowestCeiling 61 = .ok (.iload_n 3, 1) := by decide +kernel
theorem dX0_lowestCeiling_62 : decode cX0_lowestCeiling 62 = .ok (.invokevirtual 85, 3) := by decide +kernel
theorem dX0_lowestCeiling_65 : decode cX0_lowestCeiling 65 = .ok (.istore_n 3, 1) := by decide +kernel
theorem dX0_lowestCeiling_66 : decode cX0_lowestCeiling 66 = .ok (.iinc 4 1, 3) := by decide +kernel
theorem dX0_lowestCeiling_69 : decode cX0_lowestCeiling 69 = .ok (.goto (-49), 3) := by decide +kernel
theorem dX0_lowestCeiling_72 : decode cX0_lowestCeiling 72 = .ok (.iload_n 3, 1) := by decide +kernel
theorem dX0_lowestCeiling_73 : decode cX0_lowestCeiling 73 = .ok (.ireturn, 1) := by decide +kernel
theorem dX0_nextTurn_0 : decode cX0_nextTurn 0 = .ok (.iconst (-1), 1) := by decide +kernel
theorem dX0_nextTurn_1 : decode cX0_nextTurn 1 = .ok (.istore_n 2, 1) := by decide +kernel
theorem dX0_nextTurn_2 : decode cX0_nextTurn 2 = .ok (.iconst 1, 1) := by decide +kernel
theorem dX0_nextTurn_3 : decode cX0_nextTurn 3 = .ok (.istore_n 3, 1) := by decide +kernel
theorem dX0_nextTurn_4 : decode cX0_nextTurn 4 = .ok (.iload_n 3, 1) := by decide +kernel
theorem dX0_nextTurn_5 : decode cX0_nextTurn 5 = .ok (.aload_n 0, 1) := by decide +kernel
theorem dX0_nextTurn_6 : decode cX0_nextTurn 6 = .ok (.getfield 48, 3) := by decide +kernel
theorem dX0_nextTurn_9 : decode cX0_nextTurn 9 = .ok (.if_icmp .ge 47, 3) := by decide +kernel
theorem dX0_nextTurn_12 : decode cX0_nextTurn 12 = .ok (.iload_n 3, 1) := by decide +kernel
theorem dX0_nextTurn_13 : decode cX0_nextTurn 13 = .ok (.bipush 9, 2) := by decide +kernel
theorem dX0_nextTurn_15 : decode cX0_nextTurn 15 = .ok (.if_icmp .ge 41, 3) := by decide +kernel
theorem dX0_nextTurn_18 : decode cX0_nextTurn 18 = .ok (.aload_n 0, 1) := by decide +kernel
theorem dX0_nextTurn_19 : decode cX0_nextTurn 19 = .ok (.iload_n 1, 1) := by decide +kernel
theorem dX0_nextTurn_20 : decode cX0_nextTurn 20 = .ok (.iload_n 2, 1) := by decide +kernel
theorem dX0_nextTurn_21 : decode cX0_nextTurn 21 = .ok (.aload_n 0, 1) := by decide +kernel
theorem dX0_nextTurn_22 : decode cX0_nextTurn 22 = .ok (.getfield 17, 3) := by decide +kernel
theorem dX0_nextTurn_25 : decode cX0_nextTurn 25 = .ok (.iload_n 3, 1) := by decide +kernel
theorem dX0_nextTurn_26 : decode cX0_nextTurn 26 = .ok (.aaload, 1) := by decide +kernel
theorem dX0_nextTurn_27 : decode cX0_nextTurn 27 = .ok (.getfield 57, 3) := by decide +kernel
theorem dX0_nextTurn_30 : decode cX0_nextTurn 30 = .ok (.invokevirtual 89, 3) := by decide +kernel
theorem dX0_nextTurn_33 : decode cX0_nextTurn 33 = .ok (.istore_n 2, 1) := by decide +kernel
theorem dX0_nextTurn_34 : decode cX0_nextTurn 34 = .ok (.aload_n 0, 1) := by decide +kernel
theorem dX0_nextTurn_35 : decode cX0_nextTurn 35 = .ok (.iload_n 1, 1) := by decide +kernel
theorem dX0_nextTurn_36 : decode cX0_nextTurn 36 = .ok (.iload_n 2, 1) := by decide +kernel
theorem dX0_nextTurn_37 : decode cX0_nextTurn 37 = .ok (.aload_n 0, 1) := by decide +kernel
theorem dX0_nextTurn_38 : decode cX0_nextTurn 38 = .ok (.getfield 17, 3) := by decide +kernel
theorem dX0_nextTurn_41 : decode cX0_nextTurn 41 = .ok (.iload_n 3, 1) := by decide +kernel
theorem dX0_nextTurn_42 : decode cX0_nextTurn 42 = .ok (.aaload, 1) := by decide +kernel
theorem dX0_nextTurn_43 : decode cX0_nextTurn 43 = .ok (.getfield 60, 3) := by decide +kernel
theorem dX0_nextTurn_46 : decode cX0_nextTurn 46 = .ok (.invokevirtual 89, 3) := by decide +kernel
theorem dX0_nextTurn_49 : decode cX0_nextTurn 49 = .ok (.istore_n 2, 1) := by decide +kernel
theorem dX0_nextTurn_50 : decode cX0_nextTurn 50 = .ok (.iinc 3 1, 3) := by decide +kernel
theorem dX0_nextTurn_53 : decode cX0_nextTurn 53 = .ok (.goto (-49), 3) := by decide +kernel
theorem dX0_nextTurn_56 : decode cX0_nextTurn 56 = .ok (.iload_n 2, 1) := by decide +kernel
theorem dX0_nextTurn_57 : decode cX0_nextTurn 57 = .ok (.ireturn, 1) := by decide +kernel
theorem dX0_nearerTurn_0 : decode cX0_nearerTurn 0 = .ok (.iload_n 3, 1) := by decide +kernel
theorem dX0_nearerTurn_1 : decode cX0_nearerTurn 1 = .ok (.iload_n 1, 1) := by decide +kernel
theorem dX0_nearerTurn_2 : decode cX0_nearerTurn 2 = .ok (.if_icmp .le 17, 3) := by decide +kernel
theorem dX0_nearerTurn_5 : decode cX0_nearerTurn 5 = .ok (.iload_n 2, 1) := by decide +kernel
theorem dX0_nearerTurn_6 : decode cX0_nearerTurn 6 = .ok (.iconst (-1), 1) := by decide +kernel
theorem dX0_nearerTurn_7 : decode cX0_nearerTurn 7 = .ok (.if_icmp .eq 8, 3) := by decide +kernel
theorem dX0_nearerTurn_10 : decode cX0_nearerTurn 10 = .ok (.iload_n 3, 1) := by decide +kernel
theorem dX0_nearerTurn_11 : decode cX0_nearerTurn 11 = .ok (.iload_n 2, 1) := by decide +kernel
theorem dX0_nearerTurn_12 : decode cX0_nearerTurn 12 = .ok (.if_icmp .ge 7, 3) := by decide +kernel
theorem dX0_nearerTurn_15 : decode cX0_nearerTurn 15 = .ok (.iconst 1, 1) := by decide +kernel
theorem dX0_nearerTurn_16 : decode cX0_nearerTurn 16 = .ok (.goto 4, 3) := by decide +kernel
theorem dX0_nearerTurn_19 : decode cX0_nearerTurn 19 = .ok (.iconst 0, 1) := by decide +kernel
theorem dX0_nearerTurn_20 : decode cX0_nearerTurn 20 = .ok (.istore 4, 2) := by decide +kernel
theorem dX0_nearerTurn_22 : decode cX0_nearerTurn 22 = .ok (.iload 4, 2) := by decide +kernel
theorem dX0_nearerTurn_24 : decode cX0_nearerTurn 24 = .ok (.ifCond .eq 23, 3) := by decide +kernel
theorem dX0_nearerTurn_27 : decode cX0_nearerTurn 27 = .ok (.aload_n 0, 1) := by decide +kernel
theorem dX0_nearerTurn_28 : decode cX0_nearerTurn 28 = .ok (.iload_n 3, 1) := by decide +kernel
theorem dX0_nearerTurn_29 : decode cX0_nearerTurn 29 = .ok (.invokevirtual 93, 3) := by decide +kernel
theorem dX0_nearerTurn_32 : decode cX0_nearerTurn 32 = .ok (.ifCond .eq 15, 3) := by decide +kernel
theorem dX0_nearerTurn_35 : decode cX0_nearerTurn 35 = .ok (.aload_n 0, 1) := by decide +kernel
theorem dX0_nearerTurn_36 : decode cX0_nearerTurn 36 = .ok (.iload_n 3, 1) := by decide +kernel
theorem dX0_nearerTurn_37 : decode cX0_nearerTurn 37 = .ok (.invokevirtual 96, 3) := by decide +kernel
theorem dX0_nearerTurn_40 : decode cX0_nearerTurn 40 = .ok (.ifCond .eq 7, 3) := by decide +kernel
theorem dX0_nearerTurn_43 : decode cX0_nearerTurn 43 = .ok (.iload_n 3, 1) := by decide +kernel
theorem dX0_nearerTurn_44 : decode cX0_nearerTurn 44 = .ok (.goto 4, 3) := by decide +kernel
theorem dX0_nearerTurn_47 : decode cX0_nearerTurn 47 = .ok (.iload_n 2, 1) := by decide +kernel
theorem dX0_nearerTurn_48 : decode cX0_nearerTurn 48 = .ok (.ireturn, 1) := by decide +kernel
theorem dX0_isTurn_0 : decode cX0_isTurn 0 = .ok (.iconst 0, 1) := by decide +kernel
theorem dX0_isTurn_1 : decode cX0_isTurn 1 = .ok (.istore_n 2, 1) := by decide +kernel
theorem dX0_isTurn_2 : decode cX0_isTurn 2 = .ok (.iload_n 2, 1) := by decide +kernel
theorem dX0_isTurn_3 : decode cX0_isTurn 3 = .ok (.iconst 4, 1) := by decide +kernel
theorem dX0_isTurn_4 : decode cX0_isTurn 4 = .ok (.if_icmp .ge 28, 3) := by decide +kernel
theorem dX0_isTurn_7 : decode cX0_isTurn 7 = .ok (.aload_n 0, 1) := by decide +kernel
theorem dX0_isTurn_8 : decode cX0_isTurn 8 = .ok (.iload_n 1, 1) := by decide +kernel
theorem dX0_isTurn_9 : decode cX0_isTurn 9 = .ok (.iload_n 2, 1) := by decide +kernel
theorem dX0_isTurn_10 : decode cX0_isTurn 10 = .ok (.invokevirtual 73, 3) := by decide +kernel
theorem dX0_isTurn_13 : decode cX0_isTurn 13 = .ok (.aload_n 0, 1) := by decide +kernel
theorem dX0_isTurn_14 : decode cX0_isTurn 14 = .ok (.iload_n 1, 1) := by decide +kernel
theorem dX0_isTurn_15 : decode cX0_isTurn 15 = .ok (.iconst 1, 1) := by decide +kernel
theorem dX0_isTurn_16 : decode cX0_isTurn 16 = .ok (.isub, 1) := by decide +kernel
theorem dX0_isTurn_17 : decode cX0_isTurn 17 = .ok (.iload_n 2, 1) := by decide +kernel
theorem dX0_isTurn_18 : decode cX0_isTurn 18 = .ok (.invokevirtual 73, 3) := by decide +kernel
theorem dX0_isTurn_21 : decode cX0_isTurn 21 = .ok (.if_icmp .eq 5, 3) := by decide +kernel
theorem dX0_isTurn_24 : decode cX0_isTurn 24 = .ok (.iconst 1, 1) := by decide +kernel
theorem dX0_isTurn_25 : decode cX0_isTurn 25 = .ok (.ireturn, 1) := by decide +kernel
theorem dX0_isTurn_26 : decode cX0_isTurn 26 = .ok (.iinc 2 1, 3) := by decide +kernel
theorem dX0_isTurn_29 : decode cX0_isTurn 29 = .ok (.goto (-27), 3) := by decide +kernel
theorem dX0_isTurn_32 : decode cX0_isTurn 32 = .ok (.iconst 1, 1) := by decide +kernel
theorem dX0_isTurn_33 : decode cX0_isTurn 33 = .ok (.istore_n 2, 1) := by decide +kernel
theorem dX0_isTurn_34 : decode cX0_isTurn 34 = .ok (.iload_n 2, 1) := by decide +kernel
theorem dX0_isTurn_35 : decode cX0_isTurn 35 = .ok (.aload_n 0, 1) := by decide +kernel
theorem dX0_isTurn_36 : decode cX0_isTurn 36 = .ok (.getfield 48, 3) := by decide +kernel
theorem dX0_isTurn_39 : decode cX0_isTurn 39 = .ok (.if_icmp .ge 42, 3) := by decide +kernel
theorem dX0_isTurn_42 : decode cX0_isTurn 42 = .ok (.iload_n 2, 1) := by decide +kernel
theorem dX0_isTurn_43 : decode cX0_isTurn 43 = .ok (.bipush 9, 2) := by decide +kernel
theorem dX0_isTurn_45 : decode cX0_isTurn 45 = .ok (.if_icmp .ge 36, 3) := by decide +kernel
theorem dX0_isTurn_48 : decode cX0_isTurn 48 = .ok (.aload_n 0, 1) := by decide +kernel
theorem dX0_isTurn_49 : decode cX0_isTurn 49 = .ok (.getfield 17, 3) := by decide +kernel
theorem dX0_isTurn_52 : decode cX0_isTurn 52 = .ok (.iload_n 2, 1) := by decide +kernel
theorem dX0_isTurn_53 : decode cX0_isTurn 53 = .ok (.aaload, 1) := by decide +kernel
theorem dX0_isTurn_54 : decode cX0_isTurn 54 = .ok (.iload_n 1, 1) := by decide +kernel
theorem dX0_isTurn_55 : decode cX0_isTurn 55 = .ok (.invokevirtual 70, 3) := by decide +kernel
theorem dX0_isTurn_58 : decode cX0_isTurn 58 = .ok (.aload_n 0, 1) := by decide +kernel
theorem dX0_isTurn_59 : decode cX0_isTurn 59 = .ok (.getfield 17, 3) := by decide +kernel
theorem dX0_isTurn_62 : decode cX0_isTurn 62 = .ok (.iload_n 2, 1) := by decide +kernel
theorem dX0_isTurn_63 : decode cX0_isTurn 63 = .ok (.aaload, 1) := by decide +kernel
theorem dX0_isTurn_64 : decode cX0_isTurn 64 = .ok (.iload_n 1, 1) := by decide +kernel
theorem dX0_isTurn_65 : decode cX0_isTurn 65 = .ok (.iconst 1, 1) := by decide +kernel
theorem dX0_isTurn_66 : decode cX0_isTurn 66 = .ok (.isub, 1) := by decide +kernel
theorem dX0_isTurn_67 : decode cX0_isTurn 67 = .ok (.invokevirtual 70, 3) := by decide +kernel
theorem dX0_isTurn_70 : decode cX0_isTurn 70 = .ok (.if_icmp .eq 5, 3) := by decide +kernel
theorem dX0_isTurn_73 : decode cX0_isTurn 73 = .ok (.iconst 1, 1) := by decide +kernel
theorem dX0_isTurn_74 : decode cX0_isTurn 74 = .ok (.ireturn, 1) := by decide +kernel
theorem dX0_isTurn_75 : decode cX0_isTurn 75 = .ok (.iinc 2 1, 3) := by decide +kernel
theorem dX0_isTurn_78 : decode cX0_isTurn 78 = .ok (.goto (-44), 3) := by decide +kernel
theorem dX0_isTurn_81 : decode cX0_isTurn 81 = .ok (.iconst 0, 1) := by decide +kernel
theorem dX0_isTurn_82 : decode cX0_isTurn 82 = .ok (.ireturn, 1) := by decide +kernel
theorem dX0_eachMinuteTells_0 : decode cX0_eachMinuteTells 0 = .ok (.iconst 0, 1) := by decide +kernel
theorem dX0_eachMinuteTells_1 : decode cX0_eachMinuteTells 1 = .ok (.istore_n 1, 1) := by decide +kernel
theorem dX0_eachMinuteTells_2 : decode cX0_eachMinuteTells 2 = .ok (.iload_n 1, 1) := by decide +kernel
theorem dX0_eachMinuteTells_3 : decode cX0_eachMinuteTells 3 = .ok (.aload_n 0, 1) := by decide +kernel
theorem dX0_eachMinuteTells_4 : decode cX0_eachMinuteTells 4 = .ok (.getfield 48, 3) := by decide +kernel
theorem dX0_eachMinuteTells_7 : decode cX0_eachMinuteTells 7 = .ok (.if_icmp .ge 83, 3) := by decide +kernel
theorem dX0_eachMinuteTells_10 : decode cX0_eachMinuteTells 10 = .ok (.iload_n 1, 1) := by decide +kernel
theorem dX0_eachMinuteTells_11 : decode cX0_eachMinuteTells 11 = .ok (.bipush 9, 2) := by decide +kernel
theorem dX0_eachMinuteTells_13 : decode cX0_eachMinuteTells 13 = .ok (.if_icmp .ge 77, 3) := by decide +kernel
theorem dX0_eachMinuteTells_16 : decode cX0_eachMinuteTells 16 = .ok (.aload_n 0, 1) := by decide +kernel
theorem dX0_eachMinuteTells_17 : decode cX0_eachMinuteTells 17 = .ok (.aload_n 0, 1) := by decide +kernel
theorem dX0_eachMinuteTells_18 : decode cX0_eachMinuteTells 18 = .ok (.getfield 17, 3) := by decide +kernel
theorem dX0_eachMinuteTells_21 : decode cX0_eachMinuteTells 21 = .ok (.iload_n 1, 1) := by decide +kernel
theorem dX0_eachMinuteTells_22 : decode cX0_eachMinuteTells 22 = .ok (.aaload, 1) := by decide +kernel
theorem dX0_eachMinuteTells_23 : decode cX0_eachMinuteTells 23 = .ok (.getfield 57, 3) := by decide +kernel
theorem dX0_eachMinuteTells_26 : decode cX0_eachMinuteTells 26 = .ok (.invokevirtual 93, 3) := by decide +kernel
theorem dX0_eachMinuteTells_29 : decode cX0_eachMinuteTells 29 = .ok (.ifCond .eq 21, 3) := by decide +kernel
theorem dX0_eachMinuteTells_32 : decode cX0_eachMinuteTells 32 = .ok (.aload_n 0, 1) := by decide +kernel
theorem dX0_eachMinuteTells_33 : decode cX0_eachMinuteTells 33 = .ok (.aload_n 0, 1) := by decide +kernel
theorem dX0_eachMinuteTells_34 : decode cX0_eachMinuteTells 34 = .ok (.getfield 17, 3) := by decide +kernel
theorem dX0_eachMinuteTells_37 : decode cX0_eachMinuteTells 37 = .ok (.iload_n 1, 1) := by decide +kernel
theorem dX0_eachMinuteTells_38 : decode cX0_eachMinuteTells 38 = .ok (.aaload, 1) := by decide +kernel
theorem dX0_eachMinuteTells_39 : decode cX0_eachMinuteTells 39 = .ok (.getfield 57, 3) := by decide +kernel
theorem dX0_eachMinuteTells_42 : decode cX0_eachMinuteTells 42 = .ok (.invokevirtual 99, 3) := by decide +kernel
theorem dX0_eachMinuteTells_45 : decode cX0_eachMinuteTells 45 = .ok (.ifCond .ne 5, 3) := by decide +kernel
theorem dX0_eachMinuteTells_48 : decode cX0_eachMinuteTells 48 = .ok (.iconst 0, 1) := by decide +kernel
theorem dX0_eachMinuteTells_49 : decode cX0_eachMinuteTells 49 = .ok (.ireturn, 1) := by decide +kernel
theorem dX0_eachMinuteTells_50 : decode cX0_eachMinuteTells 50 = .ok (.aload_n 0, 1) := by decide +kernel
theorem dX0_eachMinuteTells_51 : decode cX0_eachMinuteTells 51 = .ok (.aload_n 0, 1) := by decide +kernel
theorem dX0_eachMinuteTells_52 : decode cX0_eachMinuteTells 52 = .ok (.getfield 17, 3) := by decide +kernel
theorem dX0_eachMinuteTells_55 : decode cX0_eachMinuteTells 55 = .ok (.iload_n 1, 1) := by decide +kernel
theorem dX0_eachMinuteTells_56 : decode cX0_eachMinuteTells 56 = .ok (.aaload, 1) := by decide +kernel
theorem dX0_eachMinuteTells_57 : decode cX0_eachMinuteTells 57 = .ok (.getfield 60, 3) := by decide +kernel
theorem dX0_eachMinuteTells_60 : decode cX0_eachMinuteTells 60 = .ok (.invokevirtual 93, 3) := by decide +kernel
theorem dX0_eachMinuteTells_63 : decode cX0_eachMinuteTells 63 = .ok (.ifCond .eq 21, 3) := by decide +kernel
theorem dX0_eachMinuteTells_66 : decode cX0_eachMinuteTells 66 = .ok (.aload_n 0, 1) := by decide +kernel
theorem dX0_eachMinuteTells_67 : decode cX0_eachMinuteTells 67 = .ok (.aload_n 0, 1) := by decide +kernel
theorem dX0_eachMinuteTells_68 : decode cX0_eachMinuteTells 68 = .ok (.getfield 17, 3) := by decide +kernel
theorem dX0_eachMinuteTells_71 : decode cX0_eachMinuteTells 71 = .ok (.iload_n 1, 1) := by decide +kernel
theorem dX0_eachMinuteTells_72 : decode cX0_eachMinuteTells 72 = .ok (.aaload, 1) := by decide +kernel
theorem dX0_eachMinuteTells_73 : decode cX0_eachMinuteTells 73 = .ok (.getfield 60, 3) := by decide +kernel
theorem dX0_eachMinuteTells_76 : decode cX0_eachMinuteTells 76 = .ok (.invokevirtual 99, 3) := by decide +kernel
theorem dX0_eachMinuteTells_79 : decode cX0_eachMinuteTells 79 = .ok (.ifCond .ne 5, 3) := by decide +kernel
theorem dX0_eachMinuteTells_82 : decode cX0_eachMinuteTells 82 = .ok (.iconst 0, 1) := by decide +kernel
theorem dX0_eachMinuteTells_83 : decode cX0_eachMinuteTells 83 = .ok (.ireturn, 1) := by decide +kernel
theorem dX0_eachMinuteTells_84 : decode cX0_eachMinuteTells 84 = .ok (.iinc 1 1, 3) := by decide +kernel
theorem dX0_eachMinuteTells_87 : decode cX0_eachMinuteTells 87 = .ok (.goto (-85), 3) := by decide +kernel
theorem dX0_eachMinuteTells_90 : decode cX0_eachMinuteTells 90 = .ok (.iconst 1, 1) := by decide +kernel
theorem dX0_eachMinuteTells_91 : decode cX0_eachMinuteTells 91 = .ok (.ireturn, 1) := by decide +kernel
theorem dX0_minuteTells_0 : decode cX0_minuteTells 0 = .ok (.iconst 0, 1) := by decide +kernel
theorem dX0_minuteTells_1 : decode cX0_minuteTells 1 = .ok (.istore_n 2, 1) := by decide +kernel
theorem dX0_minuteTells_2 : decode cX0_minuteTells 2 = .ok (.iload_n 2, 1) := by decide +kernel
theorem dX0_minuteTells_3 : decode cX0_minuteTells 3 = .ok (.iconst 4, 1) := by decide +kernel
theorem dX0_minuteTells_4 : decode cX0_minuteTells 4 = .ok (.if_icmp .ge 29, 3) := by decide +kernel
theorem dX0_minuteTells_7 : decode cX0_minuteTells 7 = .ok (.aload_n 0, 1) := by decide +kernel
theorem dX0_minuteTells_8 : decode cX0_minuteTells 8 = .ok (.getfield 17, 3) := by decide +kernel
theorem dX0_minuteTells_11 : decode cX0_minuteTells 11 = .ok (.aload_n 0, 1) := by decide +kernel
theorem dX0_minuteTells_12 : decode cX0_minuteTells 12 = .ok (.iload_n 1, 1) := by decide +kernel
theorem dX0_minuteTells_13 : decode cX0_minuteTells 13 = .ok (.iload_n 2, 1) := by decide +kernel
theorem dX0_minuteTells_14 : decode cX0_minuteTells 14 = .ok (.invokevirtual 73, 3) := by decide +kernel
theorem dX0_minuteTells_17 : decode cX0_minuteTells 17 = .ok (.aaload, 1) := by decide +kernel
theorem dX0_minuteTells_18 : decode cX0_minuteTells 18 = .ok (.iload_n 2, 1) := by decide +kernel
theorem dX0_minuteTells_19 : decode cX0_minuteTells 19 = .ok (.invokevirtual 67, 3) := by decide +kernel
theorem dX0_minuteTells_22 : decode cX0_minuteTells 22 = .ok (.ifCond .ne 5, 3) := by decide +kernel
theorem dX0_minuteTells_25 : decode cX0_minuteTells 25 = .ok (.iconst 0, 1) := by decide +kernel
theorem dX0_minuteTells_26 : decode cX0_minuteTells 26 = .ok (.ireturn, 1) := by decide +kernel
theorem dX0_minuteTells_27 : decode cX0_minuteTells 27 = .ok (.iinc 2 1, 3) := by decide +kernel
theorem dX0_minuteTells_30 : decode cX0_minuteTells 30 = .ok (.goto (-28), 3) := by decide +kernel
theorem dX0_minuteTells_33 : decode cX0_minuteTells 33 = .ok (.iconst 1, 1) := by decide +kernel
theorem dX0_minuteTells_34 : decode cX0_minuteTells 34 = .ok (.istore_n 2, 1) := by decide +kernel
theorem dX0_minuteTells_35 : decode cX0_minuteTells 35 = .ok (.iload_n 2, 1) := by decide +kernel
theorem dX0_minuteTells_36 : decode cX0_minuteTells 36 = .ok (.aload_n 0, 1) := by decide +kernel
theorem dX0_minuteTells_37 : decode cX0_minuteTells 37 = .ok (.getfield 48, 3) := by decide +kernel
theorem dX0_minuteTells_40 : decode cX0_minuteTells 40 = .ok (.if_icmp .ge 42, 3) := by decide +kernel
theorem dX0_minuteTells_43 : decode cX0_minuteTells 43 = .ok (.iload_n 2, 1) := by decide +kernel
theorem dX0_minuteTells_44 : decode cX0_minuteTells 44 = .ok (.bipush 9, 2) := by decide +kernel
theorem dX0_minuteTells_46 : decode cX0_minuteTells 46 = .ok (.if_icmp .ge 36, 3) := by decide +kernel
theorem dX0_minuteTells_49 : decode cX0_minuteTells 49 = .ok (.aload_n 0, 1) := by decide +kernel
theorem dX0_minuteTells_50 : decode cX0_minuteTells 50 = .ok (.getfield 17, 3) := by decide +kernel
theorem dX0_minuteTells_53 : decode cX0_minuteTells 53 = .ok (.iload_n 2, 1) := by decide +kernel
theorem dX0_minuteTells_54 : decode cX0_minuteTells 54 = .ok (.aaload, 1) := by decide +kernel
theorem dX0_minuteTells_55 : decode cX0_minuteTells 55 = .ok (.iload_n 1, 1) := by decide +kernel
theorem dX0_minuteTells_56 : decode cX0_minuteTells 56 = .ok (.invokevirtual 70, 3) := by decide +kernel
theorem dX0_minuteTells_59 : decode cX0_minuteTells 59 = .ok (.ifCond .eq 17, 3) := by decide +kernel
theorem dX0_minuteTells_62 : decode cX0_minuteTells 62 = .ok (.aload_n 0, 1) := by decide +kernel
theorem dX0_minuteTells_63 : decode cX0_minuteTells 63 = .ok (.getfield 17, 3) := by decide +kernel
theorem dX0_minuteTells_66 : decode cX0_minuteTells 66 = .ok (.iload_n 2, 1) := by decide +kernel
theorem dX0_minuteTells_67 : decode cX0_minuteTells 67 = .ok (.aaload, 1) := by decide +kernel
theorem dX0_minuteTells_68 : decode cX0_minuteTells 68 = .ok (.invokevirtual 102, 3) := by decide +kernel
theorem dX0_minuteTells_71 : decode cX0_minuteTells 71 = .ok (.ifCond .ne 5, 3) := by decide +kernel
theorem dX0_minuteTells_74 : decode cX0_minuteTells 74 = .ok (.iconst 0, 1) := by decide +kernel
theorem dX0_minuteTells_75 : decode cX0_minuteTells 75 = .ok (.ireturn, 1) := by decide +kernel
theorem dX0_minuteTells_76 : decode cX0_minuteTells 76 = .ok (.iinc 2 1, 3) := by decide +kernel
theorem dX0_minuteTells_79 : decode cX0_minuteTells 79 = .ok (.goto (-44), 3) := by decide +kernel
theorem dX0_minuteTells_82 : decode cX0_minuteTells 82 = .ok (.iconst 1, 1) := by decide +kernel
theorem dX0_minuteTells_83 : decode cX0_minuteTells 83 = .ok (.ireturn, 1) := by decide +kernel
theorem dX0_sameAs_0 : decode cX0_sameAs 0 = .ok (.aload_n 0, 1) := by decide +kernel
theorem dX0_sameAs_1 : decode cX0_sameAs 1 = .ok (.getfield 26, 3) := by decide +kernel
theorem dX0_sameAs_4 : decode cX0_sameAs 4 = .ok (.aload_n 1, 1) := by decide +kernel
theorem dX0_sameAs_5 : decode cX0_sameAs 5 = .ok (.getfield 26, 3) := by decide +kernel
theorem dX0_sameAs_8 : decode cX0_sameAs 8 = .ok (.if_icmp .ne 93, 3) := by decide +kernel
theorem dX0_sameAs_11 : decode cX0_sameAs 11 = .ok (.aload_n 0, 1) := by decide +kernel
theorem dX0_sameAs_12 : decode cX0_sameAs 12 = .ok (.getfield 30, 3) := by decide +kernel
theorem dX0_sameAs_15 : decode cX0_sameAs 15 = .ok (.aload_n 1, 1) := by decide +kernel
theorem dX0_sameAs_16 : decode cX0_sameAs 16 = .ok (.getfield 30, 3) := by decide +kernel
theorem dX0_sameAs_19 : decode cX0_sameAs 19 = .ok (.if_icmp .ne 82, 3) := by decide +kernel
theorem dX0_sameAs_22 : decode cX0_sameAs 22 = .ok (.aload_n 0, 1) := by decide +kernel
theorem dX0_sameAs_23 : decode cX0_sameAs 23 = .ok (.getfield 33, 3) := by decide +kernel
theorem dX0_sameAs_26 : decode cX0_sameAs 26 = .ok (.aload_n 1, 1) := by decide +kernel
theorem dX0_sameAs_27 : decode cX0_sameAs 27 = .ok (.getfield 33, 3) := by decide +kernel
theorem dX0_sameAs_30 : decode cX0_sameAs 30 = .ok (.if_icmp .ne 71, 3) := by decide +kernel
theorem dX0_sameAs_33 : decode cX0_sameAs 33 = .ok (.aload_n 0, 1) := by decide +kernel
theorem dX0_sameAs_34 : decode cX0_sameAs 34 = .ok (.getfield 36, 3) := by decide +kernel
theorem dX0_sameAs_37 : decode cX0_sameAs 37 = .ok (.aload_n 1, 1) := by decide +kernel
theorem dX0_sameAs_38 : decode cX0_sameAs 38 = .ok (.getfield 36, 3) := by decide +kernel
theorem dX0_sameAs_41 : decode cX0_sameAs 41 = .ok (.if_icmp .ne 60, 3) := by decide +kernel
theorem dX0_sameAs_44 : decode cX0_sameAs 44 = .ok (.aload_n 0, 1) := by decide +kernel
theorem dX0_sameAs_45 : decode cX0_sameAs 45 = .ok (.getfield 39, 3) := by decide +kernel
theorem dX0_sameAs_48 : decode cX0_sameAs 48 = .ok (.aload_n 1, 1) := by decide +kernel
theorem dX0_sameAs_49 : decode cX0_sameAs 49 = .ok (.getfield 39, 3) := by decide +kernel
theorem dX0_sameAs_52 : decode cX0_sameAs 52 = .ok (.if_icmp .ne 49, 3) := by decide +kernel
theorem dX0_sameAs_55 : decode cX0_sameAs 55 = .ok (.aload_n 0, 1) := by decide +kernel
theorem dX0_sameAs_56 : decode cX0_sameAs 56 = .ok (.getfield 42, 3) := by decide +kernel
theorem dX0_sameAs_59 : decode cX0_sameAs 59 = .ok (.aload_n 1, 1) := by decide +kernel
theorem dX0_sameAs_60 : decode cX0_sameAs 60 = .ok (.getfield 42, 3) := by decide +kernel
theorem dX0_sameAs_63 : decode cX0_sameAs 63 = .ok (.if_icmp .ne 38, 3) := by decide +kernel
theorem dX0_sameAs_66 : decode cX0_sameAs 66 = .ok (.aload_n 0, 1) := by decide +kernel
theorem dX0_sameAs_67 : decode cX0_sameAs 67 = .ok (.getfield 9, 3) := by decide +kernel
theorem dX0_sameAs_70 : decode cX0_sameAs 70 = .ok (.aload_n 1, 1) := by decide +kernel
theorem dX0_sameAs_71 : decode cX0_sameAs 71 = .ok (.getfield 9, 3) := by decide +kernel
theorem dX0_sameAs_74 : decode cX0_sameAs 74 = .ok (.iconst 4, 1) := by decide +kernel
theorem dX0_sameAs_75 : decode cX0_sameAs 75 = .ok (.invokestatic 106, 3) := by decide +kernel
theorem dX0_sameAs_78 : decode cX0_sameAs 78 = .ok (.ifCond .eq 23, 3) := by decide +kernel
theorem dX0_sameAs_81 : decode cX0_sameAs 81 = .ok (.aload_n 0, 1) := by decide +kernel
theorem dX0_sameAs_82 : decode cX0_sameAs 82 = .ok (.aload_n 1, 1) := by decide +kernel
theorem dX0_sameAs_83 : decode cX0_sameAs 83 = .ok (.invokevirtual 110, 3) := by decide +kernel
theorem dX0_sameAs_86 : decode cX0_sameAs 86 = .ok (.ifCond .eq 15, 3) := by decide +kernel
theorem dX0_sameAs_89 : decode cX0_sameAs 89 = .ok (.aload_n 0, 1) := by decide +kernel
theorem dX0_sameAs_90 : decode cX0_sameAs 90 = .ok (.aload_n 1, 1) := by decide +kernel
theorem dX0_sameAs_91 : decode cX0_sameAs 91 = .ok (.invokevirtual 114, 3) := by decide +kernel
theorem dX0_sameAs_94 : decode cX0_sameAs 94 = .ok (.ifCond .eq 7, 3) := by decide +kernel
theorem dX0_sameAs_97 : decode cX0_sameAs 97 = .ok (.iconst 1, 1) := by decide +kernel
theorem dX0_sameAs_98 : decode cX0_sameAs 98 = .ok (.goto 4, 3) := by decide +kernel
theorem dX0_sameAs_101 : decode cX0_sameAs 101 = .ok (.iconst 0, 1) := by decide +kernel
theorem dX0_sameAs_102 : decode cX0_sameAs 102 = .ok (.ireturn, 1) := by decide +kernel
theorem dX0_sameGroups_0 : decode cX0_sameGroups 0 = .ok (.aload_n 0, 1) := by decide +kernel
theorem dX0_sameGroups_1 : decode cX0_sameGroups 1 = .ok (.getfield 48, 3) := by decide +kernel
theorem dX0_sameGroups_4 : decode cX0_sameGroups 4 = .ok (.aload_n 1, 1) := by decide +kernel
theorem dX0_sameGroups_5 : decode cX0_sameGroups 5 = .ok (.getfield 48, 3) := by decide +kernel
theorem dX0_sameGroups_8 : decode cX0_sameGroups 8 = .ok (.if_icmp .eq 5, 3) := by decide +kernel
theorem dX0_sameGroups_11 : decode cX0_sameGroups 11 = .ok (.iconst 0, 1) := by decide +kernel
theorem dX0_sameGroups_12 : decode cX0_sameGroups 12 = .ok (.ireturn, 1) := by decide +kernel
theorem dX0_sameGroups_13 : decode cX0_sameGroups 13 = .ok (.iconst 0, 1) := by decide +kernel
theorem dX0_sameGroups_14 : decode cX0_sameGroups 14 = .ok (.istore_n 2, 1) := by decide +kernel
theorem dX0_sameGroups_15 : decode cX0_sameGroups 15 = .ok (.iload_n 2, 1) := by decide +kernel
theorem dX0_sameGroups_16 : decode cX0_sameGroups 16 = .ok (.aload_n 0, 1) := by decide +kernel
theorem dX0_sameGroups_17 : decode cX0_sameGroups 17 = .ok (.getfield 48, 3) := by decide +kernel
theorem dX0_sameGroups_20 : decode cX0_sameGroups 20 = .ok (.if_icmp .ge 35, 3) := by decide +kernel
theorem dX0_sameGroups_23 : decode cX0_sameGroups 23 = .ok (.iload_n 2, 1) := by decide +kernel
theorem dX0_sameGroups_24 : decode cX0_sameGroups 24 = .ok (.bipush 9, 2) := by decide +kernel
theorem dX0_sameGroups_26 : decode cX0_sameGroups 26 = .ok (.if_icmp .ge 29, 3) := by decide +kernel
theorem dX0_sameGroups_29 : decode cX0_sameGroups 29 = .ok (.aload_n 0, 1) := by decide +kernel
theorem dX0_sameGroups_30 : decode cX0_sameGroups 30 = .ok (.getfield 17, 3) := by decide +kernel
theorem dX0_sameGroups_33 : decode cX0_sameGroups 33 = .ok (.iload_n 2, 1) := by decide +kernel
theorem dX0_sameGroups_34 : decode cX0_sameGroups 34 = .ok (.aaload, 1) := by decide +kernel
theorem dX0_sameGroups_35 : decode cX0_sameGroups 35 = .ok (.aload_n 1, 1) := by decide +kernel
theorem dX0_sameGroups_36 : decode cX0_sameGroups 36 = .ok (.getfield 17, 3) := by decide +kernel
theorem dX0_sameGroups_39 : decode cX0_sameGroups 39 = .ok (.iload_n 2, 1) := by decide +kernel
theorem dX0_sameGroups_40 : decode cX0_sameGroups 40 = .ok (.aaload, 1) := by decide +kernel
theorem dX0_sameGroups_41 : decode cX0_sameGroups 41 = .ok (.invokevirtual 117, 3) := by decide +kernel
theorem dX0_sameGroups_44 : decode cX0_sameGroups 44 = .ok (.ifCond .ne 5, 3) := by decide +kernel
theorem dX0_sameGroups_47 : decode cX0_sameGroups 47 = .ok (.iconst 0, 1) := by decide +kernel
theorem dX0_sameGroups_48 : decode cX0_sameGroups 48 = .ok (.ireturn, 1) := by decide +kernel
theorem dX0_sameGroups_49 : decode cX0_sameGroups 49 = .ok (.iinc 2 1, 3) := by decide +kernel
theorem dX0_sameGroups_52 : decode cX0_sameGroups 52 = .ok (.goto (-37), 3) := by decide +kernel
theorem dX0_sameGroups_55 : decode cX0_sameGroups 55 = .ok (.iconst 1, 1) := by decide +kernel
theorem dX0_sameGroups_56 : decode cX0_sameGroups 56 = .ok (.ireturn, 1) := by decide +kernel
theorem dX0_sameText_0 : decode cX0_sameText 0 = .ok (.aload_n 0, 1) := by decide +kernel
theorem dX0_sameText_1 : decode cX0_sameText 1 = .ok (.getfield 45, 3) := by decide +kernel
theorem dX0_sameText_4 : decode cX0_sameText 4 = .ok (.aload_n 1, 1) := by decide +kernel
theorem dX0_sameText_5 : decode cX0_sameText 5 = .ok (.getfield 45, 3) := by decide +kernel
theorem dX0_sameText_8 : decode cX0_sameText 8 = .ok (.if_icmp .eq 5, 3) := by decide +kernel
theorem dX0_sameText_11 : decode cX0_sameText 11 = .ok (.iconst 0, 1) := by decide +kernel
theorem dX0_sameText_12 : decode cX0_sameText 12 = .ok (.ireturn, 1) := by decide +kernel
theorem dX0_sameText_13 : decode cX0_sameText 13 = .ok (.iconst 0, 1) := by decide +kernel
theorem dX0_sameText_14 : decode cX0_sameText 14 = .ok (.istore_n 2, 1) := by decide +kernel
theorem dX0_sameText_15 : decode cX0_sameText 15 = .ok (.iload_n 2, 1) := by decide +kernel
theorem dX0_sameText_16 : decode cX0_sameText 16 = .ok (.aload_n 0, 1) := by decide +kernel
theorem dX0_sameText_17 : decode cX0_sameText 17 = .ok (.getfield 45, 3) := by decide +kernel
theorem dX0_sameText_20 : decode cX0_sameText 20 = .ok (.if_icmp .ge 33, 3) := by decide +kernel
theorem dX0_sameText_23 : decode cX0_sameText 23 = .ok (.iload_n 2, 1) := by decide +kernel
theorem dX0_sameText_24 : decode cX0_sameText 24 = .ok (.sipush 700, 3) := by decide +kernel
theorem dX0_sameText_27 : decode cX0_sameText 27 = .ok (.if_icmp .ge 26, 3) := by decide +kernel
theorem dX0_sameText_30 : decode cX0_sameText 30 = .ok (.aload_n 0, 1) := by decide +kernel
theorem dX0_sameText_31 : decode cX0_sameText 31 = .ok (.getfield 21, 3) := by decide +kernel
theorem dX0_sameText_34 : decode cX0_sameText 34 = .ok (.iload_n 2, 1) := by decide +kernel
theorem dX0_sameText_35 : decode cX0_sameText 35 = .ok (.caload, 1) := by decide +kernel
theorem dX0_sameText_36 : decode cX0_sameText 36 = .ok (.aload_n 1, 1) := by decide +kernel
theorem dX0_sameText_37 : decode cX0_sameText 37 = .ok (.getfield 21, 3) := by decide +kernel
theorem dX0_sameText_40 : decode cX0_sameText 40 = .ok (.iload_n 2, 1) := by decide +kernel
theorem dX0_sameText_41 : decode cX0_sameText 41 = .ok (.caload, 1) := by decide +kernel
theorem dX0_sameText_42 : decode cX0_sameText 42 = .ok (.if_icmp .eq 5, 3) := by decide +kernel
theorem dX0_sameText_45 : decode cX0_sameText 45 = .ok (.iconst 0, 1) := by decide +kernel
theorem dX0_sameText_46 : decode cX0_sameText 46 = .ok (.ireturn, 1) := by decide +kernel
theorem dX0_sameText_47 : decode cX0_sameText 47 = .ok (.iinc 2 1, 3) := by decide +kernel
theorem dX0_sameText_50 : decode cX0_sameText 50 = .ok (.goto (-35), 3) := by decide +kernel
theorem dX0_sameText_53 : decode cX0_sameText 53 = .ok (.iconst 1, 1) := by decide +kernel
theorem dX0_sameText_54 : decode cX0_sameText 54 = .ok (.ireturn, 1) := by decide +kernel
theorem dX1_init_0 : decode cX1_init 0 = .ok (.aload_n 0, 1) := by decide +kernel
theorem dX1_init_1 : decode cX1_init 1 = .ok (.invokespecial 3, 3) := by decide +kernel
theorem dX1_init_4 : decode cX1_init 4 = .ok (.aload_n 0, 1) := by decide +kernel
theorem dX1_init_5 : decode cX1_init 5 = .ok (.iconst 3, 1) := by decide +kernel
theorem dX1_init_6 : decode cX1_init 6 = .ok (.newarray .int, 2) := by decide +kernel
theorem dX1_init_8 : decode cX1_init 8 = .ok (.putfield 9, 3) := by decide +kernel
theorem dX1_init_11 : decode cX1_init 11 = .ok (.aload_n 0, 1) := by decide +kernel
theorem dX1_init_12 : decode cX1_init 12 = .ok (.iconst 4, 1) := by decide +kernel
theorem dX1_init_13 : decode cX1_init 13 = .ok (.newarray .int, 2) := by decide +kernel
theorem dX1_init_15 : decode cX1_init 15 = .ok (.putfield 15, 3) := by decide +kernel
theorem dX1_init_18 : decode cX1_init 18 = .ok (.return_, 1) := by decide +kernel
theorem dX1_clear_0 : decode cX1_clear 0 = .ok (.aload_n 0, 1) := by decide +kernel
theorem dX1_clear_1 : decode cX1_clear 1 = .ok (.iconst 0, 1) := by decide +kernel
theorem dX1_clear_2 : decode cX1_clear 2 = .ok (.putfield 18, 3) := by decide +kernel
theorem dX1_clear_5 : decode cX1_clear 5 = .ok (.aload_n 0, 1) := by decide +kernel
theorem dX1_clear_6 : decode cX1_clear 6 = .ok (.iconst 0, 1) := by decide +kernel
theorem dX1_clear_7 : decode cX1_clear 7 = .ok (.putfield 22, 3) := by decide +kernel
theorem dX1_clear_10 : decode cX1_clear 10 = .ok (.aload_n 0, 1) := by decide +kernel
theorem dX1_clear_11 : decode cX1_clear 11 = .ok (.iconst (-1), 1) := by decide +kernel
theorem dX1_clear_12 : decode cX1_clear 12 = .ok (.putfield 25, 3) := by decide +kernel
theorem dX1_clear_15 : decode cX1_clear 15 = .ok (.aload_n 0, 1) := by decide +kernel
theorem dX1_clear_16 : decode cX1_clear 16 = .ok (.iconst (-1), 1) := by decide +kernel
theorem dX1_clear_17 : decode cX1_clear 17 = .ok (.putfield 28, 3) := by decide +kernel
theorem dX1_clear_20 : decode cX1_clear 20 = .ok (.aload_n 0, 1) := by decide +kernel
theorem dX1_clear_21 : decode cX1_clear 21 = .ok (.iconst (-1), 1) := by decide +kernel
theorem dX1_clear_22 : decode cX1_clear 22 = .ok (.putfield 31, 3) := by decide +kernel
theorem dX1_clear_25 : decode cX1_clear 25 = .ok (.aload_n 0, 1) := by decide +kernel
theorem dX1_clear_26 : decode cX1_clear 26 = .ok (.iconst (-1), 1) := by decide +kernel
theorem dX1_clear_27 : decode cX1_clear 27 = .ok (.putfield 34, 3) := by decide +kernel
theorem dX1_clear_30 : decode cX1_clear 30 = .ok (.aload_n 0, 1) := by decide +kernel
theorem dX1_clear_31 : decode cX1_clear 31 = .ok (.iconst (-1), 1) := by decide +kernel
theorem dX1_clear_32 : decode cX1_clear 32 = .ok (.putfield 37, 3) := by decide +kernel
theorem dX1_clear_35 : decode cX1_clear 35 = .ok (.aload_n 0, 1) := by decide +kernel
theorem dX1_clear_36 : decode cX1_clear 36 = .ok (.iconst (-1), 1) := by decide +kernel
theorem dX1_clear_37 : decode cX1_clear 37 = .ok (.putfield 40, 3) := by decide +kernel
theorem dX1_clear_40 : decode cX1_clear 40 = .ok (.aload_n 0, 1) := by decide +kernel
theorem dX1_clear_41 : decode cX1_clear 41 = .ok (.iconst (-1), 1) := by decide +kernel
theorem dX1_clear_42 : decode cX1_clear 42 = .ok (.putfield 43, 3) := by decide +kernel
theorem dX1_clear_45 : decode cX1_clear 45 = .ok (.aload_n 0, 1) := by decide +kernel
theorem dX1_clear_46 : decode cX1_clear 46 = .ok (.iconst (-1), 1) := by decide +kernel
theorem dX1_clear_47 : decode cX1_clear 47 = .ok (.putfield 46, 3) := by decide +kernel
theorem dX1_clear_50 : decode cX1_clear 50 = .ok (.return_, 1) := by decide +kernel
theorem dX1_addWeather_0 : decode cX1_addWeather 0 = .ok (.aload_n 0, 1) := by decide +kernel
theorem dX1_addWeather_1 : decode cX1_addWeather 1 = .ok (.getfield 43, 3) := by decide +kernel
theorem dX1_addWeather_4 : decode cX1_addWeather 4 = .ok (.iconst 0, 1) := by decide +kernel
theorem dX1_addWeather_5 : decode cX1_addWeather 5 = .ok (.invokestatic 49, 3) := by decide +kernel
theorem dX1_addWeather_8 : decode cX1_addWeather 8 = .ok (.istore_n 2, 1) := by decide +kernel
theorem dX1_addWeather_9 : decode cX1_addWeather 9 = .ok (.iload_n 2, 1) := by decide +kernel
theorem dX1_addWeather_10 : decode cX1_addWeather 10 = .ok (.iconst 3, 1) := by decide +kernel
theorem dX1_addWeather_11 : decode cX1_addWeather 11 = .ok (.if_icmp .ge 17, 3) := by decide +kernel
theorem dX1_addWeather_14 : decode cX1_addWeather 14 = .ok (.aload_n 0, 1) := by decide +kernel
theorem dX1_addWeather_15 : decode cX1_addWeather 15 = .ok (.getfield 9, 3) := by decide +kernel
theorem dX1_addWeather_18 : decode cX1_addWeather 18 = .ok (.iload_n 2, 1) := by decide +kernel
theorem dX1_addWeather_19 : decode cX1_addWeather 19 = .ok (.iload_n 1, 1) := by decide +kernel
theorem dX1_addWeather_20 : decode cX1_addWeather 20 = .ok (.iastore, 1) := by decide +kernel
theorem dX1_addWeather_21 : decode cX1_addWeather 21 = .ok (.aload_n 0, 1) := by decide +kernel
theorem dX1_addWeather_22 : decode cX1_addWeather 22 = .ok (.iload_n 2, 1) := by decide +kernel
theorem dX1_addWeather_23 : decode cX1_addWeather 23 = .ok (.iconst 1, 1) := by decide +kernel
theorem dX1_addWeather_24 : decode cX1_addWeather 24 = .ok (.iadd, 1) := by decide +kernel
theorem dX1_addWeather_25 : decode cX1_addWeather 25 = .ok (.putfield 43, 3) := by decide +kernel
theorem dX1_addWeather_28 : decode cX1_addWeather 28 = .ok (.return_, 1) := by decide +kernel
theorem dX1_addCloud_0 : decode cX1_addCloud 0 = .ok (.aload_n 0, 1) := by decide +kernel
theorem dX1_addCloud_1 : decode cX1_addCloud 1 = .ok (.getfield 46, 3) := by decide +kernel
theorem dX1_addCloud_4 : decode cX1_addCloud 4 = .ok (.iconst 0, 1) := by decide +kernel
theorem dX1_addCloud_5 : decode cX1_addCloud 5 = .ok (.invokestatic 49, 3) := by decide +kernel
theorem dX1_addCloud_8 : decode cX1_addCloud 8 = .ok (.istore_n 2, 1) := by decide +kernel
theorem dX1_addCloud_9 : decode cX1_addCloud 9 = .ok (.iload_n 2, 1) := by decide +kernel
theorem dX1_addCloud_10 : decode cX1_addCloud 10 = .ok (.iconst 4, 1) := by decide +kernel
theorem dX1_addCloud_11 : decode cX1_addCloud 11 = .ok (.if_icmp .ge 17, 3) := by decide +kernel
theorem dX1_addCloud_14 : decode cX1_addCloud 14 = .ok (.aload_n 0, 1) := by decide +kernel
theorem dX1_addCloud_15 : decode cX1_addCloud 15 = .ok (.getfield 15, 3) := by decide +kernel
theorem dX1_addCloud_18 : decode cX1_addCloud 18 = .ok (.iload_n 2, 1) := by decide +kernel
theorem dX1_addCloud_19 : decode cX1_addCloud 19 = .ok (.iload_n 1, 1) := by decide +kernel
theorem dX1_addCloud_20 : decode cX1_addCloud 20 = .ok (.iastore, 1) := by decide +kernel
theorem dX1_addCloud_21 : decode cX1_addCloud 21 = .ok (.aload_n 0, 1) := by decide +kernel
theorem dX1_addCloud_22 : decode cX1_addCloud 22 = .ok (.iload_n 2, 1) := by decide +kernel
theorem dX1_addCloud_23 : decode cX1_addCloud 23 = .ok (.iconst 1, 1) := by decide +kernel
theorem dX1_addCloud_24 : decode cX1_addCloud 24 = .ok (.iadd, 1) := by decide +kernel
theorem dX1_addCloud_25 : decode cX1_addCloud 25 = .ok (.putfield 46, 3) := by decide +kernel
theorem dX1_addCloud_28 : decode cX1_addCloud 28 = .ok (.return_, 1) := by decide +kernel
theorem dX1_tells_0 : decode cX1_tells 0 = .ok (.iload_n 1, 1) := by decide +kernel
theorem dX1_tells_1 : decode cX1_tells 1 = .ok (.tableswitch 69 0 2 #[27, 41, 55], 27) := by decide +kernel
theorem dX1_tells_28 : decode cX1_tells 28 = .ok (.aload_n 0, 1) := by decide +kernel
theorem dX1_tells_29 : decode cX1_tells 29 = .ok (.getfield 34, 3) := by decide +kernel
theorem dX1_tells_32 : decode cX1_tells 32 = .ok (.iconst (-1), 1) := by decide +kernel
theorem dX1_tells_33 : decode cX1_tells 33 = .ok (.if_icmp .eq 7, 3) := by decide +kernel
theorem dX1_tells_36 : decode cX1_tells 36 = .ok (.iconst 1, 1) := by decide +kernel
theorem dX1_tells_37 : decode cX1_tells 37 = .ok (.goto 4, 3) := by decide +kernel
theorem dX1_tells_40 : decode cX1_tells 40 = .ok (.iconst 0, 1) := by decide +kernel
theorem dX1_tells_41 : decode cX1_tells 41 = .ok (.ireturn, 1) := by decide +kernel
theorem dX1_tells_42 : decode cX1_tells 42 = .ok (.aload_n 0, 1) := by decide +kernel
theorem dX1_tells_43 : decode cX1_tells 43 = .ok (.getfield 40, 3) := by decide +kernel
theorem dX1_tells_46 : decode cX1_tells 46 = .ok (.iconst (-1), 1) := by decide +kernel
theorem dX1_tells_47 : decode cX1_tells 47 = .ok (.if_icmp .eq 7, 3) := by decide +kernel
theorem dX1_tells_50 : decode cX1_tells 50 = .ok (.iconst 1, 1) := by decide +kernel
theorem dX1_tells_51 : decode cX1_tells 51 = .ok (.goto 4, 3) := by decide +kernel
theorem dX1_tells_54 : decode cX1_tells 54 = .ok (.iconst 0, 1) := by decide +kernel
theorem dX1_tells_55 : decode cX1_tells 55 = .ok (.ireturn, 1) := by decide +kernel
theorem dX1_tells_56 : decode cX1_tells 56 = .ok (.aload_n 0, 1) := by decide +kernel
theorem dX1_tells_57 : decode cX1_tells 57 = .ok (.getfield 43, 3) := by decide +kernel
theorem dX1_tells_60 : decode cX1_tells 60 = .ok (.iconst (-1), 1) := by decide +kernel
theorem dX1_tells_61 : decode cX1_tells 61 = .ok (.if_icmp .eq 7, 3) := by decide +kernel
theorem dX1_tells_64 : decode cX1_tells 64 = .ok (.iconst 1, 1) := by decide +kernel
theorem dX1_tells_65 : decode cX1_tells 65 = .ok (.goto 4, 3) := by decide +kernel
theorem dX1_tells_68 : decode cX1_tells 68 = .ok (.iconst 0, 1) := by decide +kernel
theorem dX1_tells_69 : decode cX1_tells 69 = .ok (.ireturn, 1) := by decide +kernel
theorem dX1_tells_70 : decode cX1_tells 70 = .ok (.aload_n 0, 1) := by decide +kernel
theorem dX1_tells_71 : decode cX1_tells 71 = .ok (.getfield 46, 3) := by decide +kernel
theorem dX1_tells_74 : decode cX1_tells 74 = .ok (.iconst (-1), 1) := by decide +kernel
theorem dX1_tells_75 : decode cX1_tells 75 = .ok (.if_icmp .eq 7, 3) := by decide +kernel
theorem dX1_tells_78 : decode cX1_tells 78 = .ok (.iconst 1, 1) := by decide +kernel
theorem dX1_tells_79 : decode cX1_tells 79 = .ok (.goto 4, 3) := by decide +kernel
theorem dX1_tells_82 : decode cX1_tells 82 = .ok (.iconst 0, 1) := by decide +kernel
theorem dX1_tells_83 : decode cX1_tells 83 = .ok (.ireturn, 1) := by decide +kernel
theorem dX1_tellsSomething_0 : decode cX1_tellsSomething 0 = .ok (.aload_n 0, 1) := by decide +kernel
theorem dX1_tellsSomething_1 : decode cX1_tellsSomething 1 = .ok (.iconst 0, 1) := by decide +kernel
theorem dX1_tellsSomething_2 : decode cX1_tellsSomething 2 = .ok (.invokevirtual 55, 3) := by decide +kernel
theorem dX1_tellsSomething_5 : decode cX1_tellsSomething 5 = .ok (.ifCond .ne 27, 3) := by decide +kernel
theorem dX1_tellsSomething_8 : decode cX1_tellsSomething 8 = .ok (.aload_n 0, 1) := by decide +kernel
theorem dX1_tellsSomething_9 : decode cX1_tellsSomething 9 = .ok (.iconst 1, 1) := by decide +kernel
theorem dX1_tellsSomething_10 : decode cX1_tellsSomething 10 = .ok (.invokevirtual 55, 3) := by decide +kernel
theorem dX1_tellsSomething_13 : decode cX1_tellsSomething 13 = .ok (.ifCond .ne 19, 3) := by decide +kernel
theorem dX1_tellsSomething_16 : decode cX1_tellsSomething 16 = .ok (.aload_n 0, 1) := by decide +kernel
theorem dX1_tellsSomething_17 : decode cX1_tellsSomething 17 = .ok (.iconst 2, 1) := by decide +kernel
theorem dX1_tellsSomething_18 : decode cX1_tellsSomething 18 = .ok (.invokevirtual 55, 3) := by decide +kernel
theorem dX1_tellsSomething_21 : decode cX1_tellsSomething 21 = .ok (.ifCond .ne 11, 3) := by decide +kernel
theorem dX1_tellsSomething_24 : decode cX1_tellsSomething 24 = .ok (.aload_n 0, 1) := by decide +kernel
theorem dX1_tellsSomething_25 : decode cX1_tellsSomething 25 = .ok (.iconst 3, 1) := by decide +kernel
theorem dX1_tellsSomething_26 : decode cX1_tellsSomething 26 = .ok (.invokevirtual 55, 3) := by decide +kernel
theorem dX1_tellsSomething_29 : decode cX1_tellsSomething 29 = .ok (.ifCond .eq 7, 3) := by decide +kernel
theorem dX1_tellsSomething_32 : decode cX1_tellsSomething 32 = .ok (.iconst 1, 1) := by decide +kernel
theorem dX1_tellsSomething_33 : decode cX1_tellsSomething 33 = .ok (.goto 4, 3) := by decide +kernel
theorem dX1_tellsSomething_36 : decode cX1_tellsSomething 36 = .ok (.iconst 0, 1) := by decide +kernel
theorem dX1_tellsSomething_37 : decode cX1_tellsSomething 37 = .ok (.ireturn, 1) := by decide +kernel
theorem dX1_holdsAt_0 : decode cX1_holdsAt 0 = .ok (.aload_n 0, 1) := by decide +kernel
theorem dX1_holdsAt_1 : decode cX1_holdsAt 1 = .ok (.getfield 18, 3) := by decide +kernel
theorem dX1_holdsAt_4 : decode cX1_holdsAt 4 = .ok (.iconst 1, 1) := by decide +kernel
theorem dX1_holdsAt_5 : decode cX1_holdsAt 5 = .ok (.if_icmp .ne 11, 3) := by decide +kernel
theorem dX1_holdsAt_8 : decode cX1_holdsAt 8 = .ok (.iload_n 1, 1) := by decide +kernel
theorem dX1_holdsAt_9 : decode cX1_holdsAt 9 = .ok (.aload_n 0, 1) := by decide +kernel
theorem dX1_holdsAt_10 : decode cX1_holdsAt 10 = .ok (.getfield 25, 3) := by decide +kernel
theorem dX1_holdsAt_13 : decode cX1_holdsAt 13 = .ok (.if_icmp .ge 19, 3) := by decide +kernel
theorem dX1_holdsAt_16 : decode cX1_holdsAt 16 = .ok (.aload_n 0, 1) := by decide +kernel
theorem dX1_holdsAt_17 : decode cX1_holdsAt 17 = .ok (.getfield 18, 3) := by decide +kernel
theorem dX1_holdsAt_20 : decode cX1_holdsAt 20 = .ok (.iconst 2, 1) := by decide +kernel
theorem dX1_holdsAt_21 : decode cX1_holdsAt 21 = .ok (.if_icmp .ne 15, 3) := by decide +kernel
theorem dX1_holdsAt_24 : decode cX1_holdsAt 24 = .ok (.iload_n 1, 1) := by decide +kernel
theorem dX1_holdsAt_25 : decode cX1_holdsAt 25 = .ok (.aload_n 0, 1) := by decide +kernel
theorem dX1_holdsAt_26 : decode cX1_holdsAt 26 = .ok (.getfield 28, 3) := by decide +kernel
theorem dX1_holdsAt_29 : decode cX1_holdsAt 29 = .ok (.if_icmp .lt 7, 3) := by decide +kernel
theorem dX1_holdsAt_32 : decode cX1_holdsAt 32 = .ok (.iconst 1, 1) := by decide +kernel
theorem dX1_holdsAt_33 : decode cX1_holdsAt 33 = .ok (.goto 4, 3) := by decide +kernel
theorem dX1_holdsAt_36 : decode cX1_holdsAt 36 = .ok (.iconst 0, 1) := by decide +kernel
theorem dX1_holdsAt_37 : decode cX1_holdsAt 37 = .ok (.ireturn, 1) := by decide +kernel
theorem dX1_isActiveAt_0 : decode cX1_isActiveAt 0 = .ok (.aload_n 0, 1) := by decide +kernel
theorem dX1_isActiveAt_1 : decode cX1_isActiveAt 1 = .ok (.getfield 18, 3) := by decide +kernel
theorem dX1_isActiveAt_4 : decode cX1_isActiveAt 4 = .ok (.iconst 3, 1) := by decide +kernel
theorem dX1_isActiveAt_5 : decode cX1_isActiveAt 5 = .ok (.if_icmp .lt 23, 3) := by decide +kernel
theorem dX1_isActiveAt_8 : decode cX1_isActiveAt 8 = .ok (.iload_n 1, 1) := by decide +kernel
theorem dX1_isActiveAt_9 : decode cX1_isActiveAt 9 = .ok (.aload_n 0, 1) := by decide +kernel
theorem dX1_isActiveAt_10 : decode cX1_isActiveAt 10 = .ok (.getfield 25, 3) := by decide +kernel
theorem dX1_isActiveAt_13 : decode cX1_isActiveAt 13 = .ok (.if_icmp .lt 15, 3) := by decide +kernel
theorem dX1_isActiveAt_16 : decode cX1_isActiveAt 16 = .ok (.iload_n 1, 1) := by decide +kernel
theorem dX1_isActiveAt_17 : decode cX1_isActiveAt 17 = .ok (.aload_n 0, 1) := by decide +kernel
theorem dX1_isActiveAt_18 : decode cX1_isActiveAt 18 = .ok (.getfield 28, 3) := by decide +kernel
theorem dX1_isActiveAt_21 : decode cX1_isActiveAt 21 = .ok (.if_icmp .ge 7, 3) := by decide +kernel
theorem dX1_isActiveAt_24 : decode cX1_isActiveAt 24 = .ok (.iconst 1, 1) := by decide +kernel
theorem dX1_isActiveAt_25 : decode cX1_isActiveAt 25 = .ok (.goto 4, 3) := by decide +kernel
theorem dX1_isActiveAt_28 : decode cX1_isActiveAt 28 = .ok (.iconst 0, 1) := by decide +kernel
theorem dX1_isActiveAt_29 : decode cX1_isActiveAt 29 = .ok (.ireturn, 1) := by decide +kernel
theorem dX1_lowerCeiling_0 : decode cX1_lowerCeiling 0 = .ok (.iload_n 1, 1) := by decide +kernel
theorem dX1_lowerCeiling_1 : decode cX1_lowerCeiling 1 = .ok (.istore_n 2, 1) := by decide +kernel
theorem dX1_lowerCeiling_2 : decode cX1_lowerCeiling 2 = .ok (.iconst 0, 1) := by decide +kernel
theorem dX1_lowerCeiling_3 : decode cX1_lowerCeiling 3 = .ok (.istore_n 3, 1) := by decide +kernel
theorem dX1_lowerCeiling_4 : decode cX1_lowerCeiling 4 = .ok (.iload_n 3, 1) := by decide +kernel
theorem dX1_lowerCeiling_5 : decode cX1_lowerCeiling 5 = .ok (.aload_n 0, 1) := by decide +kernel
theorem dX1_lowerCeiling_6 : decode cX1_lowerCeiling 6 = .ok (.getfield 46, 3) := by decide +kernel
theorem dX1_lowerCeiling_9 : decode cX1_lowerCeiling 9 = .ok (.if_icmp .ge 53, 3) := by decide +kernel
theorem dX1_lowerCeiling_12 : decode cX1_lowerCeiling 12 = .ok (.iload_n 3, 1) := by decide +kernel
theorem dX1_lowerCeiling_13 : decode cX1_lowerCeiling 13 = .ok (.iconst 4, 1) := by decide +kernel
theorem dX1_lowerCeiling_14 : decode cX1_lowerCeiling 14 = .ok (.if_icmp .ge 48, 3) := by decide +kernel
theorem dX1_lowerCeiling_17 : decode cX1_lowerCeiling 17 = .ok (.aload_n 0, 1) := by decide +kernel
theorem dX1_lowerCeiling_18 : decode cX1_lowerCeiling 18 = .ok (.getfield 15, 3) := by decide +kernel
theorem dX1_lowerCeiling_21 : decode cX1_lowerCeiling 21 = .ok (.iload_n 3, 1) := by decide +kernel
theorem dX1_lowerCeiling_22 : decode cX1_lowerCeiling 22 = .ok (.iaload, 1) := by decide +kernel
theorem dX1_lowerCeiling_23 : decode cX1_lowerCeiling 23 = .ok (.invokestatic 59, 3) := by decide +kernel
theorem dX1_lowerCeiling_26 : decode cX1_lowerCeiling 26 = .ok (.istore 4, 2) := by decide +kernel
theorem dX1_lowerCeiling_28 : decode cX1_lowerCeiling 28 = .ok (.aload_n 0, 1) := by decide +kernel
theorem dX1_lowerCeiling_29 : decode cX1_lowerCeiling 29 = .ok (.getfield 15, 3) := by decide +kernel
theorem dX1_lowerCeiling_32 : decode cX1_lowerCeiling 32 = .ok (.iload_n 3, 1) := by decide +kernel
theorem dX1_lowerCeiling_33 : decode cX1_lowerCeiling 33 = .ok (.iaload, 1) := by decide +kernel
theorem dX1_lowerCeiling_34 : decode cX1_lowerCeiling 34 = .ok (.invokestatic 63, 3) := by decide +kernel
theorem dX1_lowerCeiling_37 : decode cX1_lowerCeiling 37 = .ok (.iconst 3, 1) := by decide +kernel
theorem dX1_lowerCeiling_38 : decode cX1_lowerCeiling 38 = .ok (.if_icmp .lt 18, 3) := by decide +kernel
theorem dX1_lowerCeiling_41 : decode cX1_lowerCeiling 41 = .ok (.iload_n 2, 1) := by decide +kernel
theorem dX1_lowerCeiling_42 : decode cX1_lowerCeiling 42 = .ok (.bipush (-2), 2) := by decide +kernel
theorem dX1_lowerCeiling_44 : decode cX1_lowerCeiling 44 = .ok (.if_icmp .eq 9, 3) := by decide +kernel
theorem dX1_lowerCeiling_47 : decode cX1_lowerCeiling 47 = .ok (.iload 4, 2) := by decide +kernel
theorem dX1_lowerCeiling_49 : decode cX1_lowerCeiling 49 = .ok (.iload_n 2, 1) := by decide +kernel
theorem dX1_lowerCeiling_50 : decode cX1_lowerCeiling 50 = .ok (.if_icmp .ge 6, 3) := by decide +kernel
theorem dX1_lowerCeiling_53 : decode cX1_lowerCeiling 53 = .ok (.iload 4, 2) := by decide +kernel
theorem dX1_lowerCeiling_55 : decode cX1_lowerCeiling 55 = .ok (.istore_n 2, 1) := by decide +kernel
theorem dX1_lowerCeiling_56 : decode cX1_lowerCeiling 56 = .ok (.iinc 3 1, 3) := by decide +kernel
theorem dX1_lowerCeiling_59 : decode cX1_lowerCeiling 59 = .ok (.goto (-55), 3) := by decide +kernel
theorem dX1_lowerCeiling_62 : decode cX1_lowerCeiling 62 = .ok (.iload_n 2, 1) := by decide +kernel
theorem dX1_lowerCeiling_63 : decode cX1_lowerCeiling 63 = .ok (.ireturn, 1) := by decide +kernel
theorem dX1_sameAs_0 : decode cX1_sameAs 0 = .ok (.aload_n 0, 1) := by decide +kernel
theorem dX1_sameAs_1 : decode cX1_sameAs 1 = .ok (.getfield 18, 3) := by decide +kernel
theorem dX1_sameAs_4 : decode cX1_sameAs 4 = .ok (.aload_n 1, 1) := by decide +kernel
theorem dX1_sameAs_5 : decode cX1_sameAs 5 = .ok (.getfield 18, 3) := by decide +kernel
theorem dX1_sameAs_8 : decode cX1_sameAs 8 = .ok (.if_icmp .ne 142, 3) := by decide +kernel
theorem dX1_sameAs_11 : decode cX1_sameAs 11 = .ok (.aload_n 0, 1) := by decide +kernel
theorem dX1_sameAs_12 : decode cX1_sameAs 12 = .ok (.getfield 22, 3) := by decide +kernel
theorem dX1_sameAs_15 : decode cX1_sameAs 15 = .ok (.aload_n 1, 1) := by decide +kernel
theorem dX1_sameAs_16 : decode cX1_sameAs 16 = .ok (.getfield 22, 3) := by decide +kernel
theorem dX1_sameAs_19 : decode cX1_sameAs 19 = .ok (.if_icmp .ne 131, 3) := by decide +kernel
theorem dX1_sameAs_22 : decode cX1_sameAs 22 = .ok (.aload_n 0, 1) := by decide +kernel
theorem dX1_sameAs_23 : decode cX1_sameAs 23 = .ok (.getfield 25, 3) := by decide +kernel
theorem dX1_sameAs_26 : decode cX1_sameAs 26 = .ok (.aload_n 1, 1) := by decide +kernel
theorem dX1_sameAs_27 : decode cX1_sameAs 27 = .ok (.getfield 25, 3) := by decide +kernel
theorem dX1_sameAs_30 : decode cX1_sameAs 30 = .ok (.if_icmp .ne 120, 3) := by decide +kernel
theorem dX1_sameAs_33 : decode cX1_sameAs 33 = .ok (.aload_n 0, 1) := by decide +kernel
theorem dX1_sameAs_34 : decode cX1_sameAs 34 = .ok (.getfield 28, 3) := by decide +kernel
theorem dX1_sameAs_37 : decode cX1_sameAs 37 = .ok (.aload_n 1, 1) := by decide +kernel
theorem dX1_sameAs_38 : decode cX1_sameAs 38 = .ok (.getfield 28, 3) := by decide +kernel
theorem dX1_sameAs_41 : decode cX1_sameAs 41 = .ok (.if_icmp .ne 109, 3) := by decide +kernel
theorem dX1_sameAs_44 : decode cX1_sameAs 44 = .ok (.aload_n 0, 1) := by decide +kernel
theorem dX1_sameAs_45 : decode cX1_sameAs 45 = .ok (.getfield 31, 3) := by decide +kernel
theorem dX1_sameAs_48 : decode cX1_sameAs 48 = .ok (.aload_n 1, 1) := by decide +kernel
theorem dX1_sameAs_49 : decode cX1_sameAs 49 = .ok (.getfield 31, 3) := by decide +kernel
theorem dX1_sameAs_52 : decode cX1_sameAs 52 = .ok (.if_icmp .ne 98, 3) := by decide +kernel
theorem dX1_sameAs_55 : decode cX1_sameAs 55 = .ok (.aload_n 0, 1) := by decide +kernel
theorem dX1_sameAs_56 : decode cX1_sameAs 56 = .ok (.getfield 34, 3) := by decide +kernel
theorem dX1_sameAs_59 : decode cX1_sameAs 59 = .ok (.aload_n 1, 1) := by decide +kernel
theorem dX1_sameAs_60 : decode cX1_sameAs 60 = .ok (.getfield 34, 3) := by decide +kernel
theorem dX1_sameAs_63 : decode cX1_sameAs 63 = .ok (.if_icmp .ne 87, 3) := by decide +kernel
theorem dX1_sameAs_66 : decode cX1_sameAs 66 = .ok (.aload_n 0, 1) := by decide +kernel
theorem dX1_sameAs_67 : decode cX1_sameAs 67 = .ok (.getfield 37, 3) := by decide +kernel
theorem dX1_sameAs_70 : decode cX1_sameAs 70 = .ok (.aload_n 1, 1) := by decide +kernel
theorem dX1_sameAs_71 : decode cX1_sameAs 71 = .ok (.getfield 37, 3) := by decide +kernel
theorem dX1_sameAs_74 : decode cX1_sameAs 74 = .ok (.if_icmp .ne 76, 3) := by decide +kernel
theorem dX1_sameAs_77 : decode cX1_sameAs 77 = .ok (.aload_n 0, 1) := by decide +kernel
theorem dX1_sameAs_78 : decode cX1_sameAs 78 = .ok (.getfield 40, 3) := by decide +kernel
theorem dX1_sameAs_81 : decode cX1_sameAs 81 = .ok (.aload_n 1, 1) := by decide +kernel
theorem dX1_sameAs_82 : decode cX1_sameAs 82 = .ok (.getfield 40, 3) := by decide +kernel
theorem dX1_sameAs_85 : decode cX1_sameAs 85 = .ok (.if_icmp .ne 65, 3) := by decide +kernel
theorem dX1_sameAs_88 : decode cX1_sameAs 88 = .ok (.aload_n 0, 1) := by decide +kernel
theorem dX1_sameAs_89 : decode cX1_sameAs 89 = .ok (.getfield 43, 3) := by decide +kernel
theorem dX1_sameAs_92 : decode cX1_sameAs 92 = .ok (.aload_n 1, 1) := by decide +kernel
theorem dX1_sameAs_93 : decode cX1_sameAs 93 = .ok (.getfield 43, 3) := by decide +kernel
theorem dX1_sameAs_96 : decode cX1_sameAs 96 = .ok (.if_icmp .ne 54, 3) := by decide +kernel
theorem dX1_sameAs_99 : decode cX1_sameAs 99 = .ok (.aload_n 0, 1) := by decide +kernel
theorem dX1_sameAs_100 : decode cX1_sameAs 100 = .ok (.getfield 46, 3) := by decide +kernel
theorem dX1_sameAs_103 : decode cX1_sameAs 103 = .ok (.aload_n 1, 1) := by decide +kernel
theorem dX1_sameAs_104 : decode cX1_sameAs 104 = .ok (.getfield 46, 3) := by decide +kernel
theorem dX1_sameAs_107 : decode cX1_sameAs 107 = .ok (.if_icmp .ne 43, 3) := by decide +kernel
theorem dX1_sameAs_110 : decode cX1_sameAs 110 = .ok (.aload_n 0, 1) := by decide +kernel
theorem dX1_sameAs_111 : decode cX1_sameAs 111 = .ok (.getfield 9, 3) := by decide +kernel
theorem dX1_sameAs_114 : decode cX1_sameAs 114 = .ok (.aload_n 1, 1) := by decide +kernel
theorem dX1_sameAs_115 : decode cX1_sameAs 115 = .ok (.getfield 9, 3) := by decide +kernel
theorem dX1_sameAs_118 : decode cX1_sameAs 118 = .ok (.aload_n 0, 1) := by decide +kernel
theorem dX1_sameAs_119 : decode cX1_sameAs 119 = .ok (.getfield 43, 3) := by decide +kernel
theorem dX1_sameAs_122 : decode cX1_sameAs 122 = .ok (.invokestatic 66, 3) := by decide +kernel
theorem dX1_sameAs_125 : decode cX1_sameAs 125 = .ok (.ifCond .eq 25, 3) := by decide +kernel
theorem dX1_sameAs_128 : decode cX1_sameAs 128 = .ok (.aload_n 0, 1) := by decide +kernel
theorem dX1_sameAs_129 : decode cX1_sameAs 129 = .ok (.getfield 15, 3) := by decide +kernel
theorem dX1_sameAs_132 : decode cX1_sameAs 132 = .ok (.aload_n 1, 1) := by decide +kernel
theorem dX1_sameAs_133 : decode cX1_sameAs 133 = .ok (.getfield 15, 3) := by decide +kernel
theorem dX1_sameAs_136 : decode cX1_sameAs 136 = .ok (.aload_n 0, 1) := by decide +kernel
theorem dX1_sameAs_137 : decode cX1_sameAs 137 = .ok (.getfield 46, 3) := by decide +kernel
theorem dX1_sameAs_140 : decode cX1_sameAs 140 = .ok (.invokestatic 66, 3) := by decide +kernel
theorem dX1_sameAs_143 : decode cX1_sameAs 143 = .ok (.ifCond .eq 7, 3) := by decide +kernel
theorem dX1_sameAs_146 : decode cX1_sameAs 146 = .ok (.iconst 1, 1) := by decide +kernel
theorem dX1_sameAs_147 : decode cX1_sameAs 147 = .ok (.goto 4, 3) := by decide +kernel
theorem dX1_sameAs_150 : decode cX1_sameAs 150 = .ok (.iconst 0, 1) := by decide +kernel
theorem dX1_sameAs_151 : decode cX1_sameAs 151 = .ok (.ireturn, 1) := by decide +kernel
theorem dX1_amountOf_0 : decode cX1_amountOf 0 = .ok (.iload_n 0, 1) := by decide +kernel
theorem dX1_amountOf_1 : decode cX1_amountOf 1 = .ok (.bipush 7, 2) := by decide +kernel
theorem dX1_amountOf_3 : decode cX1_amountOf 3 = .ok (.iand, 1) := by decide +kernel
theorem dX1_amountOf_4 : decode cX1_amountOf 4 = .ok (.ireturn, 1) := by decide +kernel
theorem dX1_heightOf_0 : decode cX1_heightOf 0 = .ok (.iload_n 0, 1) := by decide +kernel
theorem dX1_heightOf_1 : decode cX1_heightOf 1 = .ok (.iconst 3, 1) := by decide +kernel
theorem dX1_heightOf_2 : decode cX1_heightOf 2 = .ok (.ishr, 1) := by decide +kernel
theorem dX1_heightOf_3 : decode cX1_heightOf 3 = .ok (.sipush 1023, 3) := by decide +kernel
theorem dX1_heightOf_6 : decode cX1_heightOf 6 = .ok (.iand, 1) := by decide +kernel
theorem dX1_heightOf_7 : decode cX1_heightOf 7 = .ok (.ireturn, 1) := by decide +kernel
theorem dX1_sameStart_0 : decode cX1_sameStart 0 = .ok (.iconst 0, 1) := by decide +kernel
theorem dX1_sameStart_1 : decode cX1_sameStart 1 = .ok (.istore_n 3, 1) := by decide +kernel
theorem dX1_sameStart_2 : decode cX1_sameStart 2 = .ok (.iload_n 3, 1) := by decide +kernel
theorem dX1_sameStart_3 : decode cX1_sameStart 3 = .ok (.iload_n 2, 1) := by decide +kernel
theorem dX1_sameStart_4 : decode cX1_sameStart 4 = .ok (.if_icmp .ge 32, 3) := by decide +kernel
theorem dX1_sameStart_7 : decode cX1_sameStart 7 = .ok (.iload_n 3, 1) := by decide +kernel
theorem dX1_sameStart_8 : decode cX1_sameStart 8 = .ok (.aload_n 0, 1) := by decide +kernel
theorem dX1_sameStart_9 : decode cX1_sameStart 9 = .ok (.arraylength, 1) := by decide +kernel
theorem dX1_sameStart_10 : decode cX1_sameStart 10 = .ok (.if_icmp .ge 26, 3) := by decide +kernel
theorem dX1_sameStart_13 : decode cX1_sameStart 13 = .ok (.iload_n 3, 1) := by decide +kernel
theorem dX1_sameStart_14 : decode cX1_sameStart 14 = .ok (.aload_n 1, 1) := by decide +kernel
theorem dX1_sameStart_15 : decode cX1_sameStart 15 = .ok (.arraylength, 1) := by decide +kernel
theorem dX1_sameStart_16 : decode cX1_sameStart 16 = .ok (.if_icmp .ge 20, 3) := by decide +kernel
theorem dX1_sameStart_19 : decode cX1_sameStart 19 = .ok (.aload_n 0, 1) := by decide +kernel
theorem dX1_sameStart_20 : decode cX1_sameStart 20 = .ok (.iload_n 3, 1) := by decide +kernel
theorem dX1_sameStart_21 : decode cX1_sameStart 21 = .ok (.iaload, 1) := by decide +kernel
theorem dX1_sameStart_22 : decode cX1_sameStart 22 = .ok (.aload_n 1, 1) := by decide +kernel
theorem dX1_sameStart_23 : decode cX1_sameStart 23 = .ok (.iload_n 3, 1) := by decide +kernel
theorem dX1_sameStart_24 : decode cX1_sameStart 24 = .ok (.iaload, 1) := by decide +kernel
theorem dX1_sameStart_25 : decode cX1_sameStart 25 = .ok (.if_icmp .eq 5, 3) := by decide +kernel
theorem dX1_sameStart_28 : decode cX1_sameStart 28 = .ok (.iconst 0, 1) := by decide +kernel
theorem dX1_sameStart_29 : decode cX1_sameStart 29 = .ok (.ireturn, 1) := by decide +kernel
theorem dX1_sameStart_30 : decode cX1_sameStart 30 = .ok (.iinc 3 1, 3) := by decide +kernel
theorem dX1_sameStart_33 : decode cX1_sameStart 33 = .ok (.goto (-31), 3) := by decide +kernel
theorem dX1_sameStart_36 : decode cX1_sameStart 36 = .ok (.iconst 1, 1) := by decide +kernel
theorem dX1_sameStart_37 : decode cX1_sameStart 37 = .ok (.ireturn, 1) := by decide +kernel
theorem dX3_init_0 : decode cX3_init 0 = .ok (.aload_n 0, 1) := by decide +kernel
theorem dX3_init_1 : decode cX3_init 1 = .ok (.invokespecial 3, 3) := by decide +kernel
theorem dX3_init_4 : decode cX3_init 4 = .ok (.aload_n 0, 1) := by decide +kernel
theorem dX3_init_5 : decode cX3_init 5 = .ok (.sipush 700, 3) := by decide +kernel
theorem dX3_init_8 : decode cX3_init 8 = .ok (.newarray .char, 2) := by decide +kernel
theorem dX3_init_10 : decode cX3_init 10 = .ok (.putfield 9, 3) := by decide +kernel
theorem dX3_init_13 : decode cX3_init 13 = .ok (.aload_n 0, 1) := by decide +kernel
theorem dX3_init_14 : decode cX3_init 14 = .ok (.iconst 0, 1) := by decide +kernel
theorem dX3_init_15 : decode cX3_init 15 = .ok (.putfield 13, 3) := by decide +kernel
theorem dX3_init_18 : decode cX3_init 18 = .ok (.aload_n 0, 1) := by decide +kernel
theorem dX3_init_19 : decode cX3_init 19 = .ok (.sipush 700, 3) := by decide +kernel
theorem dX3_init_22 : decode cX3_init 22 = .ok (.newarray .char, 2) := by decide +kernel
theorem dX3_init_24 : decode cX3_init 24 = .ok (.putfield 17, 3) := by decide +kernel
theorem dX3_init_27 : decode cX3_init 27 = .ok (.aload_n 0, 1) := by decide +kernel
theorem dX3_init_28 : decode cX3_init 28 = .ok (.iconst 0, 1) := by decide +kernel
theorem dX3_init_29 : decode cX3_init 29 = .ok (.putfield 20, 3) := by decide +kernel
theorem dX3_init_32 : decode cX3_init 32 = .ok (.aload_n 0, 1) := by decide +kernel
theorem dX3_init_33 : decode cX3_init 33 = .ok (.new 23, 3) := by decide +kernel
theorem dX3_init_36 : decode cX3_init 36 = .ok (.dup, 1) := by decide +kernel
theorem dX3_init_37 : decode cX3_init 37 = .ok (.invokespecial 25, 3) := by decide +kernel
theorem dX3_init_40 : decode cX3_init 40 = .ok (.putfield 26, 3) := by decide +kernel
theorem dX3_init_43 : decode cX3_init 43 = .ok (.aload_n 0, 1) := by decide +kernel
theorem dX3_init_44 : decode cX3_init 44 = .ok (.new 30, 3) := by decide +kernel
theorem dX3_init_47 : decode cX3_init 47 = .ok (.dup, 1) := by decide +kernel
theorem dX3_init_48 : decode cX3_init 48 = .ok (.invokespecial 32, 3) := by decide +kernel
theorem dX3_init_51 : decode cX3_init 51 = .ok (.putfield 33, 3) := by decide +kernel
theorem dX3_init_54 : decode cX3_init 54 = .ok (.return_, 1) := by decide +kernel
theorem dX3_type_0 : decode cX3_type 0 = .ok (.iload_n 3, 1) := by decide +kernel
theorem dX3_type_1 : decode cX3_type 1 = .ok (.iconst 1, 1) := by decide +kernel
theorem dX3_type_2 : decode cX3_type 2 = .ok (.if_icmp .lt 21, 3) := by decide +kernel
theorem dX3_type_5 : decode cX3_type 5 = .ok (.iload_n 3, 1) := by decide +kernel
theorem dX3_type_6 : decode cX3_type 6 = .ok (.bipush 8, 2) := by decide +kernel
theorem dX3_type_8 : decode cX3_type 8 = .ok (.if_icmp .gt 15, 3) := by decide +kernel
theorem dX3_type_11 : decode cX3_type 11 = .ok (.aload_n 0, 1) := by decide +kernel
theorem dX3_type_12 : decode cX3_type 12 = .ok (.getfield 13, 3) := by decide +kernel
theorem dX3_type_15 : decode cX3_type 15 = .ok (.iload_n 3, 1) := by decide +kernel
theorem dX3_type_16 : decode cX3_type 16 = .ok (.iadd, 1) := by decide +kernel
theorem dX3_type_17 : decode cX3_type 17 = .ok (.sipush 700, 3) := by decide +kernel
theorem dX3_type_20 : decode cX3_type 20 = .ok (.if_icmp .le 5, 3) := by decide +kernel
theorem dX3_type_23 : decode cX3_type 23 = .ok (.iconst (-1), 1) := by decide +kernel
theorem dX3_type_24 : decode cX3_type 24 = .ok (.ireturn, 1) := by decide +kernel
theorem dX3_type_25 : decode cX3_type 25 = .ok (.iconst 0, 1) := by decide +kernel
theorem dX3_type_26 : decode cX3_type 26 = .ok (.istore 4, 2) := by decide +kernel
theorem dX3_type_28 : decode cX3_type 28 = .ok (.iload 4, 2) := by decide +kernel
theorem dX3_type_30 : decode cX3_type 30 = .ok (.iload_n 3, 1) := by decide +kernel
theorem dX3_type_31 : decode cX3_type 31 = .ok (.if_icmp .ge 33, 3) := by decide +kernel
theorem dX3_type_34 : decode cX3_type 34 = .ok (.lload_n 1, 1) := by decide +kernel
theorem dX3_type_35 : decode cX3_type 35 = .ok (.iload 4, 2) := by decide +kernel
theorem dX3_type_37 : decode cX3_type 37 = .ok (.invokestatic 37, 3) := by decide +kernel
theorem dX3_type_40 : decode cX3_type 40 = .ok (.istore 5, 2) := by decide +kernel
theorem dX3_type_42 : decode cX3_type 42 = .ok (.iload 5, 2) := by decide +kernel
theorem dX3_type_44 : decode cX3_type 44 = .ok (.bipush 32, 2) := by decide +kernel
theorem dX3_type_46 : decode cX3_type 46 = .ok (.if_icmp .lt 10, 3) := by decide +kernel
theorem dX3_type_49 : decode cX3_type 49 = .ok (.iload 5, 2) := by decide +kernel
theorem dX3_type_51 : decode cX3_type 51 = .ok (.bipush 126, 2) := by decide +kernel
theorem dX3_type_53 : decode cX3_type 53 = .ok (.if_icmp .le 5, 3) := by decide +kernel
theorem dX3_type_56 : decode cX3_type 56 = .ok (.iconst (-1), 1) := by decide +kernel
theorem dX3_type_57 : decode cX3_type 57 = .ok (.ireturn, 1) := by decide +kernel
theorem dX3_type_58 : decode cX3_type 58 = .ok (.iinc 4 1, 3) := by decide +kernel
theorem dX3_type_61 : decode cX3_type 61 = .ok (.goto (-33), 3) := by decide +kernel
theorem dX3_type_64 : decode cX3_type 64 = .ok (.iload_n 3, 1) := by decide +kernel
theorem dX3_type_65 : decode cX3_type 65 = .ok (.iconst 1, 1) := by decide +kernel
theorem dX3_type_66 : decode cX3_type 66 = .ok (.isub, 1) := by decide +kernel
theorem dX3_type_67 : decode cX3_type 67 = .ok (.istore 4, 2) := by decide +kernel
theorem dX3_type_69 : decode cX3_type 69 = .ok (.iload 4, 2) := by decide +kernel
theorem dX3_type_71 : decode cX3_type 71 = .ok (.ifCond .lt 35, 3) := by decide +kernel
theorem dX3_type_74 : decode cX3_type 74 = .ok (.aload_n 0, 1) := by decide +kernel
theorem dX3_type_75 : decode cX3_type 75 = .ok (.getfield 9, 3) := by decide +kernel
theorem dX3_type_78 : decode cX3_type 78 = .ok (.aload_n 0, 1) := by decide +kernel
theorem dX3_type_79 : decode cX3_type 79 = .ok (.getfield 13, 3) := by decide +kernel
theorem dX3_type_82 : decode cX3_type 82 = .ok (.lload_n 1, 1) := by decide +kernel
theorem dX3_type_83 : decode cX3_type 83 = .ok (.iload 4, 2) := by decide +kernel
theorem dX3_type_85 : decode cX3_type 85 = .ok (.invokestatic 37, 3) := by decide +kernel
theorem dX3_type_88 : decode cX3_type 88 = .ok (.i2c, 1) := by decide +kernel
theorem dX3_type_89 : decode cX3_type 89 = .ok (.castore, 1) := by decide +kernel
theorem dX3_type_90 : decode cX3_type 90 = .ok (.aload_n 0, 1) := by decide +kernel
theorem dX3_type_91 : decode cX3_type 91 = .ok (.dup, 1) := by decide +kernel
theorem dX3_type_92 : decode cX3_type 92 = .ok (.getfield 13, 3) := by decide +kernel
theorem dX3_type_95 : decode cX3_type 95 = .ok (.iconst 1, 1) := by decide +kernel
theorem dX3_type_96 : decode cX3_type 96 = .ok (.iadd, 1) := by decide +kernel
theorem dX3_type_97 : decode cX3_type 97 = .ok (.putfield 13, 3) := by decide +kernel
theorem dX3_type_100 : decode cX3_type 100 = .ok (.iinc 4 (-1), 3) := by decide +kernel
theorem dX3_type_103 : decode cX3_type 103 = .ok (.goto (-34), 3) := by decide +kernel
theorem dX3_type_106 : decode cX3_type 106 = .ok (.aload_n 0, 1) := by decide +kernel
theorem dX3_type_107 : decode cX3_type 107 = .ok (.getfield 13, 3) := by decide +kernel
theorem dX3_type_110 : decode cX3_type 110 = .ok (.ireturn, 1) := by decide +kernel
theorem dX3_read_0 : decode cX3_read 0 = .ok (.iload_n 1, 1) := by decide +kernel
theorem dX3_read_1 : decode cX3_read 1 = .ok (.bipush 28, 2) := by decide +kernel
theorem dX3_read_3 : decode cX3_read 3 = .ok (.if_icmp .lt 9, 3) := by decide +kernel
theorem dX3_read_6 : decode cX3_read 6 = .ok (.iload_n 1, 1) := by decide +kernel
theorem dX3_read_7 : decode cX3_read 7 = .ok (.bipush 31, 2) := by decide +kernel
theorem dX3_read_9 : decode cX3_read 9 = .ok (.if_icmp .le 5, 3) := by decide +kernel
theorem dX3_read_12 : decode cX3_read 12 = .ok (.iconst (-1), 1) := by decide +kernel
theorem dX3_read_13 : decode cX3_read 13 = .ok (.ireturn, 1) := by decide +kernel
theorem dX3_read_14 : decode cX3_read 14 = .ok (.aload_n 0, 1) := by decide +kernel
theorem dX3_read_15 : decode cX3_read 15 = .ok (.getfield 33, 3) := by decide +kernel
theorem dX3_read_18 : decode cX3_read 18 = .ok (.aload_n 0, 1) := by decide +kernel
theorem dX3_read_19 : decode cX3_read 19 = .ok (.getfield 9, 3) := by decide +kernel
theorem dX3_read_22 : decode cX3_read 22 = .ok (.aload_n 0, 1) := by decide +kernel
theorem dX3_read_23 : decode cX3_read 23 = .ok (.getfield 13, 3) := by decide +kernel
theorem dX3_read_26 : decode cX3_read 26 = .ok (.iload_n 1, 1) := by decide +kernel
theorem dX3_read_27 : decode cX3_read 27 = .ok (.invokevirtual 41, 3) := by decide +kernel
theorem dX3_read_30 : decode cX3_read 30 = .ok (.istore_n 2, 1) := by decide +kernel
theorem dX3_read_31 : decode cX3_read 31 = .ok (.aload_n 0, 1) := by decide +kernel
theorem dX3_read_32 : decode cX3_read 32 = .ok (.iconst 0, 1) := by decide +kernel
theorem dX3_read_33 : decode cX3_read 33 = .ok (.putfield 13, 3) := by decide +kernel
theorem dX3_read_36 : decode cX3_read 36 = .ok (.iload_n 2, 1) := by decide +kernel
theorem dX3_read_37 : decode cX3_read 37 = .ok (.ifCond .ne 18, 3) := by decide +kernel
theorem dX3_read_40 : decode cX3_read 40 = .ok (.aload_n 0, 1) := by decide +kernel
theorem dX3_read_41 : decode cX3_read 41 = .ok (.aload_n 0, 1) := by decide +kernel
theorem dX3_read_42 : decode cX3_read 42 = .ok (.getfield 33, 3) := by decide +kernel
theorem dX3_read_45 : decode cX3_read 45 = .ok (.aload_n 0, 1) := by decide +kernel
theorem dX3_read_46 : decode cX3_read 46 = .ok (.getfield 26, 3) := by decide +kernel
theorem dX3_read_49 : decode cX3_read 49 = .ok (.invokevirtual 45, 3) := by decide +kernel
theorem dX3_read_52 : decode cX3_read 52 = .ok (.putfield 26, 3) := by decide +kernel
theorem dX3_read_55 : decode cX3_read 55 = .ok (.iload_n 2, 1) := by decide +kernel
theorem dX3_read_56 : decode cX3_read 56 = .ok (.ireturn, 1) := by decide +kernel
theorem dX3_told_0 : decode cX3_told 0 = .ok (.iload_n 1, 1) := by decide +kernel
theorem dX3_told_1 : decode cX3_told 1 = .ok (.ifCond .ne 11, 3) := by decide +kernel
theorem dX3_told_4 : decode cX3_told 4 = .ok (.aload_n 0, 1) := by decide +kernel
theorem dX3_told_5 : decode cX3_told 5 = .ok (.getfield 26, 3) := by decide +kernel
theorem dX3_told_8 : decode cX3_told 8 = .ok (.getfield 49, 3) := by decide +kernel
theorem dX3_told_11 : decode cX3_told 11 = .ok (.ireturn, 1) := by decide +kernel
theorem dX3_told_12 : decode cX3_told 12 = .ok (.iload_n 1, 1) := by decide +kernel
theorem dX3_told_13 : decode cX3_told 13 = .ok (.iconst 1, 1) := by decide +kernel
theorem dX3_told_14 : decode cX3_told 14 = .ok (.if_icmp .ne 11, 3) := by decide +kernel
theorem dX3_told_17 : decode cX3_told 17 = .ok (.aload_n 0, 1) := by decide +kernel
theorem dX3_told_18 : decode cX3_told 18 = .ok (.getfield 26, 3) := by decide +kernel
theorem dX3_told_21 : decode cX3_told 21 = .ok (.getfield 52, 3) := by decide +kernel
theorem dX3_told_24 : decode cX3_told 24 = .ok (.ireturn, 1) := by decide +kernel
theorem dX3_told_25 : decode cX3_told 25 = .ok (.aload_n 0, 1) := by decide +kernel
theorem dX3_told_26 : decode cX3_told 26 = .ok (.getfield 26, 3) := by decide +kernel
theorem dX3_told_29 : decode cX3_told 29 = .ok (.getfield 49, 3) := by decide +kernel
theorem dX3_told_32 : decode cX3_told 32 = .ok (.ifCond .ne 7, 3) := by decide +kernel
theorem dX3_told_35 : decode cX3_told 35 = .ok (.sipush (-1001), 3) := by decide +kernel
theorem dX3_told_38 : decode cX3_told 38 = .ok (.ireturn, 1) := by decide +kernel
theorem dX3_told_39 : decode cX3_told 39 = .ok (.iload_n 1, 1) := by decide +kernel
theorem dX3_told_40 : decode cX3_told 40 = .ok (.tableswitch 64 2 5 #[32, 40, 48, 56], 32) := by decide +kernel
theorem dX3_told_72 : decode cX3_told 72 = .ok (.aload_n 0, 1) := by decide +kernel
theorem dX3_told_73 : decode cX3_told 73 = .ok (.getfield 26, 3) := by decide +kernel
theorem dX3_told_76 : decode cX3_told 76 = .ok (.getfield 55, 3) := by decide +kernel
theorem dX3_told_79 : decode cX3_told 79 = .ok (.ireturn, 1) := by decide +kernel
theorem dX3_told_80 : decode cX3_told 80 = .ok (.aload_n 0, 1) := by decide +kernel
theorem dX3_told_81 : decode cX3_told 81 = .ok (.getfield 26, 3) := by decide +kernel
theorem dX3_told_84 : decode cX3_told 84 = .ok (.getfield 58, 3) := by decide +kernel
theorem dX3_told_87 : decode cX3_told 87 = .ok (.ireturn, 1) := by decide +kernel
theorem dX3_told_88 : decode cX3_told 88 = .ok (.aload_n 0, 1) := by decide +kernel
theorem dX3_told_89 : decode cX3_told 89 = .ok (.getfield 26, 3) := by decide +kernel
theorem dX3_told_92 : decode cX3_told 92 = .ok (.getfield 61, 3) := by decide +kernel
theorem dX3_told_95 : decode cX3_told 95 = .ok (.ireturn, 1) := by decide +kernel
theorem dX3_told_96 : decode cX3_told 96 = .ok (.aload_n 0, 1) := by decide +kernel
theorem dX3_told_97 : decode cX3_told 97 = .ok (.getfield 26, 3) := by decide +kernel
theorem dX3_told_100 : decode cX3_told 100 = .ok (.getfield 64, 3) := by decide +kernel
theorem dX3_told_103 : decode cX3_told 103 = .ok (.ireturn, 1) := by decide +kernel
theorem dX3_told_104 : decode cX3_told 104 = .ok (.iload_n 1, 1) := by decide +kernel
theorem dX3_told_105 : decode cX3_told 105 = .ok (.bipush 6, 2) := by decide +kernel
theorem dX3_told_107 : decode cX3_told 107 = .ok (.if_icmp .lt 24, 3) := by decide +kernel
theorem dX3_told_110 : decode cX3_told 110 = .ok (.iload_n 1, 1) := by decide +kernel
theorem dX3_told_111 : decode cX3_told 111 = .ok (.bipush 10, 2) := by decide +kernel
theorem dX3_told_113 : decode cX3_told 113 = .ok (.if_icmp .ge 18, 3) := by decide +kernel
theorem dX3_told_116 : decode cX3_told 116 = .ok (.aload_n 0, 1) := by decide +kernel
theorem dX3_told_117 : decode cX3_told 117 = .ok (.getfield 26, 3) := by decide +kernel
theorem dX3_told_120 : decode cX3_told 120 = .ok (.getfield 67, 3) := by decide +kernel
theorem dX3_told_123 : decode cX3_told 123 = .ok (.iload_n 1, 1) := by decide +kernel
theorem dX3_told_124 : decode cX3_told 124 = .ok (.bipush 6, 2) := by decide +kernel
theorem dX3_told_126 : decode cX3_told 126 = .ok (.isub, 1) := by decide +kernel
theorem dX3_told_127 : decode cX3_told 127 = .ok (.iaload, 1) := by decide +kernel
theorem dX3_told_128 : decode cX3_told 128 = .ok (.goto 6, 3) := by decide +kernel
theorem dX3_told_131 : decode cX3_told 131 = .ok (.sipush (-1001), 3) := by decide +kernel
theorem dX3_told_134 : decode cX3_told 134 = .ok (.ireturn, 1) := by decide +kernel
theorem dX3_group_0 : decode cX3_group 0 = .ok (.aload_n 0, 1) := by decide +kernel
theorem dX3_group_1 : decode cX3_group 1 = .ok (.getfield 26, 3) := by decide +kernel
theorem dX3_group_4 : decode cX3_group 4 = .ok (.iload_n 1, 1) := by decide +kernel
theorem dX3_group_5 : decode cX3_group 5 = .ok (.invokevirtual 71, 3) := by decide +kernel
theorem dX3_group_8 : decode cX3_group 8 = .ok (.ifCond .ne 5, 3) := by decide +kernel
theorem dX3_group_11 : decode cX3_group 11 = .ok (.iconst (-1), 1) := by decide +kernel
theorem dX3_group_12 : decode cX3_group 12 = .ok (.ireturn, 1) := by decide +kernel
theorem dX3_group_13 : decode cX3_group 13 = .ok (.aload_n 0, 1) := by decide +kernel
theorem dX3_group_14 : decode cX3_group 14 = .ok (.getfield 26, 3) := by decide +kernel
theorem dX3_group_17 : decode cX3_group 17 = .ok (.getfield 75, 3) := by decide +kernel
theorem dX3_group_20 : decode cX3_group 20 = .ok (.iload_n 1, 1) := by decide +kernel
theorem dX3_group_21 : decode cX3_group 21 = .ok (.aaload, 1) := by decide +kernel
theorem dX3_group_22 : decode cX3_group 22 = .ok (.astore_n 3, 1) := by decide +kernel
theorem dX3_group_23 : decode cX3_group 23 = .ok (.iload_n 2, 1) := by decide +kernel
theorem dX3_group_24 : decode cX3_group 24 = .ok (.tableswitch 106 0 9 #[56, 61, 66, 71, 76, 81, 86, 91, 96, 101], 56) := by decide +kernel
theorem dX3_group_80 : decode cX3_group 80 = .ok (.aload_n 3, 1) := by decide +kernel
theorem dX3_group_81 : decode cX3_group 81 = .ok (.getfield 79, 3) := by decide +kernel
theorem dX3_group_84 : decode cX3_group 84 = .ok (.ireturn, 1) := by decide +kernel
theorem dX3_group_85 : decode cX3_group 85 = .ok (.aload_n 3, 1) := by decide +kernel
theorem dX3_group_86 : decode cX3_group 86 = .ok (.getfield 82, 3) := by decide +kernel
theorem dX3_group_89 : decode cX3_group 89 = .ok (.ireturn, 1) := by decide +kernel
theorem dX3_group_90 : decode cX3_group 90 = .ok (.aload_n 3, 1) := by decide +kernel
theorem dX3_group_91 : decode cX3_group 91 = .ok (.getfield 85, 3) := by decide +kernel
theorem dX3_group_94 : decode cX3_group 94 = .ok (.ireturn, 1) := by decide +kernel
theorem dX3_group_95 : decode cX3_group 95 = .ok (.aload_n 3, 1) := by decide +kernel
theorem dX3_group_96 : decode cX3_group 96 = .ok (.getfield 88, 3) := by decide +kernel
theorem dX3_group_99 : decode cX3_group 99 = .ok (.ireturn, 1) := by decide +kernel
theorem dX3_group_100 : decode cX3_group 100 = .ok (.aload_n 3, 1) := by decide +kernel
theorem dX3_group_101 : decode cX3_group 101 = .ok (.getfield 91, 3) := by decide +kernel
theorem dX3_group_104 : decode cX3_group 104 = .ok (.ireturn, 1) := by decide +kernel
theorem dX3_group_105 : decode cX3_group 105 = .ok (.aload_n 3, 1) := by decide +kernel
theorem dX3_group_106 : decode cX3_group 106 = .ok (.getfield 94, 3) := by decide +kernel
theorem dX3_group_109 : decode cX3_group 109 = .ok (.ireturn, 1) := by decide +kernel
theorem dX3_group_110 : decode cX3_group 110 = .ok (.aload_n 3, 1) := by decide +kernel
theorem dX3_group_111 : decode cX3_group 111 = .ok (.getfield 97, 3) := by decide +kernel
theorem dX3_group_114 : decode cX3_group 114 = .ok (.ireturn, 1) := by decide +kernel
theorem dX3_group_115 : decode cX3_group 115 = .ok (.aload_n 3, 1) := by decide +kernel
theorem dX3_group_116 : decode cX3_group 116 = .ok (.getfield 100, 3) := by decide +kernel
theorem dX3_group_119 : decode cX3_group 119 = .ok (.ireturn, 1) := by decide +kernel
theorem dX3_group_120 : decode cX3_group 120 = .ok (.aload_n 3, 1) := by decide +kernel
theorem dX3_group_121 : decode cX3_group 121 = .ok (.getfield 103, 3) := by decide +kernel
theorem dX3_group_124 : decode cX3_group 124 = .ok (.ireturn, 1) := by decide +kernel
theorem dX3_group_125 : decode cX3_group 125 = .ok (.aload_n 3, 1) := by decide +kernel
theorem dX3_group_126 : decode cX3_group 126 = .ok (.getfield 106, 3) := by decide +kernel
theorem dX3_group_129 : decode cX3_group 129 = .ok (.ireturn, 1) := by decide +kernel
theorem dX3_group_130 : decode cX3_group 130 = .ok (.iconst (-1), 1) := by decide +kernel
theorem dX3_group_131 : decode cX3_group 131 = .ok (.ireturn, 1) := by decide +kernel
theorem dX3_weather_0 : decode cX3_weather 0 = .ok (.aload_n 0, 1) := by decide +kernel
theorem dX3_weather_1 : decode cX3_weather 1 = .ok (.getfield 26, 3) := by decide +kernel
theorem dX3_weather_4 : decode cX3_weather 4 = .ok (.iload_n 1, 1) := by decide +kernel
theorem dX3_weather_5 : decode cX3_weather 5 = .ok (.invokevirtual 71, 3) := by decide +kernel
theorem dX3_weather_8 : decode cX3_weather 8 = .ok (.ifCond .eq 23, 3) := by decide +kernel
theorem dX3_weather_11 : decode cX3_weather 11 = .ok (.iload_n 2, 1) := by decide +kernel
theorem dX3_weather_12 : decode cX3_weather 12 = .ok (.ifCond .lt 19, 3) := by decide +kernel
theorem dX3_weather_15 : decode cX3_weather 15 = .ok (.iload_n 2, 1) := by decide +kernel
theorem dX3_weather_16 : decode cX3_weather 16 = .ok (.aload_n 0, 1) := by decide +kernel
theorem dX3_weather_17 : decode cX3_weather 17 = .ok (.getfield 26, 3) := by decide +kernel
theorem dX3_weather_20 : decode cX3_weather 20 = .ok (.getfield 75, 3) := by decide +kernel
theorem dX3_weather_23 : decode cX3_weather 23 = .ok (.iload_n 1, 1) := by decide +kernel
theorem dX3_weather_24 : decode cX3_weather 24 = .ok (.aaload, 1) := by decide +kernel
theorem dX3_weather_25 : decode cX3_weather 25 = .ok (.getfield 103, 3) := by decide +kernel
theorem dX3_weather_28 : decode cX3_weather 28 = .ok (.if_icmp .lt 5, 3) := by decide +kernel
theorem dX3_weather_31 : decode cX3_weather 31 = .ok (.iconst (-1), 1) := by decide +kernel
theorem dX3_weather_32 : decode cX3_weather 32 = .ok (.ireturn, 1) := by decide +kernel
theorem dX3_weather_33 : decode cX3_weather 33 = .ok (.aload_n 0, 1) := by decide +kernel
theorem dX3_weather_34 : decode cX3_weather 34 = .ok (.getfield 26, 3) := by decide +kernel
theorem dX3_weather_37 : decode cX3_weather 37 = .ok (.getfield 75, 3) := by decide +kernel
theorem dX3_weather_40 : decode cX3_weather 40 = .ok (.iload_n 1, 1) := by decide +kernel
theorem dX3_weather_41 : decode cX3_weather 41 = .ok (.aaload, 1) := by decide +kernel
theorem dX3_weather_42 : decode cX3_weather 42 = .ok (.getfield 109, 3) := by decide +kernel
theorem dX3_weather_45 : decode cX3_weather 45 = .ok (.iload_n 2, 1) := by decide +kernel
theorem dX3_weather_46 : decode cX3_weather 46 = .ok (.iaload, 1) := by decide +kernel
theorem dX3_weather_47 : decode cX3_weather 47 = .ok (.ireturn, 1) := by decide +kernel
theorem dX3_cloud_0 : decode cX3_cloud 0 = .ok (.aload_n 0, 1) := by decide +kernel
theorem dX3_cloud_1 : decode cX3_cloud 1 = .ok (.getfield 26, 3) := by decide +kernel
theorem dX3_cloud_4 : decode cX3_cloud 4 = .ok (.iload_n 1, 1) := by decide +kernel
theorem dX3_cloud_5 : decode cX3_cloud 5 = .ok (.invokevirtual 71, 3) := by decide +kernel
theorem dX3_cloud_8 : decode cX3_cloud 8 = .ok (.ifCond .eq 23, 3) := by decide +kernel
theorem dX3_cloud_11 : decode cX3_cloud 11 = .ok (.iload_n 2, 1) := by decide +kernel
theorem dX3_cloud_12 : decode cX3_cloud 12 = .ok (.ifCond .lt 19, 3) := by decide +kernel
theorem dX3_cloud_15 : decode cX3_cloud 15 = .ok (.iload_n 2, 1) := by decide +kernel
theorem dX3_cloud_16 : decode cX3_cloud 16 = .ok (.aload_n 0, 1) := by decide +kernel
theorem dX3_cloud_17 : decode cX3_cloud 17 = .ok (.getfield 26, 3) := by decide +kernel
theorem dX3_cloud_20 : decode cX3_cloud 20 = .ok (.getfield 75, 3) := by decide +kernel
theorem dX3_cloud_23 : decode cX3_cloud 23 = .ok (.iload_n 1, 1) := by decide +kernel
theorem dX3_cloud_24 : decode cX3_cloud 24 = .ok (.aaload, 1) := by decide +kernel
theorem dX3_cloud_25 : decode cX3_cloud 25 = .ok (.getfield 106, 3) := by decide +kernel
theorem dX3_cloud_28 : decode cX3_cloud 28 = .ok (.if_icmp .lt 5, 3) := by decide +kernel
theorem dX3_cloud_31 : decode cX3_cloud 31 = .ok (.iconst (-1), 1) := by decide +kernel
theorem dX3_cloud_32 : decode cX3_cloud 32 = .ok (.ireturn, 1) := by decide +kernel
theorem dX3_cloud_33 : decode cX3_cloud 33 = .ok (.aload_n 0, 1) := by decide +kernel
theorem dX3_cloud_34 : decode cX3_cloud 34 = .ok (.getfield 26, 3) := by decide +kernel
theorem dX3_cloud_37 : decode cX3_cloud 37 = .ok (.getfield 75, 3) := by decide +kernel
theorem dX3_cloud_40 : decode cX3_cloud 40 = .ok (.iload_n 1, 1) := by decide +kernel
theorem dX3_cloud_41 : decode cX3_cloud 41 = .ok (.aaload, 1) := by decide +kernel
theorem dX3_cloud_42 : decode cX3_cloud 42 = .ok (.getfield 112, 3) := by decide +kernel
theorem dX3_cloud_45 : decode cX3_cloud 45 = .ok (.iload_n 2, 1) := by decide +kernel
theorem dX3_cloud_46 : decode cX3_cloud 46 = .ok (.iaload, 1) := by decide +kernel
theorem dX3_cloud_47 : decode cX3_cloud 47 = .ok (.ireturn, 1) := by decide +kernel
theorem dX3_from_0 : decode cX3_from 0 = .ok (.aload_n 0, 1) := by decide +kernel
theorem dX3_from_1 : decode cX3_from 1 = .ok (.getfield 26, 3) := by decide +kernel
theorem dX3_from_4 : decode cX3_from 4 = .ok (.iload_n 1, 1) := by decide +kernel
theorem dX3_from_5 : decode cX3_from 5 = .ok (.invokevirtual 115, 3) := by decide +kernel
theorem dX3_from_8 : decode cX3_from 8 = .ok (.ifCond .eq 12, 3) := by decide +kernel
theorem dX3_from_11 : decode cX3_from 11 = .ok (.iload_n 2, 1) := by decide +kernel
theorem dX3_from_12 : decode cX3_from 12 = .ok (.ifCond .lt 8, 3) := by decide +kernel
theorem dX3_from_15 : decode cX3_from 15 = .ok (.iload_n 2, 1) := by decide +kernel
theorem dX3_from_16 : decode cX3_from 16 = .ok (.iconst 4, 1) := by decide +kernel
theorem dX3_from_17 : decode cX3_from 17 = .ok (.if_icmp .lt 5, 3) := by decide +kernel
theorem dX3_from_20 : decode cX3_from 20 = .ok (.iconst (-1), 1) := by decide +kernel
theorem dX3_from_21 : decode cX3_from 21 = .ok (.ireturn, 1) := by decide +kernel
theorem dX3_from_22 : decode cX3_from 22 = .ok (.aload_n 0, 1) := by decide +kernel
theorem dX3_from_23 : decode cX3_from 23 = .ok (.getfield 26, 3) := by decide +kernel
theorem dX3_from_26 : decode cX3_from 26 = .ok (.iload_n 1, 1) := by decide +kernel
theorem dX3_from_27 : decode cX3_from 27 = .ok (.iload_n 2, 1) := by decide +kernel
theorem dX3_from_28 : decode cX3_from 28 = .ok (.invokevirtual 118, 3) := by decide +kernel
theorem dX3_from_31 : decode cX3_from 31 = .ok (.ireturn, 1) := by decide +kernel
theorem dX3_active_0 : decode cX3_active 0 = .ok (.aload_n 0, 1) := by decide +kernel
theorem dX3_active_1 : decode cX3_active 1 = .ok (.getfield 26, 3) := by decide +kernel
theorem dX3_active_4 : decode cX3_active 4 = .ok (.iload_n 1, 1) := by decide +kernel
theorem dX3_active_5 : decode cX3_active 5 = .ok (.invokevirtual 115, 3) := by decide +kernel
theorem dX3_active_8 : decode cX3_active 8 = .ok (.ifCond .eq 14, 3) := by decide +kernel
theorem dX3_active_11 : decode cX3_active 11 = .ok (.aload_n 0, 1) := by decide +kernel
theorem dX3_active_12 : decode cX3_active 12 = .ok (.getfield 26, 3) := by decide +kernel
theorem dX3_active_15 : decode cX3_active 15 = .ok (.iload_n 1, 1) := by decide +kernel
theorem dX3_active_16 : decode cX3_active 16 = .ok (.invokevirtual 122, 3) := by decide +kernel
theorem dX3_active_19 : decode cX3_active 19 = .ok (.goto 4, 3) := by decide +kernel
theorem dX3_active_22 : decode cX3_active 22 = .ok (.iconst (-1), 1) := by decide +kernel
theorem dX3_active_23 : decode cX3_active 23 = .ok (.ireturn, 1) := by decide +kernel
theorem dX3_activeOne_0 : decode cX3_activeOne 0 = .ok (.aload_n 0, 1) := by decide +kernel
theorem dX3_activeOne_1 : decode cX3_activeOne 1 = .ok (.getfield 26, 3) := by decide +kernel
theorem dX3_activeOne_4 : decode cX3_activeOne 4 = .ok (.iload_n 1, 1) := by decide +kernel
theorem dX3_activeOne_5 : decode cX3_activeOne 5 = .ok (.invokevirtual 115, 3) := by decide +kernel
theorem dX3_activeOne_8 : decode cX3_activeOne 8 = .ok (.ifCond .eq 15, 3) := by decide +kernel
theorem dX3_activeOne_11 : decode cX3_activeOne 11 = .ok (.aload_n 0, 1) := by decide +kernel
theorem dX3_activeOne_12 : decode cX3_activeOne 12 = .ok (.getfield 26, 3) := by decide +kernel
theorem dX3_activeOne_15 : decode cX3_activeOne 15 = .ok (.iload_n 1, 1) := by decide +kernel
theorem dX3_activeOne_16 : decode cX3_activeOne 16 = .ok (.iload_n 2, 1) := by decide +kernel
theorem dX3_activeOne_17 : decode cX3_activeOne 17 = .ok (.invokevirtual 126, 3) := by decide +kernel
theorem dX3_activeOne_20 : decode cX3_activeOne 20 = .ok (.goto 4, 3) := by decide +kernel
theorem dX3_activeOne_23 : decode cX3_activeOne 23 = .ok (.iconst (-1), 1) := by decide +kernel
theorem dX3_activeOne_24 : decode cX3_activeOne 24 = .ok (.ireturn, 1) := by decide +kernel
theorem dX3_least_0 : decode cX3_least 0 = .ok (.aload_n 0, 1) := by decide +kernel
theorem dX3_least_1 : decode cX3_least 1 = .ok (.getfield 26, 3) := by decide +kernel
theorem dX3_least_4 : decode cX3_least 4 = .ok (.iload_n 1, 1) := by decide +kernel
theorem dX3_least_5 : decode cX3_least 5 = .ok (.invokevirtual 115, 3) := by decide +kernel
theorem dX3_least_8 : decode cX3_least 8 = .ok (.ifCond .eq 14, 3) := by decide +kernel
theorem dX3_least_11 : decode cX3_least 11 = .ok (.aload_n 0, 1) := by decide +kernel
theorem dX3_least_12 : decode cX3_least 12 = .ok (.getfield 26, 3) := by decide +kernel
theorem dX3_least_15 : decode cX3_least 15 = .ok (.iload_n 1, 1) := by decide +kernel
theorem dX3_least_16 : decode cX3_least 16 = .ok (.invokevirtual 129, 3) := by decide +kernel
theorem dX3_least_19 : decode cX3_least 19 = .ok (.goto 4, 3) := by decide +kernel
theorem dX3_least_22 : decode cX3_least 22 = .ok (.iconst (-1), 1) := by decide +kernel
theorem dX3_least_23 : decode cX3_least 23 = .ok (.ireturn, 1) := by decide +kernel
theorem dX3_ceiling_0 : decode cX3_ceiling 0 = .ok (.aload_n 0, 1) := by decide +kernel
theorem dX3_ceiling_1 : decode cX3_ceiling 1 = .ok (.getfield 26, 3) := by decide +kernel
theorem dX3_ceiling_4 : decode cX3_ceiling 4 = .ok (.iload_n 1, 1) := by decide +kernel
theorem dX3_ceiling_5 : decode cX3_ceiling 5 = .ok (.invokevirtual 115, 3) := by decide +kernel
theorem dX3_ceiling_8 : decode cX3_ceiling 8 = .ok (.ifCond .eq 12, 3) := by decide +kernel
theorem dX3_ceiling_11 : decode cX3_ceiling 11 = .ok (.iload_n 2, 1) := by decide +kernel
theorem dX3_ceiling_12 : decode cX3_ceiling 12 = .ok (.ifCond .lt 8, 3) := by decide +kernel
theorem dX3_ceiling_15 : decode cX3_ceiling 15 = .ok (.iload_n 2, 1) := by decide +kernel
theorem dX3_ceiling_16 : decode cX3_ceiling 16 = .ok (.iconst 1, 1) := by decide +kernel
theorem dX3_ceiling_17 : decode cX3_ceiling 17 = .ok (.if_icmp .le 5, 3) := by decide +kernel
theorem dX3_ceiling_20 : decode cX3_ceiling 20 = .ok (.iconst (-1), 1) := by decide +kernel
theorem dX3_ceiling_21 : decode cX3_ceiling 21 = .ok (.ireturn, 1) := by decide +kernel
theorem dX3_ceiling_22 : decode cX3_ceiling 22 = .ok (.aload_n 0, 1) := by decide +kernel
theorem dX3_ceiling_23 : decode cX3_ceiling 23 = .ok (.getfield 26, 3) := by decide +kernel
theorem dX3_ceiling_26 : decode cX3_ceiling 26 = .ok (.iload_n 1, 1) := by decide +kernel
theorem dX3_ceiling_27 : decode cX3_ceiling 27 = .ok (.iload_n 2, 1) := by decide +kernel
theorem dX3_ceiling_28 : decode cX3_ceiling 28 = .ok (.iconst 1, 1) := by decide +kernel
theorem dX3_ceiling_29 : decode cX3_ceiling 29 = .ok (.if_icmp .ne 7, 3) := by decide +kernel
theorem dX3_ceiling_32 : decode cX3_ceiling 32 = .ok (.iconst 1, 1) := by decide +kernel
theorem dX3_ceiling_33 : decode cX3_ceiling 33 = .ok (.goto 4, 3) := by decide +kernel
theorem dX3_ceiling_36 : decode cX3_ceiling 36 = .ok (.iconst 0, 1) := by decide +kernel
theorem dX3_ceiling_37 : decode cX3_ceiling 37 = .ok (.invokevirtual 132, 3) := by decide +kernel
theorem dX3_ceiling_40 : decode cX3_ceiling 40 = .ok (.ireturn, 1) := by decide +kernel
theorem dX3_next_0 : decode cX3_next 0 = .ok (.aload_n 0, 1) := by decide +kernel
theorem dX3_next_1 : decode cX3_next 1 = .ok (.getfield 26, 3) := by decide +kernel
theorem dX3_next_4 : decode cX3_next 4 = .ok (.iload_n 1, 1) := by decide +kernel
theorem dX3_next_5 : decode cX3_next 5 = .ok (.invokevirtual 115, 3) := by decide +kernel
theorem dX3_next_8 : decode cX3_next 8 = .ok (.ifCond .eq 14, 3) := by decide +kernel
theorem dX3_next_11 : decode cX3_next 11 = .ok (.aload_n 0, 1) := by decide +kernel
theorem dX3_next_12 : decode cX3_next 12 = .ok (.getfield 26, 3) := by decide +kernel
theorem dX3_next_15 : decode cX3_next 15 = .ok (.iload_n 1, 1) := by decide +kernel
theorem dX3_next_16 : decode cX3_next 16 = .ok (.invokevirtual 136, 3) := by decide +kernel
theorem dX3_next_19 : decode cX3_next 19 = .ok (.goto 4, 3) := by decide +kernel
theorem dX3_next_22 : decode cX3_next 22 = .ok (.iconst (-1), 1) := by decide +kernel
theorem dX3_next_23 : decode cX3_next 23 = .ok (.ireturn, 1) := by decide +kernel
theorem dX3_print_0 : decode cX3_print 0 = .ok (.iconst 0, 1) := by decide +kernel
theorem dX3_print_1 : decode cX3_print 1 = .ok (.istore_n 1, 1) := by decide +kernel
theorem dX3_print_2 : decode cX3_print 2 = .ok (.iload_n 1, 1) := by decide +kernel
theorem dX3_print_3 : decode cX3_print 3 = .ok (.aload_n 0, 1) := by decide +kernel
theorem dX3_print_4 : decode cX3_print 4 = .ok (.getfield 26, 3) := by decide +kernel
theorem dX3_print_7 : decode cX3_print 7 = .ok (.getfield 139, 3) := by decide +kernel
theorem dX3_print_10 : decode cX3_print 10 = .ok (.if_icmp .ge 24, 3) := by decide +kernel
theorem dX3_print_13 : decode cX3_print 13 = .ok (.aload_n 0, 1) := by decide +kernel
theorem dX3_print_14 : decode cX3_print 14 = .ok (.getfield 17, 3) := by decide +kernel
theorem dX3_print_17 : decode cX3_print 17 = .ok (.iload_n 1, 1) := by decide +kernel
theorem dX3_print_18 : decode cX3_print 18 = .ok (.aload_n 0, 1) := by decide +kernel
theorem dX3_print_19 : decode cX3_print 19 = .ok (.getfield 26, 3) := by decide +kernel
theorem dX3_print_22 : decode cX3_print 22 = .ok (.getfield 142, 3) := by decide +kernel
theorem dX3_print_25 : decode cX3_print 25 = .ok (.iload_n 1, 1) := by decide +kernel
theorem dX3_print_26 : decode cX3_print 26 = .ok (.caload, 1) := by decide +kernel
theorem dX3_print_27 : decode cX3_print 27 = .ok (.castore, 1) := by decide +kernel
theorem dX3_print_28 : decode cX3_print 28 = .ok (.iinc 1 1, 3) := by decide +kernel
theorem dX3_print_31 : decode cX3_print 31 = .ok (.goto (-29), 3) := by decide +kernel
theorem dX3_print_34 : decode cX3_print 34 = .ok (.aload_n 0, 1) := by decide +kernel
theorem dX3_print_35 : decode cX3_print 35 = .ok (.aload_n 0, 1) := by decide +kernel
theorem dX3_print_36 : decode cX3_print 36 = .ok (.getfield 26, 3) := by decide +kernel
theorem dX3_print_39 : decode cX3_print 39 = .ok (.getfield 139, 3) := by decide +kernel
theorem dX3_print_42 : decode cX3_print 42 = .ok (.putfield 20, 3) := by decide +kernel
theorem dX3_print_45 : decode cX3_print 45 = .ok (.aload_n 0, 1) := by decide +kernel
theorem dX3_print_46 : decode cX3_print 46 = .ok (.getfield 20, 3) := by decide +kernel
theorem dX3_print_49 : decode cX3_print 49 = .ok (.ireturn, 1) := by decide +kernel
theorem dX3_character_0 : decode cX3_character 0 = .ok (.iload_n 1, 1) := by decide +kernel
theorem dX3_character_1 : decode cX3_character 1 = .ok (.ifCond .lt 20, 3) := by decide +kernel
theorem dX3_character_4 : decode cX3_character 4 = .ok (.iload_n 1, 1) := by decide +kernel
theorem dX3_character_5 : decode cX3_character 5 = .ok (.aload_n 0, 1) := by decide +kernel
theorem dX3_character_6 : decode cX3_character 6 = .ok (.getfield 20, 3) := by decide +kernel
theorem dX3_character_9 : decode cX3_character 9 = .ok (.if_icmp .ge 12, 3) := by decide +kernel
theorem dX3_character_12 : decode cX3_character 12 = .ok (.aload_n 0, 1) := by decide +kernel
theorem dX3_character_13 : decode cX3_character 13 = .ok (.getfield 17, 3) := by decide +kernel
theorem dX3_character_16 : decode cX3_character 16 = .ok (.iload_n 1, 1) := by decide +kernel
theorem dX3_character_17 : decode cX3_character 17 = .ok (.caload, 1) := by decide +kernel
theorem dX3_character_18 : decode cX3_character 18 = .ok (.goto 4, 3) := by decide +kernel
theorem dX3_character_21 : decode cX3_character 21 = .ok (.iconst (-1), 1) := by decide +kernel
theorem dX3_character_22 : decode cX3_character 22 = .ok (.ireturn, 1) := by decide +kernel
theorem dX3_check_0 : decode cX3_check 0 = .ok (.aload_n 0, 1) := by decide +kernel
theorem dX3_check_1 : decode cX3_check 1 = .ok (.getfield 26, 3) := by decide +kernel
theorem dX3_check_4 : decode cX3_check 4 = .ok (.getfield 49, 3) := by decide +kernel
theorem dX3_check_7 : decode cX3_check 7 = .ok (.ifCond .ne 5, 3) := by decide +kernel
theorem dX3_check_10 : decode cX3_check 10 = .ok (.iconst 1, 1) := by decide +kernel
theorem dX3_check_11 : decode cX3_check 11 = .ok (.ireturn, 1) := by decide +kernel
theorem dX3_check_12 : decode cX3_check 12 = .ok (.aload_n 0, 1) := by decide +kernel
theorem dX3_check_13 : decode cX3_check 13 = .ok (.getfield 33, 3) := by decide +kernel
theorem dX3_check_16 : decode cX3_check 16 = .ok (.aload_n 0, 1) := by decide +kernel
theorem dX3_check_17 : decode cX3_check 17 = .ok (.getfield 26, 3) := by decide +kernel
theorem dX3_check_20 : decode cX3_check 20 = .ok (.getfield 142, 3) := by decide +kernel
theorem dX3_check_23 : decode cX3_check 23 = .ok (.aload_n 0, 1) := by decide +kernel
theorem dX3_check_24 : decode cX3_check 24 = .ok (.getfield 26, 3) := by decide +kernel
theorem dX3_check_27 : decode cX3_check 27 = .ok (.getfield 139, 3) := by decide +kernel
theorem dX3_check_30 : decode cX3_check 30 = .ok (.aload_n 0, 1) := by decide +kernel
theorem dX3_check_31 : decode cX3_check 31 = .ok (.getfield 26, 3) := by decide +kernel
theorem dX3_check_34 : decode cX3_check 34 = .ok (.getfield 145, 3) := by decide +kernel
theorem dX3_check_37 : decode cX3_check 37 = .ok (.invokevirtual 41, 3) := by decide +kernel
theorem dX3_check_40 : decode cX3_check 40 = .ok (.istore_n 1, 1) := by decide +kernel
theorem dX3_check_41 : decode cX3_check 41 = .ok (.iload_n 1, 1) := by decide +kernel
theorem dX3_check_42 : decode cX3_check 42 = .ok (.ifCond .ne 34, 3) := by decide +kernel
theorem dX3_check_45 : decode cX3_check 45 = .ok (.aload_n 0, 1) := by decide +kernel
theorem dX3_check_46 : decode cX3_check 46 = .ok (.getfield 26, 3) := by decide +kernel
theorem dX3_check_49 : decode cX3_check 49 = .ok (.aload_n 0, 1) := by decide +kernel
theorem dX3_check_50 : decode cX3_check 50 = .ok (.getfield 33, 3) := by decide +kernel
theorem dX3_check_53 : decode cX3_check 53 = .ok (.getfield 148, 3) := by decide +kernel
theorem dX3_check_56 : decode cX3_check 56 = .ok (.invokevirtual 151, 3) := by decide +kernel
theorem dX3_check_59 : decode cX3_check 59 = .ok (.ifCond .eq 17, 3) := by decide +kernel
theorem dX3_check_62 : decode cX3_check 62 = .ok (.aload_n 0, 1) := by decide +kernel
theorem dX3_check_63 : decode cX3_check 63 = .ok (.getfield 26, 3) := by decide +kernel
theorem dX3_check_66 : decode cX3_check 66 = .ok (.invokevirtual 155, 3) := by decide +kernel
theorem dX3_check_69 : decode cX3_check 69 = .ok (.ifCond .eq 7, 3) := by decide +kernel
theorem dX3_check_72 : decode cX3_check 72 = .ok (.iconst 1, 1) := by decide +kernel
theorem dX3_check_73 : decode cX3_check 73 = .ok (.goto 4, 3) := by decide +kernel
theorem dX3_check_76 : decode cX3_check 76 = .ok (.iconst 0, 1) := by decide +kernel
theorem dX3_check_77 : decode cX3_check 77 = .ok (.ireturn, 1) := by decide +kernel
theorem dX3_byteOf_0 : decode cX3_byteOf 0 = .ok (.lload_n 0, 1) := by decide +kernel
theorem dX3_byteOf_1 : decode cX3_byteOf 1 = .ok (.bipush 8, 2) := by decide +kernel
theorem dX3_byteOf_3 : decode cX3_byteOf 3 = .ok (.iload_n 2, 1) := by decide +kernel
theorem dX3_byteOf_4 : decode cX3_byteOf 4 = .ok (.imul, 1) := by decide +kernel
theorem dX3_byteOf_5 : decode cX3_byteOf 5 = .ok (.lshr, 1) := by decide +kernel
theorem dX3_byteOf_6 : decode cX3_byteOf 6 = .ok (.l2i, 1) := by decide +kernel
theorem dX3_byteOf_7 : decode cX3_byteOf 7 = .ok (.sipush 255, 3) := by decide +kernel
theorem dX3_byteOf_10 : decode cX3_byteOf 10 = .ok (.iand, 1) := by decide +kernel
theorem dX3_byteOf_11 : decode cX3_byteOf 11 = .ok (.ireturn, 1) := by decide +kernel
theorem dJ0_length_8abf5_0 : decode cJ0_length_8abf5 0 = .ok (.aload_n 0, 1) := by decide +kernel
theorem dJ0_length_8abf5_1 : decode cJ0_length_8abf5 1 = .ok (.getfield 9, 3) := by decide +kernel
theorem dJ0_length_8abf5_4 : decode cJ0_length_8abf5 4 = .ok (.arraylength, 1) := by decide +kernel
theorem dJ0_length_8abf5_5 : decode cJ0_length_8abf5 5 = .ok (.aload_n 0, 1) := by decide +kernel
theorem dJ0_length_8abf5_6 : decode cJ0_length_8abf5 6 = .ok (.invokevirtual 335, 3) := by decide +kernel
theorem dJ0_length_8abf5_9 : decode cJ0_length_8abf5 9 = .ok (.ishr, 1) := by decide +kernel
theorem dJ0_length_8abf5_10 : decode cJ0_length_8abf5 10 = .ok (.ireturn, 1) := by decide +kernel
theorem dJ0_charAt_5068e_0 : decode cJ0_charAt_5068e 0 = .ok (.aload_n 0, 1) := by decide +kernel
theorem dJ0_charAt_5068e_1 : decode cJ0_charAt_5068e 1 = .ok (.invokevirtual 492, 3) := by decide +kernel
theorem dJ0_charAt_5068e_4 : decode cJ0_charAt_5068e 4 = .ok (.ifCond .eq 12, 3) := by decide +kernel
theorem dJ0_charAt_5068e_7 : decode cJ0_charAt_5068e 7 = .ok (.aload_n 0, 1) := by decide +kernel
theorem dJ0_charAt_5068e_8 : decode cJ0_charAt_5068e 8 = .ok (.getfield 9, 3) := by decide +kernel
theorem dJ0_charAt_5068e_11 : decode cJ0_charAt_5068e 11 = .ok (.iload_n 1, 1) := by decide +kernel
theorem dJ0_charAt_5068e_12 : decode cJ0_charAt_5068e 12 = .ok (.invokestatic 495, 3) := by decide +kernel
theorem dJ0_charAt_5068e_15 : decode cJ0_charAt_5068e 15 = .ok (.ireturn, 1) := by decide +kernel
theorem dJ0_charAt_5068e_16 : decode cJ0_charAt_5068e 16 = .ok (.aload_n 0, 1) := by decide +kernel
theorem dJ0_charAt_5068e_17 : decode cJ0_charAt_5068e 17 = .ok (.getfield 9, 3) := by decide +kernel
theorem dJ0_charAt_5068e_20 : decode cJ0_charAt_5068e 20 = .ok (.iload_n 1, 1) := by decide +kernel
theorem dJ0_charAt_5068e_21 : decode cJ0_charAt_5068e 21 = .ok (.invokestatic 498, 3) := by decide +kernel
theorem dJ0_charAt_5068e_24 : decode cJ0_charAt_5068e 24 = .ok (.ireturn, 1) := by decide +kernel
theorem dJ0_coder_7d493_0 : decode cJ0_coder_7d493 0 = .ok (.getstatic 38, 3) := by decide +kernel
theorem dJ0_coder_7d493_3 : decode cJ0_coder_7d493 3 = .ok (.ifCond .eq 10, 3) := by decide +kernel
theorem dJ0_coder_7d493_6 : decode cJ0_coder_7d493 6 = .ok (.aload_n 0, 1) := by decide +kernel
theorem dJ0_coder_7d493_7 : decode cJ0_coder_7d493 7 = .ok (.getfield 15, 3) := by decide +kernel
theorem dJ0_coder_7d493_10 : decode cJ0_coder_7d493 10 = .ok (.goto 4, 3) := by decide +kernel
theorem dJ0_coder_7d493_13 : decode cJ0_coder_7d493 13 = .ok (.iconst 1, 1) := by decide +kernel
theorem dJ0_coder_7d493_14 : decode cJ0_coder_7d493 14 = .ok (.ireturn, 1) := by decide +kernel
theorem dJ0_isLatin1_aae02_0 : decode cJ0_isLatin1_aae02 0 = .ok (.getstatic 38, 3) := by decide +kernel
theorem dJ0_isLatin1_aae02_3 : decode cJ0_isLatin1_aae02 3 = .ok (.ifCond .eq 14, 3) := by decide +kernel
theorem dJ0_isLatin1_aae02_6 : decode cJ0_isLatin1_aae02 6 = .ok (.aload_n 0, 1) := by decide +kernel
theorem dJ0_isLatin1_aae02_7 : decode cJ0_isLatin1_aae02 7 = .ok (.getfield 15, 3) := by decide +kernel
theorem dJ0_isLatin1_aae02_10 : decode cJ0_isLatin1_aae02 10 = .ok (.ifCond .ne 7, 3) := by decide +kernel
theorem dJ0_isLatin1_aae02_13 : decode cJ0_isLatin1_aae02 13 = .ok (.iconst 1, 1) := by decide +kernel
theorem dJ0_isLatin1_aae02_14 : decode cJ0_isLatin1_aae02 14 = .ok (.goto 4, 3) := by decide +kernel
theorem dJ0_isLatin1_aae02_17 : decode cJ0_isLatin1_aae02 17 = .ok (.iconst 0, 1) := by decide +kernel
theorem dJ0_isLatin1_aae02_18 : decode cJ0_isLatin1_aae02 18 = .ok (.ireturn, 1) := by decide +kernel
theorem dJ0_checkIndex_df160_0 : decode cJ0_checkIndex_df160 0 = .ok (.iload_n 0, 1) := by decide +kernel
theorem dJ0_checkIndex_df160_1 : decode cJ0_checkIndex_df160 1 = .ok (.iload_n 1, 1) := by decide +kernel
theorem dJ0_checkIndex_df160_2 : decode cJ0_checkIndex_df160 2 = .ok (.getstatic 1053, 3) := by decide +kernel
theorem dJ0_checkIndex_df160_5 : decode cJ0_checkIndex_df160 5 = .ok (.invokestatic 1059, 3) := by decide +kernel
theorem dJ0_checkIndex_df160_8 : decode cJ0_checkIndex_df160 8 = .ok (.pop, 1) := by decide +kernel
theorem dJ0_checkIndex_df160_9 : decode cJ0_checkIndex_df160 9 = .ok (.return_, 1) := by decide +kernel
theorem dJ1_charAt_3b067_0 : decode cJ1_charAt_3b067 0 = .ok (.iload_n 1, 1) := by decide +kernel
theorem dJ1_charAt_3b067_1 : decode cJ1_charAt_3b067 1 = .ok (.aload_n 0, 1) := by decide +kernel
theorem dJ1_charAt_3b067_2 : decode cJ1_charAt_3b067 2 = .ok (.arraylength, 1) := by decide +kernel
theorem dJ1_charAt_3b067_3 : decode cJ1_charAt_3b067 3 = .ok (.invokestatic 9, 3) := by decide +kernel
theorem dJ1_charAt_3b067_6 : decode cJ1_charAt_3b067 6 = .ok (.aload_n 0, 1) := by decide +kernel
theorem dJ1_charAt_3b067_7 : decode cJ1_charAt_3b067 7 = .ok (.iload_n 1, 1) := by decide +kernel
theorem dJ1_charAt_3b067_8 : decode cJ1_charAt_3b067 8 = .ok (.baload, 1) := by decide +kernel
theorem dJ1_charAt_3b067_9 : decode cJ1_charAt_3b067 9 = .ok (.sipush 255, 3) := by decide +kernel
theorem dJ1_charAt_3b067_12 : decode cJ1_charAt_3b067 12 = .ok (.iand, 1) := by decide +kernel
theorem dJ1_charAt_3b067_13 : decode cJ1_charAt_3b067 13 = .ok (.i2c, 1) := by decide +kernel
theorem dJ1_charAt_3b067_14 : decode cJ1_charAt_3b067 14 = .ok (.ireturn, 1) := by decide +kernel
theorem dJ2_getChar_3b067_0 : decode cJ2_getChar_3b067 0 = .ok (.getstatic 44, 3) := by decide +kernel
theorem dJ2_getChar_3b067_3 : decode cJ2_getChar_3b067 3 = .ok (.ifCond .ne 25, 3) := by decide +kernel
theorem dJ2_getChar_3b067_6 : decode cJ2_getChar_3b067 6 = .ok (.iload_n 1, 1) := by decide +kernel
theorem dJ2_getChar_3b067_7 : decode cJ2_getChar_3b067 7 = .ok (.ifCond .lt 11, 3) := by decide +kernel
theorem dJ2_getChar_3b067_10 : decode cJ2_getChar_3b067 10 = .ok (.iload_n 1, 1) := by decide +kernel
theorem dJ2_getChar_3b067_11 : decode cJ2_getChar_3b067 11 = .ok (.aload_n 0, 1) := by decide +kernel
theorem dJ2_getChar_3b067_12 : decode cJ2_getChar_3b067 12 = .ok (.invokestatic 48, 3) := by decide +kernel
theorem dJ2_getChar_3b067_15 : decode cJ2_getChar_3b067 15 = .ok (.if_icmp .lt 13, 3) := by decide +kernel
theorem dJ2_getChar_3b067_18 : decode cJ2_getChar_3b067 18 = .ok (.new 52, 3) := by decide +kernel
theorem dJ2_getChar_3b067_21 : decode cJ2_getChar_3b067 21 = .ok (.dup, 1) := by decide +kernel
theorem dJ2_getChar_3b067_22 : decode cJ2_getChar_3b067 22 = .ok (.ldc 54, 2) := by decide +kernel
theorem dJ2_getChar_3b067_24 : decode cJ2_getChar_3b067 24 = .ok (.invokespecial 56, 3) := by decide +kernel
theorem dJ2_getChar_3b067_27 : decode cJ2_getChar_3b067 27 = .ok (.athrow, 1) := by decide +kernel
theorem dJ2_getChar_3b067_28 : decode cJ2_getChar_3b067 28 = .ok (.iload_n 1, 1) := by decide +kernel
theorem dJ2_getChar_3b067_29 : decode cJ2_getChar_3b067 29 = .ok (.iconst 1, 1) := by decide +kernel
theorem dJ2_getChar_3b067_30 : decode cJ2_getChar_3b067 30 = .ok (.ishl, 1) := by decide +kernel
theorem dJ2_getChar_3b067_31 : decode cJ2_getChar_3b067 31 = .ok (.istore_n 1, 1) := by decide +kernel
theorem dJ2_getChar_3b067_32 : decode cJ2_getChar_3b067 32 = .ok (.aload_n 0, 1) := by decide +kernel
theorem dJ2_getChar_3b067_33 : decode cJ2_getChar_3b067 33 = .ok (.iload_n 1, 1) := by decide +kernel
theorem dJ2_getChar_3b067_34 : decode cJ2_getChar_3b067 34 = .ok (.iinc 1 1, 3) := by decide +kernel
theorem dJ2_getChar_3b067_37 : decode cJ2_getChar_3b067 37 = .ok (.baload, 1) := by decide +kernel
theorem dJ2_getChar_3b067_38 : decode cJ2_getChar_3b067 38 = .ok (.sipush 255, 3) := by decide +kernel
theorem dJ2_getChar_3b067_41 : decode cJ2_getChar_3b067 41 = .ok (.iand, 1) := by decide +kernel
theorem dJ2_getChar_3b067_42 : decode cJ2_getChar_3b067 42 = .ok (.getstatic 59, 3) := by decide +kernel
theorem dJ2_getChar_3b067_45 : decode cJ2_getChar_3b067 45 = .ok (.ishl, 1) := by decide +kernel
theorem dJ2_getChar_3b067_46 : decode cJ2_getChar_3b067 46 = .ok (.aload_n 0, 1) := by decide +kernel
theorem dJ2_getChar_3b067_47 : decode cJ2_getChar_3b067 47 = .ok (.iload_n 1, 1) := by decide +kernel
theorem dJ2_getChar_3b067_48 : decode cJ2_getChar_3b067 48 = .ok (.baload, 1) := by decide +kernel
theorem dJ2_getChar_3b067_49 : decode cJ2_getChar_3b067 49 = .ok (.sipush 255, 3) := by decide +kernel
theorem dJ2_getChar_3b067_52 : decode cJ2_getChar_3b067 52 = .ok (.iand, 1) := by decide +kernel
theorem dJ2_getChar_3b067_53 : decode cJ2_getChar_3b067 53 = .ok (.getstatic 63, 3) := by decide +kernel
theorem dJ2_getChar_3b067_56 : decode cJ2_getChar_3b067 56 = .ok (.ishl, 1) := by decide +kernel
theorem dJ2_getChar_3b067_57 : decode cJ2_getChar_3b067 57 = .ok (.ior, 1) := by decide +kernel
theorem dJ2_getChar_3b067_58 : decode cJ2_getChar_3b067 58 = .ok (.i2c, 1) := by decide +kernel
theorem dJ2_getChar_3b067_59 : decode cJ2_getChar_3b067 59 = .ok (.ireturn, 1) := by decide +kernel
theorem dJ2_length_9d52b_0 : decode cJ2_length_9d52b 0 = .ok (.aload_n 0, 1) := by decide +kernel
theorem dJ2_length_9d52b_1 : decode cJ2_length_9d52b 1 = .ok (.arraylength, 1) := by decide +kernel
theorem dJ2_length_9d52b_2 : decode cJ2_length_9d52b 2 = .ok (.iconst 1, 1) := by decide +kernel
theorem dJ2_length_9d52b_3 : decode cJ2_length_9d52b 3 = .ok (.ishr, 1) := by decide +kernel
theorem dJ2_length_9d52b_4 : decode cJ2_length_9d52b 4 = .ok (.ireturn, 1) := by decide +kernel
theorem dJ2_charAt_3b067_0 : decode cJ2_charAt_3b067 0 = .ok (.iload_n 1, 1) := by decide +kernel
theorem dJ2_charAt_3b067_1 : decode cJ2_charAt_3b067 1 = .ok (.aload_n 0, 1) := by decide +kernel
theorem dJ2_charAt_3b067_2 : decode cJ2_charAt_3b067 2 = .ok (.invokestatic 67, 3) := by decide +kernel
theorem dJ2_charAt_3b067_5 : decode cJ2_charAt_3b067 5 = .ok (.aload_n 0, 1) := by decide +kernel
theorem dJ2_charAt_3b067_6 : decode cJ2_charAt_3b067 6 = .ok (.iload_n 1, 1) := by decide +kernel
theorem dJ2_charAt_3b067_7 : decode cJ2_charAt_3b067 7 = .ok (.invokestatic 71, 3) := by decide +kernel
theorem dJ2_charAt_3b067_10 : decode cJ2_charAt_3b067 10 = .ok (.ireturn, 1) := by decide +kernel
theorem dJ2_checkIndex_2214a_0 : decode cJ2_checkIndex_2214a 0 = .ok (.iload_n 0, 1) := by decide +kernel
theorem dJ2_checkIndex_2214a_1 : decode cJ2_checkIndex_2214a 1 = .ok (.aload_n 1, 1) := by decide +kernel
theorem dJ2_checkIndex_2214a_2 : decode cJ2_checkIndex_2214a 2 = .ok (.invokestatic 48, 3) := by decide +kernel
theorem dJ2_checkIndex_2214a_5 : decode cJ2_checkIndex_2214a 5 = .ok (.invokestatic 414, 3) := by decide +kernel
theorem dJ2_checkIndex_2214a_8 : decode cJ2_checkIndex_2214a 8 = .ok (.return_, 1) := by decide +kernel
theorem dJ3_checkIndex_8e157_0 : decode cJ3_checkIndex_8e157 0 = .ok (.iload_n 0, 1) := by decide +kernel
theorem dJ3_checkIndex_8e157_1 : decode cJ3_checkIndex_8e157 1 = .ok (.ifCond .lt 8, 3) := by decide +kernel
theorem dJ3_checkIndex_8e157_4 : decode cJ3_checkIndex_8e157 4 = .ok (.iload_n 0, 1) := by decide +kernel
theorem dJ3_checkIndex_8e157_5 : decode cJ3_checkIndex_8e157 5 = .ok (.iload_n 1, 1) := by decide +kernel
theorem dJ3_checkIndex_8e157_6 : decode cJ3_checkIndex_8e157 6 = .ok (.if_icmp .lt 10, 3) := by decide +kernel
theorem dJ3_checkIndex_8e157_9 : decode cJ3_checkIndex_8e157 9 = .ok (.aload_n 2, 1) := by decide +kernel
theorem dJ3_checkIndex_8e157_10 : decode cJ3_checkIndex_8e157 10 = .ok (.iload_n 0, 1) := by decide +kernel
theorem dJ3_checkIndex_8e157_11 : decode cJ3_checkIndex_8e157 11 = .ok (.iload_n 1, 1) := by decide +kernel
theorem dJ3_checkIndex_8e157_12 : decode cJ3_checkIndex_8e157 12 = .ok (.invokestatic 95, 3) := by decide +kernel
theorem dJ3_checkIndex_8e157_15 : decode cJ3_checkIndex_8e157 15 = .ok (.athrow, 1) := by decide +kernel
theorem dJ3_checkIndex_8e157_16 : decode cJ3_checkIndex_8e157 16 = .ok (.iload_n 0, 1) := by decide +kernel
theorem dJ3_checkIndex_8e157_17 : decode cJ3_checkIndex_8e157 17 = .ok (.ireturn, 1) := by decide +kernel
theorem dJ9_max_7cf53_0 : decode cJ9_max_7cf53 0 = .ok (.iload_n 0, 1) := by decide +kernel
theorem dJ9_max_7cf53_1 : decode cJ9_max_7cf53 1 = .ok (.iload_n 1, 1) := by decide +kernel
theorem dJ9_max_7cf53_2 : decode cJ9_max_7cf53 2 = .ok (.if_icmp .lt 7, 3) := by decide +kernel
theorem dJ9_max_7cf53_5 : decode cJ9_max_7cf53 5 = .ok (.iload_n 0, 1) := by decide +kernel
theorem dJ9_max_7cf53_6 : decode cJ9_max_7cf53 6 = .ok (.goto 4, 3) := by decide +kernel
theorem dJ9_max_7cf53_9 : decode cJ9_max_7cf53 9 = .ok (.iload_n 1, 1) := by decide +kernel
theorem dJ9_max_7cf53_10 : decode cJ9_max_7cf53 10 = .ok (.ireturn, 1) := by decide +kernel
theorem dJ9_min_7cf53_0 : decode cJ9_min_7cf53 0 = .ok (.iload_n 0, 1) := by decide +kernel
theorem dJ9_min_7cf53_1 : decode cJ9_min_7cf53 1 = .ok (.iload_n 1, 1) := by decide +kernel
theorem dJ9_min_7cf53_2 : decode cJ9_min_7cf53 2 = .ok (.if_icmp .gt 7, 3) := by decide +kernel
theorem dJ9_min_7cf53_5 : decode cJ9_min_7cf53 5 = .ok (.iload_n 0, 1) := by decide +kernel
theorem dJ9_min_7cf53_6 : decode cJ9_min_7cf53 6 = .ok (.goto 4, 3) := by decide +kernel
theorem dJ9_min_7cf53_9 : decode cJ9_min_7cf53 9 = .ok (.iload_n 1, 1) := by decide +kernel
theorem dJ9_min_7cf53_10 : decode cJ9_min_7cf53 10 = .ok (.ireturn, 1) := by decide +kernel
