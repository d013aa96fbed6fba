theorem dX2_init_0 : decode cX2_init 0 = .ok (.aload_n 0, 1) := by decide +kernel
theorem dX2_init_1 : decode cX2_init 1 = .ok (.invokespecial 3, 3) := by decide +kernel
theorem dX2_init_4 : decode cX2_init 4 = .ok (.aload_n 0, 1) := by decide +kernel
theorem dX2_init_5 : decode cX2_init 5 = .ok (.iconst 0, 1) := by decide +kernel
theorem dX2_init_6 : decode cX2_init 6 = .ok (.newarray .char, 2) := by decide +kernel
theorem dX2_init_8 : decode cX2_init 8 = .ok (.putfield 9, 3) := by decide +kernel
theorem dX2_init_11 : decode cX2_init 11 = .ok (.aload_n 0, 1) := by decide +kernel
theorem dX2_init_12 : decode cX2_init 12 = .ok (.iconst 0, 1) := by decide +kernel
theorem dX2_init_13 : decode cX2_init 13 = .ok (.putfield 15, 3) := by decide +kernel
theorem dX2_init_16 : decode cX2_init 16 = .ok (.aload_n 0, 1) := by decide +kernel
theorem dX2_init_17 : decode cX2_init 17 = .ok (.iconst 0, 1) := by decide +kernel
theorem dX2_init_18 : decode cX2_init 18 = .ok (.putfield 19, 3) := by decide +kernel
theorem dX2_init_21 : decode cX2_init 21 = .ok (.aload_n 0, 1) := by decide +kernel
theorem dX2_init_22 : decode cX2_init 22 = .ok (.iconst 0, 1) := by decide +kernel
theorem dX2_init_23 : decode cX2_init 23 = .ok (.putfield 22, 3) := by decide +kernel
theorem dX2_init_26 : decode cX2_init 26 = .ok (.aload_n 0, 1) := by decide +kernel
theorem dX2_init_27 : decode cX2_init 27 = .ok (.bipush 16, 2) := by decide +kernel
theorem dX2_init_29 : decode cX2_init 29 = .ok (.newarray .char, 2) := by decide +kernel
theorem dX2_init_31 : decode cX2_init 31 = .ok (.putfield 25, 3) := by decide +kernel
theorem dX2_init_34 : decode cX2_init 34 = .ok (.aload_n 0, 1) := by decide +kernel
theorem dX2_init_35 : decode cX2_init 35 = .ok (.iconst 0, 1) := by decide +kernel
theorem dX2_init_36 : decode cX2_init 36 = .ok (.putfield 28, 3) := by decide +kernel
theorem dX2_init_39 : decode cX2_init 39 = .ok (.aload_n 0, 1) := by decide +kernel
theorem dX2_init_40 : decode cX2_init 40 = .ok (.iconst (-1), 1) := by decide +kernel
theorem dX2_init_41 : decode cX2_init 41 = .ok (.putfield 31, 3) := by decide +kernel
theorem dX2_init_44 : decode cX2_init 44 = .ok (.aload_n 0, 1) := by decide +kernel
theorem dX2_init_45 : decode cX2_init 45 = .ok (.new 34, 3) := by decide +kernel
theorem dX2_init_48 : decode cX2_init 48 = .ok (.dup, 1) := by decide +kernel
theorem dX2_init_49 : decode cX2_init 49 = .ok (.invokespecial 36, 3) := by decide +kernel
theorem dX2_init_52 : decode cX2_init 52 = .ok (.putfield 37, 3) := by decide +kernel
theorem dX2_init_55 : decode cX2_init 55 = .ok (.return_, 1) := by decide +kernel
theorem dX2_exchange_0 : decode cX2_exchange 0 = .ok (.aload_n 0, 1) := by decide +kernel
theorem dX2_exchange_1 : decode cX2_exchange 1 = .ok (.getfield 37, 3) := by decide +kernel
theorem dX2_exchange_4 : decode cX2_exchange 4 = .ok (.astore_n 2, 1) := by decide +kernel
theorem dX2_exchange_5 : decode cX2_exchange 5 = .ok (.aload_n 0, 1) := by decide +kernel
theorem dX2_exchange_6 : decode cX2_exchange 6 = .ok (.aload_n 1, 1) := by decide +kernel
theorem dX2_exchange_7 : decode cX2_exchange 7 = .ok (.putfield 37, 3) := by decide +kernel
theorem dX2_exchange_10 : decode cX2_exchange 10 = .ok (.aload_n 2, 1) := by decide +kernel
theorem dX2_exchange_11 : decode cX2_exchange 11 = .ok (.areturn, 1) := by decide +kernel
theorem dX2_readText_0 : decode cX2_readText 0 = .ok (.aload_n 0, 1) := by decide +kernel
theorem dX2_readText_1 : decode cX2_readText 1 = .ok (.aload_n 1, 1) := by decide +kernel
theorem dX2_readText_2 : decode cX2_readText 2 = .ok (.putfield 9, 3) := by decide +kernel
theorem dX2_readText_5 : decode cX2_readText 5 = .ok (.aload_n 0, 1) := by decide +kernel
theorem dX2_readText_6 : decode cX2_readText 6 = .ok (.iload_n 2, 1) := by decide +kernel
theorem dX2_readText_7 : decode cX2_readText 7 = .ok (.aload_n 1, 1) := by decide +kernel
theorem dX2_readText_8 : decode cX2_readText 8 = .ok (.arraylength, 1) := by decide +kernel
theorem dX2_readText_9 : decode cX2_readText 9 = .ok (.invokestatic 41, 3) := by decide +kernel
theorem dX2_readText_12 : decode cX2_readText 12 = .ok (.putfield 15, 3) := by decide +kernel
theorem dX2_readText_15 : decode cX2_readText 15 = .ok (.aload_n 0, 1) := by decide +kernel
theorem dX2_readText_16 : decode cX2_readText 16 = .ok (.iload_n 3, 1) := by decide +kernel
theorem dX2_readText_17 : decode cX2_readText 17 = .ok (.putfield 28, 3) := by decide +kernel
theorem dX2_readText_20 : decode cX2_readText 20 = .ok (.aload_n 0, 1) := by decide +kernel
theorem dX2_readText_21 : decode cX2_readText 21 = .ok (.iconst (-1), 1) := by decide +kernel
theorem dX2_readText_22 : decode cX2_readText 22 = .ok (.putfield 31, 3) := by decide +kernel
theorem dX2_readText_25 : decode cX2_readText 25 = .ok (.aload_n 0, 1) := by decide +kernel
theorem dX2_readText_26 : decode cX2_readText 26 = .ok (.getfield 37, 3) := by decide +kernel
theorem dX2_readText_29 : decode cX2_readText 29 = .ok (.iload_n 3, 1) := by decide +kernel
theorem dX2_readText_30 : decode cX2_readText 30 = .ok (.invokevirtual 47, 3) := by decide +kernel
theorem dX2_readText_33 : decode cX2_readText 33 = .ok (.aload_n 0, 1) := by decide +kernel
theorem dX2_readText_34 : decode cX2_readText 34 = .ok (.iconst 0, 1) := by decide +kernel
theorem dX2_readText_35 : decode cX2_readText 35 = .ok (.putfield 19, 3) := by decide +kernel
theorem dX2_readText_38 : decode cX2_readText 38 = .ok (.aload_n 0, 1) := by decide +kernel
theorem dX2_readText_39 : decode cX2_readText 39 = .ok (.iconst 0, 1) := by decide +kernel
theorem dX2_readText_40 : decode cX2_readText 40 = .ok (.putfield 22, 3) := by decide +kernel
theorem dX2_readText_43 : decode cX2_readText 43 = .ok (.aload_n 0, 1) := by decide +kernel
theorem dX2_readText_44 : decode cX2_readText 44 = .ok (.invokevirtual 51, 3) := by decide +kernel
theorem dX2_readText_47 : decode cX2_readText 47 = .ok (.pop, 1) := by decide +kernel
theorem dX2_readText_48 : decode cX2_readText 48 = .ok (.aload_n 0, 1) := by decide +kernel
theorem dX2_readText_49 : decode cX2_readText 49 = .ok (.invokevirtual 55, 3) := by decide +kernel
theorem dX2_readText_52 : decode cX2_readText 52 = .ok (.ifCond .eq 35, 3) := by decide +kernel
theorem dX2_readText_55 : decode cX2_readText 55 = .ok (.aload_n 0, 1) := by decide +kernel
theorem dX2_readText_56 : decode cX2_readText 56 = .ok (.getfield 37, 3) := by decide +kernel
theorem dX2_readText_59 : decode cX2_readText 59 = .ok (.getfield 58, 3) := by decide +kernel
theorem dX2_readText_62 : decode cX2_readText 62 = .ok (.iconst 1, 1) := by decide +kernel
theorem dX2_readText_63 : decode cX2_readText 63 = .ok (.if_icmp .ne 13, 3) := by decide +kernel
theorem dX2_readText_66 : decode cX2_readText 66 = .ok (.aload_n 0, 1) := by decide +kernel
theorem dX2_readText_67 : decode cX2_readText 67 = .ok (.invokevirtual 61, 3) := by decide +kernel
theorem dX2_readText_70 : decode cX2_readText 70 = .ok (.ifCond .eq 17, 3) := by decide +kernel
theorem dX2_readText_73 : decode cX2_readText 73 = .ok (.goto 10, 3) := by decide +kernel
theorem dX2_readText_76 : decode cX2_readText 76 = .ok (.aload_n 0, 1) := by decide +kernel
theorem dX2_readText_77 : decode cX2_readText 77 = .ok (.invokevirtual 64, 3) := by decide +kernel
theorem dX2_readText_80 : decode cX2_readText 80 = .ok (.ifCond .eq 7, 3) := by decide +kernel
theorem dX2_readText_83 : decode cX2_readText 83 = .ok (.iconst 1, 1) := by decide +kernel
theorem dX2_readText_84 : decode cX2_readText 84 = .ok (.goto 4, 3) := by decide +kernel
theorem dX2_readText_87 : decode cX2_readText 87 = .ok (.iconst 0, 1) := by decide +kernel
theorem dX2_readText_88 : decode cX2_readText 88 = .ok (.istore 4, 2) := by decide +kernel
theorem dX2_readText_90 : decode cX2_readText 90 = .ok (.iload 4, 2) := by decide +kernel
theorem dX2_readText_92 : decode cX2_readText 92 = .ok (.ifCond .eq 10, 3) := by decide +kernel
theorem dX2_readText_95 : decode cX2_readText 95 = .ok (.aload_n 0, 1) := by decide +kernel
theorem dX2_readText_96 : decode cX2_readText 96 = .ok (.getfield 22, 3) := by decide +kernel
theorem dX2_readText_99 : decode cX2_readText 99 = .ok (.ifCond .le 10, 3) := by decide +kernel
theorem dX2_readText_102 : decode cX2_readText 102 = .ok (.aload_n 0, 1) := by decide +kernel
theorem dX2_readText_103 : decode cX2_readText 103 = .ok (.getfield 19, 3) := by decide +kernel
theorem dX2_readText_106 : decode cX2_readText 106 = .ok (.iconst 1, 1) := by decide +kernel
theorem dX2_readText_107 : decode cX2_readText 107 = .ok (.iadd, 1) := by decide +kernel
theorem dX2_readText_108 : decode cX2_readText 108 = .ok (.ireturn, 1) := by decide +kernel
theorem dX2_readText_109 : decode cX2_readText 109 = .ok (.aload_n 0, 1) := by decide +kernel
theorem dX2_readText_110 : decode cX2_readText 110 = .ok (.getfield 37, 3) := by decide +kernel
theorem dX2_readText_113 : decode cX2_readText 113 = .ok (.aload_n 0, 1) := by decide +kernel
theorem dX2_readText_114 : decode cX2_readText 114 = .ok (.getfield 9, 3) := by decide +kernel
theorem dX2_readText_117 : decode cX2_readText 117 = .ok (.aload_n 0, 1) := by decide +kernel
theorem dX2_readText_118 : decode cX2_readText 118 = .ok (.getfield 15, 3) := by decide +kernel
theorem dX2_readText_121 : decode cX2_readText 121 = .ok (.invokevirtual 67, 3) := by decide +kernel
theorem dX2_readText_124 : decode cX2_readText 124 = .ok (.iconst 0, 1) := by decide +kernel
theorem dX2_readText_125 : decode cX2_readText 125 = .ok (.ireturn, 1) := by decide +kernel
theorem dX2_takeHead_0 : decode cX2_takeHead 0 = .ok (.aload_n 0, 1) := by decide +kernel
theorem dX2_takeHead_1 : decode cX2_takeHead 1 = .ok (.ldc 71, 2) := by decide +kernel
theorem dX2_takeHead_3 : decode cX2_takeHead 3 = .ok (.invokevirtual 73, 3) := by decide +kernel
theorem dX2_takeHead_6 : decode cX2_takeHead 6 = .ok (.ifCond .eq 14, 3) := by decide +kernel
theorem dX2_takeHead_9 : decode cX2_takeHead 9 = .ok (.aload_n 0, 1) := by decide +kernel
theorem dX2_takeHead_10 : decode cX2_takeHead 10 = .ok (.getfield 37, 3) := by decide +kernel
theorem dX2_takeHead_13 : decode cX2_takeHead 13 = .ok (.iconst 1, 1) := by decide +kernel
theorem dX2_takeHead_14 : decode cX2_takeHead 14 = .ok (.putfield 58, 3) := by decide +kernel
theorem dX2_takeHead_17 : decode cX2_takeHead 17 = .ok (.goto 25, 3) := by decide +kernel
theorem dX2_takeHead_20 : decode cX2_takeHead 20 = .ok (.aload_n 0, 1) := by decide +kernel
theorem dX2_takeHead_21 : decode cX2_takeHead 21 = .ok (.ldc 77, 2) := by decide +kernel
theorem dX2_takeHead_23 : decode cX2_takeHead 23 = .ok (.invokevirtual 73, 3) := by decide +kernel
theorem dX2_takeHead_26 : decode cX2_takeHead 26 = .ok (.ifCond .eq 14, 3) := by decide +kernel
theorem dX2_takeHead_29 : decode cX2_takeHead 29 = .ok (.aload_n 0, 1) := by decide +kernel
theorem dX2_takeHead_30 : decode cX2_takeHead 30 = .ok (.getfield 37, 3) := by decide +kernel
theorem dX2_takeHead_33 : decode cX2_takeHead 33 = .ok (.iconst 2, 1) := by decide +kernel
theorem dX2_takeHead_34 : decode cX2_takeHead 34 = .ok (.putfield 58, 3) := by decide +kernel
theorem dX2_takeHead_37 : decode cX2_takeHead 37 = .ok (.goto 5, 3) := by decide +kernel
theorem dX2_takeHead_40 : decode cX2_takeHead 40 = .ok (.iconst 0, 1) := by decide +kernel
theorem dX2_takeHead_41 : decode cX2_takeHead 41 = .ok (.ireturn, 1) := by decide +kernel
theorem dX2_takeHead_42 : decode cX2_takeHead 42 = .ok (.aload_n 0, 1) := by decide +kernel
theorem dX2_takeHead_43 : decode cX2_takeHead 43 = .ok (.invokevirtual 79, 3) := by decide +kernel
theorem dX2_takeHead_46 : decode cX2_takeHead 46 = .ok (.ifCond .eq 14, 3) := by decide +kernel
theorem dX2_takeHead_49 : decode cX2_takeHead 49 = .ok (.aload_n 0, 1) := by decide +kernel
theorem dX2_takeHead_50 : decode cX2_takeHead 50 = .ok (.invokevirtual 82, 3) := by decide +kernel
theorem dX2_takeHead_53 : decode cX2_takeHead 53 = .ok (.ifCond .eq 7, 3) := by decide +kernel
theorem dX2_takeHead_56 : decode cX2_takeHead 56 = .ok (.iconst 1, 1) := by decide +kernel
theorem dX2_takeHead_57 : decode cX2_takeHead 57 = .ok (.goto 4, 3) := by decide +kernel
theorem dX2_takeHead_60 : decode cX2_takeHead 60 = .ok (.iconst 0, 1) := by decide +kernel
theorem dX2_takeHead_61 : decode cX2_takeHead 61 = .ok (.ireturn, 1) := by decide +kernel
theorem dX2_takeReport_0 : decode cX2_takeReport 0 = .ok (.aload_n 0, 1) := by decide +kernel
theorem dX2_takeReport_1 : decode cX2_takeReport 1 = .ok (.aload_n 0, 1) := by decide +kernel
theorem dX2_takeReport_2 : decode cX2_takeReport 2 = .ok (.getfield 37, 3) := by decide +kernel
theorem dX2_takeReport_5 : decode cX2_takeReport 5 = .ok (.getfield 85, 3) := by decide +kernel
theorem dX2_takeReport_8 : decode cX2_takeReport 8 = .ok (.iconst 0, 1) := by decide +kernel
theorem dX2_takeReport_9 : decode cX2_takeReport 9 = .ok (.aaload, 1) := by decide +kernel
theorem dX2_takeReport_10 : decode cX2_takeReport 10 = .ok (.invokevirtual 89, 3) := by decide +kernel
theorem dX2_takeReport_13 : decode cX2_takeReport 13 = .ok (.ifCond .eq 21, 3) := by decide +kernel
theorem dX2_takeReport_16 : decode cX2_takeReport 16 = .ok (.aload_n 0, 1) := by decide +kernel
theorem dX2_takeReport_17 : decode cX2_takeReport 17 = .ok (.invokevirtual 93, 3) := by decide +kernel
theorem dX2_takeReport_20 : decode cX2_takeReport 20 = .ok (.ifCond .eq 14, 3) := by decide +kernel
theorem dX2_takeReport_23 : decode cX2_takeReport 23 = .ok (.aload_n 0, 1) := by decide +kernel
theorem dX2_takeReport_24 : decode cX2_takeReport 24 = .ok (.invokevirtual 96, 3) := by decide +kernel
theorem dX2_takeReport_27 : decode cX2_takeReport 27 = .ok (.ifCond .eq 7, 3) := by decide +kernel
theorem dX2_takeReport_30 : decode cX2_takeReport 30 = .ok (.iconst 1, 1) := by decide +kernel
theorem dX2_takeReport_31 : decode cX2_takeReport 31 = .ok (.goto 4, 3) := by decide +kernel
theorem dX2_takeReport_34 : decode cX2_takeReport 34 = .ok (.iconst 0, 1) := by decide +kernel
theorem dX2_takeReport_35 : decode cX2_takeReport 35 = .ok (.ireturn, 1) := by decide +kernel
theorem dX2_takeForecast_0 : decode cX2_takeForecast 0 = .ok (.aload_n 0, 1) := by decide +kernel
theorem dX2_takeForecast_1 : decode cX2_takeForecast 1 = .ok (.aload_n 0, 1) := by decide +kernel
theorem dX2_takeForecast_2 : decode cX2_takeForecast 2 = .ok (.getfield 37, 3) := by decide +kernel
theorem dX2_takeForecast_5 : decode cX2_takeForecast 5 = .ok (.getfield 85, 3) := by decide +kernel
theorem dX2_takeForecast_8 : decode cX2_takeForecast 8 = .ok (.iconst 0, 1) := by decide +kernel
theorem dX2_takeForecast_9 : decode cX2_takeForecast 9 = .ok (.aaload, 1) := by decide +kernel
theorem dX2_takeForecast_10 : decode cX2_takeForecast 10 = .ok (.invokevirtual 99, 3) := by decide +kernel
theorem dX2_takeForecast_13 : decode cX2_takeForecast 13 = .ok (.ifCond .eq 19, 3) := by decide +kernel
theorem dX2_takeForecast_16 : decode cX2_takeForecast 16 = .ok (.aload_n 0, 1) := by decide +kernel
theorem dX2_takeForecast_17 : decode cX2_takeForecast 17 = .ok (.aload_n 0, 1) := by decide +kernel
theorem dX2_takeForecast_18 : decode cX2_takeForecast 18 = .ok (.getfield 37, 3) := by decide +kernel
theorem dX2_takeForecast_21 : decode cX2_takeForecast 21 = .ok (.getfield 85, 3) := by decide +kernel
theorem dX2_takeForecast_24 : decode cX2_takeForecast 24 = .ok (.iconst 0, 1) := by decide +kernel
theorem dX2_takeForecast_25 : decode cX2_takeForecast 25 = .ok (.aaload, 1) := by decide +kernel
theorem dX2_takeForecast_26 : decode cX2_takeForecast 26 = .ok (.invokevirtual 89, 3) := by decide +kernel
theorem dX2_takeForecast_29 : decode cX2_takeForecast 29 = .ok (.ifCond .ne 5, 3) := by decide +kernel
theorem dX2_takeForecast_32 : decode cX2_takeForecast 32 = .ok (.iconst 0, 1) := by decide +kernel
theorem dX2_takeForecast_33 : decode cX2_takeForecast 33 = .ok (.ireturn, 1) := by decide +kernel
theorem dX2_takeForecast_34 : decode cX2_takeForecast 34 = .ok (.iconst 1, 1) := by decide +kernel
theorem dX2_takeForecast_35 : decode cX2_takeForecast 35 = .ok (.istore_n 1, 1) := by decide +kernel
theorem dX2_takeForecast_36 : decode cX2_takeForecast 36 = .ok (.iconst 1, 1) := by decide +kernel
theorem dX2_takeForecast_37 : decode cX2_takeForecast 37 = .ok (.istore_n 2, 1) := by decide +kernel
theorem dX2_takeForecast_38 : decode cX2_takeForecast 38 = .ok (.iload_n 2, 1) := by decide +kernel
theorem dX2_takeForecast_39 : decode cX2_takeForecast 39 = .ok (.bipush 9, 2) := by decide +kernel
theorem dX2_takeForecast_41 : decode cX2_takeForecast 41 = .ok (.if_icmp .ge 83, 3) := by decide +kernel
theorem dX2_takeForecast_44 : decode cX2_takeForecast 44 = .ok (.aload_n 0, 1) := by decide +kernel
theorem dX2_takeForecast_45 : decode cX2_takeForecast 45 = .ok (.getfield 22, 3) := by decide +kernel
theorem dX2_takeForecast_48 : decode cX2_takeForecast 48 = .ok (.ifCond .le 76, 3) := by decide +kernel
theorem dX2_takeForecast_51 : decode cX2_takeForecast 51 = .ok (.iload_n 1, 1) := by decide +kernel
theorem dX2_takeForecast_52 : decode cX2_takeForecast 52 = .ok (.ifCond .eq 72, 3) := by decide +kernel
theorem dX2_takeForecast_55 : decode cX2_takeForecast 55 = .ok (.aload_n 0, 1) := by decide +kernel
theorem dX2_takeForecast_56 : decode cX2_takeForecast 56 = .ok (.getfield 37, 3) := by decide +kernel
theorem dX2_takeForecast_59 : decode cX2_takeForecast 59 = .ok (.invokevirtual 102, 3) := by decide +kernel
theorem dX2_takeForecast_62 : decode cX2_takeForecast 62 = .ok (.aload_n 0, 1) := by decide +kernel
theorem dX2_takeForecast_63 : decode cX2_takeForecast 63 = .ok (.getfield 37, 3) := by decide +kernel
theorem dX2_takeForecast_66 : decode cX2_takeForecast 66 = .ok (.getfield 85, 3) := by decide +kernel
theorem dX2_takeForecast_69 : decode cX2_takeForecast 69 = .ok (.iload_n 2, 1) := by decide +kernel
theorem dX2_takeForecast_70 : decode cX2_takeForecast 70 = .ok (.aaload, 1) := by decide +kernel
theorem dX2_takeForecast_71 : decode cX2_takeForecast 71 = .ok (.astore_n 3, 1) := by decide +kernel
theorem dX2_takeForecast_72 : decode cX2_takeForecast 72 = .ok (.aload_n 0, 1) := by decide +kernel
theorem dX2_takeForecast_73 : decode cX2_takeForecast 73 = .ok (.aload_n 3, 1) := by decide +kernel
theorem dX2_takeForecast_74 : decode cX2_takeForecast 74 = .ok (.invokevirtual 105, 3) := by decide +kernel
theorem dX2_takeForecast_77 : decode cX2_takeForecast 77 = .ok (.ifCond .eq 11, 3) := by decide +kernel
theorem dX2_takeForecast_80 : decode cX2_takeForecast 80 = .ok (.aload_n 0, 1) := by decide +kernel
theorem dX2_takeForecast_81 : decode cX2_takeForecast 81 = .ok (.aload_n 3, 1) := by decide +kernel
theorem dX2_takeForecast_82 : decode cX2_takeForecast 82 = .ok (.invokevirtual 89, 3) := by decide +kernel
theorem dX2_takeForecast_85 : decode cX2_takeForecast 85 = .ok (.goto 32, 3) := by decide +kernel
theorem dX2_takeForecast_88 : decode cX2_takeForecast 88 = .ok (.aload_n 0, 1) := by decide +kernel
theorem dX2_takeForecast_89 : decode cX2_takeForecast 89 = .ok (.aload_n 3, 1) := by decide +kernel
theorem dX2_takeForecast_90 : decode cX2_takeForecast 90 = .ok (.invokevirtual 108, 3) := by decide +kernel
theorem dX2_takeForecast_93 : decode cX2_takeForecast 93 = .ok (.ifCond .eq 23, 3) := by decide +kernel
theorem dX2_takeForecast_96 : decode cX2_takeForecast 96 = .ok (.aload_n 0, 1) := by decide +kernel
theorem dX2_takeForecast_97 : decode cX2_takeForecast 97 = .ok (.aload_n 3, 1) := by decide +kernel
theorem dX2_takeForecast_98 : decode cX2_takeForecast 98 = .ok (.invokevirtual 111, 3) := by decide +kernel
theorem dX2_takeForecast_101 : decode cX2_takeForecast 101 = .ok (.ifCond .eq 15, 3) := by decide +kernel
theorem dX2_takeForecast_104 : decode cX2_takeForecast 104 = .ok (.aload_n 0, 1) := by decide +kernel
theorem dX2_takeForecast_105 : decode cX2_takeForecast 105 = .ok (.aload_n 3, 1) := by decide +kernel
theorem dX2_takeForecast_106 : decode cX2_takeForecast 106 = .ok (.invokevirtual 114, 3) := by decide +kernel
theorem dX2_takeForecast_109 : decode cX2_takeForecast 109 = .ok (.ifCond .eq 7, 3) := by decide +kernel
theorem dX2_takeForecast_112 : decode cX2_takeForecast 112 = .ok (.iconst 1, 1) := by decide +kernel
theorem dX2_takeForecast_113 : decode cX2_takeForecast 113 = .ok (.goto 4, 3) := by decide +kernel
theorem dX2_takeForecast_116 : decode cX2_takeForecast 116 = .ok (.iconst 0, 1) := by decide +kernel
theorem dX2_takeForecast_117 : decode cX2_takeForecast 117 = .ok (.istore_n 1, 1) := by decide +kernel
theorem dX2_takeForecast_118 : decode cX2_takeForecast 118 = .ok (.iinc 2 1, 3) := by decide +kernel
theorem dX2_takeForecast_121 : decode cX2_takeForecast 121 = .ok (.goto (-83), 3) := by decide +kernel
theorem dX2_takeForecast_124 : decode cX2_takeForecast 124 = .ok (.iload_n 1, 1) := by decide +kernel
theorem dX2_takeForecast_125 : decode cX2_takeForecast 125 = .ok (.ireturn, 1) := by decide +kernel
theorem dX2_takeChangeName_0 : decode cX2_takeChangeName 0 = .ok (.aload_n 0, 1) := by decide +kernel
theorem dX2_takeChangeName_1 : decode cX2_takeChangeName 1 = .ok (.ldc 117, 2) := by decide +kernel
theorem dX2_takeChangeName_3 : decode cX2_takeChangeName 3 = .ok (.invokevirtual 73, 3) := by decide +kernel
theorem dX2_takeChangeName_6 : decode cX2_takeChangeName 6 = .ok (.ifCond .eq 10, 3) := by decide +kernel
theorem dX2_takeChangeName_9 : decode cX2_takeChangeName 9 = .ok (.aload_n 1, 1) := by decide +kernel
theorem dX2_takeChangeName_10 : decode cX2_takeChangeName 10 = .ok (.iconst 2, 1) := by decide +kernel
theorem dX2_takeChangeName_11 : decode cX2_takeChangeName 11 = .ok (.putfield 119, 3) := by decide +kernel
theorem dX2_takeChangeName_14 : decode cX2_takeChangeName 14 = .ok (.iconst 1, 1) := by decide +kernel
theorem dX2_takeChangeName_15 : decode cX2_takeChangeName 15 = .ok (.ireturn, 1) := by decide +kernel
theorem dX2_takeChangeName_16 : decode cX2_takeChangeName 16 = .ok (.aload_n 0, 1) := by decide +kernel
theorem dX2_takeChangeName_17 : decode cX2_takeChangeName 17 = .ok (.ldc 122, 2) := by decide +kernel
theorem dX2_takeChangeName_19 : decode cX2_takeChangeName 19 = .ok (.invokevirtual 73, 3) := by decide +kernel
theorem dX2_takeChangeName_22 : decode cX2_takeChangeName 22 = .ok (.ifCond .eq 10, 3) := by decide +kernel
theorem dX2_takeChangeName_25 : decode cX2_takeChangeName 25 = .ok (.aload_n 1, 1) := by decide +kernel
theorem dX2_takeChangeName_26 : decode cX2_takeChangeName 26 = .ok (.iconst 3, 1) := by decide +kernel
theorem dX2_takeChangeName_27 : decode cX2_takeChangeName 27 = .ok (.putfield 119, 3) := by decide +kernel
theorem dX2_takeChangeName_30 : decode cX2_takeChangeName 30 = .ok (.iconst 1, 1) := by decide +kernel
theorem dX2_takeChangeName_31 : decode cX2_takeChangeName 31 = .ok (.ireturn, 1) := by decide +kernel
theorem dX2_takeChangeName_32 : decode cX2_takeChangeName 32 = .ok (.aload_n 0, 1) := by decide +kernel
theorem dX2_takeChangeName_33 : decode cX2_takeChangeName 33 = .ok (.ldc 124, 2) := by decide +kernel
theorem dX2_takeChangeName_35 : decode cX2_takeChangeName 35 = .ok (.invokevirtual 73, 3) := by decide +kernel
theorem dX2_takeChangeName_38 : decode cX2_takeChangeName 38 = .ok (.ifCond .eq 12, 3) := by decide +kernel
theorem dX2_takeChangeName_41 : decode cX2_takeChangeName 41 = .ok (.aload_n 1, 1) := by decide +kernel
theorem dX2_takeChangeName_42 : decode cX2_takeChangeName 42 = .ok (.bipush 30, 2) := by decide +kernel
theorem dX2_takeChangeName_44 : decode cX2_takeChangeName 44 = .ok (.putfield 126, 3) := by decide +kernel
theorem dX2_takeChangeName_47 : decode cX2_takeChangeName 47 = .ok (.goto 23, 3) := by decide +kernel
theorem dX2_takeChangeName_50 : decode cX2_takeChangeName 50 = .ok (.aload_n 0, 1) := by decide +kernel
theorem dX2_takeChangeName_51 : decode cX2_takeChangeName 51 = .ok (.ldc 129, 2) := by decide +kernel
theorem dX2_takeChangeName_53 : decode cX2_takeChangeName 53 = .ok (.invokevirtual 73, 3) := by decide +kernel
theorem dX2_takeChangeName_56 : decode cX2_takeChangeName 56 = .ok (.ifCond .eq 12, 3) := by decide +kernel
theorem dX2_takeChangeName_59 : decode cX2_takeChangeName 59 = .ok (.aload_n 1, 1) := by decide +kernel
theorem dX2_takeChangeName_60 : decode cX2_takeChangeName 60 = .ok (.bipush 40, 2) := by decide +kernel
theorem dX2_takeChangeName_62 : decode cX2_takeChangeName 62 = .ok (.putfield 126, 3) := by decide +kernel
theorem dX2_takeChangeName_65 : decode cX2_takeChangeName 65 = .ok (.goto 5, 3) := by decide +kernel
theorem dX2_takeChangeName_68 : decode cX2_takeChangeName 68 = .ok (.iconst 0, 1) := by decide +kernel
theorem dX2_takeChangeName_69 : decode cX2_takeChangeName 69 = .ok (.ireturn, 1) := by decide +kernel
theorem dX2_takeChangeName_70 : decode cX2_takeChangeName 70 = .ok (.aload_n 1, 1) := by decide +kernel
theorem dX2_takeChangeName_71 : decode cX2_takeChangeName 71 = .ok (.aload_n 0, 1) := by decide +kernel
theorem dX2_takeChangeName_72 : decode cX2_takeChangeName 72 = .ok (.ldc 122, 2) := by decide +kernel
theorem dX2_takeChangeName_74 : decode cX2_takeChangeName 74 = .ok (.invokevirtual 73, 3) := by decide +kernel
theorem dX2_takeChangeName_77 : decode cX2_takeChangeName 77 = .ok (.ifCond .eq 7, 3) := by decide +kernel
theorem dX2_takeChangeName_80 : decode cX2_takeChangeName 80 = .ok (.iconst 5, 1) := by decide +kernel
theorem dX2_takeChangeName_81 : decode cX2_takeChangeName 81 = .ok (.goto 4, 3) := by decide +kernel
theorem dX2_takeChangeName_84 : decode cX2_takeChangeName 84 = .ok (.iconst 4, 1) := by decide +kernel
theorem dX2_takeChangeName_85 : decode cX2_takeChangeName 85 = .ok (.putfield 119, 3) := by decide +kernel
theorem dX2_takeChangeName_88 : decode cX2_takeChangeName 88 = .ok (.iconst 1, 1) := by decide +kernel
theorem dX2_takeChangeName_89 : decode cX2_takeChangeName 89 = .ok (.ireturn, 1) := by decide +kernel
theorem dX2_takeWhole_0 : decode cX2_takeWhole 0 = .ok (.aload_n 0, 1) := by decide +kernel
theorem dX2_takeWhole_1 : decode cX2_takeWhole 1 = .ok (.aload_n 1, 1) := by decide +kernel
theorem dX2_takeWhole_2 : decode cX2_takeWhole 2 = .ok (.invokevirtual 131, 3) := by decide +kernel
theorem dX2_takeWhole_5 : decode cX2_takeWhole 5 = .ok (.ifCond .ne 5, 3) := by decide +kernel
theorem dX2_takeWhole_8 : decode cX2_takeWhole 8 = .ok (.iconst 0, 1) := by decide +kernel
theorem dX2_takeWhole_9 : decode cX2_takeWhole 9 = .ok (.ireturn, 1) := by decide +kernel
theorem dX2_takeWhole_10 : decode cX2_takeWhole 10 = .ok (.aload_n 0, 1) := by decide +kernel
theorem dX2_takeWhole_11 : decode cX2_takeWhole 11 = .ok (.aload_n 1, 1) := by decide +kernel
theorem dX2_takeWhole_12 : decode cX2_takeWhole 12 = .ok (.invokevirtual 134, 3) := by decide +kernel
theorem dX2_takeWhole_15 : decode cX2_takeWhole 15 = .ok (.ifCond .eq 5, 3) := by decide +kernel
theorem dX2_takeWhole_18 : decode cX2_takeWhole 18 = .ok (.iconst 1, 1) := by decide +kernel
theorem dX2_takeWhole_19 : decode cX2_takeWhole 19 = .ok (.ireturn, 1) := by decide +kernel
theorem dX2_takeWhole_20 : decode cX2_takeWhole 20 = .ok (.aload_n 0, 1) := by decide +kernel
theorem dX2_takeWhole_21 : decode cX2_takeWhole 21 = .ok (.aload_n 1, 1) := by decide +kernel
theorem dX2_takeWhole_22 : decode cX2_takeWhole 22 = .ok (.invokevirtual 137, 3) := by decide +kernel
theorem dX2_takeWhole_25 : decode cX2_takeWhole 25 = .ok (.ifCond .ne 5, 3) := by decide +kernel
theorem dX2_takeWhole_28 : decode cX2_takeWhole 28 = .ok (.iconst 0, 1) := by decide +kernel
theorem dX2_takeWhole_29 : decode cX2_takeWhole 29 = .ok (.ireturn, 1) := by decide +kernel
theorem dX2_takeWhole_30 : decode cX2_takeWhole 30 = .ok (.aload_n 1, 1) := by decide +kernel
theorem dX2_takeWhole_31 : decode cX2_takeWhole 31 = .ok (.iconst 0, 1) := by decide +kernel
theorem dX2_takeWhole_32 : decode cX2_takeWhole 32 = .ok (.putfield 140, 3) := by decide +kernel
theorem dX2_takeWhole_35 : decode cX2_takeWhole 35 = .ok (.aload_n 0, 1) := by decide +kernel
theorem dX2_takeWhole_36 : decode cX2_takeWhole 36 = .ok (.aload_n 1, 1) := by decide +kernel
theorem dX2_takeWhole_37 : decode cX2_takeWhole 37 = .ok (.invokevirtual 143, 3) := by decide +kernel
theorem dX2_takeWhole_40 : decode cX2_takeWhole 40 = .ok (.aload_n 0, 1) := by decide +kernel
theorem dX2_takeWhole_41 : decode cX2_takeWhole 41 = .ok (.aload_n 1, 1) := by decide +kernel
theorem dX2_takeWhole_42 : decode cX2_takeWhole 42 = .ok (.invokevirtual 147, 3) := by decide +kernel
theorem dX2_takeWhole_45 : decode cX2_takeWhole 45 = .ok (.ireturn, 1) := by decide +kernel
theorem dX2_takeParts_0 : decode cX2_takeParts 0 = .ok (.aload_n 0, 1) := by decide +kernel
theorem dX2_takeParts_1 : decode cX2_takeParts 1 = .ok (.aload_n 1, 1) := by decide +kernel
theorem dX2_takeParts_2 : decode cX2_takeParts 2 = .ok (.invokevirtual 131, 3) := by decide +kernel
theorem dX2_takeParts_5 : decode cX2_takeParts 5 = .ok (.pop, 1) := by decide +kernel
theorem dX2_takeParts_6 : decode cX2_takeParts 6 = .ok (.aload_n 0, 1) := by decide +kernel
theorem dX2_takeParts_7 : decode cX2_takeParts 7 = .ok (.aload_n 1, 1) := by decide +kernel
theorem dX2_takeParts_8 : decode cX2_takeParts 8 = .ok (.invokevirtual 134, 3) := by decide +kernel
theorem dX2_takeParts_11 : decode cX2_takeParts 11 = .ok (.ifCond .eq 5, 3) := by decide +kernel
theorem dX2_takeParts_14 : decode cX2_takeParts 14 = .ok (.iconst 1, 1) := by decide +kernel
theorem dX2_takeParts_15 : decode cX2_takeParts 15 = .ok (.ireturn, 1) := by decide +kernel
theorem dX2_takeParts_16 : decode cX2_takeParts 16 = .ok (.aload_n 0, 1) := by decide +kernel
theorem dX2_takeParts_17 : decode cX2_takeParts 17 = .ok (.aload_n 1, 1) := by decide +kernel
theorem dX2_takeParts_18 : decode cX2_takeParts 18 = .ok (.invokevirtual 137, 3) := by decide +kernel
theorem dX2_takeParts_21 : decode cX2_takeParts 21 = .ok (.pop, 1) := by decide +kernel
theorem dX2_takeParts_22 : decode cX2_takeParts 22 = .ok (.aload_n 0, 1) := by decide +kernel
theorem dX2_takeParts_23 : decode cX2_takeParts 23 = .ok (.ldc 150, 2) := by decide +kernel
theorem dX2_takeParts_25 : decode cX2_takeParts 25 = .ok (.invokevirtual 73, 3) := by decide +kernel
theorem dX2_takeParts_28 : decode cX2_takeParts 28 = .ok (.ifCond .eq 11, 3) := by decide +kernel
theorem dX2_takeParts_31 : decode cX2_takeParts 31 = .ok (.aload_n 1, 1) := by decide +kernel
theorem dX2_takeParts_32 : decode cX2_takeParts 32 = .ok (.iconst 0, 1) := by decide +kernel
theorem dX2_takeParts_33 : decode cX2_takeParts 33 = .ok (.putfield 140, 3) := by decide +kernel
theorem dX2_takeParts_36 : decode cX2_takeParts 36 = .ok (.goto 8, 3) := by decide +kernel
theorem dX2_takeParts_39 : decode cX2_takeParts 39 = .ok (.aload_n 0, 1) := by decide +kernel
theorem dX2_takeParts_40 : decode cX2_takeParts 40 = .ok (.aload_n 1, 1) := by decide +kernel
theorem dX2_takeParts_41 : decode cX2_takeParts 41 = .ok (.invokevirtual 143, 3) := by decide +kernel
theorem dX2_takeParts_44 : decode cX2_takeParts 44 = .ok (.aload_n 0, 1) := by decide +kernel
theorem dX2_takeParts_45 : decode cX2_takeParts 45 = .ok (.aload_n 1, 1) := by decide +kernel
theorem dX2_takeParts_46 : decode cX2_takeParts 46 = .ok (.invokevirtual 147, 3) := by decide +kernel
theorem dX2_takeParts_49 : decode cX2_takeParts 49 = .ok (.pop, 1) := by decide +kernel
theorem dX2_takeParts_50 : decode cX2_takeParts 50 = .ok (.aload_n 1, 1) := by decide +kernel
theorem dX2_takeParts_51 : decode cX2_takeParts 51 = .ok (.invokevirtual 152, 3) := by decide +kernel
theorem dX2_takeParts_54 : decode cX2_takeParts 54 = .ok (.ireturn, 1) := by decide +kernel
theorem dX2_takeStation_0 : decode cX2_takeStation 0 = .ok (.aload_n 0, 1) := by decide +kernel
theorem dX2_takeStation_1 : decode cX2_takeStation 1 = .ok (.getfield 22, 3) := by decide +kernel
theorem dX2_takeStation_4 : decode cX2_takeStation 4 = .ok (.iconst 4, 1) := by decide +kernel
theorem dX2_takeStation_5 : decode cX2_takeStation 5 = .ok (.if_icmp .eq 5, 3) := by decide +kernel
theorem dX2_takeStation_8 : decode cX2_takeStation 8 = .ok (.iconst 0, 1) := by decide +kernel
theorem dX2_takeStation_9 : decode cX2_takeStation 9 = .ok (.ireturn, 1) := by decide +kernel
theorem dX2_takeStation_10 : decode cX2_takeStation 10 = .ok (.iconst 0, 1) := by decide +kernel
theorem dX2_takeStation_11 : decode cX2_takeStation 11 = .ok (.istore_n 1, 1) := by decide +kernel
theorem dX2_takeStation_12 : decode cX2_takeStation 12 = .ok (.iload_n 1, 1) := by decide +kernel
theorem dX2_takeStation_13 : decode cX2_takeStation 13 = .ok (.iconst 4, 1) := by decide +kernel
theorem dX2_takeStation_14 : decode cX2_takeStation 14 = .ok (.if_icmp .ge 48, 3) := by decide +kernel
theorem dX2_takeStation_17 : decode cX2_takeStation 17 = .ok (.aload_n 0, 1) := by decide +kernel
theorem dX2_takeStation_18 : decode cX2_takeStation 18 = .ok (.getfield 25, 3) := by decide +kernel
theorem dX2_takeStation_21 : decode cX2_takeStation 21 = .ok (.iload_n 1, 1) := by decide +kernel
theorem dX2_takeStation_22 : decode cX2_takeStation 22 = .ok (.caload, 1) := by decide +kernel
theorem dX2_takeStation_23 : decode cX2_takeStation 23 = .ok (.bipush 65, 2) := by decide +kernel
theorem dX2_takeStation_25 : decode cX2_takeStation 25 = .ok (.if_icmp .lt 14, 3) := by decide +kernel
theorem dX2_takeStation_28 : decode cX2_takeStation 28 = .ok (.aload_n 0, 1) := by decide +kernel
theorem dX2_takeStation_29 : decode cX2_takeStation 29 = .ok (.getfield 25, 3) := by decide +kernel
theorem dX2_takeStation_32 : decode cX2_takeStation 32 = .ok (.iload_n 1, 1) := by decide +kernel
theorem dX2_takeStation_33 : decode cX2_takeStation 33 = .ok (.caload, 1) := by decide +kernel
theorem dX2_takeStation_34 : decode cX2_takeStation 34 = .ok (.bipush 90, 2) := by decide +kernel
theorem dX2_takeStation_36 : decode cX2_takeStation 36 = .ok (.if_icmp .le 5, 3) := by decide +kernel
theorem dX2_takeStation_39 : decode cX2_takeStation 39 = .ok (.iconst 0, 1) := by decide +kernel
theorem dX2_takeStation_40 : decode cX2_takeStation 40 = .ok (.ireturn, 1) := by decide +kernel
theorem dX2_takeStation_41 : decode cX2_takeStation 41 = .ok (.aload_n 0, 1) := by decide +kernel
theorem dX2_takeStation_42 : decode cX2_takeStation 42 = .ok (.getfield 37, 3) := by decide +kernel
theorem dX2_takeStation_45 : decode cX2_takeStation 45 = .ok (.getfield 155, 3) := by decide +kernel
theorem dX2_takeStation_48 : decode cX2_takeStation 48 = .ok (.iload_n 1, 1) := by decide +kernel
theorem dX2_takeStation_49 : decode cX2_takeStation 49 = .ok (.aload_n 0, 1) := by decide +kernel
theorem dX2_takeStation_50 : decode cX2_takeStation 50 = .ok (.getfield 25, 3) := by decide +kernel
theorem dX2_takeStation_53 : decode cX2_takeStation 53 = .ok (.iload_n 1, 1) := by decide +kernel
theorem dX2_takeStation_54 : decode cX2_takeStation 54 = .ok (.caload, 1) := by decide +kernel
theorem dX2_takeStation_55 : decode cX2_takeStation 55 = .ok (.iastore, 1) := by decide +kernel
theorem dX2_takeStation_56 : decode cX2_takeStation 56 = .ok (.iinc 1 1, 3) := by decide +kernel
theorem dX2_takeStation_59 : decode cX2_takeStation 59 = .ok (.goto (-47), 3) := by decide +kernel
theorem dX2_takeStation_62 : decode cX2_takeStation 62 = .ok (.aload_n 0, 1) := by decide +kernel
theorem dX2_takeStation_63 : decode cX2_takeStation 63 = .ok (.invokevirtual 51, 3) := by decide +kernel
theorem dX2_takeStation_66 : decode cX2_takeStation 66 = .ok (.ireturn, 1) := by decide +kernel
theorem dX2_takeIssue_0 : decode cX2_takeIssue 0 = .ok (.aload_n 0, 1) := by decide +kernel
theorem dX2_takeIssue_1 : decode cX2_takeIssue 1 = .ok (.getfield 37, 3) := by decide +kernel
theorem dX2_takeIssue_4 : decode cX2_takeIssue 4 = .ok (.aload_n 0, 1) := by decide +kernel
theorem dX2_takeIssue_5 : decode cX2_takeIssue 5 = .ok (.iconst 0, 1) := by decide +kernel
theorem dX2_takeIssue_6 : decode cX2_takeIssue 6 = .ok (.invokevirtual 159, 3) := by decide +kernel
theorem dX2_takeIssue_9 : decode cX2_takeIssue 9 = .ok (.putfield 163, 3) := by decide +kernel
theorem dX2_takeIssue_12 : decode cX2_takeIssue 12 = .ok (.aload_n 0, 1) := by decide +kernel
theorem dX2_takeIssue_13 : decode cX2_takeIssue 13 = .ok (.getfield 22, 3) := by decide +kernel
theorem dX2_takeIssue_16 : decode cX2_takeIssue 16 = .ok (.bipush 7, 2) := by decide +kernel
theorem dX2_takeIssue_18 : decode cX2_takeIssue 18 = .ok (.if_icmp .ne 37, 3) := by decide +kernel
theorem dX2_takeIssue_21 : decode cX2_takeIssue 21 = .ok (.aload_n 0, 1) := by decide +kernel
theorem dX2_takeIssue_22 : decode cX2_takeIssue 22 = .ok (.getfield 25, 3) := by decide +kernel
theorem dX2_takeIssue_25 : decode cX2_takeIssue 25 = .ok (.bipush 6, 2) := by decide +kernel
theorem dX2_takeIssue_27 : decode cX2_takeIssue 27 = .ok (.caload, 1) := by decide +kernel
theorem dX2_takeIssue_28 : decode cX2_takeIssue 28 = .ok (.bipush 90, 2) := by decide +kernel
theorem dX2_takeIssue_30 : decode cX2_takeIssue 30 = .ok (.if_icmp .ne 25, 3) := by decide +kernel
theorem dX2_takeIssue_33 : decode cX2_takeIssue 33 = .ok (.aload_n 0, 1) := by decide +kernel
theorem dX2_takeIssue_34 : decode cX2_takeIssue 34 = .ok (.getfield 37, 3) := by decide +kernel
theorem dX2_takeIssue_37 : decode cX2_takeIssue 37 = .ok (.getfield 163, 3) := by decide +kernel
theorem dX2_takeIssue_40 : decode cX2_takeIssue 40 = .ok (.iconst (-1), 1) := by decide +kernel
theorem dX2_takeIssue_41 : decode cX2_takeIssue 41 = .ok (.if_icmp .eq 14, 3) := by decide +kernel
theorem dX2_takeIssue_44 : decode cX2_takeIssue 44 = .ok (.aload_n 0, 1) := by decide +kernel
theorem dX2_takeIssue_45 : decode cX2_takeIssue 45 = .ok (.invokevirtual 51, 3) := by decide +kernel
theorem dX2_takeIssue_48 : decode cX2_takeIssue 48 = .ok (.ifCond .eq 7, 3) := by decide +kernel
theorem dX2_takeIssue_51 : decode cX2_takeIssue 51 = .ok (.iconst 1, 1) := by decide +kernel
theorem dX2_takeIssue_52 : decode cX2_takeIssue 52 = .ok (.goto 4, 3) := by decide +kernel
theorem dX2_takeIssue_55 : decode cX2_takeIssue 55 = .ok (.iconst 0, 1) := by decide +kernel
theorem dX2_takeIssue_56 : decode cX2_takeIssue 56 = .ok (.ireturn, 1) := by decide +kernel
theorem dX2_takeTemperatures_0 : decode cX2_takeTemperatures 0 = .ok (.aload_n 0, 1) := by decide +kernel
theorem dX2_takeTemperatures_1 : decode cX2_takeTemperatures 1 = .ok (.getfield 25, 3) := by decide +kernel
theorem dX2_takeTemperatures_4 : decode cX2_takeTemperatures 4 = .ok (.iconst 0, 1) := by decide +kernel
theorem dX2_takeTemperatures_5 : decode cX2_takeTemperatures 5 = .ok (.caload, 1) := by decide +kernel
theorem dX2_takeTemperatures_6 : decode cX2_takeTemperatures 6 = .ok (.bipush 77, 2) := by decide +kernel
theorem dX2_takeTemperatures_8 : decode cX2_takeTemperatures 8 = .ok (.if_icmp .ne 7, 3) := by decide +kernel
theorem dX2_takeTemperatures_11 : decode cX2_takeTemperatures 11 = .ok (.iconst 3, 1) := by decide +kernel
theorem dX2_takeTemperatures_12 : decode cX2_takeTemperatures 12 = .ok (.goto 4, 3) := by decide +kernel
theorem dX2_takeTemperatures_15 : decode cX2_takeTemperatures 15 = .ok (.iconst 2, 1) := by decide +kernel
theorem dX2_takeTemperatures_16 : decode cX2_takeTemperatures 16 = .ok (.istore_n 1, 1) := by decide +kernel
theorem dX2_takeTemperatures_17 : decode cX2_takeTemperatures 17 = .ok (.aload_n 0, 1) := by decide +kernel
theorem dX2_takeTemperatures_18 : decode cX2_takeTemperatures 18 = .ok (.getfield 25, 3) := by decide +kernel
theorem dX2_takeTemperatures_21 : decode cX2_takeTemperatures 21 = .ok (.iload_n 1, 1) := by decide +kernel
theorem dX2_takeTemperatures_22 : decode cX2_takeTemperatures 22 = .ok (.iconst 1, 1) := by decide +kernel
theorem dX2_takeTemperatures_23 : decode cX2_takeTemperatures 23 = .ok (.iadd, 1) := by decide +kernel
theorem dX2_takeTemperatures_24 : decode cX2_takeTemperatures 24 = .ok (.caload, 1) := by decide +kernel
theorem dX2_takeTemperatures_25 : decode cX2_takeTemperatures 25 = .ok (.bipush 77, 2) := by decide +kernel
theorem dX2_takeTemperatures_27 : decode cX2_takeTemperatures 27 = .ok (.if_icmp .ne 9, 3) := by decide +kernel
theorem dX2_takeTemperatures_30 : decode cX2_takeTemperatures 30 = .ok (.iload_n 1, 1) := by decide +kernel
theorem dX2_takeTemperatures_31 : decode cX2_takeTemperatures 31 = .ok (.iconst 4, 1) := by decide +kernel
theorem dX2_takeTemperatures_32 : decode cX2_takeTemperatures 32 = .ok (.iadd, 1) := by decide +kernel
theorem dX2_takeTemperatures_33 : decode cX2_takeTemperatures 33 = .ok (.goto 6, 3) := by decide +kernel
theorem dX2_takeTemperatures_36 : decode cX2_takeTemperatures 36 = .ok (.iload_n 1, 1) := by decide +kernel
theorem dX2_takeTemperatures_37 : decode cX2_takeTemperatures 37 = .ok (.iconst 3, 1) := by decide +kernel
theorem dX2_takeTemperatures_38 : decode cX2_takeTemperatures 38 = .ok (.iadd, 1) := by decide +kernel
theorem dX2_takeTemperatures_39 : decode cX2_takeTemperatures 39 = .ok (.istore_n 2, 1) := by decide +kernel
theorem dX2_takeTemperatures_40 : decode cX2_takeTemperatures 40 = .ok (.aload_n 0, 1) := by decide +kernel
theorem dX2_takeTemperatures_41 : decode cX2_takeTemperatures 41 = .ok (.getfield 37, 3) := by decide +kernel
theorem dX2_takeTemperatures_44 : decode cX2_takeTemperatures 44 = .ok (.aload_n 0, 1) := by decide +kernel
theorem dX2_takeTemperatures_45 : decode cX2_takeTemperatures 45 = .ok (.iconst 0, 1) := by decide +kernel
theorem dX2_takeTemperatures_46 : decode cX2_takeTemperatures 46 = .ok (.invokevirtual 166, 3) := by decide +kernel
theorem dX2_takeTemperatures_49 : decode cX2_takeTemperatures 49 = .ok (.putfield 169, 3) := by decide +kernel
theorem dX2_takeTemperatures_52 : decode cX2_takeTemperatures 52 = .ok (.aload_n 0, 1) := by decide +kernel
theorem dX2_takeTemperatures_53 : decode cX2_takeTemperatures 53 = .ok (.getfield 37, 3) := by decide +kernel
theorem dX2_takeTemperatures_56 : decode cX2_takeTemperatures 56 = .ok (.aload_n 0, 1) := by decide +kernel
theorem dX2_takeTemperatures_57 : decode cX2_takeTemperatures 57 = .ok (.iload_n 1, 1) := by decide +kernel
theorem dX2_takeTemperatures_58 : decode cX2_takeTemperatures 58 = .ok (.iconst 1, 1) := by decide +kernel
theorem dX2_takeTemperatures_59 : decode cX2_takeTemperatures 59 = .ok (.iadd, 1) := by decide +kernel
theorem dX2_takeTemperatures_60 : decode cX2_takeTemperatures 60 = .ok (.invokevirtual 166, 3) := by decide +kernel
theorem dX2_takeTemperatures_63 : decode cX2_takeTemperatures 63 = .ok (.putfield 172, 3) := by decide +kernel
theorem dX2_takeTemperatures_66 : decode cX2_takeTemperatures 66 = .ok (.aload_n 0, 1) := by decide +kernel
theorem dX2_takeTemperatures_67 : decode cX2_takeTemperatures 67 = .ok (.getfield 22, 3) := by decide +kernel
theorem dX2_takeTemperatures_70 : decode cX2_takeTemperatures 70 = .ok (.iload_n 2, 1) := by decide +kernel
theorem dX2_takeTemperatures_71 : decode cX2_takeTemperatures 71 = .ok (.if_icmp .ne 51, 3) := by decide +kernel
theorem dX2_takeTemperatures_74 : decode cX2_takeTemperatures 74 = .ok (.aload_n 0, 1) := by decide +kernel
theorem dX2_takeTemperatures_75 : decode cX2_takeTemperatures 75 = .ok (.getfield 25, 3) := by decide +kernel
theorem dX2_takeTemperatures_78 : decode cX2_takeTemperatures 78 = .ok (.iload_n 1, 1) := by decide +kernel
theorem dX2_takeTemperatures_79 : decode cX2_takeTemperatures 79 = .ok (.caload, 1) := by decide +kernel
theorem dX2_takeTemperatures_80 : decode cX2_takeTemperatures 80 = .ok (.bipush 47, 2) := by decide +kernel
theorem dX2_takeTemperatures_82 : decode cX2_takeTemperatures 82 = .ok (.if_icmp .ne 40, 3) := by decide +kernel
theorem dX2_takeTemperatures_85 : decode cX2_takeTemperatures 85 = .ok (.aload_n 0, 1) := by decide +kernel
theorem dX2_takeTemperatures_86 : decode cX2_takeTemperatures 86 = .ok (.getfield 37, 3) := by decide +kernel
theorem dX2_takeTemperatures_89 : decode cX2_takeTemperatures 89 = .ok (.getfield 169, 3) := by decide +kernel
theorem dX2_takeTemperatures_92 : decode cX2_takeTemperatures 92 = .ok (.sipush (-1001), 3) := by decide +kernel
theorem dX2_takeTemperatures_95 : decode cX2_takeTemperatures 95 = .ok (.if_icmp .eq 27, 3) := by decide +kernel
theorem dX2_takeTemperatures_98 : decode cX2_takeTemperatures 98 = .ok (.aload_n 0, 1) := by decide +kernel
theorem dX2_takeTemperatures_99 : decode cX2_takeTemperatures 99 = .ok (.getfield 37, 3) := by decide +kernel
theorem dX2_takeTemperatures_102 : decode cX2_takeTemperatures 102 = .ok (.getfield 172, 3) := by decide +kernel
theorem dX2_takeTemperatures_105 : decode cX2_takeTemperatures 105 = .ok (.sipush (-1001), 3) := by decide +kernel
theorem dX2_takeTemperatures_108 : decode cX2_takeTemperatures 108 = .ok (.if_icmp .eq 14, 3) := by decide +kernel
theorem dX2_takeTemperatures_111 : decode cX2_takeTemperatures 111 = .ok (.aload_n 0, 1) := by decide +kernel
theorem dX2_takeTemperatures_112 : decode cX2_takeTemperatures 112 = .ok (.invokevirtual 51, 3) := by decide +kernel
theorem dX2_takeTemperatures_115 : decode cX2_takeTemperatures 115 = .ok (.ifCond .eq 7, 3) := by decide +kernel
theorem dX2_takeTemperatures_118 : decode cX2_takeTemperatures 118 = .ok (.iconst 1, 1) := by decide +kernel
theorem dX2_takeTemperatures_119 : decode cX2_takeTemperatures 119 = .ok (.goto 4, 3) := by decide +kernel
theorem dX2_takeTemperatures_122 : decode cX2_takeTemperatures 122 = .ok (.iconst 0, 1) := by decide +kernel
theorem dX2_takeTemperatures_123 : decode cX2_takeTemperatures 123 = .ok (.ireturn, 1) := by decide +kernel
theorem dX2_takePressure_0 : decode cX2_takePressure 0 = .ok (.aload_n 0, 1) := by decide +kernel
theorem dX2_takePressure_1 : decode cX2_takePressure 1 = .ok (.getfield 37, 3) := by decide +kernel
theorem dX2_takePressure_4 : decode cX2_takePressure 4 = .ok (.aload_n 0, 1) := by decide +kernel
theorem dX2_takePressure_5 : decode cX2_takePressure 5 = .ok (.iconst 1, 1) := by decide +kernel
theorem dX2_takePressure_6 : decode cX2_takePressure 6 = .ok (.iconst 4, 1) := by decide +kernel
theorem dX2_takePressure_7 : decode cX2_takePressure 7 = .ok (.invokevirtual 175, 3) := by decide +kernel
theorem dX2_takePressure_10 : decode cX2_takePressure 10 = .ok (.putfield 178, 3) := by decide +kernel
theorem dX2_takePressure_13 : decode cX2_takePressure 13 = .ok (.aload_n 0, 1) := by decide +kernel
theorem dX2_takePressure_14 : decode cX2_takePressure 14 = .ok (.getfield 22, 3) := by decide +kernel
theorem dX2_takePressure_17 : decode cX2_takePressure 17 = .ok (.iconst 5, 1) := by decide +kernel
theorem dX2_takePressure_18 : decode cX2_takePressure 18 = .ok (.if_icmp .ne 36, 3) := by decide +kernel
theorem dX2_takePressure_21 : decode cX2_takePressure 21 = .ok (.aload_n 0, 1) := by decide +kernel
theorem dX2_takePressure_22 : decode cX2_takePressure 22 = .ok (.getfield 25, 3) := by decide +kernel
theorem dX2_takePressure_25 : decode cX2_takePressure 25 = .ok (.iconst 0, 1) := by decide +kernel
theorem dX2_takePressure_26 : decode cX2_takePressure 26 = .ok (.caload, 1) := by decide +kernel
theorem dX2_takePressure_27 : decode cX2_takePressure 27 = .ok (.bipush 81, 2) := by decide +kernel
theorem dX2_takePressure_29 : decode cX2_takePressure 29 = .ok (.if_icmp .ne 25, 3) := by decide +kernel
theorem dX2_takePressure_32 : decode cX2_takePressure 32 = .ok (.aload_n 0, 1) := by decide +kernel
theorem dX2_takePressure_33 : decode cX2_takePressure 33 = .ok (.getfield 37, 3) := by decide +kernel
theorem dX2_takePressure_36 : decode cX2_takePressure 36 = .ok (.getfield 178, 3) := by decide +kernel
theorem dX2_takePressure_39 : decode cX2_takePressure 39 = .ok (.iconst (-1), 1) := by decide +kernel
theorem dX2_takePressure_40 : decode cX2_takePressure 40 = .ok (.if_icmp .eq 14, 3) := by decide +kernel
theorem dX2_takePressure_43 : decode cX2_takePressure 43 = .ok (.aload_n 0, 1) := by decide +kernel
theorem dX2_takePressure_44 : decode cX2_takePressure 44 = .ok (.invokevirtual 51, 3) := by decide +kernel
theorem dX2_takePressure_47 : decode cX2_takePressure 47 = .ok (.ifCond .eq 7, 3) := by decide +kernel
theorem dX2_takePressure_50 : decode cX2_takePressure 50 = .ok (.iconst 1, 1) := by decide +kernel
theorem dX2_takePressure_51 : decode cX2_takePressure 51 = .ok (.goto 4, 3) := by decide +kernel
theorem dX2_takePressure_54 : decode cX2_takePressure 54 = .ok (.iconst 0, 1) := by decide +kernel
theorem dX2_takePressure_55 : decode cX2_takePressure 55 = .ok (.ireturn, 1) := by decide +kernel
theorem dX2_takeForecastPeriod_0 : decode cX2_takeForecastPeriod 0 = .ok (.aload_n 0, 1) := by decide +kernel
theorem dX2_takeForecastPeriod_1 : decode cX2_takeForecastPeriod 1 = .ok (.getfield 37, 3) := by decide +kernel
theorem dX2_takeForecastPeriod_4 : decode cX2_takeForecastPeriod 4 = .ok (.getfield 163, 3) := by decide +kernel
theorem dX2_takeForecastPeriod_7 : decode cX2_takeForecastPeriod 7 = .ok (.aload_n 0, 1) := by decide +kernel
theorem dX2_takeForecastPeriod_8 : decode cX2_takeForecastPeriod 8 = .ok (.getfield 37, 3) := by decide +kernel
theorem dX2_takeForecastPeriod_11 : decode cX2_takeForecastPeriod 11 = .ok (.getfield 163, 3) := by decide +kernel
theorem dX2_takeForecastPeriod_14 : decode cX2_takeForecastPeriod 14 = .ok (.sipush 1440, 3) := by decide +kernel
theorem dX2_takeForecastPeriod_17 : decode cX2_takeForecastPeriod 17 = .ok (.irem, 1) := by decide +kernel
theorem dX2_takeForecastPeriod_18 : decode cX2_takeForecastPeriod 18 = .ok (.isub, 1) := by decide +kernel
theorem dX2_takeForecastPeriod_19 : decode cX2_takeForecastPeriod 19 = .ok (.istore_n 2, 1) := by decide +kernel
theorem dX2_takeForecastPeriod_20 : decode cX2_takeForecastPeriod 20 = .ok (.aload_n 0, 1) := by decide +kernel
theorem dX2_takeForecastPeriod_21 : decode cX2_takeForecastPeriod 21 = .ok (.aload_n 1, 1) := by decide +kernel
theorem dX2_takeForecastPeriod_22 : decode cX2_takeForecastPeriod 22 = .ok (.iload_n 2, 1) := by decide +kernel
theorem dX2_takeForecastPeriod_23 : decode cX2_takeForecastPeriod 23 = .ok (.invokevirtual 181, 3) := by decide +kernel
theorem dX2_takeForecastPeriod_26 : decode cX2_takeForecastPeriod 26 = .ok (.ifCond .eq 29, 3) := by decide +kernel
theorem dX2_takeForecastPeriod_29 : decode cX2_takeForecastPeriod 29 = .ok (.aload_n 1, 1) := by decide +kernel
theorem dX2_takeForecastPeriod_30 : decode cX2_takeForecastPeriod 30 = .ok (.getfield 185, 3) := by decide +kernel
theorem dX2_takeForecastPeriod_33 : decode cX2_takeForecastPeriod 33 = .ok (.aload_n 1, 1) := by decide +kernel
theorem dX2_takeForecastPeriod_34 : decode cX2_takeForecastPeriod 34 = .ok (.getfield 188, 3) := by decide +kernel
theorem dX2_takeForecastPeriod_37 : decode cX2_takeForecastPeriod 37 = .ok (.isub, 1) := by decide +kernel
theorem dX2_takeForecastPeriod_38 : decode cX2_takeForecastPeriod 38 = .ok (.sipush 1800, 3) := by decide +kernel
theorem dX2_takeForecastPeriod_41 : decode cX2_takeForecastPeriod 41 = .ok (.if_icmp .gt 14, 3) := by decide +kernel
theorem dX2_takeForecastPeriod_44 : decode cX2_takeForecastPeriod 44 = .ok (.aload_n 0, 1) := by decide +kernel
theorem dX2_takeForecastPeriod_45 : decode cX2_takeForecastPeriod 45 = .ok (.invokevirtual 51, 3) := by decide +kernel
theorem dX2_takeForecastPeriod_48 : decode cX2_takeForecastPeriod 48 = .ok (.ifCond .eq 7, 3) := by decide +kernel
theorem dX2_takeForecastPeriod_51 : decode cX2_takeForecastPeriod 51 = .ok (.iconst 1, 1) := by decide +kernel
theorem dX2_takeForecastPeriod_52 : decode cX2_takeForecastPeriod 52 = .ok (.goto 4, 3) := by decide +kernel
theorem dX2_takeForecastPeriod_55 : decode cX2_takeForecastPeriod 55 = .ok (.iconst 0, 1) := by decide +kernel
theorem dX2_takeForecastPeriod_56 : decode cX2_takeForecastPeriod 56 = .ok (.ireturn, 1) := by decide +kernel
theorem dX2_takeChangePeriod_0 : decode cX2_takeChangePeriod 0 = .ok (.aload_n 0, 1) := by decide +kernel
theorem dX2_takeChangePeriod_1 : decode cX2_takeChangePeriod 1 = .ok (.getfield 37, 3) := by decide +kernel
theorem dX2_takeChangePeriod_4 : decode cX2_takeChangePeriod 4 = .ok (.getfield 85, 3) := by decide +kernel
theorem dX2_takeChangePeriod_7 : decode cX2_takeChangePeriod 7 = .ok (.iconst 0, 1) := by decide +kernel
theorem dX2_takeChangePeriod_8 : decode cX2_takeChangePeriod 8 = .ok (.aaload, 1) := by decide +kernel
theorem dX2_takeChangePeriod_9 : decode cX2_takeChangePeriod 9 = .ok (.astore_n 2, 1) := by decide +kernel
theorem dX2_takeChangePeriod_10 : decode cX2_takeChangePeriod 10 = .ok (.aload_n 0, 1) := by decide +kernel
theorem dX2_takeChangePeriod_11 : decode cX2_takeChangePeriod 11 = .ok (.aload_n 1, 1) := by decide +kernel
theorem dX2_takeChangePeriod_12 : decode cX2_takeChangePeriod 12 = .ok (.aload_n 2, 1) := by decide +kernel
theorem dX2_takeChangePeriod_13 : decode cX2_takeChangePeriod 13 = .ok (.getfield 188, 3) := by decide +kernel
theorem dX2_takeChangePeriod_16 : decode cX2_takeChangePeriod 16 = .ok (.invokevirtual 181, 3) := by decide +kernel
theorem dX2_takeChangePeriod_19 : decode cX2_takeChangePeriod 19 = .ok (.ifCond .eq 36, 3) := by decide +kernel
theorem dX2_takeChangePeriod_22 : decode cX2_takeChangePeriod 22 = .ok (.aload_n 1, 1) := by decide +kernel
theorem dX2_takeChangePeriod_23 : decode cX2_takeChangePeriod 23 = .ok (.getfield 188, 3) := by decide +kernel
theorem dX2_takeChangePeriod_26 : decode cX2_takeChangePeriod 26 = .ok (.aload_n 2, 1) := by decide +kernel
theorem dX2_takeChangePeriod_27 : decode cX2_takeChangePeriod 27 = .ok (.getfield 188, 3) := by decide +kernel
theorem dX2_takeChangePeriod_30 : decode cX2_takeChangePeriod 30 = .ok (.if_icmp .lt 25, 3) := by decide +kernel
theorem dX2_takeChangePeriod_33 : decode cX2_takeChangePeriod 33 = .ok (.aload_n 1, 1) := by decide +kernel
theorem dX2_takeChangePeriod_34 : decode cX2_takeChangePeriod 34 = .ok (.getfield 185, 3) := by decide +kernel
theorem dX2_takeChangePeriod_37 : decode cX2_takeChangePeriod 37 = .ok (.aload_n 2, 1) := by decide +kernel
theorem dX2_takeChangePeriod_38 : decode cX2_takeChangePeriod 38 = .ok (.getfield 185, 3) := by decide +kernel
theorem dX2_takeChangePeriod_41 : decode cX2_takeChangePeriod 41 = .ok (.if_icmp .gt 14, 3) := by decide +kernel
theorem dX2_takeChangePeriod_44 : decode cX2_takeChangePeriod 44 = .ok (.aload_n 0, 1) := by decide +kernel
theorem dX2_takeChangePeriod_45 : decode cX2_takeChangePeriod 45 = .ok (.invokevirtual 51, 3) := by decide +kernel
theorem dX2_takeChangePeriod_48 : decode cX2_takeChangePeriod 48 = .ok (.ifCond .eq 7, 3) := by decide +kernel
theorem dX2_takeChangePeriod_51 : decode cX2_takeChangePeriod 51 = .ok (.iconst 1, 1) := by decide +kernel
theorem dX2_takeChangePeriod_52 : decode cX2_takeChangePeriod 52 = .ok (.goto 4, 3) := by decide +kernel
theorem dX2_takeChangePeriod_55 : decode cX2_takeChangePeriod 55 = .ok (.iconst 0, 1) := by decide +kernel
theorem dX2_takeChangePeriod_56 : decode cX2_takeChangePeriod 56 = .ok (.ireturn, 1) := by decide +kernel
theorem dX2_findPeriod_0 : decode cX2_findPeriod 0 = .ok (.aload_n 0, 1) := by decide +kernel
theorem dX2_findPeriod_1 : decode cX2_findPeriod 1 = .ok (.iconst 0, 1) := by decide +kernel
theorem dX2_findPeriod_2 : decode cX2_findPeriod 2 = .ok (.bipush 23, 2) := by decide +kernel
theorem dX2_findPeriod_4 : decode cX2_findPeriod 4 = .ok (.invokevirtual 191, 3) := by decide +kernel
theorem dX2_findPeriod_7 : decode cX2_findPeriod 7 = .ok (.istore_n 3, 1) := by decide +kernel
theorem dX2_findPeriod_8 : decode cX2_findPeriod 8 = .ok (.aload_n 0, 1) := by decide +kernel
theorem dX2_findPeriod_9 : decode cX2_findPeriod 9 = .ok (.iconst 5, 1) := by decide +kernel
theorem dX2_findPeriod_10 : decode cX2_findPeriod 10 = .ok (.bipush 24, 2) := by decide +kernel
theorem dX2_findPeriod_12 : decode cX2_findPeriod 12 = .ok (.invokevirtual 191, 3) := by decide +kernel
theorem dX2_findPeriod_15 : decode cX2_findPeriod 15 = .ok (.istore 4, 2) := by decide +kernel
theorem dX2_findPeriod_17 : decode cX2_findPeriod 17 = .ok (.aload_n 0, 1) := by decide +kernel
theorem dX2_findPeriod_18 : decode cX2_findPeriod 18 = .ok (.getfield 22, 3) := by decide +kernel
theorem dX2_findPeriod_21 : decode cX2_findPeriod 21 = .ok (.bipush 9, 2) := by decide +kernel
theorem dX2_findPeriod_23 : decode cX2_findPeriod 23 = .ok (.if_icmp .ne 25, 3) := by decide +kernel
theorem dX2_findPeriod_26 : decode cX2_findPeriod 26 = .ok (.aload_n 0, 1) := by decide +kernel
theorem dX2_findPeriod_27 : decode cX2_findPeriod 27 = .ok (.getfield 25, 3) := by decide +kernel
theorem dX2_findPeriod_30 : decode cX2_findPeriod 30 = .ok (.iconst 4, 1) := by decide +kernel
theorem dX2_findPeriod_31 : decode cX2_findPeriod 31 = .ok (.caload, 1) := by decide +kernel
theorem dX2_findPeriod_32 : decode cX2_findPeriod 32 = .ok (.bipush 47, 2) := by decide +kernel
theorem dX2_findPeriod_34 : decode cX2_findPeriod 34 = .ok (.if_icmp .ne 14, 3) := by decide +kernel
theorem dX2_findPeriod_37 : decode cX2_findPeriod 37 = .ok (.iload_n 3, 1) := by decide +kernel
theorem dX2_findPeriod_38 : decode cX2_findPeriod 38 = .ok (.iconst (-1), 1) := by decide +kernel
theorem dX2_findPeriod_39 : decode cX2_findPeriod 39 = .ok (.if_icmp .eq 9, 3) := by decide +kernel
theorem dX2_findPeriod_42 : decode cX2_findPeriod 42 = .ok (.iload 4, 2) := by decide +kernel
theorem dX2_findPeriod_44 : decode cX2_findPeriod 44 = .ok (.iconst (-1), 1) := by decide +kernel
theorem dX2_findPeriod_45 : decode cX2_findPeriod 45 = .ok (.if_icmp .ne 5, 3) := by decide +kernel
theorem dX2_findPeriod_48 : decode cX2_findPeriod 48 = .ok (.iconst 0, 1) := by decide +kernel
theorem dX2_findPeriod_49 : decode cX2_findPeriod 49 = .ok (.ireturn, 1) := by decide +kernel
theorem dX2_findPeriod_50 : decode cX2_findPeriod 50 = .ok (.iload_n 3, 1) := by decide +kernel
theorem dX2_findPeriod_51 : decode cX2_findPeriod 51 = .ok (.iload_n 2, 1) := by decide +kernel
theorem dX2_findPeriod_52 : decode cX2_findPeriod 52 = .ok (.if_icmp .ge 7, 3) := by decide +kernel
theorem dX2_findPeriod_55 : decode cX2_findPeriod 55 = .ok (.iconst 1, 1) := by decide +kernel
theorem dX2_findPeriod_56 : decode cX2_findPeriod 56 = .ok (.goto 4, 3) := by decide +kernel
theorem dX2_findPeriod_59 : decode cX2_findPeriod 59 = .ok (.iconst 0, 1) := by decide +kernel
theorem dX2_findPeriod_60 : decode cX2_findPeriod 60 = .ok (.istore 5, 2) := by decide +kernel
theorem dX2_findPeriod_62 : decode cX2_findPeriod 62 = .ok (.aload_n 1, 1) := by decide +kernel
theorem dX2_findPeriod_63 : decode cX2_findPeriod 63 = .ok (.iload 5, 2) := by decide +kernel
theorem dX2_findPeriod_65 : decode cX2_findPeriod 65 = .ok (.ifCond .eq 16, 3) := by decide +kernel
theorem dX2_findPeriod_68 : decode cX2_findPeriod 68 = .ok (.iload_n 3, 1) := by decide +kernel
theorem dX2_findPeriod_69 : decode cX2_findPeriod 69 = .ok (.aload_n 0, 1) := by decide +kernel
theorem dX2_findPeriod_70 : decode cX2_findPeriod 70 = .ok (.getfield 28, 3) := by decide +kernel
theorem dX2_findPeriod_73 : decode cX2_findPeriod 73 = .ok (.sipush 1440, 3) := by decide +kernel
theorem dX2_findPeriod_76 : decode cX2_findPeriod 76 = .ok (.imul, 1) := by decide +kernel
theorem dX2_findPeriod_77 : decode cX2_findPeriod 77 = .ok (.iadd, 1) := by decide +kernel
theorem dX2_findPeriod_78 : decode cX2_findPeriod 78 = .ok (.goto 4, 3) := by decide +kernel
theorem dX2_findPeriod_81 : decode cX2_findPeriod 81 = .ok (.iload_n 3, 1) := by decide +kernel
theorem dX2_findPeriod_82 : decode cX2_findPeriod 82 = .ok (.putfield 188, 3) := by decide +kernel
theorem dX2_findPeriod_85 : decode cX2_findPeriod 85 = .ok (.aload_n 1, 1) := by decide +kernel
theorem dX2_findPeriod_86 : decode cX2_findPeriod 86 = .ok (.iload 5, 2) := by decide +kernel
theorem dX2_findPeriod_88 : decode cX2_findPeriod 88 = .ok (.ifCond .ne 9, 3) := by decide +kernel
theorem dX2_findPeriod_91 : decode cX2_findPeriod 91 = .ok (.iload 4, 2) := by decide +kernel
theorem dX2_findPeriod_93 : decode cX2_findPeriod 93 = .ok (.iload_n 3, 1) := by decide +kernel
theorem dX2_findPeriod_94 : decode cX2_findPeriod 94 = .ok (.if_icmp .gt 17, 3) := by decide +kernel
theorem dX2_findPeriod_97 : decode cX2_findPeriod 97 = .ok (.iload 4, 2) := by decide +kernel
theorem dX2_findPeriod_99 : decode cX2_findPeriod 99 = .ok (.aload_n 0, 1) := by decide +kernel
theorem dX2_findPeriod_100 : decode cX2_findPeriod 100 = .ok (.getfield 28, 3) := by decide +kernel
theorem dX2_findPeriod_103 : decode cX2_findPeriod 103 = .ok (.sipush 1440, 3) := by decide +kernel
theorem dX2_findPeriod_106 : decode cX2_findPeriod 106 = .ok (.imul, 1) := by decide +kernel
theorem dX2_findPeriod_107 : decode cX2_findPeriod 107 = .ok (.iadd, 1) := by decide +kernel
theorem dX2_findPeriod_108 : decode cX2_findPeriod 108 = .ok (.goto 5, 3) := by decide +kernel
theorem dX2_findPeriod_111 : decode cX2_findPeriod 111 = .ok (.iload 4, 2) := by decide +kernel
theorem dX2_findPeriod_113 : decode cX2_findPeriod 113 = .ok (.putfield 185, 3) := by decide +kernel
theorem dX2_findPeriod_116 : decode cX2_findPeriod 116 = .ok (.aload_n 1, 1) := by decide +kernel
theorem dX2_findPeriod_117 : decode cX2_findPeriod 117 = .ok (.getfield 185, 3) := by decide +kernel
theorem dX2_findPeriod_120 : decode cX2_findPeriod 120 = .ok (.aload_n 1, 1) := by decide +kernel
theorem dX2_findPeriod_121 : decode cX2_findPeriod 121 = .ok (.getfield 188, 3) := by decide +kernel
theorem dX2_findPeriod_124 : decode cX2_findPeriod 124 = .ok (.if_icmp .le 7, 3) := by decide +kernel
theorem dX2_findPeriod_127 : decode cX2_findPeriod 127 = .ok (.iconst 1, 1) := by decide +kernel
theorem dX2_findPeriod_128 : decode cX2_findPeriod 128 = .ok (.goto 4, 3) := by decide +kernel
theorem dX2_findPeriod_131 : decode cX2_findPeriod 131 = .ok (.iconst 0, 1) := by decide +kernel
theorem dX2_findPeriod_132 : decode cX2_findPeriod 132 = .ok (.ireturn, 1) := by decide +kernel
theorem dX2_takeFromTime_0 : decode cX2_takeFromTime 0 = .ok (.aload_n 0, 1) := by decide +kernel
theorem dX2_takeFromTime_1 : decode cX2_takeFromTime 1 = .ok (.getfield 37, 3) := by decide +kernel
theorem dX2_takeFromTime_4 : decode cX2_takeFromTime 4 = .ok (.getfield 85, 3) := by decide +kernel
theorem dX2_takeFromTime_7 : decode cX2_takeFromTime 7 = .ok (.iconst 0, 1) := by decide +kernel
theorem dX2_takeFromTime_8 : decode cX2_takeFromTime 8 = .ok (.aaload, 1) := by decide +kernel
theorem dX2_takeFromTime_9 : decode cX2_takeFromTime 9 = .ok (.astore_n 2, 1) := by decide +kernel
theorem dX2_takeFromTime_10 : decode cX2_takeFromTime 10 = .ok (.aload_n 0, 1) := by decide +kernel
theorem dX2_takeFromTime_11 : decode cX2_takeFromTime 11 = .ok (.iconst 2, 1) := by decide +kernel
theorem dX2_takeFromTime_12 : decode cX2_takeFromTime 12 = .ok (.invokevirtual 159, 3) := by decide +kernel
theorem dX2_takeFromTime_15 : decode cX2_takeFromTime 15 = .ok (.istore_n 3, 1) := by decide +kernel
theorem dX2_takeFromTime_16 : decode cX2_takeFromTime 16 = .ok (.aload_n 0, 1) := by decide +kernel
theorem dX2_takeFromTime_17 : decode cX2_takeFromTime 17 = .ok (.getfield 22, 3) := by decide +kernel
theorem dX2_takeFromTime_20 : decode cX2_takeFromTime 20 = .ok (.bipush 8, 2) := by decide +kernel
theorem dX2_takeFromTime_22 : decode cX2_takeFromTime 22 = .ok (.if_icmp .ne 18, 3) := by decide +kernel
theorem dX2_takeFromTime_25 : decode cX2_takeFromTime 25 = .ok (.aload_n 0, 1) := by decide +kernel
theorem dX2_takeFromTime_26 : decode cX2_takeFromTime 26 = .ok (.iconst 0, 1) := by decide +kernel
theorem dX2_takeFromTime_27 : decode cX2_takeFromTime 27 = .ok (.ldc 194, 2) := by decide +kernel
theorem dX2_takeFromTime_29 : decode cX2_takeFromTime 29 = .ok (.invokevirtual 196, 3) := by decide +kernel
theorem dX2_takeFromTime_32 : decode cX2_takeFromTime 32 = .ok (.ifCond .eq 8, 3) := by decide +kernel
theorem dX2_takeFromTime_35 : decode cX2_takeFromTime 35 = .ok (.iload_n 3, 1) := by decide +kernel
theorem dX2_takeFromTime_36 : decode cX2_takeFromTime 36 = .ok (.iconst (-1), 1) := by decide +kernel
theorem dX2_takeFromTime_37 : decode cX2_takeFromTime 37 = .ok (.if_icmp .ne 5, 3) := by decide +kernel
theorem dX2_takeFromTime_40 : decode cX2_takeFromTime 40 = .ok (.iconst 0, 1) := by decide +kernel
theorem dX2_takeFromTime_41 : decode cX2_takeFromTime 41 = .ok (.ireturn, 1) := by decide +kernel
theorem dX2_takeFromTime_42 : decode cX2_takeFromTime 42 = .ok (.iload_n 3, 1) := by decide +kernel
theorem dX2_takeFromTime_43 : decode cX2_takeFromTime 43 = .ok (.aload_n 2, 1) := by decide +kernel
theorem dX2_takeFromTime_44 : decode cX2_takeFromTime 44 = .ok (.getfield 188, 3) := by decide +kernel
theorem dX2_takeFromTime_47 : decode cX2_takeFromTime 47 = .ok (.if_icmp .ge 14, 3) := by decide +kernel
theorem dX2_takeFromTime_50 : decode cX2_takeFromTime 50 = .ok (.iload_n 3, 1) := by decide +kernel
theorem dX2_takeFromTime_51 : decode cX2_takeFromTime 51 = .ok (.aload_n 0, 1) := by decide +kernel
theorem dX2_takeFromTime_52 : decode cX2_takeFromTime 52 = .ok (.getfield 28, 3) := by decide +kernel
theorem dX2_takeFromTime_55 : decode cX2_takeFromTime 55 = .ok (.sipush 1440, 3) := by decide +kernel
theorem dX2_takeFromTime_58 : decode cX2_takeFromTime 58 = .ok (.imul, 1) := by decide +kernel
theorem dX2_takeFromTime_59 : decode cX2_takeFromTime 59 = .ok (.iadd, 1) := by decide +kernel
theorem dX2_takeFromTime_60 : decode cX2_takeFromTime 60 = .ok (.istore_n 3, 1) := by decide +kernel
theorem dX2_takeFromTime_61 : decode cX2_takeFromTime 61 = .ok (.iload_n 3, 1) := by decide +kernel
theorem dX2_takeFromTime_62 : decode cX2_takeFromTime 62 = .ok (.aload_n 2, 1) := by decide +kernel
theorem dX2_takeFromTime_63 : decode cX2_takeFromTime 63 = .ok (.getfield 188, 3) := by decide +kernel
theorem dX2_takeFromTime_66 : decode cX2_takeFromTime 66 = .ok (.if_icmp .lt 19, 3) := by decide +kernel
theorem dX2_takeFromTime_69 : decode cX2_takeFromTime 69 = .ok (.iload_n 3, 1) := by decide +kernel
theorem dX2_takeFromTime_70 : decode cX2_takeFromTime 70 = .ok (.aload_n 2, 1) := by decide +kernel
theorem dX2_takeFromTime_71 : decode cX2_takeFromTime 71 = .ok (.getfield 185, 3) := by decide +kernel
theorem dX2_takeFromTime_74 : decode cX2_takeFromTime 74 = .ok (.if_icmp .ge 11, 3) := by decide +kernel
theorem dX2_takeFromTime_77 : decode cX2_takeFromTime 77 = .ok (.iload_n 3, 1) := by decide +kernel
theorem dX2_takeFromTime_78 : decode cX2_takeFromTime 78 = .ok (.aload_n 0, 1) := by decide +kernel
theorem dX2_takeFromTime_79 : decode cX2_takeFromTime 79 = .ok (.getfield 31, 3) := by decide +kernel
theorem dX2_takeFromTime_82 : decode cX2_takeFromTime 82 = .ok (.if_icmp .gt 5, 3) := by decide +kernel
theorem dX2_takeFromTime_85 : decode cX2_takeFromTime 85 = .ok (.iconst 0, 1) := by decide +kernel
theorem dX2_takeFromTime_86 : decode cX2_takeFromTime 86 = .ok (.ireturn, 1) := by decide +kernel
theorem dX2_takeFromTime_87 : decode cX2_takeFromTime 87 = .ok (.aload_n 0, 1) := by decide +kernel
theorem dX2_takeFromTime_88 : decode cX2_takeFromTime 88 = .ok (.iload_n 3, 1) := by decide +kernel
theorem dX2_takeFromTime_89 : decode cX2_takeFromTime 89 = .ok (.putfield 31, 3) := by decide +kernel
theorem dX2_takeFromTime_92 : decode cX2_takeFromTime 92 = .ok (.aload_n 1, 1) := by decide +kernel
theorem dX2_takeFromTime_93 : decode cX2_takeFromTime 93 = .ok (.iconst 1, 1) := by decide +kernel
theorem dX2_takeFromTime_94 : decode cX2_takeFromTime 94 = .ok (.putfield 119, 3) := by decide +kernel
theorem dX2_takeFromTime_97 : decode cX2_takeFromTime 97 = .ok (.aload_n 1, 1) := by decide +kernel
theorem dX2_takeFromTime_98 : decode cX2_takeFromTime 98 = .ok (.iload_n 3, 1) := by decide +kernel
theorem dX2_takeFromTime_99 : decode cX2_takeFromTime 99 = .ok (.putfield 188, 3) := by decide +kernel
theorem dX2_takeFromTime_102 : decode cX2_takeFromTime 102 = .ok (.aload_n 1, 1) := by decide +kernel
theorem dX2_takeFromTime_103 : decode cX2_takeFromTime 103 = .ok (.aload_n 2, 1) := by decide +kernel
theorem dX2_takeFromTime_104 : decode cX2_takeFromTime 104 = .ok (.getfield 185, 3) := by decide +kernel
theorem dX2_takeFromTime_107 : decode cX2_takeFromTime 107 = .ok (.putfield 185, 3) := by decide +kernel
theorem dX2_takeFromTime_110 : decode cX2_takeFromTime 110 = .ok (.aload_n 0, 1) := by decide +kernel
theorem dX2_takeFromTime_111 : decode cX2_takeFromTime 111 = .ok (.invokevirtual 51, 3) := by decide +kernel
theorem dX2_takeFromTime_114 : decode cX2_takeFromTime 114 = .ok (.ireturn, 1) := by decide +kernel
theorem dX2_takeWind_0 : decode cX2_takeWind 0 = .ok (.aload_n 0, 1) := by decide +kernel
theorem dX2_takeWind_1 : decode cX2_takeWind 1 = .ok (.iconst 0, 1) := by decide +kernel
theorem dX2_takeWind_2 : decode cX2_takeWind 2 = .ok (.ldc 200, 2) := by decide +kernel
theorem dX2_takeWind_4 : decode cX2_takeWind 4 = .ok (.invokevirtual 196, 3) := by decide +kernel
theorem dX2_takeWind_7 : decode cX2_takeWind 7 = .ok (.istore_n 2, 1) := by decide +kernel
theorem dX2_takeWind_8 : decode cX2_takeWind 8 = .ok (.aload_n 0, 1) := by decide +kernel
theorem dX2_takeWind_9 : decode cX2_takeWind 9 = .ok (.iconst 0, 1) := by decide +kernel
theorem dX2_takeWind_10 : decode cX2_takeWind 10 = .ok (.iconst 3, 1) := by decide +kernel
theorem dX2_takeWind_11 : decode cX2_takeWind 11 = .ok (.invokevirtual 175, 3) := by decide +kernel
theorem dX2_takeWind_14 : decode cX2_takeWind 14 = .ok (.istore_n 3, 1) := by decide +kernel
theorem dX2_takeWind_15 : decode cX2_takeWind 15 = .ok (.iload_n 3, 1) := by decide +kernel
theorem dX2_takeWind_16 : decode cX2_takeWind 16 = .ok (.iconst (-1), 1) := by decide +kernel
theorem dX2_takeWind_17 : decode cX2_takeWind 17 = .ok (.if_icmp .eq 21, 3) := by decide +kernel
theorem dX2_takeWind_20 : decode cX2_takeWind 20 = .ok (.iload_n 3, 1) := by decide +kernel
theorem dX2_takeWind_21 : decode cX2_takeWind 21 = .ok (.sipush 360, 3) := by decide +kernel
theorem dX2_takeWind_24 : decode cX2_takeWind 24 = .ok (.if_icmp .gt 14, 3) := by decide +kernel
theorem dX2_takeWind_27 : decode cX2_takeWind 27 = .ok (.iload_n 3, 1) := by decide +kernel
theorem dX2_takeWind_28 : decode cX2_takeWind 28 = .ok (.bipush 10, 2) := by decide +kernel
theorem dX2_takeWind_30 : decode cX2_takeWind 30 = .ok (.irem, 1) := by decide +kernel
theorem dX2_takeWind_31 : decode cX2_takeWind 31 = .ok (.ifCond .ne 7, 3) := by decide +kernel
theorem dX2_takeWind_34 : decode cX2_takeWind 34 = .ok (.iconst 1, 1) := by decide +kernel
theorem dX2_takeWind_35 : decode cX2_takeWind 35 = .ok (.goto 4, 3) := by decide +kernel
theorem dX2_takeWind_38 : decode cX2_takeWind 38 = .ok (.iconst 0, 1) := by decide +kernel
theorem dX2_takeWind_39 : decode cX2_takeWind 39 = .ok (.istore 4, 2) := by decide +kernel
theorem dX2_takeWind_41 : decode cX2_takeWind 41 = .ok (.aload_n 0, 1) := by decide +kernel
theorem dX2_takeWind_42 : decode cX2_takeWind 42 = .ok (.iconst 3, 1) := by decide +kernel
theorem dX2_takeWind_43 : decode cX2_takeWind 43 = .ok (.iconst 2, 1) := by decide +kernel
theorem dX2_takeWind_44 : decode cX2_takeWind 44 = .ok (.invokevirtual 175, 3) := by decide +kernel
theorem dX2_takeWind_47 : decode cX2_takeWind 47 = .ok (.istore 5, 2) := by decide +kernel
theorem dX2_takeWind_49 : decode cX2_takeWind 49 = .ok (.aload_n 0, 1) := by decide +kernel
theorem dX2_takeWind_50 : decode cX2_takeWind 50 = .ok (.getfield 25, 3) := by decide +kernel
theorem dX2_takeWind_53 : decode cX2_takeWind 53 = .ok (.iconst 5, 1) := by decide +kernel
theorem dX2_takeWind_54 : decode cX2_takeWind 54 = .ok (.caload, 1) := by decide +kernel
theorem dX2_takeWind_55 : decode cX2_takeWind 55 = .ok (.bipush 71, 2) := by decide +kernel
theorem dX2_takeWind_57 : decode cX2_takeWind 57 = .ok (.if_icmp .ne 7, 3) := by decide +kernel
theorem dX2_takeWind_60 : decode cX2_takeWind 60 = .ok (.iconst 1, 1) := by decide +kernel
theorem dX2_takeWind_61 : decode cX2_takeWind 61 = .ok (.goto 4, 3) := by decide +kernel
theorem dX2_takeWind_64 : decode cX2_takeWind 64 = .ok (.iconst 0, 1) := by decide +kernel
theorem dX2_takeWind_65 : decode cX2_takeWind 65 = .ok (.istore 6, 2) := by decide +kernel
theorem dX2_takeWind_67 : decode cX2_takeWind 67 = .ok (.iload 6, 2) := by decide +kernel
theorem dX2_takeWind_69 : decode cX2_takeWind 69 = .ok (.ifCond .eq 13, 3) := by decide +kernel
theorem dX2_takeWind_72 : decode cX2_takeWind 72 = .ok (.aload_n 0, 1) := by decide +kernel
theorem dX2_takeWind_73 : decode cX2_takeWind 73 = .ok (.bipush 6, 2) := by decide +kernel
theorem dX2_takeWind_75 : decode cX2_takeWind 75 = .ok (.iconst 2, 1) := by decide +kernel
theorem dX2_takeWind_76 : decode cX2_takeWind 76 = .ok (.invokevirtual 175, 3) := by decide +kernel
theorem dX2_takeWind_79 : decode cX2_takeWind 79 = .ok (.goto 4, 3) := by decide +kernel
theorem dX2_takeWind_82 : decode cX2_takeWind 82 = .ok (.iconst 0, 1) := by decide +kernel
theorem dX2_takeWind_83 : decode cX2_takeWind 83 = .ok (.istore 7, 2) := by decide +kernel
theorem dX2_takeWind_85 : decode cX2_takeWind 85 = .ok (.iload 6, 2) := by decide +kernel
theorem dX2_takeWind_87 : decode cX2_takeWind 87 = .ok (.ifCond .eq 8, 3) := by decide +kernel
theorem dX2_takeWind_90 : decode cX2_takeWind 90 = .ok (.bipush 8, 2) := by decide +kernel
theorem dX2_takeWind_92 : decode cX2_takeWind 92 = .ok (.goto 4, 3) := by decide +kernel
theorem dX2_takeWind_95 : decode cX2_takeWind 95 = .ok (.iconst 5, 1) := by decide +kernel
theorem dX2_takeWind_96 : decode cX2_takeWind 96 = .ok (.istore 8, 2) := by decide +kernel
theorem dX2_takeWind_98 : decode cX2_takeWind 98 = .ok (.iload_n 2, 1) := by decide +kernel
theorem dX2_takeWind_99 : decode cX2_takeWind 99 = .ok (.ifCond .ne 8, 3) := by decide +kernel
theorem dX2_takeWind_102 : decode cX2_takeWind 102 = .ok (.iload 4, 2) := by decide +kernel
theorem dX2_takeWind_104 : decode cX2_takeWind 104 = .ok (.ifCond .eq 21, 3) := by decide +kernel
theorem dX2_takeWind_107 : decode cX2_takeWind 107 = .ok (.iload 5, 2) := by decide +kernel
theorem dX2_takeWind_109 : decode cX2_takeWind 109 = .ok (.iconst (-1), 1) := by decide +kernel
theorem dX2_takeWind_110 : decode cX2_takeWind 110 = .ok (.if_icmp .eq 15, 3) := by decide +kernel
theorem dX2_takeWind_113 : decode cX2_takeWind 113 = .ok (.iload 6, 2) := by decide +kernel
theorem dX2_takeWind_115 : decode cX2_takeWind 115 = .ok (.ifCond .eq 12, 3) := by decide +kernel
theorem dX2_takeWind_118 : decode cX2_takeWind 118 = .ok (.iload 7, 2) := by decide +kernel
theorem dX2_takeWind_120 : decode cX2_takeWind 120 = .ok (.iload 5, 2) := by decide +kernel
theorem dX2_takeWind_122 : decode cX2_takeWind 122 = .ok (.if_icmp .gt 5, 3) := by decide +kernel
theorem dX2_takeWind_125 : decode cX2_takeWind 125 = .ok (.iconst 0, 1) := by decide +kernel
theorem dX2_takeWind_126 : decode cX2_takeWind 126 = .ok (.ireturn, 1) := by decide +kernel
theorem dX2_takeWind_127 : decode cX2_takeWind 127 = .ok (.aload_n 0, 1) := by decide +kernel
theorem dX2_takeWind_128 : decode cX2_takeWind 128 = .ok (.iload 8, 2) := by decide +kernel
theorem dX2_takeWind_130 : decode cX2_takeWind 130 = .ok (.ldc 202, 2) := by decide +kernel
theorem dX2_takeWind_132 : decode cX2_takeWind 132 = .ok (.invokevirtual 196, 3) := by decide +kernel
theorem dX2_takeWind_135 : decode cX2_takeWind 135 = .ok (.ifCond .eq 14, 3) := by decide +kernel
theorem dX2_takeWind_138 : decode cX2_takeWind 138 = .ok (.aload_n 0, 1) := by decide +kernel
theorem dX2_takeWind_139 : decode cX2_takeWind 139 = .ok (.getfield 22, 3) := by decide +kernel
theorem dX2_takeWind_142 : decode cX2_takeWind 142 = .ok (.iload 8, 2) := by decide +kernel
theorem dX2_takeWind_144 : decode cX2_takeWind 144 = .ok (.iconst 2, 1) := by decide +kernel
theorem dX2_takeWind_145 : decode cX2_takeWind 145 = .ok (.iadd, 1) := by decide +kernel
theorem dX2_takeWind_146 : decode cX2_takeWind 146 = .ok (.if_icmp .eq 5, 3) := by decide +kernel
theorem dX2_takeWind_149 : decode cX2_takeWind 149 = .ok (.iconst 0, 1) := by decide +kernel
theorem dX2_takeWind_150 : decode cX2_takeWind 150 = .ok (.ireturn, 1) := by decide +kernel
theorem dX2_takeWind_151 : decode cX2_takeWind 151 = .ok (.aload_n 1, 1) := by decide +kernel
theorem dX2_takeWind_152 : decode cX2_takeWind 152 = .ok (.iload_n 2, 1) := by decide +kernel
theorem dX2_takeWind_153 : decode cX2_takeWind 153 = .ok (.ifCond .eq 8, 3) := by decide +kernel
theorem dX2_takeWind_156 : decode cX2_takeWind 156 = .ok (.bipush (-2), 2) := by decide +kernel
theorem dX2_takeWind_158 : decode cX2_takeWind 158 = .ok (.goto 4, 3) := by decide +kernel
theorem dX2_takeWind_161 : decode cX2_takeWind 161 = .ok (.iload_n 3, 1) := by decide +kernel
theorem dX2_takeWind_162 : decode cX2_takeWind 162 = .ok (.putfield 204, 3) := by decide +kernel
theorem dX2_takeWind_165 : decode cX2_takeWind 165 = .ok (.aload_n 1, 1) := by decide +kernel
theorem dX2_takeWind_166 : decode cX2_takeWind 166 = .ok (.iload 5, 2) := by decide +kernel
theorem dX2_takeWind_168 : decode cX2_takeWind 168 = .ok (.putfield 207, 3) := by decide +kernel
theorem dX2_takeWind_171 : decode cX2_takeWind 171 = .ok (.aload_n 1, 1) := by decide +kernel
theorem dX2_takeWind_172 : decode cX2_takeWind 172 = .ok (.iload 7, 2) := by decide +kernel
theorem dX2_takeWind_174 : decode cX2_takeWind 174 = .ok (.putfield 210, 3) := by decide +kernel
theorem dX2_takeWind_177 : decode cX2_takeWind 177 = .ok (.aload_n 0, 1) := by decide +kernel
theorem dX2_takeWind_178 : decode cX2_takeWind 178 = .ok (.invokevirtual 51, 3) := by decide +kernel
theorem dX2_takeWind_181 : decode cX2_takeWind 181 = .ok (.ireturn, 1) := by decide +kernel
theorem dX2_takeCavok_0 : decode cX2_takeCavok 0 = .ok (.aload_n 0, 1) := by decide +kernel
theorem dX2_takeCavok_1 : decode cX2_takeCavok 1 = .ok (.ldc 213, 2) := by decide +kernel
theorem dX2_takeCavok_3 : decode cX2_takeCavok 3 = .ok (.invokevirtual 73, 3) := by decide +kernel
theorem dX2_takeCavok_6 : decode cX2_takeCavok 6 = .ok (.ifCond .ne 5, 3) := by decide +kernel
theorem dX2_takeCavok_9 : decode cX2_takeCavok 9 = .ok (.iconst 0, 1) := by decide +kernel
theorem dX2_takeCavok_10 : decode cX2_takeCavok 10 = .ok (.ireturn, 1) := by decide +kernel
theorem dX2_takeCavok_11 : decode cX2_takeCavok 11 = .ok (.aload_n 1, 1) := by decide +kernel
theorem dX2_takeCavok_12 : decode cX2_takeCavok 12 = .ok (.sipush 10000, 3) := by decide +kernel
theorem dX2_takeCavok_15 : decode cX2_takeCavok 15 = .ok (.putfield 215, 3) := by decide +kernel
theorem dX2_takeCavok_18 : decode cX2_takeCavok 18 = .ok (.aload_n 1, 1) := by decide +kernel
theorem dX2_takeCavok_19 : decode cX2_takeCavok 19 = .ok (.iconst 0, 1) := by decide +kernel
theorem dX2_takeCavok_20 : decode cX2_takeCavok 20 = .ok (.putfield 140, 3) := by decide +kernel
theorem dX2_takeCavok_23 : decode cX2_takeCavok 23 = .ok (.aload_n 1, 1) := by decide +kernel
theorem dX2_takeCavok_24 : decode cX2_takeCavok 24 = .ok (.iconst 0, 1) := by decide +kernel
theorem dX2_takeCavok_25 : decode cX2_takeCavok 25 = .ok (.putfield 218, 3) := by decide +kernel
theorem dX2_takeCavok_28 : decode cX2_takeCavok 28 = .ok (.iconst 1, 1) := by decide +kernel
theorem dX2_takeCavok_29 : decode cX2_takeCavok 29 = .ok (.ireturn, 1) := by decide +kernel
theorem dX2_takeVisibility_0 : decode cX2_takeVisibility 0 = .ok (.aload_n 0, 1) := by decide +kernel
theorem dX2_takeVisibility_1 : decode cX2_takeVisibility 1 = .ok (.iconst 0, 1) := by decide +kernel
theorem dX2_takeVisibility_2 : decode cX2_takeVisibility 2 = .ok (.iconst 4, 1) := by decide +kernel
theorem dX2_takeVisibility_3 : decode cX2_takeVisibility 3 = .ok (.invokevirtual 175, 3) := by decide +kernel
theorem dX2_takeVisibility_6 : decode cX2_takeVisibility 6 = .ok (.istore_n 2, 1) := by decide +kernel
theorem dX2_takeVisibility_7 : decode cX2_takeVisibility 7 = .ok (.aload_n 0, 1) := by decide +kernel
theorem dX2_takeVisibility_8 : decode cX2_takeVisibility 8 = .ok (.getfield 22, 3) := by decide +kernel
theorem dX2_takeVisibility_11 : decode cX2_takeVisibility 11 = .ok (.iconst 4, 1) := by decide +kernel
theorem dX2_takeVisibility_12 : decode cX2_takeVisibility 12 = .ok (.if_icmp .ne 8, 3) := by decide +kernel
theorem dX2_takeVisibility_15 : decode cX2_takeVisibility 15 = .ok (.iload_n 2, 1) := by decide +kernel
theorem dX2_takeVisibility_16 : decode cX2_takeVisibility 16 = .ok (.iconst (-1), 1) := by decide +kernel
theorem dX2_takeVisibility_17 : decode cX2_takeVisibility 17 = .ok (.if_icmp .ne 5, 3) := by decide +kernel
theorem dX2_takeVisibility_20 : decode cX2_takeVisibility 20 = .ok (.iconst 0, 1) := by decide +kernel
theorem dX2_takeVisibility_21 : decode cX2_takeVisibility 21 = .ok (.ireturn, 1) := by decide +kernel
theorem dX2_takeVisibility_22 : decode cX2_takeVisibility 22 = .ok (.aload_n 1, 1) := by decide +kernel
theorem dX2_takeVisibility_23 : decode cX2_takeVisibility 23 = .ok (.iload_n 2, 1) := by decide +kernel
theorem dX2_takeVisibility_24 : decode cX2_takeVisibility 24 = .ok (.putfield 215, 3) := by decide +kernel
theorem dX2_takeVisibility_27 : decode cX2_takeVisibility 27 = .ok (.aload_n 0, 1) := by decide +kernel
theorem dX2_takeVisibility_28 : decode cX2_takeVisibility 28 = .ok (.invokevirtual 51, 3) := by decide +kernel
theorem dX2_takeVisibility_31 : decode cX2_takeVisibility 31 = .ok (.ireturn, 1) := by decide +kernel
theorem dX2_takeWeathers_0 : decode cX2_takeWeathers 0 = .ok (.iconst 0, 1) := by decide +kernel
theorem dX2_takeWeathers_1 : decode cX2_takeWeathers 1 = .ok (.istore_n 2, 1) := by decide +kernel
theorem dX2_takeWeathers_2 : decode cX2_takeWeathers 2 = .ok (.iload_n 2, 1) := by decide +kernel
theorem dX2_takeWeathers_3 : decode cX2_takeWeathers 3 = .ok (.iconst 3, 1) := by decide +kernel
theorem dX2_takeWeathers_4 : decode cX2_takeWeathers 4 = .ok (.if_icmp .ge 30, 3) := by decide +kernel
theorem dX2_takeWeathers_7 : decode cX2_takeWeathers 7 = .ok (.aload_n 0, 1) := by decide +kernel
theorem dX2_takeWeathers_8 : decode cX2_takeWeathers 8 = .ok (.invokevirtual 221, 3) := by decide +kernel
theorem dX2_takeWeathers_11 : decode cX2_takeWeathers 11 = .ok (.istore_n 3, 1) := by decide +kernel
theorem dX2_takeWeathers_12 : decode cX2_takeWeathers 12 = .ok (.iload_n 3, 1) := by decide +kernel
theorem dX2_takeWeathers_13 : decode cX2_takeWeathers 13 = .ok (.iconst (-1), 1) := by decide +kernel
theorem dX2_takeWeathers_14 : decode cX2_takeWeathers 14 = .ok (.if_icmp .ne 4, 3) := by decide +kernel
theorem dX2_takeWeathers_17 : decode cX2_takeWeathers 17 = .ok (.return_, 1) := by decide +kernel
theorem dX2_takeWeathers_18 : decode cX2_takeWeathers 18 = .ok (.aload_n 1, 1) := by decide +kernel
theorem dX2_takeWeathers_19 : decode cX2_takeWeathers 19 = .ok (.iload_n 3, 1) := by decide +kernel
theorem dX2_takeWeathers_20 : decode cX2_takeWeathers 20 = .ok (.invokevirtual 225, 3) := by decide +kernel
theorem dX2_takeWeathers_23 : decode cX2_takeWeathers 23 = .ok (.aload_n 0, 1) := by decide +kernel
theorem dX2_takeWeathers_24 : decode cX2_takeWeathers 24 = .ok (.invokevirtual 51, 3) := by decide +kernel
theorem dX2_takeWeathers_27 : decode cX2_takeWeathers 27 = .ok (.pop, 1) := by decide +kernel
theorem dX2_takeWeathers_28 : decode cX2_takeWeathers 28 = .ok (.iinc 2 1, 3) := by decide +kernel
theorem dX2_takeWeathers_31 : decode cX2_takeWeathers 31 = .ok (.goto (-29), 3) := by decide +kernel
theorem dX2_takeWeathers_34 : decode cX2_takeWeathers 34 = .ok (.return_, 1) := by decide +kernel
theorem dX2_weatherNumber_0 : decode cX2_weatherNumber 0 = .ok (.aload_n 0, 1) := by decide +kernel
theorem dX2_weatherNumber_1 : decode cX2_weatherNumber 1 = .ok (.invokevirtual 228, 3) := by decide +kernel
theorem dX2_weatherNumber_4 : decode cX2_weatherNumber 4 = .ok (.istore_n 1, 1) := by decide +kernel
theorem dX2_weatherNumber_5 : decode cX2_weatherNumber 5 = .ok (.iload_n 1, 1) := by decide +kernel
theorem dX2_weatherNumber_6 : decode cX2_weatherNumber 6 = .ok (.ifCond .ne 7, 3) := by decide +kernel
theorem dX2_weatherNumber_9 : decode cX2_weatherNumber 9 = .ok (.iconst 0, 1) := by decide +kernel
theorem dX2_weatherNumber_10 : decode cX2_weatherNumber 10 = .ok (.goto 13, 3) := by decide +kernel
theorem dX2_weatherNumber_13 : decode cX2_weatherNumber 13 = .ok (.iload_n 1, 1) := by decide +kernel
theorem dX2_weatherNumber_14 : decode cX2_weatherNumber 14 = .ok (.iconst 3, 1) := by decide +kernel
theorem dX2_weatherNumber_15 : decode cX2_weatherNumber 15 = .ok (.if_icmp .ne 7, 3) := by decide +kernel
theorem dX2_weatherNumber_18 : decode cX2_weatherNumber 18 = .ok (.iconst 2, 1) := by decide +kernel
theorem dX2_weatherNumber_19 : decode cX2_weatherNumber 19 = .ok (.goto 4, 3) := by decide +kernel
theorem dX2_weatherNumber_22 : decode cX2_weatherNumber 22 = .ok (.iconst 1, 1) := by decide +kernel
theorem dX2_weatherNumber_23 : decode cX2_weatherNumber 23 = .ok (.istore_n 2, 1) := by decide +kernel
theorem dX2_weatherNumber_24 : decode cX2_weatherNumber 24 = .ok (.aload_n 0, 1) := by decide +kernel
theorem dX2_weatherNumber_25 : decode cX2_weatherNumber 25 = .ok (.iload_n 2, 1) := by decide +kernel
theorem dX2_weatherNumber_26 : decode cX2_weatherNumber 26 = .ok (.ldc 231, 2) := by decide +kernel
theorem dX2_weatherNumber_28 : decode cX2_weatherNumber 28 = .ok (.invokevirtual 233, 3) := by decide +kernel
theorem dX2_weatherNumber_31 : decode cX2_weatherNumber 31 = .ok (.istore_n 3, 1) := by decide +kernel
theorem dX2_weatherNumber_32 : decode cX2_weatherNumber 32 = .ok (.iload_n 3, 1) := by decide +kernel
theorem dX2_weatherNumber_33 : decode cX2_weatherNumber 33 = .ok (.iconst (-1), 1) := by decide +kernel
theorem dX2_weatherNumber_34 : decode cX2_weatherNumber 34 = .ok (.if_icmp .eq 14, 3) := by decide +kernel
theorem dX2_weatherNumber_37 : decode cX2_weatherNumber 37 = .ok (.iload_n 1, 1) := by decide +kernel
theorem dX2_weatherNumber_38 : decode cX2_weatherNumber 38 = .ok (.iconst 4, 1) := by decide +kernel
theorem dX2_weatherNumber_39 : decode cX2_weatherNumber 39 = .ok (.iload_n 3, 1) := by decide +kernel
theorem dX2_weatherNumber_40 : decode cX2_weatherNumber 40 = .ok (.iconst 1, 1) := by decide +kernel
theorem dX2_weatherNumber_41 : decode cX2_weatherNumber 41 = .ok (.iadd, 1) := by decide +kernel
theorem dX2_weatherNumber_42 : decode cX2_weatherNumber 42 = .ok (.imul, 1) := by decide +kernel
theorem dX2_weatherNumber_43 : decode cX2_weatherNumber 43 = .ok (.iadd, 1) := by decide +kernel
theorem dX2_weatherNumber_44 : decode cX2_weatherNumber 44 = .ok (.istore_n 1, 1) := by decide +kernel
theorem dX2_weatherNumber_45 : decode cX2_weatherNumber 45 = .ok (.iinc 2 2, 3) := by decide +kernel
theorem dX2_weatherNumber_48 : decode cX2_weatherNumber 48 = .ok (.iconst 0, 1) := by decide +kernel
theorem dX2_weatherNumber_49 : decode cX2_weatherNumber 49 = .ok (.istore 4, 2) := by decide +kernel
theorem dX2_weatherNumber_51 : decode cX2_weatherNumber 51 = .ok (.bipush 64, 2) := by decide +kernel
theorem dX2_weatherNumber_53 : decode cX2_weatherNumber 53 = .ok (.istore 5, 2) := by decide +kernel
theorem dX2_weatherNumber_55 : decode cX2_weatherNumber 55 = .ok (.iload 4, 2) := by decide +kernel
theorem dX2_weatherNumber_57 : decode cX2_weatherNumber 57 = .ok (.iconst 3, 1) := by decide +kernel
theorem dX2_weatherNumber_58 : decode cX2_weatherNumber 58 = .ok (.if_icmp .ge 54, 3) := by decide +kernel
theorem dX2_weatherNumber_61 : decode cX2_weatherNumber 61 = .ok (.iload_n 2, 1) := by decide +kernel
theorem dX2_weatherNumber_62 : decode cX2_weatherNumber 62 = .ok (.aload_n 0, 1) := by decide +kernel
theorem dX2_weatherNumber_63 : decode cX2_weatherNumber 63 = .ok (.getfield 22, 3) := by decide +kernel
theorem dX2_weatherNumber_66 : decode cX2_weatherNumber 66 = .ok (.if_icmp .ge 46, 3) := by decide +kernel
theorem dX2_weatherNumber_69 : decode cX2_weatherNumber 69 = .ok (.aload_n 0, 1) := by decide +kernel
theorem dX2_weatherNumber_70 : decode cX2_weatherNumber 70 = .ok (.iload_n 2, 1) := by decide +kernel
theorem dX2_weatherNumber_71 : decode cX2_weatherNumber 71 = .ok (.ldc 237, 2) := by decide +kernel
theorem dX2_weatherNumber_73 : decode cX2_weatherNumber 73 = .ok (.invokevirtual 233, 3) := by decide +kernel
theorem dX2_weatherNumber_76 : decode cX2_weatherNumber 76 = .ok (.istore 6, 2) := by decide +kernel
theorem dX2_weatherNumber_78 : decode cX2_weatherNumber 78 = .ok (.iload 6, 2) := by decide +kernel
theorem dX2_weatherNumber_80 : decode cX2_weatherNumber 80 = .ok (.iconst (-1), 1) := by decide +kernel
theorem dX2_weatherNumber_81 : decode cX2_weatherNumber 81 = .ok (.if_icmp .ne 5, 3) := by decide +kernel
theorem dX2_weatherNumber_84 : decode cX2_weatherNumber 84 = .ok (.iconst (-1), 1) := by decide +kernel
theorem dX2_weatherNumber_85 : decode cX2_weatherNumber 85 = .ok (.ireturn, 1) := by decide +kernel
theorem dX2_weatherNumber_86 : decode cX2_weatherNumber 86 = .ok (.iload_n 1, 1) := by decide +kernel
theorem dX2_weatherNumber_87 : decode cX2_weatherNumber 87 = .ok (.iload 5, 2) := by decide +kernel
theorem dX2_weatherNumber_89 : decode cX2_weatherNumber 89 = .ok (.iload 6, 2) := by decide +kernel
theorem dX2_weatherNumber_91 : decode cX2_weatherNumber 91 = .ok (.iconst 1, 1) := by decide +kernel
theorem dX2_weatherNumber_92 : decode cX2_weatherNumber 92 = .ok (.iadd, 1) := by decide +kernel
theorem dX2_weatherNumber_93 : decode cX2_weatherNumber 93 = .ok (.imul, 1) := by decide +kernel
theorem dX2_weatherNumber_94 : decode cX2_weatherNumber 94 = .ok (.iadd, 1) := by decide +kernel
theorem dX2_weatherNumber_95 : decode cX2_weatherNumber 95 = .ok (.istore_n 1, 1) := by decide +kernel
theorem dX2_weatherNumber_96 : decode cX2_weatherNumber 96 = .ok (.iload 5, 2) := by decide +kernel
theorem dX2_weatherNumber_98 : decode cX2_weatherNumber 98 = .ok (.bipush 32, 2) := by decide +kernel
theorem dX2_weatherNumber_100 : decode cX2_weatherNumber 100 = .ok (.imul, 1) := by decide +kernel
theorem dX2_weatherNumber_101 : decode cX2_weatherNumber 101 = .ok (.istore 5, 2) := by decide +kernel
theorem dX2_weatherNumber_103 : decode cX2_weatherNumber 103 = .ok (.iinc 2 2, 3) := by decide +kernel
theorem dX2_weatherNumber_106 : decode cX2_weatherNumber 106 = .ok (.iinc 4 1, 3) := by decide +kernel
theorem dX2_weatherNumber_109 : decode cX2_weatherNumber 109 = .ok (.goto (-54), 3) := by decide +kernel
theorem dX2_weatherNumber_112 : decode cX2_weatherNumber 112 = .ok (.iload 4, 2) := by decide +kernel
theorem dX2_weatherNumber_114 : decode cX2_weatherNumber 114 = .ok (.ifCond .gt 9, 3) := by decide +kernel
theorem dX2_weatherNumber_117 : decode cX2_weatherNumber 117 = .ok (.iload_n 3, 1) := by decide +kernel
theorem dX2_weatherNumber_118 : decode cX2_weatherNumber 118 = .ok (.bipush 6, 2) := by decide +kernel
theorem dX2_weatherNumber_120 : decode cX2_weatherNumber 120 = .ok (.if_icmp .ne 7, 3) := by decide +kernel
theorem dX2_weatherNumber_123 : decode cX2_weatherNumber 123 = .ok (.iconst 1, 1) := by decide +kernel
theorem dX2_weatherNumber_124 : decode cX2_weatherNumber 124 = .ok (.goto 4, 3) := by decide +kernel
theorem dX2_weatherNumber_127 : decode cX2_weatherNumber 127 = .ok (.iconst 0, 1) := by decide +kernel
theorem dX2_weatherNumber_128 : decode cX2_weatherNumber 128 = .ok (.istore 6, 2) := by decide +kernel
theorem dX2_weatherNumber_130 : decode cX2_weatherNumber 130 = .ok (.iload 6, 2) := by decide +kernel
theorem dX2_weatherNumber_132 : decode cX2_weatherNumber 132 = .ok (.ifCond .eq 15, 3) := by decide +kernel
theorem dX2_weatherNumber_135 : decode cX2_weatherNumber 135 = .ok (.iload_n 2, 1) := by decide +kernel
theorem dX2_weatherNumber_136 : decode cX2_weatherNumber 136 = .ok (.aload_n 0, 1) := by decide +kernel
theorem dX2_weatherNumber_137 : decode cX2_weatherNumber 137 = .ok (.getfield 22, 3) := by decide +kernel
theorem dX2_weatherNumber_140 : decode cX2_weatherNumber 140 = .ok (.if_icmp .ne 7, 3) := by decide +kernel
theorem dX2_weatherNumber_143 : decode cX2_weatherNumber 143 = .ok (.iload_n 1, 1) := by decide +kernel
theorem dX2_weatherNumber_144 : decode cX2_weatherNumber 144 = .ok (.goto 4, 3) := by decide +kernel
theorem dX2_weatherNumber_147 : decode cX2_weatherNumber 147 = .ok (.iconst (-1), 1) := by decide +kernel
theorem dX2_weatherNumber_148 : decode cX2_weatherNumber 148 = .ok (.ireturn, 1) := by decide +kernel
theorem dX2_signNumber_0 : decode cX2_signNumber 0 = .ok (.aload_n 0, 1) := by decide +kernel
theorem dX2_signNumber_1 : decode cX2_signNumber 1 = .ok (.getfield 25, 3) := by decide +kernel
theorem dX2_signNumber_4 : decode cX2_signNumber 4 = .ok (.iconst 0, 1) := by decide +kernel
theorem dX2_signNumber_5 : decode cX2_signNumber 5 = .ok (.caload, 1) := by decide +kernel
theorem dX2_signNumber_6 : decode cX2_signNumber 6 = .ok (.bipush 45, 2) := by decide +kernel
theorem dX2_signNumber_8 : decode cX2_signNumber 8 = .ok (.if_icmp .ne 5, 3) := by decide +kernel
theorem dX2_signNumber_11 : decode cX2_signNumber 11 = .ok (.iconst 1, 1) := by decide +kernel
theorem dX2_signNumber_12 : decode cX2_signNumber 12 = .ok (.ireturn, 1) := by decide +kernel
theorem dX2_signNumber_13 : decode cX2_signNumber 13 = .ok (.aload_n 0, 1) := by decide +kernel
theorem dX2_signNumber_14 : decode cX2_signNumber 14 = .ok (.getfield 25, 3) := by decide +kernel
theorem dX2_signNumber_17 : decode cX2_signNumber 17 = .ok (.iconst 0, 1) := by decide +kernel
theorem dX2_signNumber_18 : decode cX2_signNumber 18 = .ok (.caload, 1) := by decide +kernel
theorem dX2_signNumber_19 : decode cX2_signNumber 19 = .ok (.bipush 43, 2) := by decide +kernel
theorem dX2_signNumber_21 : decode cX2_signNumber 21 = .ok (.if_icmp .ne 5, 3) := by decide +kernel
theorem dX2_signNumber_24 : decode cX2_signNumber 24 = .ok (.iconst 2, 1) := by decide +kernel
theorem dX2_signNumber_25 : decode cX2_signNumber 25 = .ok (.ireturn, 1) := by decide +kernel
theorem dX2_signNumber_26 : decode cX2_signNumber 26 = .ok (.aload_n 0, 1) := by decide +kernel
theorem dX2_signNumber_27 : decode cX2_signNumber 27 = .ok (.getfield 25, 3) := by decide +kernel
theorem dX2_signNumber_30 : decode cX2_signNumber 30 = .ok (.iconst 0, 1) := by decide +kernel
theorem dX2_signNumber_31 : decode cX2_signNumber 31 = .ok (.caload, 1) := by decide +kernel
theorem dX2_signNumber_32 : decode cX2_signNumber 32 = .ok (.bipush 86, 2) := by decide +kernel
theorem dX2_signNumber_34 : decode cX2_signNumber 34 = .ok (.if_icmp .ne 18, 3) := by decide +kernel
theorem dX2_signNumber_37 : decode cX2_signNumber 37 = .ok (.aload_n 0, 1) := by decide +kernel
theorem dX2_signNumber_38 : decode cX2_signNumber 38 = .ok (.getfield 25, 3) := by decide +kernel
theorem dX2_signNumber_41 : decode cX2_signNumber 41 = .ok (.iconst 1, 1) := by decide +kernel
theorem dX2_signNumber_42 : decode cX2_signNumber 42 = .ok (.caload, 1) := by decide +kernel
theorem dX2_signNumber_43 : decode cX2_signNumber 43 = .ok (.bipush 67, 2) := by decide +kernel
theorem dX2_signNumber_45 : decode cX2_signNumber 45 = .ok (.if_icmp .ne 7, 3) := by decide +kernel
theorem dX2_signNumber_48 : decode cX2_signNumber 48 = .ok (.iconst 3, 1) := by decide +kernel
theorem dX2_signNumber_49 : decode cX2_signNumber 49 = .ok (.goto 4, 3) := by decide +kernel
theorem dX2_signNumber_52 : decode cX2_signNumber 52 = .ok (.iconst 0, 1) := by decide +kernel
theorem dX2_signNumber_53 : decode cX2_signNumber 53 = .ok (.ireturn, 1) := by decide +kernel
theorem dX2_takeClouds_0 : decode cX2_takeClouds 0 = .ok (.aload_n 0, 1) := by decide +kernel
theorem dX2_takeClouds_1 : decode cX2_takeClouds 1 = .ok (.ldc 239, 2) := by decide +kernel
theorem dX2_takeClouds_3 : decode cX2_takeClouds 3 = .ok (.invokevirtual 73, 3) := by decide +kernel
theorem dX2_takeClouds_6 : decode cX2_takeClouds 6 = .ok (.ifCond .eq 10, 3) := by decide +kernel
theorem dX2_takeClouds_9 : decode cX2_takeClouds 9 = .ok (.aload_n 1, 1) := by decide +kernel
theorem dX2_takeClouds_10 : decode cX2_takeClouds 10 = .ok (.iconst 0, 1) := by decide +kernel
theorem dX2_takeClouds_11 : decode cX2_takeClouds 11 = .ok (.putfield 218, 3) := by decide +kernel
theorem dX2_takeClouds_14 : decode cX2_takeClouds 14 = .ok (.iconst 1, 1) := by decide +kernel
theorem dX2_takeClouds_15 : decode cX2_takeClouds 15 = .ok (.ireturn, 1) := by decide +kernel
theorem dX2_takeClouds_16 : decode cX2_takeClouds 16 = .ok (.aload_n 0, 1) := by decide +kernel
theorem dX2_takeClouds_17 : decode cX2_takeClouds 17 = .ok (.iconst 2, 1) := by decide +kernel
theorem dX2_takeClouds_18 : decode cX2_takeClouds 18 = .ok (.iconst 3, 1) := by decide +kernel
theorem dX2_takeClouds_19 : decode cX2_takeClouds 19 = .ok (.invokevirtual 175, 3) := by decide +kernel
theorem dX2_takeClouds_22 : decode cX2_takeClouds 22 = .ok (.istore_n 2, 1) := by decide +kernel
theorem dX2_takeClouds_23 : decode cX2_takeClouds 23 = .ok (.aload_n 0, 1) := by decide +kernel
theorem dX2_takeClouds_24 : decode cX2_takeClouds 24 = .ok (.iconst 0, 1) := by decide +kernel
theorem dX2_takeClouds_25 : decode cX2_takeClouds 25 = .ok (.ldc 241, 2) := by decide +kernel
theorem dX2_takeClouds_27 : decode cX2_takeClouds 27 = .ok (.invokevirtual 196, 3) := by decide +kernel
theorem dX2_takeClouds_30 : decode cX2_takeClouds 30 = .ok (.ifCond .eq 31, 3) := by decide +kernel
theorem dX2_takeClouds_33 : decode cX2_takeClouds 33 = .ok (.aload_n 0, 1) := by decide +kernel
theorem dX2_takeClouds_34 : decode cX2_takeClouds 34 = .ok (.getfield 22, 3) := by decide +kernel
theorem dX2_takeClouds_37 : decode cX2_takeClouds 37 = .ok (.iconst 5, 1) := by decide +kernel
theorem dX2_takeClouds_38 : decode cX2_takeClouds 38 = .ok (.if_icmp .ne 23, 3) := by decide +kernel
theorem dX2_takeClouds_41 : decode cX2_takeClouds 41 = .ok (.iload_n 2, 1) := by decide +kernel
theorem dX2_takeClouds_42 : decode cX2_takeClouds 42 = .ok (.iconst (-1), 1) := by decide +kernel
theorem dX2_takeClouds_43 : decode cX2_takeClouds 43 = .ok (.if_icmp .eq 18, 3) := by decide +kernel
theorem dX2_takeClouds_46 : decode cX2_takeClouds 46 = .ok (.aload_n 1, 1) := by decide +kernel
theorem dX2_takeClouds_47 : decode cX2_takeClouds 47 = .ok (.iconst 5, 1) := by decide +kernel
theorem dX2_takeClouds_48 : decode cX2_takeClouds 48 = .ok (.bipush 8, 2) := by decide +kernel
theorem dX2_takeClouds_50 : decode cX2_takeClouds 50 = .ok (.iload_n 2, 1) := by decide +kernel
theorem dX2_takeClouds_51 : decode cX2_takeClouds 51 = .ok (.imul, 1) := by decide +kernel
theorem dX2_takeClouds_52 : decode cX2_takeClouds 52 = .ok (.iadd, 1) := by decide +kernel
theorem dX2_takeClouds_53 : decode cX2_takeClouds 53 = .ok (.invokevirtual 243, 3) := by decide +kernel
theorem dX2_takeClouds_56 : decode cX2_takeClouds 56 = .ok (.aload_n 0, 1) := by decide +kernel
theorem dX2_takeClouds_57 : decode cX2_takeClouds 57 = .ok (.invokevirtual 51, 3) := by decide +kernel
theorem dX2_takeClouds_60 : decode cX2_takeClouds 60 = .ok (.ireturn, 1) := by decide +kernel
theorem dX2_takeClouds_61 : decode cX2_takeClouds 61 = .ok (.iconst 0, 1) := by decide +kernel
theorem dX2_takeClouds_62 : decode cX2_takeClouds 62 = .ok (.istore_n 3, 1) := by decide +kernel
theorem dX2_takeClouds_63 : decode cX2_takeClouds 63 = .ok (.iconst 0, 1) := by decide +kernel
theorem dX2_takeClouds_64 : decode cX2_takeClouds 64 = .ok (.istore 4, 2) := by decide +kernel
theorem dX2_takeClouds_66 : decode cX2_takeClouds 66 = .ok (.iload 4, 2) := by decide +kernel
theorem dX2_takeClouds_68 : decode cX2_takeClouds 68 = .ok (.iconst 4, 1) := by decide +kernel
theorem dX2_takeClouds_69 : decode cX2_takeClouds 69 = .ok (.if_icmp .ge 58, 3) := by decide +kernel
theorem dX2_takeClouds_72 : decode cX2_takeClouds 72 = .ok (.aload_n 0, 1) := by decide +kernel
theorem dX2_takeClouds_73 : decode cX2_takeClouds 73 = .ok (.invokevirtual 246, 3) := by decide +kernel
theorem dX2_takeClouds_76 : decode cX2_takeClouds 76 = .ok (.istore 5, 2) := by decide +kernel
theorem dX2_takeClouds_78 : decode cX2_takeClouds 78 = .ok (.iload 5, 2) := by decide +kernel
theorem dX2_takeClouds_80 : decode cX2_takeClouds 80 = .ok (.iconst (-1), 1) := by decide +kernel
theorem dX2_takeClouds_81 : decode cX2_takeClouds 81 = .ok (.if_icmp .eq 12, 3) := by decide +kernel
theorem dX2_takeClouds_84 : decode cX2_takeClouds 84 = .ok (.iload 5, 2) := by decide +kernel
theorem dX2_takeClouds_86 : decode cX2_takeClouds 86 = .ok (.invokestatic 249, 3) := by decide +kernel
theorem dX2_takeClouds_89 : decode cX2_takeClouds 89 = .ok (.iload_n 3, 1) := by decide +kernel
theorem dX2_takeClouds_90 : decode cX2_takeClouds 90 = .ok (.if_icmp .ge 14, 3) := by decide +kernel
theorem dX2_takeClouds_93 : decode cX2_takeClouds 93 = .ok (.iload 4, 2) := by decide +kernel
theorem dX2_takeClouds_95 : decode cX2_takeClouds 95 = .ok (.ifCond .le 7, 3) := by decide +kernel
theorem dX2_takeClouds_98 : decode cX2_takeClouds 98 = .ok (.iconst 1, 1) := by decide +kernel
theorem dX2_takeClouds_99 : decode cX2_takeClouds 99 = .ok (.goto 4, 3) := by decide +kernel
theorem dX2_takeClouds_102 : decode cX2_takeClouds 102 = .ok (.iconst 0, 1) := by decide +kernel
theorem dX2_takeClouds_103 : decode cX2_takeClouds 103 = .ok (.ireturn, 1) := by decide +kernel
theorem dX2_takeClouds_104 : decode cX2_takeClouds 104 = .ok (.iload 5, 2) := by decide +kernel
theorem dX2_takeClouds_106 : decode cX2_takeClouds 106 = .ok (.invokestatic 249, 3) := by decide +kernel
theorem dX2_takeClouds_109 : decode cX2_takeClouds 109 = .ok (.istore_n 3, 1) := by decide +kernel
theorem dX2_takeClouds_110 : decode cX2_takeClouds 110 = .ok (.aload_n 1, 1) := by decide +kernel
theorem dX2_takeClouds_111 : decode cX2_takeClouds 111 = .ok (.iload 5, 2) := by decide +kernel
theorem dX2_takeClouds_113 : decode cX2_takeClouds 113 = .ok (.invokevirtual 243, 3) := by decide +kernel
theorem dX2_takeClouds_116 : decode cX2_takeClouds 116 = .ok (.aload_n 0, 1) := by decide +kernel
theorem dX2_takeClouds_117 : decode cX2_takeClouds 117 = .ok (.invokevirtual 51, 3) := by decide +kernel
theorem dX2_takeClouds_120 : decode cX2_takeClouds 120 = .ok (.pop, 1) := by decide +kernel
theorem dX2_takeClouds_121 : decode cX2_takeClouds 121 = .ok (.iinc 4 1, 3) := by decide +kernel
theorem dX2_takeClouds_124 : decode cX2_takeClouds 124 = .ok (.goto (-58), 3) := by decide +kernel
theorem dX2_takeClouds_127 : decode cX2_takeClouds 127 = .ok (.iconst 1, 1) := by decide +kernel
theorem dX2_takeClouds_128 : decode cX2_takeClouds 128 = .ok (.ireturn, 1) := by decide +kernel
theorem dX2_layerNumber_0 : decode cX2_layerNumber 0 = .ok (.aload_n 0, 1) := by decide +kernel
theorem dX2_layerNumber_1 : decode cX2_layerNumber 1 = .ok (.iconst 3, 1) := by decide +kernel
theorem dX2_layerNumber_2 : decode cX2_layerNumber 2 = .ok (.iconst 3, 1) := by decide +kernel
theorem dX2_layerNumber_3 : decode cX2_layerNumber 3 = .ok (.invokevirtual 175, 3) := by decide +kernel
theorem dX2_layerNumber_6 : decode cX2_layerNumber 6 = .ok (.istore_n 1, 1) := by decide +kernel
theorem dX2_layerNumber_7 : decode cX2_layerNumber 7 = .ok (.aload_n 0, 1) := by decide +kernel
theorem dX2_layerNumber_8 : decode cX2_layerNumber 8 = .ok (.getfield 22, 3) := by decide +kernel
theorem dX2_layerNumber_11 : decode cX2_layerNumber 11 = .ok (.bipush 8, 2) := by decide +kernel
theorem dX2_layerNumber_13 : decode cX2_layerNumber 13 = .ok (.if_icmp .ne 18, 3) := by decide +kernel
theorem dX2_layerNumber_16 : decode cX2_layerNumber 16 = .ok (.aload_n 0, 1) := by decide +kernel
theorem dX2_layerNumber_17 : decode cX2_layerNumber 17 = .ok (.bipush 6, 2) := by decide +kernel
theorem dX2_layerNumber_19 : decode cX2_layerNumber 19 = .ok (.ldc 252, 2) := by decide +kernel
theorem dX2_layerNumber_21 : decode cX2_layerNumber 21 = .ok (.invokevirtual 196, 3) := by decide +kernel
theorem dX2_layerNumber_24 : decode cX2_layerNumber 24 = .ok (.ifCond .eq 7, 3) := by decide +kernel
theorem dX2_layerNumber_27 : decode cX2_layerNumber 27 = .ok (.iconst 1, 1) := by decide +kernel
theorem dX2_layerNumber_28 : decode cX2_layerNumber 28 = .ok (.goto 4, 3) := by decide +kernel
theorem dX2_layerNumber_31 : decode cX2_layerNumber 31 = .ok (.iconst 0, 1) := by decide +kernel
theorem dX2_layerNumber_32 : decode cX2_layerNumber 32 = .ok (.istore_n 2, 1) := by decide +kernel
theorem dX2_layerNumber_33 : decode cX2_layerNumber 33 = .ok (.aload_n 0, 1) := by decide +kernel
theorem dX2_layerNumber_34 : decode cX2_layerNumber 34 = .ok (.getfield 22, 3) := by decide +kernel
theorem dX2_layerNumber_37 : decode cX2_layerNumber 37 = .ok (.bipush 9, 2) := by decide +kernel
theorem dX2_layerNumber_39 : decode cX2_layerNumber 39 = .ok (.if_icmp .ne 18, 3) := by decide +kernel
theorem dX2_layerNumber_42 : decode cX2_layerNumber 42 = .ok (.aload_n 0, 1) := by decide +kernel
theorem dX2_layerNumber_43 : decode cX2_layerNumber 43 = .ok (.bipush 6, 2) := by decide +kernel
theorem dX2_layerNumber_45 : decode cX2_layerNumber 45 = .ok (.ldc 254, 2) := by decide +kernel
theorem dX2_layerNumber_47 : decode cX2_layerNumber 47 = .ok (.invokevirtual 196, 3) := by decide +kernel
theorem dX2_layerNumber_50 : decode cX2_layerNumber 50 = .ok (.ifCond .eq 7, 3) := by decide +kernel
theorem dX2_layerNumber_53 : decode cX2_layerNumber 53 = .ok (.iconst 1, 1) := by decide +kernel
theorem dX2_layerNumber_54 : decode cX2_layerNumber 54 = .ok (.goto 4, 3) := by decide +kernel
theorem dX2_layerNumber_57 : decode cX2_layerNumber 57 = .ok (.iconst 0, 1) := by decide +kernel
theorem dX2_layerNumber_58 : decode cX2_layerNumber 58 = .ok (.istore_n 3, 1) := by decide +kernel
theorem dX2_layerNumber_59 : decode cX2_layerNumber 59 = .ok (.iload_n 1, 1) := by decide +kernel
theorem dX2_layerNumber_60 : decode cX2_layerNumber 60 = .ok (.iconst (-1), 1) := by decide +kernel
theorem dX2_layerNumber_61 : decode cX2_layerNumber 61 = .ok (.if_icmp .eq 20, 3) := by decide +kernel
theorem dX2_layerNumber_64 : decode cX2_layerNumber 64 = .ok (.aload_n 0, 1) := by decide +kernel
theorem dX2_layerNumber_65 : decode cX2_layerNumber 65 = .ok (.getfield 22, 3) := by decide +kernel
theorem dX2_layerNumber_68 : decode cX2_layerNumber 68 = .ok (.bipush 6, 2) := by decide +kernel
theorem dX2_layerNumber_70 : decode cX2_layerNumber 70 = .ok (.if_icmp .eq 13, 3) := by decide +kernel
theorem dX2_layerNumber_73 : decode cX2_layerNumber 73 = .ok (.iload_n 2, 1) := by decide +kernel
theorem dX2_layerNumber_74 : decode cX2_layerNumber 74 = .ok (.ifCond .ne 9, 3) := by decide +kernel
theorem dX2_layerNumber_77 : decode cX2_layerNumber 77 = .ok (.iload_n 3, 1) := by decide +kernel
theorem dX2_layerNumber_78 : decode cX2_layerNumber 78 = .ok (.ifCond .ne 5, 3) := by decide +kernel
theorem dX2_layerNumber_81 : decode cX2_layerNumber 81 = .ok (.iconst (-1), 1) := by decide +kernel
theorem dX2_layerNumber_82 : decode cX2_layerNumber 82 = .ok (.ireturn, 1) := by decide +kernel
theorem dX2_layerNumber_83 : decode cX2_layerNumber 83 = .ok (.iload_n 2, 1) := by decide +kernel
theorem dX2_layerNumber_84 : decode cX2_layerNumber 84 = .ok (.ifCond .eq 7, 3) := by decide +kernel
theorem dX2_layerNumber_87 : decode cX2_layerNumber 87 = .ok (.iconst 1, 1) := by decide +kernel
theorem dX2_layerNumber_88 : decode cX2_layerNumber 88 = .ok (.goto 12, 3) := by decide +kernel
theorem dX2_layerNumber_91 : decode cX2_layerNumber 91 = .ok (.iload_n 3, 1) := by decide +kernel
theorem dX2_layerNumber_92 : decode cX2_layerNumber 92 = .ok (.ifCond .eq 7, 3) := by decide +kernel
theorem dX2_layerNumber_95 : decode cX2_layerNumber 95 = .ok (.iconst 2, 1) := by decide +kernel
theorem dX2_layerNumber_96 : decode cX2_layerNumber 96 = .ok (.goto 4, 3) := by decide +kernel
theorem dX2_layerNumber_99 : decode cX2_layerNumber 99 = .ok (.iconst 0, 1) := by decide +kernel
theorem dX2_layerNumber_100 : decode cX2_layerNumber 100 = .ok (.istore 4, 2) := by decide +kernel
theorem dX2_layerNumber_102 : decode cX2_layerNumber 102 = .ok (.iconst 0, 1) := by decide +kernel
theorem dX2_layerNumber_103 : decode cX2_layerNumber 103 = .ok (.istore 5, 2) := by decide +kernel
theorem dX2_layerNumber_105 : decode cX2_layerNumber 105 = .ok (.iload 5, 2) := by decide +kernel
theorem dX2_layerNumber_107 : decode cX2_layerNumber 107 = .ok (.iconst 2, 1) := by decide +kernel
theorem dX2_layerNumber_108 : decode cX2_layerNumber 108 = .ok (.iadd, 1) := by decide +kernel
theorem dX2_layerNumber_109 : decode cX2_layerNumber 109 = .ok (.ldc_w 256, 3) := by decide +kernel
theorem dX2_layerNumber_112 : decode cX2_layerNumber 112 = .ok (.invokevirtual 258, 3) := by decide +kernel
theorem dX2_layerNumber_115 : decode cX2_layerNumber 115 = .ok (.if_icmp .ge 83, 3) := by decide +kernel
theorem dX2_layerNumber_118 : decode cX2_layerNumber 118 = .ok (.aload_n 0, 1) := by decide +kernel
theorem dX2_layerNumber_119 : decode cX2_layerNumber 119 = .ok (.getfield 25, 3) := by decide +kernel
theorem dX2_layerNumber_122 : decode cX2_layerNumber 122 = .ok (.iconst 0, 1) := by decide +kernel
theorem dX2_layerNumber_123 : decode cX2_layerNumber 123 = .ok (.caload, 1) := by decide +kernel
theorem dX2_layerNumber_124 : decode cX2_layerNumber 124 = .ok (.ldc_w 256, 3) := by decide +kernel
theorem dX2_layerNumber_127 : decode cX2_layerNumber 127 = .ok (.iload 5, 2) := by decide +kernel
theorem dX2_layerNumber_129 : decode cX2_layerNumber 129 = .ok (.invokevirtual 262, 3) := by decide +kernel
theorem dX2_layerNumber_132 : decode cX2_layerNumber 132 = .ok (.if_icmp .ne 60, 3) := by decide +kernel
theorem dX2_layerNumber_135 : decode cX2_layerNumber 135 = .ok (.aload_n 0, 1) := by decide +kernel
theorem dX2_layerNumber_136 : decode cX2_layerNumber 136 = .ok (.getfield 25, 3) := by decide +kernel
theorem dX2_layerNumber_139 : decode cX2_layerNumber 139 = .ok (.iconst 1, 1) := by decide +kernel
theorem dX2_layerNumber_140 : decode cX2_layerNumber 140 = .ok (.caload, 1) := by decide +kernel
theorem dX2_layerNumber_141 : decode cX2_layerNumber 141 = .ok (.ldc_w 256, 3) := by decide +kernel
theorem dX2_layerNumber_144 : decode cX2_layerNumber 144 = .ok (.iload 5, 2) := by decide +kernel
theorem dX2_layerNumber_146 : decode cX2_layerNumber 146 = .ok (.iconst 1, 1) := by decide +kernel
theorem dX2_layerNumber_147 : decode cX2_layerNumber 147 = .ok (.iadd, 1) := by decide +kernel
theorem dX2_layerNumber_148 : decode cX2_layerNumber 148 = .ok (.invokevirtual 262, 3) := by decide +kernel
theorem dX2_layerNumber_151 : decode cX2_layerNumber 151 = .ok (.if_icmp .ne 41, 3) := by decide +kernel
theorem dX2_layerNumber_154 : decode cX2_layerNumber 154 = .ok (.aload_n 0, 1) := by decide +kernel
theorem dX2_layerNumber_155 : decode cX2_layerNumber 155 = .ok (.getfield 25, 3) := by decide +kernel
theorem dX2_layerNumber_158 : decode cX2_layerNumber 158 = .ok (.iconst 2, 1) := by decide +kernel
theorem dX2_layerNumber_159 : decode cX2_layerNumber 159 = .ok (.caload, 1) := by decide +kernel
theorem dX2_layerNumber_160 : decode cX2_layerNumber 160 = .ok (.ldc_w 256, 3) := by decide +kernel
theorem dX2_layerNumber_163 : decode cX2_layerNumber 163 = .ok (.iload 5, 2) := by decide +kernel
theorem dX2_layerNumber_165 : decode cX2_layerNumber 165 = .ok (.iconst 2, 1) := by decide +kernel
theorem dX2_layerNumber_166 : decode cX2_layerNumber 166 = .ok (.iadd, 1) := by decide +kernel
theorem dX2_layerNumber_167 : decode cX2_layerNumber 167 = .ok (.invokevirtual 262, 3) := by decide +kernel
theorem dX2_layerNumber_170 : decode cX2_layerNumber 170 = .ok (.if_icmp .ne 22, 3) := by decide +kernel
theorem dX2_layerNumber_173 : decode cX2_layerNumber 173 = .ok (.iload 5, 2) := by decide +kernel
theorem dX2_layerNumber_175 : decode cX2_layerNumber 175 = .ok (.iconst 3, 1) := by decide +kernel
theorem dX2_layerNumber_176 : decode cX2_layerNumber 176 = .ok (.idiv, 1) := by decide +kernel
theorem dX2_layerNumber_177 : decode cX2_layerNumber 177 = .ok (.iconst 1, 1) := by decide +kernel
theorem dX2_layerNumber_178 : decode cX2_layerNumber 178 = .ok (.iadd, 1) := by decide +kernel
theorem dX2_layerNumber_179 : decode cX2_layerNumber 179 = .ok (.bipush 8, 2) := by decide +kernel
theorem dX2_layerNumber_181 : decode cX2_layerNumber 181 = .ok (.iload_n 1, 1) := by decide +kernel
theorem dX2_layerNumber_182 : decode cX2_layerNumber 182 = .ok (.imul, 1) := by decide +kernel
theorem dX2_layerNumber_183 : decode cX2_layerNumber 183 = .ok (.iadd, 1) := by decide +kernel
theorem dX2_layerNumber_184 : decode cX2_layerNumber 184 = .ok (.sipush 8192, 3) := by decide +kernel
theorem dX2_layerNumber_187 : decode cX2_layerNumber 187 = .ok (.iload 4, 2) := by decide +kernel
theorem dX2_layerNumber_189 : decode cX2_layerNumber 189 = .ok (.imul, 1) := by decide +kernel
theorem dX2_layerNumber_190 : decode cX2_layerNumber 190 = .ok (.iadd, 1) := by decide +kernel
theorem dX2_layerNumber_191 : decode cX2_layerNumber 191 = .ok (.ireturn, 1) := by decide +kernel
theorem dX2_layerNumber_192 : decode cX2_layerNumber 192 = .ok (.iinc 5 3, 3) := by decide +kernel
theorem dX2_layerNumber_195 : decode cX2_layerNumber 195 = .ok (.goto (-90), 3) := by decide +kernel
theorem dX2_layerNumber_198 : decode cX2_layerNumber 198 = .ok (.iconst (-1), 1) := by decide +kernel
theorem dX2_layerNumber_199 : decode cX2_layerNumber 199 = .ok (.ireturn, 1) := by decide +kernel
theorem dX2_timeAt_0 : decode cX2_timeAt 0 = .ok (.aload_n 0, 1) := by decide +kernel
theorem dX2_timeAt_1 : decode cX2_timeAt 1 = .ok (.iload_n 1, 1) := by decide +kernel
theorem dX2_timeAt_2 : decode cX2_timeAt 2 = .ok (.bipush 23, 2) := by decide +kernel
theorem dX2_timeAt_4 : decode cX2_timeAt 4 = .ok (.invokevirtual 191, 3) := by decide +kernel
theorem dX2_timeAt_7 : decode cX2_timeAt 7 = .ok (.istore_n 2, 1) := by decide +kernel
theorem dX2_timeAt_8 : decode cX2_timeAt 8 = .ok (.aload_n 0, 1) := by decide +kernel
theorem dX2_timeAt_9 : decode cX2_timeAt 9 = .ok (.iload_n 1, 1) := by decide +kernel
theorem dX2_timeAt_10 : decode cX2_timeAt 10 = .ok (.iconst 4, 1) := by decide +kernel
theorem dX2_timeAt_11 : decode cX2_timeAt 11 = .ok (.iadd, 1) := by decide +kernel
theorem dX2_timeAt_12 : decode cX2_timeAt 12 = .ok (.iconst 2, 1) := by decide +kernel
theorem dX2_timeAt_13 : decode cX2_timeAt 13 = .ok (.invokevirtual 175, 3) := by decide +kernel
theorem dX2_timeAt_16 : decode cX2_timeAt 16 = .ok (.istore_n 3, 1) := by decide +kernel
theorem dX2_timeAt_17 : decode cX2_timeAt 17 = .ok (.iload_n 2, 1) := by decide +kernel
theorem dX2_timeAt_18 : decode cX2_timeAt 18 = .ok (.iconst (-1), 1) := by decide +kernel
theorem dX2_timeAt_19 : decode cX2_timeAt 19 = .ok (.if_icmp .eq 14, 3) := by decide +kernel
theorem dX2_timeAt_22 : decode cX2_timeAt 22 = .ok (.iload_n 3, 1) := by decide +kernel
theorem dX2_timeAt_23 : decode cX2_timeAt 23 = .ok (.iconst (-1), 1) := by decide +kernel
theorem dX2_timeAt_24 : decode cX2_timeAt 24 = .ok (.if_icmp .eq 9, 3) := by decide +kernel
theorem dX2_timeAt_27 : decode cX2_timeAt 27 = .ok (.iload_n 3, 1) := by decide +kernel
theorem dX2_timeAt_28 : decode cX2_timeAt 28 = .ok (.bipush 59, 2) := by decide +kernel
theorem dX2_timeAt_30 : decode cX2_timeAt 30 = .ok (.if_icmp .le 7, 3) := by decide +kernel
theorem dX2_timeAt_33 : decode cX2_timeAt 33 = .ok (.iconst (-1), 1) := by decide +kernel
theorem dX2_timeAt_34 : decode cX2_timeAt 34 = .ok (.goto 6, 3) := by decide +kernel
theorem dX2_timeAt_37 : decode cX2_timeAt 37 = .ok (.iload_n 2, 1) := by decide +kernel
theorem dX2_timeAt_38 : decode cX2_timeAt 38 = .ok (.iload_n 3, 1) := by decide +kernel
theorem dX2_timeAt_39 : decode cX2_timeAt 39 = .ok (.iadd, 1) := by decide +kernel
theorem dX2_timeAt_40 : decode cX2_timeAt 40 = .ok (.ireturn, 1) := by decide +kernel
theorem dX2_hourAt_0 : decode cX2_hourAt 0 = .ok (.aload_n 0, 1) := by decide +kernel
theorem dX2_hourAt_1 : decode cX2_hourAt 1 = .ok (.iload_n 1, 1) := by decide +kernel
theorem dX2_hourAt_2 : decode cX2_hourAt 2 = .ok (.iconst 2, 1) := by decide +kernel
theorem dX2_hourAt_3 : decode cX2_hourAt 3 = .ok (.invokevirtual 175, 3) := by decide +kernel
theorem dX2_hourAt_6 : decode cX2_hourAt 6 = .ok (.istore_n 3, 1) := by decide +kernel
theorem dX2_hourAt_7 : decode cX2_hourAt 7 = .ok (.aload_n 0, 1) := by decide +kernel
theorem dX2_hourAt_8 : decode cX2_hourAt 8 = .ok (.iload_n 1, 1) := by decide +kernel
theorem dX2_hourAt_9 : decode cX2_hourAt 9 = .ok (.iconst 2, 1) := by decide +kernel
theorem dX2_hourAt_10 : decode cX2_hourAt 10 = .ok (.iadd, 1) := by decide +kernel
theorem dX2_hourAt_11 : decode cX2_hourAt 11 = .ok (.iconst 2, 1) := by decide +kernel
theorem dX2_hourAt_12 : decode cX2_hourAt 12 = .ok (.invokevirtual 175, 3) := by decide +kernel
theorem dX2_hourAt_15 : decode cX2_hourAt 15 = .ok (.istore 4, 2) := by decide +kernel
theorem dX2_hourAt_17 : decode cX2_hourAt 17 = .ok (.iload_n 3, 1) := by decide +kernel
theorem dX2_hourAt_18 : decode cX2_hourAt 18 = .ok (.iconst 1, 1) := by decide +kernel
theorem dX2_hourAt_19 : decode cX2_hourAt 19 = .ok (.if_icmp .lt 23, 3) := by decide +kernel
theorem dX2_hourAt_22 : decode cX2_hourAt 22 = .ok (.iload_n 3, 1) := by decide +kernel
theorem dX2_hourAt_23 : decode cX2_hourAt 23 = .ok (.aload_n 0, 1) := by decide +kernel
theorem dX2_hourAt_24 : decode cX2_hourAt 24 = .ok (.getfield 28, 3) := by decide +kernel
theorem dX2_hourAt_27 : decode cX2_hourAt 27 = .ok (.if_icmp .gt 15, 3) := by decide +kernel
theorem dX2_hourAt_30 : decode cX2_hourAt 30 = .ok (.iload 4, 2) := by decide +kernel
theorem dX2_hourAt_32 : decode cX2_hourAt 32 = .ok (.iconst (-1), 1) := by decide +kernel
theorem dX2_hourAt_33 : decode cX2_hourAt 33 = .ok (.if_icmp .eq 9, 3) := by decide +kernel
theorem dX2_hourAt_36 : decode cX2_hourAt 36 = .ok (.iload 4, 2) := by decide +kernel
theorem dX2_hourAt_38 : decode cX2_hourAt 38 = .ok (.iload_n 2, 1) := by decide +kernel
theorem dX2_hourAt_39 : decode cX2_hourAt 39 = .ok (.if_icmp .le 5, 3) := by decide +kernel
theorem dX2_hourAt_42 : decode cX2_hourAt 42 = .ok (.iconst (-1), 1) := by decide +kernel
theorem dX2_hourAt_43 : decode cX2_hourAt 43 = .ok (.ireturn, 1) := by decide +kernel
theorem dX2_hourAt_44 : decode cX2_hourAt 44 = .ok (.iload_n 3, 1) := by decide +kernel
theorem dX2_hourAt_45 : decode cX2_hourAt 45 = .ok (.iconst 1, 1) := by decide +kernel
theorem dX2_hourAt_46 : decode cX2_hourAt 46 = .ok (.isub, 1) := by decide +kernel
theorem dX2_hourAt_47 : decode cX2_hourAt 47 = .ok (.sipush 1440, 3) := by decide +kernel
theorem dX2_hourAt_50 : decode cX2_hourAt 50 = .ok (.imul, 1) := by decide +kernel
theorem dX2_hourAt_51 : decode cX2_hourAt 51 = .ok (.iload 4, 2) := by decide +kernel
theorem dX2_hourAt_53 : decode cX2_hourAt 53 = .ok (.bipush 60, 2) := by decide +kernel
theorem dX2_hourAt_55 : decode cX2_hourAt 55 = .ok (.imul, 1) := by decide +kernel
theorem dX2_hourAt_56 : decode cX2_hourAt 56 = .ok (.iadd, 1) := by decide +kernel
theorem dX2_hourAt_57 : decode cX2_hourAt 57 = .ok (.ireturn, 1) := by decide +kernel
theorem dX2_degreesAt_0 : decode cX2_degreesAt 0 = .ok (.aload_n 0, 1) := by decide +kernel
theorem dX2_degreesAt_1 : decode cX2_degreesAt 1 = .ok (.iload_n 1, 1) := by decide +kernel
theorem dX2_degreesAt_2 : decode cX2_degreesAt 2 = .ok (.ldc_w 266, 3) := by decide +kernel
theorem dX2_degreesAt_5 : decode cX2_degreesAt 5 = .ok (.invokevirtual 196, 3) := by decide +kernel
theorem dX2_degreesAt_8 : decode cX2_degreesAt 8 = .ok (.istore_n 2, 1) := by decide +kernel
theorem dX2_degreesAt_9 : decode cX2_degreesAt 9 = .ok (.aload_n 0, 1) := by decide +kernel
theorem dX2_degreesAt_10 : decode cX2_degreesAt 10 = .ok (.iload_n 2, 1) := by decide +kernel
theorem dX2_degreesAt_11 : decode cX2_degreesAt 11 = .ok (.ifCond .eq 9, 3) := by decide +kernel
theorem dX2_degreesAt_14 : decode cX2_degreesAt 14 = .ok (.iload_n 1, 1) := by decide +kernel
theorem dX2_degreesAt_15 : decode cX2_degreesAt 15 = .ok (.iconst 1, 1) := by decide +kernel
theorem dX2_degreesAt_16 : decode cX2_degreesAt 16 = .ok (.iadd, 1) := by decide +kernel
theorem dX2_degreesAt_17 : decode cX2_degreesAt 17 = .ok (.goto 4, 3) := by decide +kernel
theorem dX2_degreesAt_20 : decode cX2_degreesAt 20 = .ok (.iload_n 1, 1) := by decide +kernel
theorem dX2_degreesAt_21 : decode cX2_degreesAt 21 = .ok (.iconst 2, 1) := by decide +kernel
theorem dX2_degreesAt_22 : decode cX2_degreesAt 22 = .ok (.invokevirtual 175, 3) := by decide +kernel
theorem dX2_degreesAt_25 : decode cX2_degreesAt 25 = .ok (.istore_n 3, 1) := by decide +kernel
theorem dX2_degreesAt_26 : decode cX2_degreesAt 26 = .ok (.iload_n 3, 1) := by decide +kernel
theorem dX2_degreesAt_27 : decode cX2_degreesAt 27 = .ok (.iconst (-1), 1) := by decide +kernel
theorem dX2_degreesAt_28 : decode cX2_degreesAt 28 = .ok (.if_icmp .ne 7, 3) := by decide +kernel
theorem dX2_degreesAt_31 : decode cX2_degreesAt 31 = .ok (.sipush (-1001), 3) := by decide +kernel
theorem dX2_degreesAt_34 : decode cX2_degreesAt 34 = .ok (.ireturn, 1) := by decide +kernel
theorem dX2_degreesAt_35 : decode cX2_degreesAt 35 = .ok (.iload_n 2, 1) := by decide +kernel
theorem dX2_degreesAt_36 : decode cX2_degreesAt 36 = .ok (.ifCond .eq 8, 3) := by decide +kernel
theorem dX2_degreesAt_39 : decode cX2_degreesAt 39 = .ok (.iload_n 3, 1) := by decide +kernel
theorem dX2_degreesAt_40 : decode cX2_degreesAt 40 = .ok (.ineg, 1) := by decide +kernel
theorem dX2_degreesAt_41 : decode cX2_degreesAt 41 = .ok (.goto 4, 3) := by decide +kernel
theorem dX2_degreesAt_44 : decode cX2_degreesAt 44 = .ok (.iload_n 3, 1) := by decide +kernel
theorem dX2_degreesAt_45 : decode cX2_degreesAt 45 = .ok (.ireturn, 1) := by decide +kernel
theorem dX2_digits_0 : decode cX2_digits 0 = .ok (.iload_n 1, 1) := by decide +kernel
theorem dX2_digits_1 : decode cX2_digits 1 = .ok (.ifCond .lt 11, 3) := by decide +kernel
theorem dX2_digits_4 : decode cX2_digits 4 = .ok (.iload_n 1, 1) := by decide +kernel
theorem dX2_digits_5 : decode cX2_digits 5 = .ok (.iload_n 2, 1) := by decide +kernel
theorem dX2_digits_6 : decode cX2_digits 6 = .ok (.iadd, 1) := by decide +kernel
theorem dX2_digits_7 : decode cX2_digits 7 = .ok (.bipush 16, 2) := by decide +kernel
theorem dX2_digits_9 : decode cX2_digits 9 = .ok (.if_icmp .le 5, 3) := by decide +kernel
theorem dX2_digits_12 : decode cX2_digits 12 = .ok (.iconst (-1), 1) := by decide +kernel
theorem dX2_digits_13 : decode cX2_digits 13 = .ok (.ireturn, 1) := by decide +kernel
theorem dX2_digits_14 : decode cX2_digits 14 = .ok (.iconst 0, 1) := by decide +kernel
theorem dX2_digits_15 : decode cX2_digits 15 = .ok (.istore_n 3, 1) := by decide +kernel
theorem dX2_digits_16 : decode cX2_digits 16 = .ok (.iload_n 1, 1) := by decide +kernel
theorem dX2_digits_17 : decode cX2_digits 17 = .ok (.istore 4, 2) := by decide +kernel
theorem dX2_digits_19 : decode cX2_digits 19 = .ok (.iload 4, 2) := by decide +kernel
theorem dX2_digits_21 : decode cX2_digits 21 = .ok (.iload_n 1, 1) := by decide +kernel
theorem dX2_digits_22 : decode cX2_digits 22 = .ok (.iload_n 2, 1) := by decide +kernel
theorem dX2_digits_23 : decode cX2_digits 23 = .ok (.iadd, 1) := by decide +kernel
theorem dX2_digits_24 : decode cX2_digits 24 = .ok (.if_icmp .ge 51, 3) := by decide +kernel
theorem dX2_digits_27 : decode cX2_digits 27 = .ok (.aload_n 0, 1) := by decide +kernel
theorem dX2_digits_28 : decode cX2_digits 28 = .ok (.getfield 25, 3) := by decide +kernel
theorem dX2_digits_31 : decode cX2_digits 31 = .ok (.iload 4, 2) := by decide +kernel
theorem dX2_digits_33 : decode cX2_digits 33 = .ok (.caload, 1) := by decide +kernel
theorem dX2_digits_34 : decode cX2_digits 34 = .ok (.bipush 48, 2) := by decide +kernel
theorem dX2_digits_36 : decode cX2_digits 36 = .ok (.if_icmp .lt 15, 3) := by decide +kernel
theorem dX2_digits_39 : decode cX2_digits 39 = .ok (.aload_n 0, 1) := by decide +kernel
theorem dX2_digits_40 : decode cX2_digits 40 = .ok (.getfield 25, 3) := by decide +kernel
theorem dX2_digits_43 : decode cX2_digits 43 = .ok (.iload 4, 2) := by decide +kernel
theorem dX2_digits_45 : decode cX2_digits 45 = .ok (.caload, 1) := by decide +kernel
theorem dX2_digits_46 : decode cX2_digits 46 = .ok (.bipush 57, 2) := by decide +kernel
theorem dX2_digits_48 : decode cX2_digits 48 = .ok (.if_icmp .le 5, 3) := by decide +kernel
theorem dX2_digits_51 : decode cX2_digits 51 = .ok (.iconst (-1), 1) := by decide +kernel
theorem dX2_digits_52 : decode cX2_digits 52 = .ok (.ireturn, 1) := by decide +kernel
theorem dX2_digits_53 : decode cX2_digits 53 = .ok (.iload_n 3, 1) := by decide +kernel
theorem dX2_digits_54 : decode cX2_digits 54 = .ok (.bipush 10, 2) := by decide +kernel
theorem dX2_digits_56 : decode cX2_digits 56 = .ok (.imul, 1) := by decide +kernel
theorem dX2_digits_57 : decode cX2_digits 57 = .ok (.aload_n 0, 1) := by decide +kernel
theorem dX2_digits_58 : decode cX2_digits 58 = .ok (.getfield 25, 3) := by decide +kernel
theorem dX2_digits_61 : decode cX2_digits 61 = .ok (.iload 4, 2) := by decide +kernel
theorem dX2_digits_63 : decode cX2_digits 63 = .ok (.caload, 1) := by decide +kernel
theorem dX2_digits_64 : decode cX2_digits 64 = .ok (.bipush 48, 2) := by decide +kernel
theorem dX2_digits_66 : decode cX2_digits 66 = .ok (.isub, 1) := by decide +kernel
theorem dX2_digits_67 : decode cX2_digits 67 = .ok (.iadd, 1) := by decide +kernel
theorem dX2_digits_68 : decode cX2_digits 68 = .ok (.istore_n 3, 1) := by decide +kernel
theorem dX2_digits_69 : decode cX2_digits 69 = .ok (.iinc 4 1, 3) := by decide +kernel
theorem dX2_digits_72 : decode cX2_digits 72 = .ok (.goto (-53), 3) := by decide +kernel
theorem dX2_digits_75 : decode cX2_digits 75 = .ok (.iload_n 3, 1) := by decide +kernel
theorem dX2_digits_76 : decode cX2_digits 76 = .ok (.ireturn, 1) := by decide +kernel
theorem dX2_pairAt_0 : decode cX2_pairAt 0 = .ok (.iload_n 1, 1) := by decide +kernel
theorem dX2_pairAt_1 : decode cX2_pairAt 1 = .ok (.ifCond .lt 11, 3) := by decide +kernel
theorem dX2_pairAt_4 : decode cX2_pairAt 4 = .ok (.iload_n 1, 1) := by decide +kernel
theorem dX2_pairAt_5 : decode cX2_pairAt 5 = .ok (.iconst 2, 1) := by decide +kernel
theorem dX2_pairAt_6 : decode cX2_pairAt 6 = .ok (.iadd, 1) := by decide +kernel
theorem dX2_pairAt_7 : decode cX2_pairAt 7 = .ok (.bipush 16, 2) := by decide +kernel
theorem dX2_pairAt_9 : decode cX2_pairAt 9 = .ok (.if_icmp .le 5, 3) := by decide +kernel
theorem dX2_pairAt_12 : decode cX2_pairAt 12 = .ok (.iconst (-1), 1) := by decide +kernel
theorem dX2_pairAt_13 : decode cX2_pairAt 13 = .ok (.ireturn, 1) := by decide +kernel
theorem dX2_pairAt_14 : decode cX2_pairAt 14 = .ok (.iconst 0, 1) := by decide +kernel
theorem dX2_pairAt_15 : decode cX2_pairAt 15 = .ok (.istore_n 3, 1) := by decide +kernel
theorem dX2_pairAt_16 : decode cX2_pairAt 16 = .ok (.iload_n 3, 1) := by decide +kernel
theorem dX2_pairAt_17 : decode cX2_pairAt 17 = .ok (.iconst 1, 1) := by decide +kernel
theorem dX2_pairAt_18 : decode cX2_pairAt 18 = .ok (.iadd, 1) := by decide +kernel
theorem dX2_pairAt_19 : decode cX2_pairAt 19 = .ok (.aload_n 2, 1) := by decide +kernel
theorem dX2_pairAt_20 : decode cX2_pairAt 20 = .ok (.invokevirtual 258, 3) := by decide +kernel
theorem dX2_pairAt_23 : decode cX2_pairAt 23 = .ok (.if_icmp .ge 45, 3) := by decide +kernel
theorem dX2_pairAt_26 : decode cX2_pairAt 26 = .ok (.aload_n 0, 1) := by decide +kernel
theorem dX2_pairAt_27 : decode cX2_pairAt 27 = .ok (.getfield 25, 3) := by decide +kernel
theorem dX2_pairAt_30 : decode cX2_pairAt 30 = .ok (.iload_n 1, 1) := by decide +kernel
theorem dX2_pairAt_31 : decode cX2_pairAt 31 = .ok (.caload, 1) := by decide +kernel
theorem dX2_pairAt_32 : decode cX2_pairAt 32 = .ok (.aload_n 2, 1) := by decide +kernel
theorem dX2_pairAt_33 : decode cX2_pairAt 33 = .ok (.iload_n 3, 1) := by decide +kernel
theorem dX2_pairAt_34 : decode cX2_pairAt 34 = .ok (.invokevirtual 262, 3) := by decide +kernel
theorem dX2_pairAt_37 : decode cX2_pairAt 37 = .ok (.if_icmp .ne 25, 3) := by decide +kernel
theorem dX2_pairAt_40 : decode cX2_pairAt 40 = .ok (.aload_n 0, 1) := by decide +kernel
theorem dX2_pairAt_41 : decode cX2_pairAt 41 = .ok (.getfield 25, 3) := by decide +kernel
theorem dX2_pairAt_44 : decode cX2_pairAt 44 = .ok (.iload_n 1, 1) := by decide +kernel
theorem dX2_pairAt_45 : decode cX2_pairAt 45 = .ok (.iconst 1, 1) := by decide +kernel
theorem dX2_pairAt_46 : decode cX2_pairAt 46 = .ok (.iadd, 1) := by decide +kernel
theorem dX2_pairAt_47 : decode cX2_pairAt 47 = .ok (.caload, 1) := by decide +kernel
theorem dX2_pairAt_48 : decode cX2_pairAt 48 = .ok (.aload_n 2, 1) := by decide +kernel
theorem dX2_pairAt_49 : decode cX2_pairAt 49 = .ok (.iload_n 3, 1) := by decide +kernel
theorem dX2_pairAt_50 : decode cX2_pairAt 50 = .ok (.iconst 1, 1) := by decide +kernel
theorem dX2_pairAt_51 : decode cX2_pairAt 51 = .ok (.iadd, 1) := by decide +kernel
theorem dX2_pairAt_52 : decode cX2_pairAt 52 = .ok (.invokevirtual 262, 3) := by decide +kernel
theorem dX2_pairAt_55 : decode cX2_pairAt 55 = .ok (.if_icmp .ne 7, 3) := by decide +kernel
theorem dX2_pairAt_58 : decode cX2_pairAt 58 = .ok (.iload_n 3, 1) := by decide +kernel
theorem dX2_pairAt_59 : decode cX2_pairAt 59 = .ok (.iconst 2, 1) := by decide +kernel
theorem dX2_pairAt_60 : decode cX2_pairAt 60 = .ok (.idiv, 1) := by decide +kernel
theorem dX2_pairAt_61 : decode cX2_pairAt 61 = .ok (.ireturn, 1) := by decide +kernel
theorem dX2_pairAt_62 : decode cX2_pairAt 62 = .ok (.iinc 3 2, 3) := by decide +kernel
theorem dX2_pairAt_65 : decode cX2_pairAt 65 = .ok (.goto (-49), 3) := by decide +kernel
theorem dX2_pairAt_68 : decode cX2_pairAt 68 = .ok (.iconst (-1), 1) := by decide +kernel
theorem dX2_pairAt_69 : decode cX2_pairAt 69 = .ok (.ireturn, 1) := by decide +kernel
theorem dX2_holds_0 : decode cX2_holds 0 = .ok (.iload_n 1, 1) := by decide +kernel
theorem dX2_holds_1 : decode cX2_holds 1 = .ok (.ifCond .lt 14, 3) := by decide +kernel
theorem dX2_holds_4 : decode cX2_holds 4 = .ok (.iload_n 1, 1) := by decide +kernel
theorem dX2_holds_5 : decode cX2_holds 5 = .ok (.aload_n 2, 1) := by decide +kernel
theorem dX2_holds_6 : decode cX2_holds 6 = .ok (.invokevirtual 258, 3) := by decide +kernel
theorem dX2_holds_9 : decode cX2_holds 9 = .ok (.iadd, 1) := by decide +kernel
theorem dX2_holds_10 : decode cX2_holds 10 = .ok (.bipush 16, 2) := by decide +kernel
theorem dX2_holds_12 : decode cX2_holds 12 = .ok (.if_icmp .le 5, 3) := by decide +kernel
theorem dX2_holds_15 : decode cX2_holds 15 = .ok (.iconst 0, 1) := by decide +kernel
theorem dX2_holds_16 : decode cX2_holds 16 = .ok (.ireturn, 1) := by decide +kernel
theorem dX2_holds_17 : decode cX2_holds 17 = .ok (.iconst 0, 1) := by decide +kernel
theorem dX2_holds_18 : decode cX2_holds 18 = .ok (.istore_n 3, 1) := by decide +kernel
theorem dX2_holds_19 : decode cX2_holds 19 = .ok (.iload_n 3, 1) := by decide +kernel
theorem dX2_holds_20 : decode cX2_holds 20 = .ok (.aload_n 2, 1) := by decide +kernel
theorem dX2_holds_21 : decode cX2_holds 21 = .ok (.invokevirtual 258, 3) := by decide +kernel
theorem dX2_holds_24 : decode cX2_holds 24 = .ok (.if_icmp .ge 27, 3) := by decide +kernel
theorem dX2_holds_27 : decode cX2_holds 27 = .ok (.aload_n 0, 1) := by decide +kernel
theorem dX2_holds_28 : decode cX2_holds 28 = .ok (.getfield 25, 3) := by decide +kernel
theorem dX2_holds_31 : decode cX2_holds 31 = .ok (.iload_n 1, 1) := by decide +kernel
theorem dX2_holds_32 : decode cX2_holds 32 = .ok (.iload_n 3, 1) := by decide +kernel
theorem dX2_holds_33 : decode cX2_holds 33 = .ok (.iadd, 1) := by decide +kernel
theorem dX2_holds_34 : decode cX2_holds 34 = .ok (.caload, 1) := by decide +kernel
theorem dX2_holds_35 : decode cX2_holds 35 = .ok (.aload_n 2, 1) := by decide +kernel
theorem dX2_holds_36 : decode cX2_holds 36 = .ok (.iload_n 3, 1) := by decide +kernel
theorem dX2_holds_37 : decode cX2_holds 37 = .ok (.invokevirtual 262, 3) := by decide +kernel
theorem dX2_holds_40 : decode cX2_holds 40 = .ok (.if_icmp .eq 5, 3) := by decide +kernel
theorem dX2_holds_43 : decode cX2_holds 43 = .ok (.iconst 0, 1) := by decide +kernel
theorem dX2_holds_44 : decode cX2_holds 44 = .ok (.ireturn, 1) := by decide +kernel
theorem dX2_holds_45 : decode cX2_holds 45 = .ok (.iinc 3 1, 3) := by decide +kernel
theorem dX2_holds_48 : decode cX2_holds 48 = .ok (.goto (-29), 3) := by decide +kernel
theorem dX2_holds_51 : decode cX2_holds 51 = .ok (.iconst 1, 1) := by decide +kernel
theorem dX2_holds_52 : decode cX2_holds 52 = .ok (.ireturn, 1) := by decide +kernel
theorem dX2_takeWord_0 : decode cX2_takeWord 0 = .ok (.aload_n 0, 1) := by decide +kernel
theorem dX2_takeWord_1 : decode cX2_takeWord 1 = .ok (.getfield 22, 3) := by decide +kernel
theorem dX2_takeWord_4 : decode cX2_takeWord 4 = .ok (.aload_n 1, 1) := by decide +kernel
theorem dX2_takeWord_5 : decode cX2_takeWord 5 = .ok (.invokevirtual 258, 3) := by decide +kernel
theorem dX2_takeWord_8 : decode cX2_takeWord 8 = .ok (.if_icmp .ne 23, 3) := by decide +kernel
theorem dX2_takeWord_11 : decode cX2_takeWord 11 = .ok (.aload_n 0, 1) := by decide +kernel
theorem dX2_takeWord_12 : decode cX2_takeWord 12 = .ok (.iconst 0, 1) := by decide +kernel
theorem dX2_takeWord_13 : decode cX2_takeWord 13 = .ok (.aload_n 1, 1) := by decide +kernel
theorem dX2_takeWord_14 : decode cX2_takeWord 14 = .ok (.invokevirtual 196, 3) := by decide +kernel
theorem dX2_takeWord_17 : decode cX2_takeWord 17 = .ok (.ifCond .eq 14, 3) := by decide +kernel
theorem dX2_takeWord_20 : decode cX2_takeWord 20 = .ok (.aload_n 0, 1) := by decide +kernel
theorem dX2_takeWord_21 : decode cX2_takeWord 21 = .ok (.invokevirtual 51, 3) := by decide +kernel
theorem dX2_takeWord_24 : decode cX2_takeWord 24 = .ok (.ifCond .eq 7, 3) := by decide +kernel
theorem dX2_takeWord_27 : decode cX2_takeWord 27 = .ok (.iconst 1, 1) := by decide +kernel
theorem dX2_takeWord_28 : decode cX2_takeWord 28 = .ok (.goto 4, 3) := by decide +kernel
theorem dX2_takeWord_31 : decode cX2_takeWord 31 = .ok (.iconst 0, 1) := by decide +kernel
theorem dX2_takeWord_32 : decode cX2_takeWord 32 = .ok (.ireturn, 1) := by decide +kernel
theorem dX2_takeToken_0 : decode cX2_takeToken 0 = .ok (.aload_n 0, 1) := by decide +kernel
theorem dX2_takeToken_1 : decode cX2_takeToken 1 = .ok (.getfield 19, 3) := by decide +kernel
theorem dX2_takeToken_4 : decode cX2_takeToken 4 = .ok (.aload_n 0, 1) := by decide +kernel
theorem dX2_takeToken_5 : decode cX2_takeToken 5 = .ok (.getfield 22, 3) := by decide +kernel
theorem dX2_takeToken_8 : decode cX2_takeToken 8 = .ok (.iadd, 1) := by decide +kernel
theorem dX2_takeToken_9 : decode cX2_takeToken 9 = .ok (.istore_n 1, 1) := by decide +kernel
theorem dX2_takeToken_10 : decode cX2_takeToken 10 = .ok (.iload_n 1, 1) := by decide +kernel
theorem dX2_takeToken_11 : decode cX2_takeToken 11 = .ok (.aload_n 0, 1) := by decide +kernel
theorem dX2_takeToken_12 : decode cX2_takeToken 12 = .ok (.getfield 15, 3) := by decide +kernel
theorem dX2_takeToken_15 : decode cX2_takeToken 15 = .ok (.if_icmp .ge 20, 3) := by decide +kernel
theorem dX2_takeToken_18 : decode cX2_takeToken 18 = .ok (.aload_n 0, 1) := by decide +kernel
theorem dX2_takeToken_19 : decode cX2_takeToken 19 = .ok (.getfield 9, 3) := by decide +kernel
theorem dX2_takeToken_22 : decode cX2_takeToken 22 = .ok (.iload_n 1, 1) := by decide +kernel
theorem dX2_takeToken_23 : decode cX2_takeToken 23 = .ok (.caload, 1) := by decide +kernel
theorem dX2_takeToken_24 : decode cX2_takeToken 24 = .ok (.bipush 32, 2) := by decide +kernel
theorem dX2_takeToken_26 : decode cX2_takeToken 26 = .ok (.if_icmp .ne 9, 3) := by decide +kernel
theorem dX2_takeToken_29 : decode cX2_takeToken 29 = .ok (.iinc 1 1, 3) := by decide +kernel
theorem dX2_takeToken_32 : decode cX2_takeToken 32 = .ok (.goto (-22), 3) := by decide +kernel
theorem dX2_takeToken_35 : decode cX2_takeToken 35 = .ok (.iload_n 1, 1) := by decide +kernel
theorem dX2_takeToken_36 : decode cX2_takeToken 36 = .ok (.istore_n 2, 1) := by decide +kernel
theorem dX2_takeToken_37 : decode cX2_takeToken 37 = .ok (.iload_n 2, 1) := by decide +kernel
theorem dX2_takeToken_38 : decode cX2_takeToken 38 = .ok (.aload_n 0, 1) := by decide +kernel
theorem dX2_takeToken_39 : decode cX2_takeToken 39 = .ok (.getfield 15, 3) := by decide +kernel
theorem dX2_takeToken_42 : decode cX2_takeToken 42 = .ok (.if_icmp .ge 20, 3) := by decide +kernel
theorem dX2_takeToken_45 : decode cX2_takeToken 45 = .ok (.aload_n 0, 1) := by decide +kernel
theorem dX2_takeToken_46 : decode cX2_takeToken 46 = .ok (.getfield 9, 3) := by decide +kernel
theorem dX2_takeToken_49 : decode cX2_takeToken 49 = .ok (.iload_n 2, 1) := by decide +kernel
theorem dX2_takeToken_50 : decode cX2_takeToken 50 = .ok (.caload, 1) := by decide +kernel
theorem dX2_takeToken_51 : decode cX2_takeToken 51 = .ok (.bipush 32, 2) := by decide +kernel
theorem dX2_takeToken_53 : decode cX2_takeToken 53 = .ok (.if_icmp .eq 9, 3) := by decide +kernel
theorem dX2_takeToken_56 : decode cX2_takeToken 56 = .ok (.iinc 2 1, 3) := by decide +kernel
theorem dX2_takeToken_59 : decode cX2_takeToken 59 = .ok (.goto (-22), 3) := by decide +kernel
theorem dX2_takeToken_62 : decode cX2_takeToken 62 = .ok (.aload_n 0, 1) := by decide +kernel
theorem dX2_takeToken_63 : decode cX2_takeToken 63 = .ok (.iload_n 1, 1) := by decide +kernel
theorem dX2_takeToken_64 : decode cX2_takeToken 64 = .ok (.putfield 19, 3) := by decide +kernel
theorem dX2_takeToken_67 : decode cX2_takeToken 67 = .ok (.aload_n 0, 1) := by decide +kernel
theorem dX2_takeToken_68 : decode cX2_takeToken 68 = .ok (.iload_n 2, 1) := by decide +kernel
theorem dX2_takeToken_69 : decode cX2_takeToken 69 = .ok (.iload_n 1, 1) := by decide +kernel
theorem dX2_takeToken_70 : decode cX2_takeToken 70 = .ok (.isub, 1) := by decide +kernel
theorem dX2_takeToken_71 : decode cX2_takeToken 71 = .ok (.putfield 22, 3) := by decide +kernel
theorem dX2_takeToken_74 : decode cX2_takeToken 74 = .ok (.iconst 0, 1) := by decide +kernel
theorem dX2_takeToken_75 : decode cX2_takeToken 75 = .ok (.istore_n 3, 1) := by decide +kernel
theorem dX2_takeToken_76 : decode cX2_takeToken 76 = .ok (.iload_n 3, 1) := by decide +kernel
theorem dX2_takeToken_77 : decode cX2_takeToken 77 = .ok (.bipush 16, 2) := by decide +kernel
theorem dX2_takeToken_79 : decode cX2_takeToken 79 = .ok (.if_icmp .ge 35, 3) := by decide +kernel
theorem dX2_takeToken_82 : decode cX2_takeToken 82 = .ok (.aload_n 0, 1) := by decide +kernel
theorem dX2_takeToken_83 : decode cX2_takeToken 83 = .ok (.getfield 25, 3) := by decide +kernel
theorem dX2_takeToken_86 : decode cX2_takeToken 86 = .ok (.iload_n 3, 1) := by decide +kernel
theorem dX2_takeToken_87 : decode cX2_takeToken 87 = .ok (.iload_n 3, 1) := by decide +kernel
theorem dX2_takeToken_88 : decode cX2_takeToken 88 = .ok (.aload_n 0, 1) := by decide +kernel
theorem dX2_takeToken_89 : decode cX2_takeToken 89 = .ok (.getfield 22, 3) := by decide +kernel
theorem dX2_takeToken_92 : decode cX2_takeToken 92 = .ok (.if_icmp .ge 14, 3) := by decide +kernel
theorem dX2_takeToken_95 : decode cX2_takeToken 95 = .ok (.aload_n 0, 1) := by decide +kernel
theorem dX2_takeToken_96 : decode cX2_takeToken 96 = .ok (.getfield 9, 3) := by decide +kernel
theorem dX2_takeToken_99 : decode cX2_takeToken 99 = .ok (.iload_n 1, 1) := by decide +kernel
theorem dX2_takeToken_100 : decode cX2_takeToken 100 = .ok (.iload_n 3, 1) := by decide +kernel
theorem dX2_takeToken_101 : decode cX2_takeToken 101 = .ok (.iadd, 1) := by decide +kernel
theorem dX2_takeToken_102 : decode cX2_takeToken 102 = .ok (.caload, 1) := by decide +kernel
theorem dX2_takeToken_103 : decode cX2_takeToken 103 = .ok (.goto 4, 3) := by decide +kernel
theorem dX2_takeToken_106 : decode cX2_takeToken 106 = .ok (.iconst 0, 1) := by decide +kernel
theorem dX2_takeToken_107 : decode cX2_takeToken 107 = .ok (.castore, 1) := by decide +kernel
theorem dX2_takeToken_108 : decode cX2_takeToken 108 = .ok (.iinc 3 1, 3) := by decide +kernel
theorem dX2_takeToken_111 : decode cX2_takeToken 111 = .ok (.goto (-35), 3) := by decide +kernel
theorem dX2_takeToken_114 : decode cX2_takeToken 114 = .ok (.iconst 1, 1) := by decide +kernel
theorem dX2_takeToken_115 : decode cX2_takeToken 115 = .ok (.ireturn, 1) := by decide +kernel
