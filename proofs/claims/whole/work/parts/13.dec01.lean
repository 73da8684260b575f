theorem dX4_planRun_80 : decode cX4_planRun 80 = .ok (.getfield 11, 3) := by decide +kernel
theorem dX4_planRun_83 : decode cX4_planRun 83 = .ok (.iload_n 2, 1) := by decide +kernel
theorem dX4_planRun_84 : decode cX4_planRun 84 = .ok (.aaload, 1) := by decide +kernel
theorem dX4_planRun_85 : decode cX4_planRun 85 = .ok (.iload_n 3, 1) := by decide +kernel
theorem dX4_planRun_86 : decode cX4_planRun 86 = .ok (.iload 5, 2) := by decide +kernel
theorem dX4_planRun_88 : decode cX4_planRun 88 = .ok (.iconst (-1), 1) := by decide +kernel
theorem dX4_planRun_89 : decode cX4_planRun 89 = .ok (.if_icmp .ne 7, 3) := by decide +kernel
theorem dX4_planRun_92 : decode cX4_planRun 92 = .ok (.iconst 0, 1) := by decide +kernel
theorem dX4_planRun_93 : decode cX4_planRun 93 = .ok (.goto 8, 3) := by decide +kernel
theorem dX4_planRun_96 : decode cX4_planRun 96 = .ok (.iload 6, 2) := by decide +kernel
theorem dX4_planRun_98 : decode cX4_planRun 98 = .ok (.iload 4, 2) := by decide +kernel
theorem dX4_planRun_100 : decode cX4_planRun 100 = .ok (.iadd, 1) := by decide +kernel
theorem dX4_planRun_101 : decode cX4_planRun 101 = .ok (.iastore, 1) := by decide +kernel
theorem dX4_planRun_102 : decode cX4_planRun 102 = .ok (.aload_n 0, 1) := by decide +kernel
theorem dX4_planRun_103 : decode cX4_planRun 103 = .ok (.getfield 16, 3) := by decide +kernel
theorem dX4_planRun_106 : decode cX4_planRun 106 = .ok (.iload_n 2, 1) := by decide +kernel
theorem dX4_planRun_107 : decode cX4_planRun 107 = .ok (.aaload, 1) := by decide +kernel
theorem dX4_planRun_108 : decode cX4_planRun 108 = .ok (.iload_n 3, 1) := by decide +kernel
theorem dX4_planRun_109 : decode cX4_planRun 109 = .ok (.iload 5, 2) := by decide +kernel
theorem dX4_planRun_111 : decode cX4_planRun 111 = .ok (.iastore, 1) := by decide +kernel
theorem dX4_planRun_112 : decode cX4_planRun 112 = .ok (.return_, 1) := by decide +kernel
theorem dX4_countUntilFound_0 : decode cX4_countUntilFound 0 = .ok (.iconst 1, 1) := by decide +kernel
theorem dX4_countUntilFound_1 : decode cX4_countUntilFound 1 = .ok (.istore_n 2, 1) := by decide +kernel
theorem dX4_countUntilFound_2 : decode cX4_countUntilFound 2 = .ok (.bipush 12, 2) := by decide +kernel
theorem dX4_countUntilFound_4 : decode cX4_countUntilFound 4 = .ok (.istore_n 3, 1) := by decide +kernel
theorem dX4_countUntilFound_5 : decode cX4_countUntilFound 5 = .ok (.iconst 0, 1) := by decide +kernel
theorem dX4_countUntilFound_6 : decode cX4_countUntilFound 6 = .ok (.istore 4, 2) := by decide +kernel
theorem dX4_countUntilFound_8 : decode cX4_countUntilFound 8 = .ok (.iload 4, 2) := by decide +kernel
theorem dX4_countUntilFound_10 : decode cX4_countUntilFound 10 = .ok (.bipush 12, 2) := by decide +kernel
theorem dX4_countUntilFound_12 : decode cX4_countUntilFound 12 = .ok (.if_icmp .ge 56, 3) := by decide +kernel
theorem dX4_countUntilFound_15 : decode cX4_countUntilFound 15 = .ok (.iload_n 2, 1) := by decide +kernel
theorem dX4_countUntilFound_16 : decode cX4_countUntilFound 16 = .ok (.iload_n 3, 1) := by decide +kernel
theorem dX4_countUntilFound_17 : decode cX4_countUntilFound 17 = .ok (.if_icmp .ge 51, 3) := by decide +kernel
theorem dX4_countUntilFound_20 : decode cX4_countUntilFound 20 = .ok (.aload_n 0, 1) := by decide +kernel
theorem dX4_countUntilFound_21 : decode cX4_countUntilFound 21 = .ok (.getfield 16, 3) := by decide +kernel
theorem dX4_countUntilFound_24 : decode cX4_countUntilFound 24 = .ok (.iload_n 2, 1) := by decide +kernel
theorem dX4_countUntilFound_25 : decode cX4_countUntilFound 25 = .ok (.aaload, 1) := by decide +kernel
theorem dX4_countUntilFound_26 : decode cX4_countUntilFound 26 = .ok (.iload_n 3, 1) := by decide +kernel
theorem dX4_countUntilFound_27 : decode cX4_countUntilFound 27 = .ok (.iaload, 1) := by decide +kernel
theorem dX4_countUntilFound_28 : decode cX4_countUntilFound 28 = .ok (.istore 5, 2) := by decide +kernel
theorem dX4_countUntilFound_30 : decode cX4_countUntilFound 30 = .ok (.iload 5, 2) := by decide +kernel
theorem dX4_countUntilFound_32 : decode cX4_countUntilFound 32 = .ok (.iload_n 2, 1) := by decide +kernel
theorem dX4_countUntilFound_33 : decode cX4_countUntilFound 33 = .ok (.if_icmp .lt 9, 3) := by decide +kernel
theorem dX4_countUntilFound_36 : decode cX4_countUntilFound 36 = .ok (.iload 5, 2) := by decide +kernel
theorem dX4_countUntilFound_38 : decode cX4_countUntilFound 38 = .ok (.iload_n 3, 1) := by decide +kernel
theorem dX4_countUntilFound_39 : decode cX4_countUntilFound 39 = .ok (.if_icmp .lt 6, 3) := by decide +kernel
theorem dX4_countUntilFound_42 : decode cX4_countUntilFound 42 = .ok (.iload 4, 2) := by decide +kernel
theorem dX4_countUntilFound_44 : decode cX4_countUntilFound 44 = .ok (.ireturn, 1) := by decide +kernel
theorem dX4_countUntilFound_45 : decode cX4_countUntilFound 45 = .ok (.iload_n 1, 1) := by decide +kernel
theorem dX4_countUntilFound_46 : decode cX4_countUntilFound 46 = .ok (.iload 5, 2) := by decide +kernel
theorem dX4_countUntilFound_48 : decode cX4_countUntilFound 48 = .ok (.if_icmp .gt 9, 3) := by decide +kernel
theorem dX4_countUntilFound_51 : decode cX4_countUntilFound 51 = .ok (.iload 5, 2) := by decide +kernel
theorem dX4_countUntilFound_53 : decode cX4_countUntilFound 53 = .ok (.istore_n 3, 1) := by decide +kernel
theorem dX4_countUntilFound_54 : decode cX4_countUntilFound 54 = .ok (.goto 8, 3) := by decide +kernel
theorem dX4_countUntilFound_57 : decode cX4_countUntilFound 57 = .ok (.iload 5, 2) := by decide +kernel
theorem dX4_countUntilFound_59 : decode cX4_countUntilFound 59 = .ok (.iconst 1, 1) := by decide +kernel
theorem dX4_countUntilFound_60 : decode cX4_countUntilFound 60 = .ok (.iadd, 1) := by decide +kernel
theorem dX4_countUntilFound_61 : decode cX4_countUntilFound 61 = .ok (.istore_n 2, 1) := by decide +kernel
theorem dX4_countUntilFound_62 : decode cX4_countUntilFound 62 = .ok (.iinc 4 1, 3) := by decide +kernel
theorem dX4_countUntilFound_65 : decode cX4_countUntilFound 65 = .ok (.goto (-57), 3) := by decide +kernel
theorem dX4_countUntilFound_68 : decode cX4_countUntilFound 68 = .ok (.iload 4, 2) := by decide +kernel
theorem dX4_countUntilFound_70 : decode cX4_countUntilFound 70 = .ok (.ireturn, 1) := by decide +kernel
theorem dX5_init_0 : decode cX5_init 0 = .ok (.aload_n 0, 1) := by decide +kernel
theorem dX5_init_1 : decode cX5_init 1 = .ok (.invokespecial 3, 3) := by decide +kernel
theorem dX5_init_4 : decode cX5_init 4 = .ok (.aload_n 0, 1) := by decide +kernel
theorem dX5_init_5 : decode cX5_init 5 = .ok (.iconst 5, 1) := by decide +kernel
theorem dX5_init_6 : decode cX5_init 6 = .ok (.anewarray 9, 3) := by decide +kernel
theorem dX5_init_9 : decode cX5_init 9 = .ok (.putfield 11, 3) := by decide +kernel
theorem dX5_init_12 : decode cX5_init 12 = .ok (.aload_n 0, 1) := by decide +kernel
theorem dX5_init_13 : decode cX5_init 13 = .ok (.bipush 16, 2) := by decide +kernel
theorem dX5_init_15 : decode cX5_init 15 = .ok (.anewarray 17, 3) := by decide +kernel
theorem dX5_init_18 : decode cX5_init 18 = .ok (.putfield 19, 3) := by decide +kernel
theorem dX5_init_21 : decode cX5_init 21 = .ok (.aload_n 0, 1) := by decide +kernel
theorem dX5_init_22 : decode cX5_init 22 = .ok (.bipush 6, 2) := by decide +kernel
theorem dX5_init_24 : decode cX5_init 24 = .ok (.newarray .int, 2) := by decide +kernel
theorem dX5_init_26 : decode cX5_init 26 = .ok (.putfield 23, 3) := by decide +kernel
theorem dX5_init_29 : decode cX5_init 29 = .ok (.aload_n 0, 1) := by decide +kernel
theorem dX5_init_30 : decode cX5_init 30 = .ok (.iconst 2, 1) := by decide +kernel
theorem dX5_init_31 : decode cX5_init 31 = .ok (.putfield 27, 3) := by decide +kernel
theorem dX5_init_34 : decode cX5_init 34 = .ok (.aload_n 0, 1) := by decide +kernel
theorem dX5_init_35 : decode cX5_init 35 = .ok (.iconst 0, 1) := by decide +kernel
theorem dX5_init_36 : decode cX5_init 36 = .ok (.putfield 31, 3) := by decide +kernel
theorem dX5_init_39 : decode cX5_init 39 = .ok (.aload_n 0, 1) := by decide +kernel
theorem dX5_init_40 : decode cX5_init 40 = .ok (.bipush 60, 2) := by decide +kernel
theorem dX5_init_42 : decode cX5_init 42 = .ok (.putfield 34, 3) := by decide +kernel
theorem dX5_init_45 : decode cX5_init 45 = .ok (.iconst 0, 1) := by decide +kernel
theorem dX5_init_46 : decode cX5_init 46 = .ok (.istore_n 1, 1) := by decide +kernel
theorem dX5_init_47 : decode cX5_init 47 = .ok (.iload_n 1, 1) := by decide +kernel
theorem dX5_init_48 : decode cX5_init 48 = .ok (.iconst 5, 1) := by decide +kernel
theorem dX5_init_49 : decode cX5_init 49 = .ok (.if_icmp .ge 29, 3) := by decide +kernel
theorem dX5_init_52 : decode cX5_init 52 = .ok (.new 9, 3) := by decide +kernel
theorem dX5_init_55 : decode cX5_init 55 = .ok (.dup, 1) := by decide +kernel
theorem dX5_init_56 : decode cX5_init 56 = .ok (.iload_n 1, 1) := by decide +kernel
theorem dX5_init_57 : decode cX5_init 57 = .ok (.invokespecial 37, 3) := by decide +kernel
theorem dX5_init_60 : decode cX5_init 60 = .ok (.astore_n 2, 1) := by decide +kernel
theorem dX5_init_61 : decode cX5_init 61 = .ok (.aload_n 2, 1) := by decide +kernel
theorem dX5_init_62 : decode cX5_init 62 = .ok (.invokevirtual 40, 3) := by decide +kernel
theorem dX5_init_65 : decode cX5_init 65 = .ok (.aload_n 0, 1) := by decide +kernel
theorem dX5_init_66 : decode cX5_init 66 = .ok (.getfield 11, 3) := by decide +kernel
theorem dX5_init_69 : decode cX5_init 69 = .ok (.iload_n 1, 1) := by decide +kernel
theorem dX5_init_70 : decode cX5_init 70 = .ok (.aload_n 2, 1) := by decide +kernel
theorem dX5_init_71 : decode cX5_init 71 = .ok (.aastore, 1) := by decide +kernel
theorem dX5_init_72 : decode cX5_init 72 = .ok (.iinc 1 1, 3) := by decide +kernel
theorem dX5_init_75 : decode cX5_init 75 = .ok (.goto (-28), 3) := by decide +kernel
theorem dX5_init_78 : decode cX5_init 78 = .ok (.iconst 0, 1) := by decide +kernel
theorem dX5_init_79 : decode cX5_init 79 = .ok (.istore_n 1, 1) := by decide +kernel
theorem dX5_init_80 : decode cX5_init 80 = .ok (.iload_n 1, 1) := by decide +kernel
theorem dX5_init_81 : decode cX5_init 81 = .ok (.bipush 16, 2) := by decide +kernel
theorem dX5_init_83 : decode cX5_init 83 = .ok (.if_icmp .ge 23, 3) := by decide +kernel
theorem dX5_init_86 : decode cX5_init 86 = .ok (.aload_n 0, 1) := by decide +kernel
theorem dX5_init_87 : decode cX5_init 87 = .ok (.getfield 19, 3) := by decide +kernel
theorem dX5_init_90 : decode cX5_init 90 = .ok (.iload_n 1, 1) := by decide +kernel
theorem dX5_init_91 : decode cX5_init 91 = .ok (.new 17, 3) := by decide +kernel
theorem dX5_init_94 : decode cX5_init 94 = .ok (.dup, 1) := by decide +kernel
theorem dX5_init_95 : decode cX5_init 95 = .ok (.iload_n 1, 1) := by decide +kernel
theorem dX5_init_96 : decode cX5_init 96 = .ok (.invokespecial 43, 3) := by decide +kernel
theorem dX5_init_99 : decode cX5_init 99 = .ok (.aastore, 1) := by decide +kernel
theorem dX5_init_100 : decode cX5_init 100 = .ok (.iinc 1 1, 3) := by decide +kernel
theorem dX5_init_103 : decode cX5_init 103 = .ok (.goto (-23), 3) := by decide +kernel
theorem dX5_init_106 : decode cX5_init 106 = .ok (.return_, 1) := by decide +kernel
theorem dX5_loopAt_0 : decode cX5_loopAt 0 = .ok (.iload_n 1, 1) := by decide +kernel
theorem dX5_loopAt_1 : decode cX5_loopAt 1 = .ok (.ifCond .lt 25, 3) := by decide +kernel
theorem dX5_loopAt_4 : decode cX5_loopAt 4 = .ok (.iload_n 1, 1) := by decide +kernel
theorem dX5_loopAt_5 : decode cX5_loopAt 5 = .ok (.aload_n 0, 1) := by decide +kernel
theorem dX5_loopAt_6 : decode cX5_loopAt 6 = .ok (.getfield 27, 3) := by decide +kernel
theorem dX5_loopAt_9 : decode cX5_loopAt 9 = .ok (.if_icmp .ge 17, 3) := by decide +kernel
theorem dX5_loopAt_12 : decode cX5_loopAt 12 = .ok (.iload_n 1, 1) := by decide +kernel
theorem dX5_loopAt_13 : decode cX5_loopAt 13 = .ok (.iconst 5, 1) := by decide +kernel
theorem dX5_loopAt_14 : decode cX5_loopAt 14 = .ok (.if_icmp .ge 12, 3) := by decide +kernel
theorem dX5_loopAt_17 : decode cX5_loopAt 17 = .ok (.aload_n 0, 1) := by decide +kernel
theorem dX5_loopAt_18 : decode cX5_loopAt 18 = .ok (.getfield 11, 3) := by decide +kernel
theorem dX5_loopAt_21 : decode cX5_loopAt 21 = .ok (.iload_n 1, 1) := by decide +kernel
theorem dX5_loopAt_22 : decode cX5_loopAt 22 = .ok (.aaload, 1) := by decide +kernel
theorem dX5_loopAt_23 : decode cX5_loopAt 23 = .ok (.goto 4, 3) := by decide +kernel
theorem dX5_loopAt_26 : decode cX5_loopAt 26 = .ok (.aconst_null, 1) := by decide +kernel
theorem dX5_loopAt_27 : decode cX5_loopAt 27 = .ok (.areturn, 1) := by decide +kernel
theorem dX5_subscriberAt_0 : decode cX5_subscriberAt 0 = .ok (.iload_n 1, 1) := by decide +kernel
theorem dX5_subscriberAt_1 : decode cX5_subscriberAt 1 = .ok (.ifCond .lt 26, 3) := by decide +kernel
theorem dX5_subscriberAt_4 : decode cX5_subscriberAt 4 = .ok (.iload_n 1, 1) := by decide +kernel
theorem dX5_subscriberAt_5 : decode cX5_subscriberAt 5 = .ok (.aload_n 0, 1) := by decide +kernel
theorem dX5_subscriberAt_6 : decode cX5_subscriberAt 6 = .ok (.getfield 31, 3) := by decide +kernel
theorem dX5_subscriberAt_9 : decode cX5_subscriberAt 9 = .ok (.if_icmp .ge 18, 3) := by decide +kernel
theorem dX5_subscriberAt_12 : decode cX5_subscriberAt 12 = .ok (.iload_n 1, 1) := by decide +kernel
theorem dX5_subscriberAt_13 : decode cX5_subscriberAt 13 = .ok (.bipush 16, 2) := by decide +kernel
theorem dX5_subscriberAt_15 : decode cX5_subscriberAt 15 = .ok (.if_icmp .ge 12, 3) := by decide +kernel
theorem dX5_subscriberAt_18 : decode cX5_subscriberAt 18 = .ok (.aload_n 0, 1) := by decide +kernel
theorem dX5_subscriberAt_19 : decode cX5_subscriberAt 19 = .ok (.getfield 19, 3) := by decide +kernel
theorem dX5_subscriberAt_22 : decode cX5_subscriberAt 22 = .ok (.iload_n 1, 1) := by decide +kernel
theorem dX5_subscriberAt_23 : decode cX5_subscriberAt 23 = .ok (.aaload, 1) := by decide +kernel
theorem dX5_subscriberAt_24 : decode cX5_subscriberAt 24 = .ok (.goto 4, 3) := by decide +kernel
theorem dX5_subscriberAt_27 : decode cX5_subscriberAt 27 = .ok (.aconst_null, 1) := by decide +kernel
theorem dX5_subscriberAt_28 : decode cX5_subscriberAt 28 = .ok (.areturn, 1) := by decide +kernel
theorem dX5_memberAt_0 : decode cX5_memberAt 0 = .ok (.aload_n 0, 1) := by decide +kernel
theorem dX5_memberAt_1 : decode cX5_memberAt 1 = .ok (.iload_n 2, 1) := by decide +kernel
theorem dX5_memberAt_2 : decode cX5_memberAt 2 = .ok (.invokevirtual 44, 3) := by decide +kernel
theorem dX5_memberAt_5 : decode cX5_memberAt 5 = .ok (.astore_n 3, 1) := by decide +kernel
theorem dX5_memberAt_6 : decode cX5_memberAt 6 = .ok (.aload_n 3, 1) := by decide +kernel
theorem dX5_memberAt_7 : decode cX5_memberAt 7 = .ok (.ifnull 18, 3) := by decide +kernel
theorem dX5_memberAt_10 : decode cX5_memberAt 10 = .ok (.aload_n 3, 1) := by decide +kernel
theorem dX5_memberAt_11 : decode cX5_memberAt 11 = .ok (.getfield 48, 3) := by decide +kernel
theorem dX5_memberAt_14 : decode cX5_memberAt 14 = .ok (.aload_n 1, 1) := by decide +kernel
theorem dX5_memberAt_15 : decode cX5_memberAt 15 = .ok (.getfield 51, 3) := by decide +kernel
theorem dX5_memberAt_18 : decode cX5_memberAt 18 = .ok (.if_icmp .ne 7, 3) := by decide +kernel
theorem dX5_memberAt_21 : decode cX5_memberAt 21 = .ok (.aload_n 3, 1) := by decide +kernel
theorem dX5_memberAt_22 : decode cX5_memberAt 22 = .ok (.goto 4, 3) := by decide +kernel
theorem dX5_memberAt_25 : decode cX5_memberAt 25 = .ok (.aconst_null, 1) := by decide +kernel
theorem dX5_memberAt_26 : decode cX5_memberAt 26 = .ok (.areturn, 1) := by decide +kernel
theorem dX5_openLoop_0 : decode cX5_openLoop 0 = .ok (.aload_n 0, 1) := by decide +kernel
theorem dX5_openLoop_1 : decode cX5_openLoop 1 = .ok (.getfield 27, 3) := by decide +kernel
theorem dX5_openLoop_4 : decode cX5_openLoop 4 = .ok (.istore_n 1, 1) := by decide +kernel
theorem dX5_openLoop_5 : decode cX5_openLoop 5 = .ok (.aload_n 0, 1) := by decide +kernel
theorem dX5_openLoop_6 : decode cX5_openLoop 6 = .ok (.dup, 1) := by decide +kernel
theorem dX5_openLoop_7 : decode cX5_openLoop 7 = .ok (.getfield 27, 3) := by decide +kernel
theorem dX5_openLoop_10 : decode cX5_openLoop 10 = .ok (.iconst 1, 1) := by decide +kernel
theorem dX5_openLoop_11 : decode cX5_openLoop 11 = .ok (.iadd, 1) := by decide +kernel
theorem dX5_openLoop_12 : decode cX5_openLoop 12 = .ok (.putfield 27, 3) := by decide +kernel
theorem dX5_openLoop_15 : decode cX5_openLoop 15 = .ok (.aload_n 0, 1) := by decide +kernel
theorem dX5_openLoop_16 : decode cX5_openLoop 16 = .ok (.iload_n 1, 1) := by decide +kernel
theorem dX5_openLoop_17 : decode cX5_openLoop 17 = .ok (.invokevirtual 54, 3) := by decide +kernel
theorem dX5_openLoop_20 : decode cX5_openLoop 20 = .ok (.astore_n 2, 1) := by decide +kernel
theorem dX5_openLoop_21 : decode cX5_openLoop 21 = .ok (.aload_n 2, 1) := by decide +kernel
theorem dX5_openLoop_22 : decode cX5_openLoop 22 = .ok (.ifnull 7, 3) := by decide +kernel
theorem dX5_openLoop_25 : decode cX5_openLoop 25 = .ok (.aload_n 2, 1) := by decide +kernel
theorem dX5_openLoop_26 : decode cX5_openLoop 26 = .ok (.invokevirtual 40, 3) := by decide +kernel
theorem dX5_openLoop_29 : decode cX5_openLoop 29 = .ok (.iload_n 1, 1) := by decide +kernel
theorem dX5_openLoop_30 : decode cX5_openLoop 30 = .ok (.ireturn, 1) := by decide +kernel
theorem dX5_enroll_0 : decode cX5_enroll 0 = .ok (.aload_n 0, 1) := by decide +kernel
theorem dX5_enroll_1 : decode cX5_enroll 1 = .ok (.getfield 31, 3) := by decide +kernel
theorem dX5_enroll_4 : decode cX5_enroll 4 = .ok (.istore 4, 2) := by decide +kernel
theorem dX5_enroll_6 : decode cX5_enroll 6 = .ok (.aload_n 0, 1) := by decide +kernel
theorem dX5_enroll_7 : decode cX5_enroll 7 = .ok (.dup, 1) := by decide +kernel
theorem dX5_enroll_8 : decode cX5_enroll 8 = .ok (.getfield 31, 3) := by decide +kernel
theorem dX5_enroll_11 : decode cX5_enroll 11 = .ok (.iconst 1, 1) := by decide +kernel
theorem dX5_enroll_12 : decode cX5_enroll 12 = .ok (.iadd, 1) := by decide +kernel
theorem dX5_enroll_13 : decode cX5_enroll 13 = .ok (.putfield 31, 3) := by decide +kernel
theorem dX5_enroll_16 : decode cX5_enroll 16 = .ok (.aload_n 0, 1) := by decide +kernel
theorem dX5_enroll_17 : decode cX5_enroll 17 = .ok (.iload 4, 2) := by decide +kernel
theorem dX5_enroll_19 : decode cX5_enroll 19 = .ok (.invokevirtual 44, 3) := by decide +kernel
theorem dX5_enroll_22 : decode cX5_enroll 22 = .ok (.astore 5, 2) := by decide +kernel
theorem dX5_enroll_24 : decode cX5_enroll 24 = .ok (.aload 5, 2) := by decide +kernel
theorem dX5_enroll_26 : decode cX5_enroll 26 = .ok (.ifnull 14, 3) := by decide +kernel
theorem dX5_enroll_29 : decode cX5_enroll 29 = .ok (.aload 5, 2) := by decide +kernel
theorem dX5_enroll_31 : decode cX5_enroll 31 = .ok (.aload_n 1, 1) := by decide +kernel
theorem dX5_enroll_32 : decode cX5_enroll 32 = .ok (.getfield 51, 3) := by decide +kernel
theorem dX5_enroll_35 : decode cX5_enroll 35 = .ok (.iload_n 2, 1) := by decide +kernel
theorem dX5_enroll_36 : decode cX5_enroll 36 = .ok (.iload_n 3, 1) := by decide +kernel
theorem dX5_enroll_37 : decode cX5_enroll 37 = .ok (.invokevirtual 58, 3) := by decide +kernel
theorem dX5_enroll_40 : decode cX5_enroll 40 = .ok (.iload 4, 2) := by decide +kernel
theorem dX5_enroll_42 : decode cX5_enroll 42 = .ok (.ireturn, 1) := by decide +kernel
theorem dX5_hasCode_0 : decode cX5_hasCode 0 = .ok (.iconst 0, 1) := by decide +kernel
theorem dX5_hasCode_1 : decode cX5_hasCode 1 = .ok (.istore 4, 2) := by decide +kernel
theorem dX5_hasCode_3 : decode cX5_hasCode 3 = .ok (.iload 4, 2) := by decide +kernel
theorem dX5_hasCode_5 : decode cX5_hasCode 5 = .ok (.bipush 16, 2) := by decide +kernel
theorem dX5_hasCode_7 : decode cX5_hasCode 7 = .ok (.if_icmp .ge 40, 3) := by decide +kernel
theorem dX5_hasCode_10 : decode cX5_hasCode 10 = .ok (.aload_n 0, 1) := by decide +kernel
theorem dX5_hasCode_11 : decode cX5_hasCode 11 = .ok (.aload_n 1, 1) := by decide +kernel
theorem dX5_hasCode_12 : decode cX5_hasCode 12 = .ok (.iload 4, 2) := by decide +kernel
theorem dX5_hasCode_14 : decode cX5_hasCode 14 = .ok (.invokevirtual 61, 3) := by decide +kernel
theorem dX5_hasCode_17 : decode cX5_hasCode 17 = .ok (.astore 5, 2) := by decide +kernel
theorem dX5_hasCode_19 : decode cX5_hasCode 19 = .ok (.aload 5, 2) := by decide +kernel
theorem dX5_hasCode_21 : decode cX5_hasCode 21 = .ok (.ifnull 20, 3) := by decide +kernel
theorem dX5_hasCode_24 : decode cX5_hasCode 24 = .ok (.aload 5, 2) := by decide +kernel
theorem dX5_hasCode_26 : decode cX5_hasCode 26 = .ok (.getfield 65, 3) := by decide +kernel
theorem dX5_hasCode_29 : decode cX5_hasCode 29 = .ok (.iload_n 2, 1) := by decide +kernel
theorem dX5_hasCode_30 : decode cX5_hasCode 30 = .ok (.if_icmp .ne 11, 3) := by decide +kernel
theorem dX5_hasCode_33 : decode cX5_hasCode 33 = .ok (.iload 4, 2) := by decide +kernel
theorem dX5_hasCode_35 : decode cX5_hasCode 35 = .ok (.iload_n 3, 1) := by decide +kernel
theorem dX5_hasCode_36 : decode cX5_hasCode 36 = .ok (.if_icmp .eq 5, 3) := by decide +kernel
theorem dX5_hasCode_39 : decode cX5_hasCode 39 = .ok (.iconst 1, 1) := by decide +kernel
theorem dX5_hasCode_40 : decode cX5_hasCode 40 = .ok (.ireturn, 1) := by decide +kernel
theorem dX5_hasCode_41 : decode cX5_hasCode 41 = .ok (.iinc 4 1, 3) := by decide +kernel
theorem dX5_hasCode_44 : decode cX5_hasCode 44 = .ok (.goto (-41), 3) := by decide +kernel
theorem dX5_hasCode_47 : decode cX5_hasCode 47 = .ok (.iconst 0, 1) := by decide +kernel
theorem dX5_hasCode_48 : decode cX5_hasCode 48 = .ok (.ireturn, 1) := by decide +kernel
theorem dX5_countMembers_0 : decode cX5_countMembers 0 = .ok (.iconst 0, 1) := by decide +kernel
theorem dX5_countMembers_1 : decode cX5_countMembers 1 = .ok (.istore_n 2, 1) := by decide +kernel
theorem dX5_countMembers_2 : decode cX5_countMembers 2 = .ok (.iconst 0, 1) := by decide +kernel
theorem dX5_countMembers_3 : decode cX5_countMembers 3 = .ok (.istore_n 3, 1) := by decide +kernel
theorem dX5_countMembers_4 : decode cX5_countMembers 4 = .ok (.iload_n 3, 1) := by decide +kernel
theorem dX5_countMembers_5 : decode cX5_countMembers 5 = .ok (.bipush 16, 2) := by decide +kernel
theorem dX5_countMembers_7 : decode cX5_countMembers 7 = .ok (.if_icmp .ge 21, 3) := by decide +kernel
theorem dX5_countMembers_10 : decode cX5_countMembers 10 = .ok (.aload_n 0, 1) := by decide +kernel
theorem dX5_countMembers_11 : decode cX5_countMembers 11 = .ok (.aload_n 1, 1) := by decide +kernel
theorem dX5_countMembers_12 : decode cX5_countMembers 12 = .ok (.iload_n 3, 1) := by decide +kernel
theorem dX5_countMembers_13 : decode cX5_countMembers 13 = .ok (.invokevirtual 61, 3) := by decide +kernel
theorem dX5_countMembers_16 : decode cX5_countMembers 16 = .ok (.ifnull 6, 3) := by decide +kernel
theorem dX5_countMembers_19 : decode cX5_countMembers 19 = .ok (.iinc 2 1, 3) := by decide +kernel
theorem dX5_countMembers_22 : decode cX5_countMembers 22 = .ok (.iinc 3 1, 3) := by decide +kernel
theorem dX5_countMembers_25 : decode cX5_countMembers 25 = .ok (.goto (-21), 3) := by decide +kernel
theorem dX5_countMembers_28 : decode cX5_countMembers 28 = .ok (.iload_n 2, 1) := by decide +kernel
theorem dX5_countMembers_29 : decode cX5_countMembers 29 = .ok (.ireturn, 1) := by decide +kernel
theorem dX5_loopsInUse_0 : decode cX5_loopsInUse 0 = .ok (.iconst 0, 1) := by decide +kernel
theorem dX5_loopsInUse_1 : decode cX5_loopsInUse 1 = .ok (.istore_n 1, 1) := by decide +kernel
theorem dX5_loopsInUse_2 : decode cX5_loopsInUse 2 = .ok (.iconst 0, 1) := by decide +kernel
theorem dX5_loopsInUse_3 : decode cX5_loopsInUse 3 = .ok (.istore_n 2, 1) := by decide +kernel
theorem dX5_loopsInUse_4 : decode cX5_loopsInUse 4 = .ok (.iload_n 2, 1) := by decide +kernel
theorem dX5_loopsInUse_5 : decode cX5_loopsInUse 5 = .ok (.iconst 5, 1) := by decide +kernel
theorem dX5_loopsInUse_6 : decode cX5_loopsInUse 6 = .ok (.if_icmp .ge 29, 3) := by decide +kernel
theorem dX5_loopsInUse_9 : decode cX5_loopsInUse 9 = .ok (.aload_n 0, 1) := by decide +kernel
theorem dX5_loopsInUse_10 : decode cX5_loopsInUse 10 = .ok (.iload_n 2, 1) := by decide +kernel
theorem dX5_loopsInUse_11 : decode cX5_loopsInUse 11 = .ok (.invokevirtual 54, 3) := by decide +kernel
theorem dX5_loopsInUse_14 : decode cX5_loopsInUse 14 = .ok (.astore_n 3, 1) := by decide +kernel
theorem dX5_loopsInUse_15 : decode cX5_loopsInUse 15 = .ok (.aload_n 3, 1) := by decide +kernel
theorem dX5_loopsInUse_16 : decode cX5_loopsInUse 16 = .ok (.ifnull 13, 3) := by decide +kernel
theorem dX5_loopsInUse_19 : decode cX5_loopsInUse 19 = .ok (.aload_n 3, 1) := by decide +kernel
theorem dX5_loopsInUse_20 : decode cX5_loopsInUse 20 = .ok (.getfield 68, 3) := by decide +kernel
theorem dX5_loopsInUse_23 : decode cX5_loopsInUse 23 = .ok (.ifCond .eq 6, 3) := by decide +kernel
theorem dX5_loopsInUse_26 : decode cX5_loopsInUse 26 = .ok (.iinc 1 1, 3) := by decide +kernel
theorem dX5_loopsInUse_29 : decode cX5_loopsInUse 29 = .ok (.iinc 2 1, 3) := by decide +kernel
theorem dX5_loopsInUse_32 : decode cX5_loopsInUse 32 = .ok (.goto (-28), 3) := by decide +kernel
theorem dX5_loopsInUse_35 : decode cX5_loopsInUse 35 = .ok (.iload_n 1, 1) := by decide +kernel
theorem dX5_loopsInUse_36 : decode cX5_loopsInUse 36 = .ok (.ireturn, 1) := by decide +kernel
theorem dX5_isCutOff_0 : decode cX5_isCutOff 0 = .ok (.aload_n 0, 1) := by decide +kernel
theorem dX5_isCutOff_1 : decode cX5_isCutOff 1 = .ok (.aload_n 1, 1) := by decide +kernel
theorem dX5_isCutOff_2 : decode cX5_isCutOff 2 = .ok (.getfield 48, 3) := by decide +kernel
theorem dX5_isCutOff_5 : decode cX5_isCutOff 5 = .ok (.invokevirtual 54, 3) := by decide +kernel
theorem dX5_isCutOff_8 : decode cX5_isCutOff 8 = .ok (.astore_n 2, 1) := by decide +kernel
theorem dX5_isCutOff_9 : decode cX5_isCutOff 9 = .ok (.aload_n 2, 1) := by decide +kernel
theorem dX5_isCutOff_10 : decode cX5_isCutOff 10 = .ok (.ifnull 15, 3) := by decide +kernel
theorem dX5_isCutOff_13 : decode cX5_isCutOff 13 = .ok (.aload_n 2, 1) := by decide +kernel
theorem dX5_isCutOff_14 : decode cX5_isCutOff 14 = .ok (.aload_n 1, 1) := by decide +kernel
theorem dX5_isCutOff_15 : decode cX5_isCutOff 15 = .ok (.invokevirtual 71, 3) := by decide +kernel
theorem dX5_isCutOff_18 : decode cX5_isCutOff 18 = .ok (.ifCond .eq 7, 3) := by decide +kernel
theorem dX5_isCutOff_21 : decode cX5_isCutOff 21 = .ok (.iconst 1, 1) := by decide +kernel
theorem dX5_isCutOff_22 : decode cX5_isCutOff 22 = .ok (.goto 4, 3) := by decide +kernel
theorem dX5_isCutOff_25 : decode cX5_isCutOff 25 = .ok (.iconst 0, 1) := by decide +kernel
theorem dX5_isCutOff_26 : decode cX5_isCutOff 26 = .ok (.ireturn, 1) := by decide +kernel
theorem dX5_countCutOff_0 : decode cX5_countCutOff 0 = .ok (.iconst 0, 1) := by decide +kernel
theorem dX5_countCutOff_1 : decode cX5_countCutOff 1 = .ok (.istore_n 2, 1) := by decide +kernel
theorem dX5_countCutOff_2 : decode cX5_countCutOff 2 = .ok (.iconst 0, 1) := by decide +kernel
theorem dX5_countCutOff_3 : decode cX5_countCutOff 3 = .ok (.istore_n 3, 1) := by decide +kernel
theorem dX5_countCutOff_4 : decode cX5_countCutOff 4 = .ok (.iload_n 3, 1) := by decide +kernel
theorem dX5_countCutOff_5 : decode cX5_countCutOff 5 = .ok (.bipush 16, 2) := by decide +kernel
theorem dX5_countCutOff_7 : decode cX5_countCutOff 7 = .ok (.if_icmp .ge 34, 3) := by decide +kernel
theorem dX5_countCutOff_10 : decode cX5_countCutOff 10 = .ok (.aload_n 0, 1) := by decide +kernel
theorem dX5_countCutOff_11 : decode cX5_countCutOff 11 = .ok (.aload_n 1, 1) := by decide +kernel
theorem dX5_countCutOff_12 : decode cX5_countCutOff 12 = .ok (.iload_n 3, 1) := by decide +kernel
theorem dX5_countCutOff_13 : decode cX5_countCutOff 13 = .ok (.invokevirtual 61, 3) := by decide +kernel
theorem dX5_countCutOff_16 : decode cX5_countCutOff 16 = .ok (.astore 4, 2) := by decide +kernel
theorem dX5_countCutOff_18 : decode cX5_countCutOff 18 = .ok (.aload 4, 2) := by decide +kernel
theorem dX5_countCutOff_20 : decode cX5_countCutOff 20 = .ok (.ifnull 15, 3) := by decide +kernel
theorem dX5_countCutOff_23 : decode cX5_countCutOff 23 = .ok (.aload_n 1, 1) := by decide +kernel
theorem dX5_countCutOff_24 : decode cX5_countCutOff 24 = .ok (.aload 4, 2) := by decide +kernel
theorem dX5_countCutOff_26 : decode cX5_countCutOff 26 = .ok (.invokevirtual 71, 3) := by decide +kernel
theorem dX5_countCutOff_29 : decode cX5_countCutOff 29 = .ok (.ifCond .eq 6, 3) := by decide +kernel
theorem dX5_countCutOff_32 : decode cX5_countCutOff 32 = .ok (.iinc 2 1, 3) := by decide +kernel
theorem dX5_countCutOff_35 : decode cX5_countCutOff 35 = .ok (.iinc 3 1, 3) := by decide +kernel
theorem dX5_countCutOff_38 : decode cX5_countCutOff 38 = .ok (.goto (-34), 3) := by decide +kernel
theorem dX5_countCutOff_41 : decode cX5_countCutOff 41 = .ok (.iload_n 2, 1) := by decide +kernel
theorem dX5_countCutOff_42 : decode cX5_countCutOff 42 = .ok (.ireturn, 1) := by decide +kernel
theorem dX5_standingOf_0 : decode cX5_standingOf 0 = .ok (.aload_n 1, 1) := by decide +kernel
theorem dX5_standingOf_1 : decode cX5_standingOf 1 = .ok (.getfield 75, 3) := by decide +kernel
theorem dX5_standingOf_4 : decode cX5_standingOf 4 = .ok (.ifCond .ne 5, 3) := by decide +kernel
theorem dX5_standingOf_7 : decode cX5_standingOf 7 = .ok (.iconst 0, 1) := by decide +kernel
theorem dX5_standingOf_8 : decode cX5_standingOf 8 = .ok (.ireturn, 1) := by decide +kernel
theorem dX5_standingOf_9 : decode cX5_standingOf 9 = .ok (.aload_n 0, 1) := by decide +kernel
theorem dX5_standingOf_10 : decode cX5_standingOf 10 = .ok (.aload_n 1, 1) := by decide +kernel
theorem dX5_standingOf_11 : decode cX5_standingOf 11 = .ok (.invokevirtual 79, 3) := by decide +kernel
theorem dX5_standingOf_14 : decode cX5_standingOf 14 = .ok (.ifCond .eq 5, 3) := by decide +kernel
theorem dX5_standingOf_17 : decode cX5_standingOf 17 = .ok (.iconst 1, 1) := by decide +kernel
theorem dX5_standingOf_18 : decode cX5_standingOf 18 = .ok (.ireturn, 1) := by decide +kernel
theorem dX5_standingOf_19 : decode cX5_standingOf 19 = .ok (.aload_n 0, 1) := by decide +kernel
theorem dX5_standingOf_20 : decode cX5_standingOf 20 = .ok (.aload_n 1, 1) := by decide +kernel
theorem dX5_standingOf_21 : decode cX5_standingOf 21 = .ok (.invokevirtual 82, 3) := by decide +kernel
theorem dX5_standingOf_24 : decode cX5_standingOf 24 = .ok (.ifCond .eq 5, 3) := by decide +kernel
theorem dX5_standingOf_27 : decode cX5_standingOf 27 = .ok (.iconst 2, 1) := by decide +kernel
theorem dX5_standingOf_28 : decode cX5_standingOf 28 = .ok (.ireturn, 1) := by decide +kernel
theorem dX5_standingOf_29 : decode cX5_standingOf 29 = .ok (.aload_n 1, 1) := by decide +kernel
theorem dX5_standingOf_30 : decode cX5_standingOf 30 = .ok (.getfield 85, 3) := by decide +kernel
theorem dX5_standingOf_33 : decode cX5_standingOf 33 = .ok (.ifCond .eq 7, 3) := by decide +kernel
theorem dX5_standingOf_36 : decode cX5_standingOf 36 = .ok (.iconst 4, 1) := by decide +kernel
theorem dX5_standingOf_37 : decode cX5_standingOf 37 = .ok (.goto 4, 3) := by decide +kernel
theorem dX5_standingOf_40 : decode cX5_standingOf 40 = .ok (.iconst 3, 1) := by decide +kernel
theorem dX5_standingOf_41 : decode cX5_standingOf 41 = .ok (.ireturn, 1) := by decide +kernel
theorem dX5_isParty_0 : decode cX5_isParty 0 = .ok (.aload_n 0, 1) := by decide +kernel
theorem dX5_isParty_1 : decode cX5_isParty 1 = .ok (.aload_n 1, 1) := by decide +kernel
theorem dX5_isParty_2 : decode cX5_isParty 2 = .ok (.getfield 48, 3) := by decide +kernel
theorem dX5_isParty_5 : decode cX5_isParty 5 = .ok (.invokevirtual 54, 3) := by decide +kernel
theorem dX5_isParty_8 : decode cX5_isParty 8 = .ok (.astore_n 2, 1) := by decide +kernel
theorem dX5_isParty_9 : decode cX5_isParty 9 = .ok (.aload_n 2, 1) := by decide +kernel
theorem dX5_isParty_10 : decode cX5_isParty 10 = .ok (.ifnull 18, 3) := by decide +kernel
theorem dX5_isParty_13 : decode cX5_isParty 13 = .ok (.aload_n 1, 1) := by decide +kernel
theorem dX5_isParty_14 : decode cX5_isParty 14 = .ok (.getfield 75, 3) := by decide +kernel
theorem dX5_isParty_17 : decode cX5_isParty 17 = .ok (.ifCond .eq 11, 3) := by decide +kernel
theorem dX5_isParty_20 : decode cX5_isParty 20 = .ok (.aload_n 2, 1) := by decide +kernel
theorem dX5_isParty_21 : decode cX5_isParty 21 = .ok (.aload_n 1, 1) := by decide +kernel
theorem dX5_isParty_22 : decode cX5_isParty 22 = .ok (.invokevirtual 71, 3) := by decide +kernel
theorem dX5_isParty_25 : decode cX5_isParty 25 = .ok (.ifCond .eq 5, 3) := by decide +kernel
theorem dX5_isParty_28 : decode cX5_isParty 28 = .ok (.iconst 0, 1) := by decide +kernel
theorem dX5_isParty_29 : decode cX5_isParty 29 = .ok (.ireturn, 1) := by decide +kernel
theorem dX5_isParty_30 : decode cX5_isParty 30 = .ok (.aload_n 1, 1) := by decide +kernel
theorem dX5_isParty_31 : decode cX5_isParty 31 = .ok (.getfield 88, 3) := by decide +kernel
theorem dX5_isParty_34 : decode cX5_isParty 34 = .ok (.aload_n 2, 1) := by decide +kernel
theorem dX5_isParty_35 : decode cX5_isParty 35 = .ok (.getfield 89, 3) := by decide +kernel
theorem dX5_isParty_38 : decode cX5_isParty 38 = .ok (.if_icmp .eq 23, 3) := by decide +kernel
theorem dX5_isParty_41 : decode cX5_isParty 41 = .ok (.aload_n 2, 1) := by decide +kernel
theorem dX5_isParty_42 : decode cX5_isParty 42 = .ok (.getfield 68, 3) := by decide +kernel
theorem dX5_isParty_45 : decode cX5_isParty 45 = .ok (.bipush 8, 2) := by decide +kernel
theorem dX5_isParty_47 : decode cX5_isParty 47 = .ok (.if_icmp .ne 18, 3) := by decide +kernel
theorem dX5_isParty_50 : decode cX5_isParty 50 = .ok (.aload_n 1, 1) := by decide +kernel
theorem dX5_isParty_51 : decode cX5_isParty 51 = .ok (.getfield 88, 3) := by decide +kernel
theorem dX5_isParty_54 : decode cX5_isParty 54 = .ok (.aload_n 2, 1) := by decide +kernel
theorem dX5_isParty_55 : decode cX5_isParty 55 = .ok (.getfield 92, 3) := by decide +kernel
theorem dX5_isParty_58 : decode cX5_isParty 58 = .ok (.if_icmp .ne 7, 3) := by decide +kernel
theorem dX5_isParty_61 : decode cX5_isParty 61 = .ok (.iconst 1, 1) := by decide +kernel
theorem dX5_isParty_62 : decode cX5_isParty 62 = .ok (.goto 4, 3) := by decide +kernel
theorem dX5_isParty_65 : decode cX5_isParty 65 = .ok (.iconst 0, 1) := by decide +kernel
theorem dX5_isParty_66 : decode cX5_isParty 66 = .ok (.ireturn, 1) := by decide +kernel
theorem dX5_costOfCodes_0 : decode cX5_costOfCodes 0 = .ok (.iconst 0, 1) := by decide +kernel
theorem dX5_costOfCodes_1 : decode cX5_costOfCodes 1 = .ok (.istore_n 2, 1) := by decide +kernel
theorem dX5_costOfCodes_2 : decode cX5_costOfCodes 2 = .ok (.iconst 0, 1) := by decide +kernel
theorem dX5_costOfCodes_3 : decode cX5_costOfCodes 3 = .ok (.istore_n 3, 1) := by decide +kernel
theorem dX5_costOfCodes_4 : decode cX5_costOfCodes 4 = .ok (.iload_n 3, 1) := by decide +kernel
theorem dX5_costOfCodes_5 : decode cX5_costOfCodes 5 = .ok (.bipush 16, 2) := by decide +kernel
theorem dX5_costOfCodes_7 : decode cX5_costOfCodes 7 = .ok (.if_icmp .ge 39, 3) := by decide +kernel
theorem dX5_costOfCodes_10 : decode cX5_costOfCodes 10 = .ok (.aload_n 0, 1) := by decide +kernel
theorem dX5_costOfCodes_11 : decode cX5_costOfCodes 11 = .ok (.aload_n 1, 1) := by decide +kernel
theorem dX5_costOfCodes_12 : decode cX5_costOfCodes 12 = .ok (.iload_n 3, 1) := by decide +kernel
theorem dX5_costOfCodes_13 : decode cX5_costOfCodes 13 = .ok (.invokevirtual 61, 3) := by decide +kernel
theorem dX5_costOfCodes_16 : decode cX5_costOfCodes 16 = .ok (.astore 4, 2) := by decide +kernel
theorem dX5_costOfCodes_18 : decode cX5_costOfCodes 18 = .ok (.aload 4, 2) := by decide +kernel
theorem dX5_costOfCodes_20 : decode cX5_costOfCodes 20 = .ok (.ifnull 20, 3) := by decide +kernel
theorem dX5_costOfCodes_23 : decode cX5_costOfCodes 23 = .ok (.iload_n 2, 1) := by decide +kernel
theorem dX5_costOfCodes_24 : decode cX5_costOfCodes 24 = .ok (.aload 4, 2) := by decide +kernel
theorem dX5_costOfCodes_26 : decode cX5_costOfCodes 26 = .ok (.getfield 95, 3) := by decide +kernel
theorem dX5_costOfCodes_29 : decode cX5_costOfCodes 29 = .ok (.aload 4, 2) := by decide +kernel
theorem dX5_costOfCodes_31 : decode cX5_costOfCodes 31 = .ok (.getfield 65, 3) := by decide +kernel
theorem dX5_costOfCodes_34 : decode cX5_costOfCodes 34 = .ok (.invokestatic 98, 3) := by decide +kernel
theorem dX5_costOfCodes_37 : decode cX5_costOfCodes 37 = .ok (.imul, 1) := by decide +kernel
theorem dX5_costOfCodes_38 : decode cX5_costOfCodes 38 = .ok (.iadd, 1) := by decide +kernel
theorem dX5_costOfCodes_39 : decode cX5_costOfCodes 39 = .ok (.istore_n 2, 1) := by decide +kernel
theorem dX5_costOfCodes_40 : decode cX5_costOfCodes 40 = .ok (.iinc 3 1, 3) := by decide +kernel
theorem dX5_costOfCodes_43 : decode cX5_costOfCodes 43 = .ok (.goto (-39), 3) := by decide +kernel
theorem dX5_costOfCodes_46 : decode cX5_costOfCodes 46 = .ok (.iload_n 2, 1) := by decide +kernel
theorem dX5_costOfCodes_47 : decode cX5_costOfCodes 47 = .ok (.ireturn, 1) := by decide +kernel
theorem dX5_leastCostOfCodes_0 : decode cX5_leastCostOfCodes 0 = .ok (.iconst 0, 1) := by decide +kernel
theorem dX5_leastCostOfCodes_1 : decode cX5_leastCostOfCodes 1 = .ok (.istore_n 2, 1) := by decide +kernel
theorem dX5_leastCostOfCodes_2 : decode cX5_leastCostOfCodes 2 = .ok (.iconst 0, 1) := by decide +kernel
theorem dX5_leastCostOfCodes_3 : decode cX5_leastCostOfCodes 3 = .ok (.istore_n 3, 1) := by decide +kernel
theorem dX5_leastCostOfCodes_4 : decode cX5_leastCostOfCodes 4 = .ok (.iload_n 3, 1) := by decide +kernel
theorem dX5_leastCostOfCodes_5 : decode cX5_leastCostOfCodes 5 = .ok (.bipush 16, 2) := by decide +kernel
theorem dX5_leastCostOfCodes_7 : decode cX5_leastCostOfCodes 7 = .ok (.if_icmp .ge 41, 3) := by decide +kernel
theorem dX5_leastCostOfCodes_10 : decode cX5_leastCostOfCodes 10 = .ok (.aload_n 0, 1) := by decide +kernel
theorem dX5_leastCostOfCodes_11 : decode cX5_leastCostOfCodes 11 = .ok (.aload_n 1, 1) := by decide +kernel
theorem dX5_leastCostOfCodes_12 : decode cX5_leastCostOfCodes 12 = .ok (.iload_n 3, 1) := by decide +kernel
theorem dX5_leastCostOfCodes_13 : decode cX5_leastCostOfCodes 13 = .ok (.invokevirtual 61, 3) := by decide +kernel
theorem dX5_leastCostOfCodes_16 : decode cX5_leastCostOfCodes 16 = .ok (.astore 4, 2) := by decide +kernel
theorem dX5_leastCostOfCodes_18 : decode cX5_leastCostOfCodes 18 = .ok (.aload 4, 2) := by decide +kernel
theorem dX5_leastCostOfCodes_20 : decode cX5_leastCostOfCodes 20 = .ok (.ifnull 22, 3) := by decide +kernel
theorem dX5_leastCostOfCodes_23 : decode cX5_leastCostOfCodes 23 = .ok (.iload_n 2, 1) := by decide +kernel
theorem dX5_leastCostOfCodes_24 : decode cX5_leastCostOfCodes 24 = .ok (.aload 4, 2) := by decide +kernel
theorem dX5_leastCostOfCodes_26 : decode cX5_leastCostOfCodes 26 = .ok (.getfield 95, 3) := by decide +kernel
theorem dX5_leastCostOfCodes_29 : decode cX5_leastCostOfCodes 29 = .ok (.aload_n 0, 1) := by decide +kernel
theorem dX5_leastCostOfCodes_30 : decode cX5_leastCostOfCodes 30 = .ok (.aload_n 1, 1) := by decide +kernel
theorem dX5_leastCostOfCodes_31 : decode cX5_leastCostOfCodes 31 = .ok (.aload 4, 2) := by decide +kernel
theorem dX5_leastCostOfCodes_33 : decode cX5_leastCostOfCodes 33 = .ok (.invokevirtual 104, 3) := by decide +kernel
theorem dX5_leastCostOfCodes_36 : decode cX5_leastCostOfCodes 36 = .ok (.invokestatic 98, 3) := by decide +kernel
theorem dX5_leastCostOfCodes_39 : decode cX5_leastCostOfCodes 39 = .ok (.imul, 1) := by decide +kernel
theorem dX5_leastCostOfCodes_40 : decode cX5_leastCostOfCodes 40 = .ok (.iadd, 1) := by decide +kernel
theorem dX5_leastCostOfCodes_41 : decode cX5_leastCostOfCodes 41 = .ok (.istore_n 2, 1) := by decide +kernel
theorem dX5_leastCostOfCodes_42 : decode cX5_leastCostOfCodes 42 = .ok (.iinc 3 1, 3) := by decide +kernel
theorem dX5_leastCostOfCodes_45 : decode cX5_leastCostOfCodes 45 = .ok (.goto (-41), 3) := by decide +kernel
theorem dX5_leastCostOfCodes_48 : decode cX5_leastCostOfCodes 48 = .ok (.iload_n 2, 1) := by decide +kernel
theorem dX5_leastCostOfCodes_49 : decode cX5_leastCostOfCodes 49 = .ok (.ireturn, 1) := by decide +kernel
theorem dX5_giveBestCodes_0 : decode cX5_giveBestCodes 0 = .ok (.iconst 0, 1) := by decide +kernel
theorem dX5_giveBestCodes_1 : decode cX5_giveBestCodes 1 = .ok (.istore_n 2, 1) := by decide +kernel
theorem dX5_giveBestCodes_2 : decode cX5_giveBestCodes 2 = .ok (.iconst 0, 1) := by decide +kernel
theorem dX5_giveBestCodes_3 : decode cX5_giveBestCodes 3 = .ok (.istore_n 3, 1) := by decide +kernel
theorem dX5_giveBestCodes_4 : decode cX5_giveBestCodes 4 = .ok (.iload_n 3, 1) := by decide +kernel
theorem dX5_giveBestCodes_5 : decode cX5_giveBestCodes 5 = .ok (.bipush 16, 2) := by decide +kernel
theorem dX5_giveBestCodes_7 : decode cX5_giveBestCodes 7 = .ok (.if_icmp .ge 56, 3) := by decide +kernel
theorem dX5_giveBestCodes_10 : decode cX5_giveBestCodes 10 = .ok (.aload_n 0, 1) := by decide +kernel
theorem dX5_giveBestCodes_11 : decode cX5_giveBestCodes 11 = .ok (.aload_n 1, 1) := by decide +kernel
theorem dX5_giveBestCodes_12 : decode cX5_giveBestCodes 12 = .ok (.iload_n 3, 1) := by decide +kernel
theorem dX5_giveBestCodes_13 : decode cX5_giveBestCodes 13 = .ok (.invokevirtual 61, 3) := by decide +kernel
theorem dX5_giveBestCodes_16 : decode cX5_giveBestCodes 16 = .ok (.astore 4, 2) := by decide +kernel
theorem dX5_giveBestCodes_18 : decode cX5_giveBestCodes 18 = .ok (.aload 4, 2) := by decide +kernel
theorem dX5_giveBestCodes_20 : decode cX5_giveBestCodes 20 = .ok (.ifnull 37, 3) := by decide +kernel
theorem dX5_giveBestCodes_23 : decode cX5_giveBestCodes 23 = .ok (.aload_n 0, 1) := by decide +kernel
theorem dX5_giveBestCodes_24 : decode cX5_giveBestCodes 24 = .ok (.aload_n 1, 1) := by decide +kernel
theorem dX5_giveBestCodes_25 : decode cX5_giveBestCodes 25 = .ok (.aload 4, 2) := by decide +kernel
theorem dX5_giveBestCodes_27 : decode cX5_giveBestCodes 27 = .ok (.invokevirtual 104, 3) := by decide +kernel
theorem dX5_giveBestCodes_30 : decode cX5_giveBestCodes 30 = .ok (.istore 5, 2) := by decide +kernel
theorem dX5_giveBestCodes_32 : decode cX5_giveBestCodes 32 = .ok (.iload_n 2, 1) := by decide +kernel
theorem dX5_giveBestCodes_33 : decode cX5_giveBestCodes 33 = .ok (.aload 4, 2) := by decide +kernel
theorem dX5_giveBestCodes_35 : decode cX5_giveBestCodes 35 = .ok (.getfield 65, 3) := by decide +kernel
theorem dX5_giveBestCodes_38 : decode cX5_giveBestCodes 38 = .ok (.iload 5, 2) := by decide +kernel
theorem dX5_giveBestCodes_40 : decode cX5_giveBestCodes 40 = .ok (.if_icmp .ne 7, 3) := by decide +kernel
theorem dX5_giveBestCodes_43 : decode cX5_giveBestCodes 43 = .ok (.iconst 0, 1) := by decide +kernel
theorem dX5_giveBestCodes_44 : decode cX5_giveBestCodes 44 = .ok (.goto 4, 3) := by decide +kernel
theorem dX5_giveBestCodes_47 : decode cX5_giveBestCodes 47 = .ok (.iconst 1, 1) := by decide +kernel
theorem dX5_giveBestCodes_48 : decode cX5_giveBestCodes 48 = .ok (.iadd, 1) := by decide +kernel
theorem dX5_giveBestCodes_49 : decode cX5_giveBestCodes 49 = .ok (.istore_n 2, 1) := by decide +kernel
theorem dX5_giveBestCodes_50 : decode cX5_giveBestCodes 50 = .ok (.aload 4, 2) := by decide +kernel
theorem dX5_giveBestCodes_52 : decode cX5_giveBestCodes 52 = .ok (.iload 5, 2) := by decide +kernel
theorem dX5_giveBestCodes_54 : decode cX5_giveBestCodes 54 = .ok (.putfield 65, 3) := by decide +kernel
theorem dX5_giveBestCodes_57 : decode cX5_giveBestCodes 57 = .ok (.iinc 3 1, 3) := by decide +kernel
theorem dX5_giveBestCodes_60 : decode cX5_giveBestCodes 60 = .ok (.goto (-56), 3) := by decide +kernel
theorem dX5_giveBestCodes_63 : decode cX5_giveBestCodes 63 = .ok (.iload_n 2, 1) := by decide +kernel
theorem dX5_giveBestCodes_64 : decode cX5_giveBestCodes 64 = .ok (.ireturn, 1) := by decide +kernel
theorem dX5_bestCodeOf_0 : decode cX5_bestCodeOf 0 = .ok (.iconst 0, 1) := by decide +kernel
theorem dX5_bestCodeOf_1 : decode cX5_bestCodeOf 1 = .ok (.istore_n 3, 1) := by decide +kernel
theorem dX5_bestCodeOf_2 : decode cX5_bestCodeOf 2 = .ok (.iconst 0, 1) := by decide +kernel
theorem dX5_bestCodeOf_3 : decode cX5_bestCodeOf 3 = .ok (.istore 4, 2) := by decide +kernel
theorem dX5_bestCodeOf_5 : decode cX5_bestCodeOf 5 = .ok (.iload 4, 2) := by decide +kernel
theorem dX5_bestCodeOf_7 : decode cX5_bestCodeOf 7 = .ok (.bipush 16, 2) := by decide +kernel
theorem dX5_bestCodeOf_9 : decode cX5_bestCodeOf 9 = .ok (.if_icmp .ge 35, 3) := by decide +kernel
theorem dX5_bestCodeOf_12 : decode cX5_bestCodeOf 12 = .ok (.aload_n 0, 1) := by decide +kernel
theorem dX5_bestCodeOf_13 : decode cX5_bestCodeOf 13 = .ok (.aload_n 1, 1) := by decide +kernel
theorem dX5_bestCodeOf_14 : decode cX5_bestCodeOf 14 = .ok (.iload 4, 2) := by decide +kernel
theorem dX5_bestCodeOf_16 : decode cX5_bestCodeOf 16 = .ok (.invokevirtual 61, 3) := by decide +kernel
theorem dX5_bestCodeOf_19 : decode cX5_bestCodeOf 19 = .ok (.astore 5, 2) := by decide +kernel
theorem dX5_bestCodeOf_21 : decode cX5_bestCodeOf 21 = .ok (.aload 5, 2) := by decide +kernel
theorem dX5_bestCodeOf_23 : decode cX5_bestCodeOf 23 = .ok (.ifnull 15, 3) := by decide +kernel
theorem dX5_bestCodeOf_26 : decode cX5_bestCodeOf 26 = .ok (.aload 5, 2) := by decide +kernel
theorem dX5_bestCodeOf_28 : decode cX5_bestCodeOf 28 = .ok (.aload_n 2, 1) := by decide +kernel
theorem dX5_bestCodeOf_29 : decode cX5_bestCodeOf 29 = .ok (.invokevirtual 108, 3) := by decide +kernel
theorem dX5_bestCodeOf_32 : decode cX5_bestCodeOf 32 = .ok (.ifCond .eq 6, 3) := by decide +kernel
theorem dX5_bestCodeOf_35 : decode cX5_bestCodeOf 35 = .ok (.iinc 3 1, 3) := by decide +kernel
theorem dX5_bestCodeOf_38 : decode cX5_bestCodeOf 38 = .ok (.iinc 4 1, 3) := by decide +kernel
theorem dX5_bestCodeOf_41 : decode cX5_bestCodeOf 41 = .ok (.goto (-36), 3) := by decide +kernel
theorem dX5_bestCodeOf_44 : decode cX5_bestCodeOf 44 = .ok (.iload_n 3, 1) := by decide +kernel
theorem dX5_bestCodeOf_45 : decode cX5_bestCodeOf 45 = .ok (.invokestatic 111, 3) := by decide +kernel
theorem dX5_bestCodeOf_48 : decode cX5_bestCodeOf 48 = .ok (.ireturn, 1) := by decide +kernel
theorem dX5_copyFrom_0 : decode cX5_copyFrom 0 = .ok (.aload_n 0, 1) := by decide +kernel
theorem dX5_copyFrom_1 : decode cX5_copyFrom 1 = .ok (.aload_n 1, 1) := by decide +kernel
theorem dX5_copyFrom_2 : decode cX5_copyFrom 2 = .ok (.getfield 27, 3) := by decide +kernel
theorem dX5_copyFrom_5 : decode cX5_copyFrom 5 = .ok (.putfield 27, 3) := by decide +kernel
theorem dX5_copyFrom_8 : decode cX5_copyFrom 8 = .ok (.aload_n 0, 1) := by decide +kernel
theorem dX5_copyFrom_9 : decode cX5_copyFrom 9 = .ok (.aload_n 1, 1) := by decide +kernel
theorem dX5_copyFrom_10 : decode cX5_copyFrom 10 = .ok (.getfield 31, 3) := by decide +kernel
theorem dX5_copyFrom_13 : decode cX5_copyFrom 13 = .ok (.putfield 31, 3) := by decide +kernel
theorem dX5_copyFrom_16 : decode cX5_copyFrom 16 = .ok (.aload_n 0, 1) := by decide +kernel
theorem dX5_copyFrom_17 : decode cX5_copyFrom 17 = .ok (.aload_n 1, 1) := by decide +kernel
theorem dX5_copyFrom_18 : decode cX5_copyFrom 18 = .ok (.getfield 34, 3) := by decide +kernel
theorem dX5_copyFrom_21 : decode cX5_copyFrom 21 = .ok (.putfield 34, 3) := by decide +kernel
theorem dX5_copyFrom_24 : decode cX5_copyFrom 24 = .ok (.iconst 0, 1) := by decide +kernel
theorem dX5_copyFrom_25 : decode cX5_copyFrom 25 = .ok (.istore_n 2, 1) := by decide +kernel
theorem dX5_copyFrom_26 : decode cX5_copyFrom 26 = .ok (.iload_n 2, 1) := by decide +kernel
theorem dX5_copyFrom_27 : decode cX5_copyFrom 27 = .ok (.bipush 6, 2) := by decide +kernel
theorem dX5_copyFrom_29 : decode cX5_copyFrom 29 = .ok (.if_icmp .ge 21, 3) := by decide +kernel
theorem dX5_copyFrom_32 : decode cX5_copyFrom 32 = .ok (.aload_n 0, 1) := by decide +kernel
theorem dX5_copyFrom_33 : decode cX5_copyFrom 33 = .ok (.getfield 23, 3) := by decide +kernel
theorem dX5_copyFrom_36 : decode cX5_copyFrom 36 = .ok (.iload_n 2, 1) := by decide +kernel
theorem dX5_copyFrom_37 : decode cX5_copyFrom 37 = .ok (.aload_n 1, 1) := by decide +kernel
theorem dX5_copyFrom_38 : decode cX5_copyFrom 38 = .ok (.getfield 23, 3) := by decide +kernel
theorem dX5_copyFrom_41 : decode cX5_copyFrom 41 = .ok (.iload_n 2, 1) := by decide +kernel
theorem dX5_copyFrom_42 : decode cX5_copyFrom 42 = .ok (.iaload, 1) := by decide +kernel
theorem dX5_copyFrom_43 : decode cX5_copyFrom 43 = .ok (.iastore, 1) := by decide +kernel
theorem dX5_copyFrom_44 : decode cX5_copyFrom 44 = .ok (.iinc 2 1, 3) := by decide +kernel
theorem dX5_copyFrom_47 : decode cX5_copyFrom 47 = .ok (.goto (-21), 3) := by decide +kernel
theorem dX5_copyFrom_50 : decode cX5_copyFrom 50 = .ok (.iconst 0, 1) := by decide +kernel
theorem dX5_copyFrom_51 : decode cX5_copyFrom 51 = .ok (.istore_n 2, 1) := by decide +kernel
theorem dX5_copyFrom_52 : decode cX5_copyFrom 52 = .ok (.iload_n 2, 1) := by decide +kernel
theorem dX5_copyFrom_53 : decode cX5_copyFrom 53 = .ok (.iconst 5, 1) := by decide +kernel
theorem dX5_copyFrom_54 : decode cX5_copyFrom 54 = .ok (.if_icmp .ge 37, 3) := by decide +kernel
theorem dX5_copyFrom_57 : decode cX5_copyFrom 57 = .ok (.aload_n 0, 1) := by decide +kernel
theorem dX5_copyFrom_58 : decode cX5_copyFrom 58 = .ok (.iload_n 2, 1) := by decide +kernel
theorem dX5_copyFrom_59 : decode cX5_copyFrom 59 = .ok (.invokevirtual 54, 3) := by decide +kernel
theorem dX5_copyFrom_62 : decode cX5_copyFrom 62 = .ok (.astore_n 3, 1) := by decide +kernel
theorem dX5_copyFrom_63 : decode cX5_copyFrom 63 = .ok (.aload_n 1, 1) := by decide +kernel
theorem dX5_copyFrom_64 : decode cX5_copyFrom 64 = .ok (.iload_n 2, 1) := by decide +kernel
theorem dX5_copyFrom_65 : decode cX5_copyFrom 65 = .ok (.invokevirtual 54, 3) := by decide +kernel
theorem dX5_copyFrom_68 : decode cX5_copyFrom 68 = .ok (.astore 4, 2) := by decide +kernel
theorem dX5_copyFrom_70 : decode cX5_copyFrom 70 = .ok (.aload_n 3, 1) := by decide +kernel
theorem dX5_copyFrom_71 : decode cX5_copyFrom 71 = .ok (.ifnull 14, 3) := by decide +kernel
theorem dX5_copyFrom_74 : decode cX5_copyFrom 74 = .ok (.aload 4, 2) := by decide +kernel
theorem dX5_copyFrom_76 : decode cX5_copyFrom 76 = .ok (.ifnull 9, 3) := by decide +kernel
theorem dX5_copyFrom_79 : decode cX5_copyFrom 79 = .ok (.aload_n 3, 1) := by decide +kernel
theorem dX5_copyFrom_80 : decode cX5_copyFrom 80 = .ok (.aload 4, 2) := by decide +kernel
theorem dX5_copyFrom_82 : decode cX5_copyFrom 82 = .ok (.invokevirtual 114, 3) := by decide +kernel
theorem dX5_copyFrom_85 : decode cX5_copyFrom 85 = .ok (.iinc 2 1, 3) := by decide +kernel
theorem dX5_copyFrom_88 : decode cX5_copyFrom 88 = .ok (.goto (-36), 3) := by decide +kernel
theorem dX5_copyFrom_91 : decode cX5_copyFrom 91 = .ok (.iconst 0, 1) := by decide +kernel
theorem dX5_copyFrom_92 : decode cX5_copyFrom 92 = .ok (.istore_n 2, 1) := by decide +kernel
theorem dX5_copyFrom_93 : decode cX5_copyFrom 93 = .ok (.iload_n 2, 1) := by decide +kernel
theorem dX5_copyFrom_94 : decode cX5_copyFrom 94 = .ok (.bipush 16, 2) := by decide +kernel
theorem dX5_copyFrom_96 : decode cX5_copyFrom 96 = .ok (.if_icmp .ge 37, 3) := by decide +kernel
theorem dX5_copyFrom_99 : decode cX5_copyFrom 99 = .ok (.aload_n 0, 1) := by decide +kernel
theorem dX5_copyFrom_100 : decode cX5_copyFrom 100 = .ok (.iload_n 2, 1) := by decide +kernel
theorem dX5_copyFrom_101 : decode cX5_copyFrom 101 = .ok (.invokevirtual 44, 3) := by decide +kernel
theorem dX5_copyFrom_104 : decode cX5_copyFrom 104 = .ok (.astore_n 3, 1) := by decide +kernel
theorem dX5_copyFrom_105 : decode cX5_copyFrom 105 = .ok (.aload_n 1, 1) := by decide +kernel
theorem dX5_copyFrom_106 : decode cX5_copyFrom 106 = .ok (.iload_n 2, 1) := by decide +kernel
theorem dX5_copyFrom_107 : decode cX5_copyFrom 107 = .ok (.invokevirtual 44, 3) := by decide +kernel
theorem dX5_copyFrom_110 : decode cX5_copyFrom 110 = .ok (.astore 4, 2) := by decide +kernel
theorem dX5_copyFrom_112 : decode cX5_copyFrom 112 = .ok (.aload_n 3, 1) := by decide +kernel
theorem dX5_copyFrom_113 : decode cX5_copyFrom 113 = .ok (.ifnull 14, 3) := by decide +kernel
theorem dX5_copyFrom_116 : decode cX5_copyFrom 116 = .ok (.aload 4, 2) := by decide +kernel
theorem dX5_copyFrom_118 : decode cX5_copyFrom 118 = .ok (.ifnull 9, 3) := by decide +kernel
theorem dX5_copyFrom_121 : decode cX5_copyFrom 121 = .ok (.aload_n 3, 1) := by decide +kernel
theorem dX5_copyFrom_122 : decode cX5_copyFrom 122 = .ok (.aload 4, 2) := by decide +kernel
theorem dX5_copyFrom_124 : decode cX5_copyFrom 124 = .ok (.invokevirtual 118, 3) := by decide +kernel
theorem dX5_copyFrom_127 : decode cX5_copyFrom 127 = .ok (.iinc 2 1, 3) := by decide +kernel
theorem dX5_copyFrom_130 : decode cX5_copyFrom 130 = .ok (.goto (-37), 3) := by decide +kernel
theorem dX5_copyFrom_133 : decode cX5_copyFrom 133 = .ok (.return_, 1) := by decide +kernel
theorem dX6_init_0 : decode cX6_init 0 = .ok (.aload_n 0, 1) := by decide +kernel
theorem dX6_init_1 : decode cX6_init 1 = .ok (.invokespecial 1, 3) := by decide +kernel
theorem dX6_init_4 : decode cX6_init 4 = .ok (.aload_n 0, 1) := by decide +kernel
theorem dX6_init_5 : decode cX6_init 5 = .ok (.iload_n 1, 1) := by decide +kernel
theorem dX6_init_6 : decode cX6_init 6 = .ok (.putfield 7, 3) := by decide +kernel
theorem dX6_init_9 : decode cX6_init 9 = .ok (.return_, 1) := by decide +kernel
theorem dX6_begin_0 : decode cX6_begin 0 = .ok (.aload_n 0, 1) := by decide +kernel
theorem dX6_begin_1 : decode cX6_begin 1 = .ok (.iload_n 1, 1) := by decide +kernel
theorem dX6_begin_2 : decode cX6_begin 2 = .ok (.putfield 13, 3) := by decide +kernel
theorem dX6_begin_5 : decode cX6_begin 5 = .ok (.aload_n 0, 1) := by decide +kernel
theorem dX6_begin_6 : decode cX6_begin 6 = .ok (.iload_n 2, 1) := by decide +kernel
theorem dX6_begin_7 : decode cX6_begin 7 = .ok (.putfield 16, 3) := by decide +kernel
theorem dX6_begin_10 : decode cX6_begin 10 = .ok (.aload_n 0, 1) := by decide +kernel
theorem dX6_begin_11 : decode cX6_begin 11 = .ok (.iload_n 3, 1) := by decide +kernel
theorem dX6_begin_12 : decode cX6_begin 12 = .ok (.putfield 19, 3) := by decide +kernel
theorem dX6_begin_15 : decode cX6_begin 15 = .ok (.aload_n 0, 1) := by decide +kernel
theorem dX6_begin_16 : decode cX6_begin 16 = .ok (.iconst 0, 1) := by decide +kernel
theorem dX6_begin_17 : decode cX6_begin 17 = .ok (.putfield 22, 3) := by decide +kernel
theorem dX6_begin_20 : decode cX6_begin 20 = .ok (.aload_n 0, 1) := by decide +kernel
theorem dX6_begin_21 : decode cX6_begin 21 = .ok (.iconst 1, 1) := by decide +kernel
theorem dX6_begin_22 : decode cX6_begin 22 = .ok (.putfield 26, 3) := by decide +kernel
theorem dX6_begin_25 : decode cX6_begin 25 = .ok (.aload_n 0, 1) := by decide +kernel
theorem dX6_begin_26 : decode cX6_begin 26 = .ok (.iconst 0, 1) := by decide +kernel
theorem dX6_begin_27 : decode cX6_begin 27 = .ok (.putfield 29, 3) := by decide +kernel
theorem dX6_begin_30 : decode cX6_begin 30 = .ok (.aload_n 0, 1) := by decide +kernel
theorem dX6_begin_31 : decode cX6_begin 31 = .ok (.iconst 0, 1) := by decide +kernel
theorem dX6_begin_32 : decode cX6_begin 32 = .ok (.putfield 32, 3) := by decide +kernel
theorem dX6_begin_35 : decode cX6_begin 35 = .ok (.aload_n 0, 1) := by decide +kernel
theorem dX6_begin_36 : decode cX6_begin 36 = .ok (.iconst 0, 1) := by decide +kernel
theorem dX6_begin_37 : decode cX6_begin 37 = .ok (.putfield 35, 3) := by decide +kernel
theorem dX6_begin_40 : decode cX6_begin 40 = .ok (.return_, 1) := by decide +kernel
theorem dX6_comesBefore_0 : decode cX6_comesBefore 0 = .ok (.aload_n 0, 1) := by decide +kernel
theorem dX6_comesBefore_1 : decode cX6_comesBefore 1 = .ok (.getfield 26, 3) := by decide +kernel
theorem dX6_comesBefore_4 : decode cX6_comesBefore 4 = .ok (.aload_n 1, 1) := by decide +kernel
theorem dX6_comesBefore_5 : decode cX6_comesBefore 5 = .ok (.getfield 26, 3) := by decide +kernel
theorem dX6_comesBefore_8 : decode cX6_comesBefore 8 = .ok (.if_icmp .gt 25, 3) := by decide +kernel
theorem dX6_comesBefore_11 : decode cX6_comesBefore 11 = .ok (.aload_n 0, 1) := by decide +kernel
theorem dX6_comesBefore_12 : decode cX6_comesBefore 12 = .ok (.getfield 26, 3) := by decide +kernel
theorem dX6_comesBefore_15 : decode cX6_comesBefore 15 = .ok (.aload_n 1, 1) := by decide +kernel
theorem dX6_comesBefore_16 : decode cX6_comesBefore 16 = .ok (.getfield 26, 3) := by decide +kernel
theorem dX6_comesBefore_19 : decode cX6_comesBefore 19 = .ok (.if_icmp .ne 18, 3) := by decide +kernel
theorem dX6_comesBefore_22 : decode cX6_comesBefore 22 = .ok (.aload_n 0, 1) := by decide +kernel
theorem dX6_comesBefore_23 : decode cX6_comesBefore 23 = .ok (.getfield 7, 3) := by decide +kernel
theorem dX6_comesBefore_26 : decode cX6_comesBefore 26 = .ok (.aload_n 1, 1) := by decide +kernel
theorem dX6_comesBefore_27 : decode cX6_comesBefore 27 = .ok (.getfield 7, 3) := by decide +kernel
theorem dX6_comesBefore_30 : decode cX6_comesBefore 30 = .ok (.if_icmp .ge 7, 3) := by decide +kernel
theorem dX6_comesBefore_33 : decode cX6_comesBefore 33 = .ok (.iconst 1, 1) := by decide +kernel
theorem dX6_comesBefore_34 : decode cX6_comesBefore 34 = .ok (.goto 4, 3) := by decide +kernel
theorem dX6_comesBefore_37 : decode cX6_comesBefore 37 = .ok (.iconst 0, 1) := by decide +kernel
theorem dX6_comesBefore_38 : decode cX6_comesBefore 38 = .ok (.ireturn, 1) := by decide +kernel
theorem dX6_copyFrom_0 : decode cX6_copyFrom 0 = .ok (.aload_n 0, 1) := by decide +kernel
theorem dX6_copyFrom_1 : decode cX6_copyFrom 1 = .ok (.aload_n 1, 1) := by decide +kernel
theorem dX6_copyFrom_2 : decode cX6_copyFrom 2 = .ok (.getfield 13, 3) := by decide +kernel
theorem dX6_copyFrom_5 : decode cX6_copyFrom 5 = .ok (.putfield 13, 3) := by decide +kernel
theorem dX6_copyFrom_8 : decode cX6_copyFrom 8 = .ok (.aload_n 0, 1) := by decide +kernel
theorem dX6_copyFrom_9 : decode cX6_copyFrom 9 = .ok (.aload_n 1, 1) := by decide +kernel
theorem dX6_copyFrom_10 : decode cX6_copyFrom 10 = .ok (.getfield 16, 3) := by decide +kernel
theorem dX6_copyFrom_13 : decode cX6_copyFrom 13 = .ok (.putfield 16, 3) := by decide +kernel
theorem dX6_copyFrom_16 : decode cX6_copyFrom 16 = .ok (.aload_n 0, 1) := by decide +kernel
theorem dX6_copyFrom_17 : decode cX6_copyFrom 17 = .ok (.aload_n 1, 1) := by decide +kernel
theorem dX6_copyFrom_18 : decode cX6_copyFrom 18 = .ok (.getfield 19, 3) := by decide +kernel
theorem dX6_copyFrom_21 : decode cX6_copyFrom 21 = .ok (.putfield 19, 3) := by decide +kernel
theorem dX6_copyFrom_24 : decode cX6_copyFrom 24 = .ok (.aload_n 0, 1) := by decide +kernel
theorem dX6_copyFrom_25 : decode cX6_copyFrom 25 = .ok (.aload_n 1, 1) := by decide +kernel
theorem dX6_copyFrom_26 : decode cX6_copyFrom 26 = .ok (.getfield 22, 3) := by decide +kernel
theorem dX6_copyFrom_29 : decode cX6_copyFrom 29 = .ok (.putfield 22, 3) := by decide +kernel
theorem dX6_copyFrom_32 : decode cX6_copyFrom 32 = .ok (.aload_n 0, 1) := by decide +kernel
theorem dX6_copyFrom_33 : decode cX6_copyFrom 33 = .ok (.aload_n 1, 1) := by decide +kernel
theorem dX6_copyFrom_34 : decode cX6_copyFrom 34 = .ok (.getfield 26, 3) := by decide +kernel
theorem dX6_copyFrom_37 : decode cX6_copyFrom 37 = .ok (.putfield 26, 3) := by decide +kernel
theorem dX6_copyFrom_40 : decode cX6_copyFrom 40 = .ok (.aload_n 0, 1) := by decide +kernel
theorem dX6_copyFrom_41 : decode cX6_copyFrom 41 = .ok (.aload_n 1, 1) := by decide +kernel
theorem dX6_copyFrom_42 : decode cX6_copyFrom 42 = .ok (.getfield 29, 3) := by decide +kernel
theorem dX6_copyFrom_45 : decode cX6_copyFrom 45 = .ok (.putfield 29, 3) := by decide +kernel
theorem dX6_copyFrom_48 : decode cX6_copyFrom 48 = .ok (.aload_n 0, 1) := by decide +kernel
theorem dX6_copyFrom_49 : decode cX6_copyFrom 49 = .ok (.aload_n 1, 1) := by decide +kernel
theorem dX6_copyFrom_50 : decode cX6_copyFrom 50 = .ok (.getfield 32, 3) := by decide +kernel
theorem dX6_copyFrom_53 : decode cX6_copyFrom 53 = .ok (.putfield 32, 3) := by decide +kernel
theorem dX6_copyFrom_56 : decode cX6_copyFrom 56 = .ok (.aload_n 0, 1) := by decide +kernel
theorem dX6_copyFrom_57 : decode cX6_copyFrom 57 = .ok (.aload_n 1, 1) := by decide +kernel
theorem dX6_copyFrom_58 : decode cX6_copyFrom 58 = .ok (.getfield 35, 3) := by decide +kernel
theorem dX6_copyFrom_61 : decode cX6_copyFrom 61 = .ok (.putfield 35, 3) := by decide +kernel
theorem dX6_copyFrom_64 : decode cX6_copyFrom 64 = .ok (.return_, 1) := by decide +kernel
theorem dX7_init_0 : decode cX7_init 0 = .ok (.aload_n 0, 1) := by decide +kernel
theorem dX7_init_1 : decode cX7_init 1 = .ok (.invokespecial 1, 3) := by decide +kernel
theorem dX7_init_4 : decode cX7_init 4 = .ok (.aload_n 0, 1) := by decide +kernel
theorem dX7_init_5 : decode cX7_init 5 = .ok (.new 7, 3) := by decide +kernel
theorem dX7_init_8 : decode cX7_init 8 = .ok (.dup, 1) := by decide +kernel
theorem dX7_init_9 : decode cX7_init 9 = .ok (.invokespecial 9, 3) := by decide +kernel
theorem dX7_init_12 : decode cX7_init 12 = .ok (.putfield 10, 3) := by decide +kernel
theorem dX7_init_15 : decode cX7_init 15 = .ok (.aload_n 0, 1) := by decide +kernel
theorem dX7_init_16 : decode cX7_init 16 = .ok (.new 16, 3) := by decide +kernel
theorem dX7_init_19 : decode cX7_init 19 = .ok (.dup, 1) := by decide +kernel
theorem dX7_init_20 : decode cX7_init 20 = .ok (.aload_n 0, 1) := by decide +kernel
theorem dX7_init_21 : decode cX7_init 21 = .ok (.getfield 10, 3) := by decide +kernel
theorem dX7_init_24 : decode cX7_init 24 = .ok (.invokespecial 18, 3) := by decide +kernel
theorem dX7_init_27 : decode cX7_init 27 = .ok (.putfield 21, 3) := by decide +kernel
theorem dX7_init_30 : decode cX7_init 30 = .ok (.aload_n 0, 1) := by decide +kernel
theorem dX7_init_31 : decode cX7_init 31 = .ok (.new 25, 3) := by decide +kernel
theorem dX7_init_34 : decode cX7_init 34 = .ok (.dup, 1) := by decide +kernel
theorem dX7_init_35 : decode cX7_init 35 = .ok (.invokespecial 27, 3) := by decide +kernel
theorem dX7_init_38 : decode cX7_init 38 = .ok (.putfield 28, 3) := by decide +kernel
theorem dX7_init_41 : decode cX7_init 41 = .ok (.aload_n 0, 1) := by decide +kernel
theorem dX7_init_42 : decode cX7_init 42 = .ok (.new 32, 3) := by decide +kernel
theorem dX7_init_45 : decode cX7_init 45 = .ok (.dup, 1) := by decide +kernel
theorem dX7_init_46 : decode cX7_init 46 = .ok (.invokespecial 34, 3) := by decide +kernel
theorem dX7_init_49 : decode cX7_init 49 = .ok (.putfield 35, 3) := by decide +kernel
theorem dX7_init_52 : decode cX7_init 52 = .ok (.return_, 1) := by decide +kernel
theorem dX7_addLoop_0 : decode cX7_addLoop 0 = .ok (.aload_n 0, 1) := by decide +kernel
theorem dX7_addLoop_1 : decode cX7_addLoop 1 = .ok (.getfield 10, 3) := by decide +kernel
theorem dX7_addLoop_4 : decode cX7_addLoop 4 = .ok (.getfield 39, 3) := by decide +kernel
theorem dX7_addLoop_7 : decode cX7_addLoop 7 = .ok (.iconst 5, 1) := by decide +kernel
theorem dX7_addLoop_8 : decode cX7_addLoop 8 = .ok (.if_icmp .lt 13, 3) := by decide +kernel
theorem dX7_addLoop_11 : decode cX7_addLoop 11 = .ok (.new 43, 3) := by decide +kernel
theorem dX7_addLoop_14 : decode cX7_addLoop 14 = .ok (.dup, 1) := by decide +kernel
theorem dX7_addLoop_15 : decode cX7_addLoop 15 = .ok (.ldc 45, 2) := by decide +kernel
theorem dX7_addLoop_17 : decode cX7_addLoop 17 = .ok (.invokespecial 47, 3) := by decide +kernel
theorem dX7_addLoop_20 : decode cX7_addLoop 20 = .ok (.athrow, 1) := by decide +kernel
theorem dX7_addLoop_21 : decode cX7_addLoop 21 = .ok (.aload_n 0, 1) := by decide +kernel
theorem dX7_addLoop_22 : decode cX7_addLoop 22 = .ok (.getfield 28, 3) := by decide +kernel
theorem dX7_addLoop_25 : decode cX7_addLoop 25 = .ok (.aload_n 0, 1) := by decide +kernel
theorem dX7_addLoop_26 : decode cX7_addLoop 26 = .ok (.getfield 10, 3) := by decide +kernel
theorem dX7_addLoop_29 : decode cX7_addLoop 29 = .ok (.invokevirtual 50, 3) := by decide +kernel
theorem dX7_addLoop_32 : decode cX7_addLoop 32 = .ok (.aload_n 0, 1) := by decide +kernel
theorem dX7_addLoop_33 : decode cX7_addLoop 33 = .ok (.getfield 10, 3) := by decide +kernel
theorem dX7_addLoop_36 : decode cX7_addLoop 36 = .ok (.invokevirtual 53, 3) := by decide +kernel
theorem dX7_addLoop_39 : decode cX7_addLoop 39 = .ok (.ireturn, 1) := by decide +kernel
theorem dX7_addSubscriber_0 : decode cX7_addSubscriber 0 = .ok (.aload_n 0, 1) := by decide +kernel
theorem dX7_addSubscriber_1 : decode cX7_addSubscriber 1 = .ok (.iload_n 1, 1) := by decide +kernel
theorem dX7_addSubscriber_2 : decode cX7_addSubscriber 2 = .ok (.invokevirtual 57, 3) := by decide +kernel
theorem dX7_addSubscriber_5 : decode cX7_addSubscriber 5 = .ok (.astore 4, 2) := by decide +kernel
theorem dX7_addSubscriber_7 : decode cX7_addSubscriber 7 = .ok (.iload_n 2, 1) := by decide +kernel
theorem dX7_addSubscriber_8 : decode cX7_addSubscriber 8 = .ok (.invokestatic 61, 3) := by decide +kernel
theorem dX7_addSubscriber_11 : decode cX7_addSubscriber 11 = .ok (.ifCond .eq 10, 3) := by decide +kernel
theorem dX7_addSubscriber_14 : decode cX7_addSubscriber 14 = .ok (.iload_n 3, 1) := by decide +kernel
theorem dX7_addSubscriber_15 : decode cX7_addSubscriber 15 = .ok (.invokestatic 65, 3) := by decide +kernel
theorem dX7_addSubscriber_18 : decode cX7_addSubscriber 18 = .ok (.ifCond .ne 13, 3) := by decide +kernel
theorem dX7_addSubscriber_21 : decode cX7_addSubscriber 21 = .ok (.new 70, 3) := by decide +kernel
theorem dX7_addSubscriber_24 : decode cX7_addSubscriber 24 = .ok (.dup, 1) := by decide +kernel
theorem dX7_addSubscriber_25 : decode cX7_addSubscriber 25 = .ok (.ldc 72, 2) := by decide +kernel
theorem dX7_addSubscriber_27 : decode cX7_addSubscriber 27 = .ok (.invokespecial 74, 3) := by decide +kernel
theorem dX7_addSubscriber_30 : decode cX7_addSubscriber 30 = .ok (.athrow, 1) := by decide +kernel
theorem dX7_addSubscriber_31 : decode cX7_addSubscriber 31 = .ok (.aload_n 0, 1) := by decide +kernel
theorem dX7_addSubscriber_32 : decode cX7_addSubscriber 32 = .ok (.getfield 10, 3) := by decide +kernel
theorem dX7_addSubscriber_35 : decode cX7_addSubscriber 35 = .ok (.getfield 75, 3) := by decide +kernel
theorem dX7_addSubscriber_38 : decode cX7_addSubscriber 38 = .ok (.bipush 16, 2) := by decide +kernel
theorem dX7_addSubscriber_40 : decode cX7_addSubscriber 40 = .ok (.if_icmp .ge 17, 3) := by decide +kernel
theorem dX7_addSubscriber_43 : decode cX7_addSubscriber 43 = .ok (.aload_n 0, 1) := by decide +kernel
theorem dX7_addSubscriber_44 : decode cX7_addSubscriber 44 = .ok (.getfield 10, 3) := by decide +kernel
theorem dX7_addSubscriber_47 : decode cX7_addSubscriber 47 = .ok (.aload 4, 2) := by decide +kernel
theorem dX7_addSubscriber_49 : decode cX7_addSubscriber 49 = .ok (.iload_n 3, 1) := by decide +kernel
theorem dX7_addSubscriber_50 : decode cX7_addSubscriber 50 = .ok (.iconst (-1), 1) := by decide +kernel
theorem dX7_addSubscriber_51 : decode cX7_addSubscriber 51 = .ok (.invokevirtual 78, 3) := by decide +kernel
theorem dX7_addSubscriber_54 : decode cX7_addSubscriber 54 = .ok (.ifCond .eq 13, 3) := by decide +kernel
theorem dX7_addSubscriber_57 : decode cX7_addSubscriber 57 = .ok (.new 43, 3) := by decide +kernel
theorem dX7_addSubscriber_60 : decode cX7_addSubscriber 60 = .ok (.dup, 1) := by decide +kernel
theorem dX7_addSubscriber_61 : decode cX7_addSubscriber 61 = .ok (.ldc 82, 2) := by decide +kernel
theorem dX7_addSubscriber_63 : decode cX7_addSubscriber 63 = .ok (.invokespecial 47, 3) := by decide +kernel
theorem dX7_addSubscriber_66 : decode cX7_addSubscriber 66 = .ok (.athrow, 1) := by decide +kernel
theorem dX7_addSubscriber_67 : decode cX7_addSubscriber 67 = .ok (.aload_n 0, 1) := by decide +kernel
theorem dX7_addSubscriber_68 : decode cX7_addSubscriber 68 = .ok (.getfield 28, 3) := by decide +kernel
theorem dX7_addSubscriber_71 : decode cX7_addSubscriber 71 = .ok (.aload_n 0, 1) := by decide +kernel
theorem dX7_addSubscriber_72 : decode cX7_addSubscriber 72 = .ok (.getfield 10, 3) := by decide +kernel
theorem dX7_addSubscriber_75 : decode cX7_addSubscriber 75 = .ok (.invokevirtual 50, 3) := by decide +kernel
theorem dX7_addSubscriber_78 : decode cX7_addSubscriber 78 = .ok (.aload_n 0, 1) := by decide +kernel
theorem dX7_addSubscriber_79 : decode cX7_addSubscriber 79 = .ok (.getfield 10, 3) := by decide +kernel
theorem dX7_addSubscriber_82 : decode cX7_addSubscriber 82 = .ok (.aload 4, 2) := by decide +kernel
theorem dX7_addSubscriber_84 : decode cX7_addSubscriber 84 = .ok (.iload_n 2, 1) := by decide +kernel
theorem dX7_addSubscriber_85 : decode cX7_addSubscriber 85 = .ok (.iload_n 3, 1) := by decide +kernel
theorem dX7_addSubscriber_86 : decode cX7_addSubscriber 86 = .ok (.invokevirtual 84, 3) := by decide +kernel
theorem dX7_addSubscriber_89 : decode cX7_addSubscriber 89 = .ok (.ireturn, 1) := by decide +kernel
theorem dX7_set_0 : decode cX7_set 0 = .ok (.aload_n 0, 1) := by decide +kernel
theorem dX7_set_1 : decode cX7_set 1 = .ok (.iload_n 1, 1) := by decide +kernel
theorem dX7_set_2 : decode cX7_set 2 = .ok (.invokevirtual 88, 3) := by decide +kernel
theorem dX7_set_5 : decode cX7_set 5 = .ok (.astore 4, 2) := by decide +kernel
theorem dX7_set_7 : decode cX7_set 7 = .ok (.iload_n 2, 1) := by decide +kernel
theorem dX7_set_8 : decode cX7_set 8 = .ok (.iload_n 3, 1) := by decide +kernel
theorem dX7_set_9 : decode cX7_set 9 = .ok (.invokestatic 92, 3) := by decide +kernel
theorem dX7_set_12 : decode cX7_set 12 = .ok (.ifCond .ne 13, 3) := by decide +kernel
theorem dX7_set_15 : decode cX7_set 15 = .ok (.new 70, 3) := by decide +kernel
theorem dX7_set_18 : decode cX7_set 18 = .ok (.dup, 1) := by decide +kernel
theorem dX7_set_19 : decode cX7_set 19 = .ok (.ldc 96, 2) := by decide +kernel
theorem dX7_set_21 : decode cX7_set 21 = .ok (.invokespecial 74, 3) := by decide +kernel
theorem dX7_set_24 : decode cX7_set 24 = .ok (.athrow, 1) := by decide +kernel
theorem dX7_set_25 : decode cX7_set 25 = .ok (.iload_n 2, 1) := by decide +kernel
theorem dX7_set_26 : decode cX7_set 26 = .ok (.ifCond .ne 23, 3) := by decide +kernel
theorem dX7_set_29 : decode cX7_set 29 = .ok (.aload_n 0, 1) := by decide +kernel
theorem dX7_set_30 : decode cX7_set 30 = .ok (.aload 4, 2) := by decide +kernel
theorem dX7_set_32 : decode cX7_set 32 = .ok (.iload_n 3, 1) := by decide +kernel
theorem dX7_set_33 : decode cX7_set 33 = .ok (.invokevirtual 98, 3) := by decide +kernel
theorem dX7_set_36 : decode cX7_set 36 = .ok (.ifCond .ne 13, 3) := by decide +kernel
theorem dX7_set_39 : decode cX7_set 39 = .ok (.new 43, 3) := by decide +kernel
theorem dX7_set_42 : decode cX7_set 42 = .ok (.dup, 1) := by decide +kernel
theorem dX7_set_43 : decode cX7_set 43 = .ok (.ldc 102, 2) := by decide +kernel
theorem dX7_set_45 : decode cX7_set 45 = .ok (.invokespecial 47, 3) := by decide +kernel
theorem dX7_set_48 : decode cX7_set 48 = .ok (.athrow, 1) := by decide +kernel
theorem dX7_set_49 : decode cX7_set 49 = .ok (.aload_n 0, 1) := by decide +kernel
theorem dX7_set_50 : decode cX7_set 50 = .ok (.getfield 28, 3) := by decide +kernel
theorem dX7_set_53 : decode cX7_set 53 = .ok (.aload_n 0, 1) := by decide +kernel
theorem dX7_set_54 : decode cX7_set 54 = .ok (.getfield 10, 3) := by decide +kernel
theorem dX7_set_57 : decode cX7_set 57 = .ok (.invokevirtual 50, 3) := by decide +kernel
theorem dX7_set_60 : decode cX7_set 60 = .ok (.aload_n 0, 1) := by decide +kernel
theorem dX7_set_61 : decode cX7_set 61 = .ok (.aload 4, 2) := by decide +kernel
theorem dX7_set_63 : decode cX7_set 63 = .ok (.iload_n 2, 1) := by decide +kernel
theorem dX7_set_64 : decode cX7_set 64 = .ok (.invokevirtual 104, 3) := by decide +kernel
theorem dX7_set_67 : decode cX7_set 67 = .ok (.istore 5, 2) := by decide +kernel
theorem dX7_set_69 : decode cX7_set 69 = .ok (.iload_n 2, 1) := by decide +kernel
theorem dX7_set_70 : decode cX7_set 70 = .ok (.ifCond .ne 12, 3) := by decide +kernel
theorem dX7_set_73 : decode cX7_set 73 = .ok (.aload 4, 2) := by decide +kernel
theorem dX7_set_75 : decode cX7_set 75 = .ok (.iload_n 3, 1) := by decide +kernel
theorem dX7_set_76 : decode cX7_set 76 = .ok (.putfield 108, 3) := by decide +kernel
theorem dX7_set_79 : decode cX7_set 79 = .ok (.goto 32, 3) := by decide +kernel
theorem dX7_set_82 : decode cX7_set 82 = .ok (.iload_n 2, 1) := by decide +kernel
theorem dX7_set_83 : decode cX7_set 83 = .ok (.iconst 1, 1) := by decide +kernel
theorem dX7_set_84 : decode cX7_set 84 = .ok (.if_icmp .ne 21, 3) := by decide +kernel
theorem dX7_set_87 : decode cX7_set 87 = .ok (.aload 4, 2) := by decide +kernel
theorem dX7_set_89 : decode cX7_set 89 = .ok (.iload_n 3, 1) := by decide +kernel
theorem dX7_set_90 : decode cX7_set 90 = .ok (.iconst 1, 1) := by decide +kernel
theorem dX7_set_91 : decode cX7_set 91 = .ok (.if_icmp .ne 7, 3) := by decide +kernel
theorem dX7_set_94 : decode cX7_set 94 = .ok (.iconst 1, 1) := by decide +kernel
theorem dX7_set_95 : decode cX7_set 95 = .ok (.goto 4, 3) := by decide +kernel
theorem dX7_set_98 : decode cX7_set 98 = .ok (.iconst 0, 1) := by decide +kernel
theorem dX7_set_99 : decode cX7_set 99 = .ok (.putfield 113, 3) := by decide +kernel
theorem dX7_set_102 : decode cX7_set 102 = .ok (.goto 9, 3) := by decide +kernel
theorem dX7_set_105 : decode cX7_set 105 = .ok (.aload 4, 2) := by decide +kernel
theorem dX7_set_107 : decode cX7_set 107 = .ok (.iload_n 3, 1) := by decide +kernel
theorem dX7_set_108 : decode cX7_set 108 = .ok (.putfield 117, 3) := by decide +kernel
theorem dX7_set_111 : decode cX7_set 111 = .ok (.iload 5, 2) := by decide +kernel
theorem dX7_set_113 : decode cX7_set 113 = .ok (.ireturn, 1) := by decide +kernel
theorem dX7_loops_0 : decode cX7_loops 0 = .ok (.aload_n 0, 1) := by decide +kernel
theorem dX7_loops_1 : decode cX7_loops 1 = .ok (.getfield 10, 3) := by decide +kernel
theorem dX7_loops_4 : decode cX7_loops 4 = .ok (.getfield 39, 3) := by decide +kernel
theorem dX7_loops_7 : decode cX7_loops 7 = .ok (.ireturn, 1) := by decide +kernel
theorem dX7_subscribers_0 : decode cX7_subscribers 0 = .ok (.aload_n 0, 1) := by decide +kernel
theorem dX7_subscribers_1 : decode cX7_subscribers 1 = .ok (.getfield 10, 3) := by decide +kernel
theorem dX7_subscribers_4 : decode cX7_subscribers 4 = .ok (.getfield 75, 3) := by decide +kernel
theorem dX7_subscribers_7 : decode cX7_subscribers 7 = .ok (.ireturn, 1) := by decide +kernel
theorem dX7_subscriber_0 : decode cX7_subscriber 0 = .ok (.aload_n 0, 1) := by decide +kernel
theorem dX7_subscriber_1 : decode cX7_subscriber 1 = .ok (.iload_n 1, 1) := by decide +kernel
theorem dX7_subscriber_2 : decode cX7_subscriber 2 = .ok (.invokevirtual 88, 3) := by decide +kernel
theorem dX7_subscriber_5 : decode cX7_subscriber 5 = .ok (.astore_n 3, 1) := by decide +kernel
theorem dX7_subscriber_6 : decode cX7_subscriber 6 = .ok (.iload_n 2, 1) := by decide +kernel
theorem dX7_subscriber_7 : decode cX7_subscriber 7 = .ok (.ifCond .lt 9, 3) := by decide +kernel
theorem dX7_subscriber_10 : decode cX7_subscriber 10 = .ok (.iload_n 2, 1) := by decide +kernel
theorem dX7_subscriber_11 : decode cX7_subscriber 11 = .ok (.bipush 8, 2) := by decide +kernel
theorem dX7_subscriber_13 : decode cX7_subscriber 13 = .ok (.if_icmp .lt 13, 3) := by decide +kernel
theorem dX7_subscriber_16 : decode cX7_subscriber 16 = .ok (.new 70, 3) := by decide +kernel
theorem dX7_subscriber_19 : decode cX7_subscriber 19 = .ok (.dup, 1) := by decide +kernel
theorem dX7_subscriber_20 : decode cX7_subscriber 20 = .ok (.ldc 120, 2) := by decide +kernel
theorem dX7_subscriber_22 : decode cX7_subscriber 22 = .ok (.invokespecial 74, 3) := by decide +kernel
theorem dX7_subscriber_25 : decode cX7_subscriber 25 = .ok (.athrow, 1) := by decide +kernel
theorem dX7_subscriber_26 : decode cX7_subscriber 26 = .ok (.aload_n 0, 1) := by decide +kernel
theorem dX7_subscriber_27 : decode cX7_subscriber 27 = .ok (.aload_n 3, 1) := by decide +kernel
theorem dX7_subscriber_28 : decode cX7_subscriber 28 = .ok (.iload_n 2, 1) := by decide +kernel
theorem dX7_subscriber_29 : decode cX7_subscriber 29 = .ok (.invokevirtual 104, 3) := by decide +kernel
theorem dX7_subscriber_32 : decode cX7_subscriber 32 = .ok (.ireturn, 1) := by decide +kernel
theorem dX7_loop_0 : decode cX7_loop 0 = .ok (.aload_n 0, 1) := by decide +kernel
theorem dX7_loop_1 : decode cX7_loop 1 = .ok (.iload_n 1, 1) := by decide +kernel
theorem dX7_loop_2 : decode cX7_loop 2 = .ok (.invokevirtual 57, 3) := by decide +kernel
theorem dX7_loop_5 : decode cX7_loop 5 = .ok (.astore_n 3, 1) := by decide +kernel
theorem dX7_loop_6 : decode cX7_loop 6 = .ok (.iload_n 2, 1) := by decide +kernel
theorem dX7_loop_7 : decode cX7_loop 7 = .ok (.ifCond .lt 9, 3) := by decide +kernel
theorem dX7_loop_10 : decode cX7_loop 10 = .ok (.iload_n 2, 1) := by decide +kernel
theorem dX7_loop_11 : decode cX7_loop 11 = .ok (.bipush 9, 2) := by decide +kernel
theorem dX7_loop_13 : decode cX7_loop 13 = .ok (.if_icmp .lt 13, 3) := by decide +kernel
theorem dX7_loop_16 : decode cX7_loop 16 = .ok (.new 70, 3) := by decide +kernel
theorem dX7_loop_19 : decode cX7_loop 19 = .ok (.dup, 1) := by decide +kernel
theorem dX7_loop_20 : decode cX7_loop 20 = .ok (.ldc 120, 2) := by decide +kernel
theorem dX7_loop_22 : decode cX7_loop 22 = .ok (.invokespecial 74, 3) := by decide +kernel
theorem dX7_loop_25 : decode cX7_loop 25 = .ok (.athrow, 1) := by decide +kernel
theorem dX7_loop_26 : decode cX7_loop 26 = .ok (.aload_n 0, 1) := by decide +kernel
theorem dX7_loop_27 : decode cX7_loop 27 = .ok (.aload_n 3, 1) := by decide +kernel
theorem dX7_loop_28 : decode cX7_loop 28 = .ok (.iload_n 2, 1) := by decide +kernel
theorem dX7_loop_29 : decode cX7_loop 29 = .ok (.invokevirtual 122, 3) := by decide +kernel
theorem dX7_loop_32 : decode cX7_loop 32 = .ok (.ireturn, 1) := by decide +kernel
theorem dX7_lift_0 : decode cX7_lift 0 = .ok (.aload_n 0, 1) := by decide +kernel
theorem dX7_lift_1 : decode cX7_lift 1 = .ok (.iload_n 1, 1) := by decide +kernel
theorem dX7_lift_2 : decode cX7_lift 2 = .ok (.invokevirtual 88, 3) := by decide +kernel
theorem dX7_lift_5 : decode cX7_lift 5 = .ok (.astore_n 2, 1) := by decide +kernel
theorem dX7_lift_6 : decode cX7_lift 6 = .ok (.aload_n 2, 1) := by decide +kernel
theorem dX7_lift_7 : decode cX7_lift 7 = .ok (.getfield 126, 3) := by decide +kernel
theorem dX7_lift_10 : decode cX7_lift 10 = .ok (.ifCond .eq 13, 3) := by decide +kernel
theorem dX7_lift_13 : decode cX7_lift 13 = .ok (.new 43, 3) := by decide +kernel
theorem dX7_lift_16 : decode cX7_lift 16 = .ok (.dup, 1) := by decide +kernel
theorem dX7_lift_17 : decode cX7_lift 17 = .ok (.ldc 129, 2) := by decide +kernel
theorem dX7_lift_19 : decode cX7_lift 19 = .ok (.invokespecial 47, 3) := by decide +kernel
theorem dX7_lift_22 : decode cX7_lift 22 = .ok (.athrow, 1) := by decide +kernel
theorem dX7_lift_23 : decode cX7_lift 23 = .ok (.aload_n 0, 1) := by decide +kernel
theorem dX7_lift_24 : decode cX7_lift 24 = .ok (.getfield 28, 3) := by decide +kernel
theorem dX7_lift_27 : decode cX7_lift 27 = .ok (.aload_n 0, 1) := by decide +kernel
theorem dX7_lift_28 : decode cX7_lift 28 = .ok (.getfield 10, 3) := by decide +kernel
theorem dX7_lift_31 : decode cX7_lift 31 = .ok (.invokevirtual 50, 3) := by decide +kernel
theorem dX7_lift_34 : decode cX7_lift 34 = .ok (.aload_n 0, 1) := by decide +kernel
theorem dX7_lift_35 : decode cX7_lift 35 = .ok (.getfield 21, 3) := by decide +kernel
theorem dX7_lift_38 : decode cX7_lift 38 = .ok (.aload_n 2, 1) := by decide +kernel
theorem dX7_lift_39 : decode cX7_lift 39 = .ok (.invokevirtual 131, 3) := by decide +kernel
theorem dX7_lift_42 : decode cX7_lift 42 = .ok (.aload_n 0, 1) := by decide +kernel
theorem dX7_lift_43 : decode cX7_lift 43 = .ok (.aload_n 2, 1) := by decide +kernel
theorem dX7_lift_44 : decode cX7_lift 44 = .ok (.invokevirtual 135, 3) := by decide +kernel
theorem dX7_lift_47 : decode cX7_lift 47 = .ok (.ireturn, 1) := by decide +kernel
theorem dX7_hang_0 : decode cX7_hang 0 = .ok (.aload_n 0, 1) := by decide +kernel
theorem dX7_hang_1 : decode cX7_hang 1 = .ok (.iload_n 1, 1) := by decide +kernel
theorem dX7_hang_2 : decode cX7_hang 2 = .ok (.invokevirtual 88, 3) := by decide +kernel
theorem dX7_hang_5 : decode cX7_hang 5 = .ok (.astore_n 2, 1) := by decide +kernel
theorem dX7_hang_6 : decode cX7_hang 6 = .ok (.aload_n 2, 1) := by decide +kernel
theorem dX7_hang_7 : decode cX7_hang 7 = .ok (.getfield 126, 3) := by decide +kernel
theorem dX7_hang_10 : decode cX7_hang 10 = .ok (.ifCond .ne 13, 3) := by decide +kernel
theorem dX7_hang_13 : decode cX7_hang 13 = .ok (.new 43, 3) := by decide +kernel
theorem dX7_hang_16 : decode cX7_hang 16 = .ok (.dup, 1) := by decide +kernel
theorem dX7_hang_17 : decode cX7_hang 17 = .ok (.ldc 139, 2) := by decide +kernel
theorem dX7_hang_19 : decode cX7_hang 19 = .ok (.invokespecial 47, 3) := by decide +kernel
theorem dX7_hang_22 : decode cX7_hang 22 = .ok (.athrow, 1) := by decide +kernel
theorem dX7_hang_23 : decode cX7_hang 23 = .ok (.aload_n 0, 1) := by decide +kernel
theorem dX7_hang_24 : decode cX7_hang 24 = .ok (.getfield 28, 3) := by decide +kernel
theorem dX7_hang_27 : decode cX7_hang 27 = .ok (.aload_n 0, 1) := by decide +kernel
theorem dX7_hang_28 : decode cX7_hang 28 = .ok (.getfield 10, 3) := by decide +kernel
theorem dX7_hang_31 : decode cX7_hang 31 = .ok (.invokevirtual 50, 3) := by decide +kernel
theorem dX7_hang_34 : decode cX7_hang 34 = .ok (.aload_n 0, 1) := by decide +kernel
theorem dX7_hang_35 : decode cX7_hang 35 = .ok (.getfield 21, 3) := by decide +kernel
theorem dX7_hang_38 : decode cX7_hang 38 = .ok (.aload_n 2, 1) := by decide +kernel
theorem dX7_hang_39 : decode cX7_hang 39 = .ok (.invokevirtual 141, 3) := by decide +kernel
theorem dX7_hang_42 : decode cX7_hang 42 = .ok (.aload_n 0, 1) := by decide +kernel
theorem dX7_hang_43 : decode cX7_hang 43 = .ok (.aload_n 2, 1) := by decide +kernel
theorem dX7_hang_44 : decode cX7_hang 44 = .ok (.invokevirtual 135, 3) := by decide +kernel
theorem dX7_hang_47 : decode cX7_hang 47 = .ok (.ireturn, 1) := by decide +kernel
theorem dX7_dial_0 : decode cX7_dial 0 = .ok (.aload_n 0, 1) := by decide +kernel
theorem dX7_dial_1 : decode cX7_dial 1 = .ok (.iload_n 1, 1) := by decide +kernel
theorem dX7_dial_2 : decode cX7_dial 2 = .ok (.invokevirtual 88, 3) := by decide +kernel
theorem dX7_dial_5 : decode cX7_dial 5 = .ok (.astore_n 3, 1) := by decide +kernel
theorem dX7_dial_6 : decode cX7_dial 6 = .ok (.aload_n 0, 1) := by decide +kernel
theorem dX7_dial_7 : decode cX7_dial 7 = .ok (.getfield 10, 3) := by decide +kernel
theorem dX7_dial_10 : decode cX7_dial 10 = .ok (.aload_n 3, 1) := by decide +kernel
theorem dX7_dial_11 : decode cX7_dial 11 = .ok (.getfield 144, 3) := by decide +kernel
theorem dX7_dial_14 : decode cX7_dial 14 = .ok (.invokevirtual 147, 3) := by decide +kernel
theorem dX7_dial_17 : decode cX7_dial 17 = .ok (.astore 4, 2) := by decide +kernel
theorem dX7_dial_19 : decode cX7_dial 19 = .ok (.aload 4, 2) := by decide +kernel
theorem dX7_dial_21 : decode cX7_dial 21 = .ok (.ifnull 24, 3) := by decide +kernel
theorem dX7_dial_24 : decode cX7_dial 24 = .ok (.aload 4, 2) := by decide +kernel
theorem dX7_dial_26 : decode cX7_dial 26 = .ok (.getfield 150, 3) := by decide +kernel
theorem dX7_dial_29 : decode cX7_dial 29 = .ok (.iconst 1, 1) := by decide +kernel
theorem dX7_dial_30 : decode cX7_dial 30 = .ok (.if_icmp .ne 15, 3) := by decide +kernel
theorem dX7_dial_33 : decode cX7_dial 33 = .ok (.aload 4, 2) := by decide +kernel
theorem dX7_dial_35 : decode cX7_dial 35 = .ok (.getfield 155, 3) := by decide +kernel
theorem dX7_dial_38 : decode cX7_dial 38 = .ok (.aload_n 3, 1) := by decide +kernel
theorem dX7_dial_39 : decode cX7_dial 39 = .ok (.getfield 158, 3) := by decide +kernel
theorem dX7_dial_42 : decode cX7_dial 42 = .ok (.if_icmp .eq 13, 3) := by decide +kernel
theorem dX7_dial_45 : decode cX7_dial 45 = .ok (.new 43, 3) := by decide +kernel
theorem dX7_dial_48 : decode cX7_dial 48 = .ok (.dup, 1) := by decide +kernel
theorem dX7_dial_49 : decode cX7_dial 49 = .ok (.ldc 161, 2) := by decide +kernel
theorem dX7_dial_51 : decode cX7_dial 51 = .ok (.invokespecial 47, 3) := by decide +kernel
theorem dX7_dial_54 : decode cX7_dial 54 = .ok (.athrow, 1) := by decide +kernel
theorem dX7_dial_55 : decode cX7_dial 55 = .ok (.aload_n 0, 1) := by decide +kernel
theorem dX7_dial_56 : decode cX7_dial 56 = .ok (.getfield 28, 3) := by decide +kernel
theorem dX7_dial_59 : decode cX7_dial 59 = .ok (.aload_n 0, 1) := by decide +kernel
theorem dX7_dial_60 : decode cX7_dial 60 = .ok (.getfield 10, 3) := by decide +kernel
theorem dX7_dial_63 : decode cX7_dial 63 = .ok (.invokevirtual 50, 3) := by decide +kernel
theorem dX7_dial_66 : decode cX7_dial 66 = .ok (.aload_n 0, 1) := by decide +kernel
theorem dX7_dial_67 : decode cX7_dial 67 = .ok (.getfield 21, 3) := by decide +kernel
theorem dX7_dial_70 : decode cX7_dial 70 = .ok (.aload 4, 2) := by decide +kernel
theorem dX7_dial_72 : decode cX7_dial 72 = .ok (.aload_n 3, 1) := by decide +kernel
theorem dX7_dial_73 : decode cX7_dial 73 = .ok (.iload_n 2, 1) := by decide +kernel
theorem dX7_dial_74 : decode cX7_dial 74 = .ok (.invokevirtual 163, 3) := by decide +kernel
theorem dX7_dial_77 : decode cX7_dial 77 = .ok (.aload 4, 2) := by decide +kernel
theorem dX7_dial_79 : decode cX7_dial 79 = .ok (.getfield 150, 3) := by decide +kernel
theorem dX7_dial_82 : decode cX7_dial 82 = .ok (.ireturn, 1) := by decide +kernel
theorem dX7_tick_0 : decode cX7_tick 0 = .ok (.iload_n 1, 1) := by decide +kernel
theorem dX7_tick_1 : decode cX7_tick 1 = .ok (.iconst 1, 1) := by decide +kernel
theorem dX7_tick_2 : decode cX7_tick 2 = .ok (.if_icmp .lt 10, 3) := by decide +kernel
theorem dX7_tick_5 : decode cX7_tick 5 = .ok (.iload_n 1, 1) := by decide +kernel
theorem dX7_tick_6 : decode cX7_tick 6 = .ok (.sipush 200, 3) := by decide +kernel
theorem dX7_tick_9 : decode cX7_tick 9 = .ok (.if_icmp .le 13, 3) := by decide +kernel
theorem dX7_tick_12 : decode cX7_tick 12 = .ok (.new 70, 3) := by decide +kernel
theorem dX7_tick_15 : decode cX7_tick 15 = .ok (.dup, 1) := by decide +kernel
theorem dX7_tick_16 : decode cX7_tick 16 = .ok (.ldc 167, 2) := by decide +kernel
theorem dX7_tick_18 : decode cX7_tick 18 = .ok (.invokespecial 74, 3) := by decide +kernel
theorem dX7_tick_21 : decode cX7_tick 21 = .ok (.athrow, 1) := by decide +kernel
theorem dX7_tick_22 : decode cX7_tick 22 = .ok (.aload_n 0, 1) := by decide +kernel
theorem dX7_tick_23 : decode cX7_tick 23 = .ok (.getfield 28, 3) := by decide +kernel
theorem dX7_tick_26 : decode cX7_tick 26 = .ok (.aload_n 0, 1) := by decide +kernel
theorem dX7_tick_27 : decode cX7_tick 27 = .ok (.getfield 10, 3) := by decide +kernel
theorem dX7_tick_30 : decode cX7_tick 30 = .ok (.invokevirtual 50, 3) := by decide +kernel
theorem dX7_tick_33 : decode cX7_tick 33 = .ok (.iconst 0, 1) := by decide +kernel
theorem dX7_tick_34 : decode cX7_tick 34 = .ok (.istore_n 2, 1) := by decide +kernel
theorem dX7_tick_35 : decode cX7_tick 35 = .ok (.iload_n 2, 1) := by decide +kernel
theorem dX7_tick_36 : decode cX7_tick 36 = .ok (.iload_n 1, 1) := by decide +kernel
theorem dX7_tick_37 : decode cX7_tick 37 = .ok (.if_icmp .ge 16, 3) := by decide +kernel
theorem dX7_tick_40 : decode cX7_tick 40 = .ok (.aload_n 0, 1) := by decide +kernel
theorem dX7_tick_41 : decode cX7_tick 41 = .ok (.getfield 21, 3) := by decide +kernel
theorem dX7_tick_44 : decode cX7_tick 44 = .ok (.invokevirtual 169, 3) := by decide +kernel
theorem dX7_tick_47 : decode cX7_tick 47 = .ok (.iinc 2 1, 3) := by decide +kernel
theorem dX7_tick_50 : decode cX7_tick 50 = .ok (.goto (-15), 3) := by decide +kernel
theorem dX7_tick_53 : decode cX7_tick 53 = .ok (.aload_n 0, 1) := by decide +kernel
theorem dX7_tick_54 : decode cX7_tick 54 = .ok (.getfield 10, 3) := by decide +kernel
theorem dX7_tick_57 : decode cX7_tick 57 = .ok (.invokevirtual 172, 3) := by decide +kernel
theorem dX7_tick_60 : decode cX7_tick 60 = .ok (.ireturn, 1) := by decide +kernel
theorem dX7_setLimit_0 : decode cX7_setLimit 0 = .ok (.iload_n 1, 1) := by decide +kernel
theorem dX7_setLimit_1 : decode cX7_setLimit 1 = .ok (.bipush 10, 2) := by decide +kernel
theorem dX7_setLimit_3 : decode cX7_setLimit 3 = .ok (.if_icmp .lt 10, 3) := by decide +kernel
theorem dX7_setLimit_6 : decode cX7_setLimit 6 = .ok (.iload_n 1, 1) := by decide +kernel
theorem dX7_setLimit_7 : decode cX7_setLimit 7 = .ok (.sipush 200, 3) := by decide +kernel
theorem dX7_setLimit_10 : decode cX7_setLimit 10 = .ok (.if_icmp .le 13, 3) := by decide +kernel
theorem dX7_setLimit_13 : decode cX7_setLimit 13 = .ok (.new 70, 3) := by decide +kernel
theorem dX7_setLimit_16 : decode cX7_setLimit 16 = .ok (.dup, 1) := by decide +kernel
theorem dX7_setLimit_17 : decode cX7_setLimit 17 = .ok (.ldc 175, 2) := by decide +kernel
theorem dX7_setLimit_19 : decode cX7_setLimit 19 = .ok (.invokespecial 74, 3) := by decide +kernel
theorem dX7_setLimit_22 : decode cX7_setLimit 22 = .ok (.athrow, 1) := by decide +kernel
theorem dX7_setLimit_23 : decode cX7_setLimit 23 = .ok (.aload_n 0, 1) := by decide +kernel
theorem dX7_setLimit_24 : decode cX7_setLimit 24 = .ok (.getfield 28, 3) := by decide +kernel
theorem dX7_setLimit_27 : decode cX7_setLimit 27 = .ok (.aload_n 0, 1) := by decide +kernel
theorem dX7_setLimit_28 : decode cX7_setLimit 28 = .ok (.getfield 10, 3) := by decide +kernel
theorem dX7_setLimit_31 : decode cX7_setLimit 31 = .ok (.invokevirtual 50, 3) := by decide +kernel
theorem dX7_setLimit_34 : decode cX7_setLimit 34 = .ok (.aload_n 0, 1) := by decide +kernel
theorem dX7_setLimit_35 : decode cX7_setLimit 35 = .ok (.getfield 10, 3) := by decide +kernel
theorem dX7_setLimit_38 : decode cX7_setLimit 38 = .ok (.getfield 177, 3) := by decide +kernel
theorem dX7_setLimit_41 : decode cX7_setLimit 41 = .ok (.istore_n 2, 1) := by decide +kernel
theorem dX7_setLimit_42 : decode cX7_setLimit 42 = .ok (.aload_n 0, 1) := by decide +kernel
theorem dX7_setLimit_43 : decode cX7_setLimit 43 = .ok (.getfield 10, 3) := by decide +kernel
theorem dX7_setLimit_46 : decode cX7_setLimit 46 = .ok (.iload_n 1, 1) := by decide +kernel
theorem dX7_setLimit_47 : decode cX7_setLimit 47 = .ok (.putfield 177, 3) := by decide +kernel
theorem dX7_setLimit_50 : decode cX7_setLimit 50 = .ok (.iload_n 2, 1) := by decide +kernel
theorem dX7_setLimit_51 : decode cX7_setLimit 51 = .ok (.ireturn, 1) := by decide +kernel
theorem dX7_rings_0 : decode cX7_rings 0 = .ok (.aload_n 0, 1) := by decide +kernel
theorem dX7_rings_1 : decode cX7_rings 1 = .ok (.getfield 21, 3) := by decide +kernel
theorem dX7_rings_4 : decode cX7_rings 4 = .ok (.aload_n 0, 1) := by decide +kernel
theorem dX7_rings_5 : decode cX7_rings 5 = .ok (.iload_n 1, 1) := by decide +kernel
theorem dX7_rings_6 : decode cX7_rings 6 = .ok (.invokevirtual 57, 3) := by decide +kernel
theorem dX7_rings_9 : decode cX7_rings 9 = .ok (.invokevirtual 180, 3) := by decide +kernel
theorem dX7_rings_12 : decode cX7_rings 12 = .ok (.ireturn, 1) := by decide +kernel
theorem dX7_wouldDial_0 : decode cX7_wouldDial 0 = .ok (.aload_n 0, 1) := by decide +kernel
theorem dX7_wouldDial_1 : decode cX7_wouldDial 1 = .ok (.getfield 21, 3) := by decide +kernel
theorem dX7_wouldDial_4 : decode cX7_wouldDial 4 = .ok (.aload_n 0, 1) := by decide +kernel
theorem dX7_wouldDial_5 : decode cX7_wouldDial 5 = .ok (.iload_n 1, 1) := by decide +kernel
theorem dX7_wouldDial_6 : decode cX7_wouldDial 6 = .ok (.invokevirtual 88, 3) := by decide +kernel
theorem dX7_wouldDial_9 : decode cX7_wouldDial 9 = .ok (.iload_n 2, 1) := by decide +kernel
theorem dX7_wouldDial_10 : decode cX7_wouldDial 10 = .ok (.invokevirtual 184, 3) := by decide +kernel
theorem dX7_wouldDial_13 : decode cX7_wouldDial 13 = .ok (.ireturn, 1) := by decide +kernel
theorem dX7_told_0 : decode cX7_told 0 = .ok (.iload_n 1, 1) := by decide +kernel
theorem dX7_told_1 : decode cX7_told 1 = .ok (.ifCond .lt 9, 3) := by decide +kernel
theorem dX7_told_4 : decode cX7_told 4 = .ok (.iload_n 1, 1) := by decide +kernel
theorem dX7_told_5 : decode cX7_told 5 = .ok (.bipush 6, 2) := by decide +kernel
theorem dX7_told_7 : decode cX7_told 7 = .ok (.if_icmp .lt 13, 3) := by decide +kernel
theorem dX7_told_10 : decode cX7_told 10 = .ok (.new 70, 3) := by decide +kernel
theorem dX7_told_13 : decode cX7_told 13 = .ok (.dup, 1) := by decide +kernel
theorem dX7_told_14 : decode cX7_told 14 = .ok (.ldc 120, 2) := by decide +kernel
theorem dX7_told_16 : decode cX7_told 16 = .ok (.invokespecial 74, 3) := by decide +kernel
theorem dX7_told_19 : decode cX7_told 19 = .ok (.athrow, 1) := by decide +kernel
theorem dX7_told_20 : decode cX7_told 20 = .ok (.aload_n 0, 1) := by decide +kernel
theorem dX7_told_21 : decode cX7_told 21 = .ok (.getfield 10, 3) := by decide +kernel
theorem dX7_told_24 : decode cX7_told 24 = .ok (.getfield 187, 3) := by decide +kernel
theorem dX7_told_27 : decode cX7_told 27 = .ok (.iload_n 1, 1) := by decide +kernel
theorem dX7_told_28 : decode cX7_told 28 = .ok (.iaload, 1) := by decide +kernel
theorem dX7_told_29 : decode cX7_told 29 = .ok (.ireturn, 1) := by decide +kernel
theorem dX7_codeLength_0 : decode cX7_codeLength 0 = .ok (.iload_n 1, 1) := by decide +kernel
theorem dX7_codeLength_1 : decode cX7_codeLength 1 = .ok (.invokestatic 65, 3) := by decide +kernel
theorem dX7_codeLength_4 : decode cX7_codeLength 4 = .ok (.ifCond .ne 13, 3) := by decide +kernel
theorem dX7_codeLength_7 : decode cX7_codeLength 7 = .ok (.new 70, 3) := by decide +kernel
theorem dX7_codeLength_10 : decode cX7_codeLength 10 = .ok (.dup, 1) := by decide +kernel
theorem dX7_codeLength_11 : decode cX7_codeLength 11 = .ok (.ldc 191, 2) := by decide +kernel
theorem dX7_codeLength_13 : decode cX7_codeLength 13 = .ok (.invokespecial 74, 3) := by decide +kernel
theorem dX7_codeLength_16 : decode cX7_codeLength 16 = .ok (.athrow, 1) := by decide +kernel
theorem dX7_codeLength_17 : decode cX7_codeLength 17 = .ok (.iload_n 1, 1) := by decide +kernel
theorem dX7_codeLength_18 : decode cX7_codeLength 18 = .ok (.invokestatic 193, 3) := by decide +kernel
theorem dX7_codeLength_21 : decode cX7_codeLength 21 = .ok (.ireturn, 1) := by decide +kernel
theorem dX7_codeRing_0 : decode cX7_codeRing 0 = .ok (.iload_n 1, 1) := by decide +kernel
theorem dX7_codeRing_1 : decode cX7_codeRing 1 = .ok (.invokestatic 65, 3) := by decide +kernel
theorem dX7_codeRing_4 : decode cX7_codeRing 4 = .ok (.ifCond .ne 13, 3) := by decide +kernel
theorem dX7_codeRing_7 : decode cX7_codeRing 7 = .ok (.new 70, 3) := by decide +kernel
theorem dX7_codeRing_10 : decode cX7_codeRing 10 = .ok (.dup, 1) := by decide +kernel
theorem dX7_codeRing_11 : decode cX7_codeRing 11 = .ok (.ldc 191, 2) := by decide +kernel
theorem dX7_codeRing_13 : decode cX7_codeRing 13 = .ok (.invokespecial 74, 3) := by decide +kernel
theorem dX7_codeRing_16 : decode cX7_codeRing 16 = .ok (.athrow, 1) := by decide +kernel
theorem dX7_codeRing_17 : decode cX7_codeRing 17 = .ok (.iload_n 2, 1) := by decide +kernel
theorem dX7_codeRing_18 : decode cX7_codeRing 18 = .ok (.ifCond .lt 11, 3) := by decide +kernel
theorem dX7_codeRing_21 : decode cX7_codeRing 21 = .ok (.iload_n 2, 1) := by decide +kernel
theorem dX7_codeRing_22 : decode cX7_codeRing 22 = .ok (.iload_n 1, 1) := by decide +kernel
theorem dX7_codeRing_23 : decode cX7_codeRing 23 = .ok (.invokestatic 197, 3) := by decide +kernel
theorem dX7_codeRing_26 : decode cX7_codeRing 26 = .ok (.if_icmp .lt 5, 3) := by decide +kernel
theorem dX7_codeRing_29 : decode cX7_codeRing 29 = .ok (.iconst (-1), 1) := by decide +kernel
theorem dX7_codeRing_30 : decode cX7_codeRing 30 = .ok (.ireturn, 1) := by decide +kernel
theorem dX7_codeRing_31 : decode cX7_codeRing 31 = .ok (.iload_n 1, 1) := by decide +kernel
theorem dX7_codeRing_32 : decode cX7_codeRing 32 = .ok (.iload_n 2, 1) := by decide +kernel
theorem dX7_codeRing_33 : decode cX7_codeRing 33 = .ok (.invokestatic 200, 3) := by decide +kernel
theorem dX7_codeRing_36 : decode cX7_codeRing 36 = .ok (.ifCond .eq 7, 3) := by decide +kernel
theorem dX7_codeRing_39 : decode cX7_codeRing 39 = .ok (.iconst 1, 1) := by decide +kernel
theorem dX7_codeRing_40 : decode cX7_codeRing 40 = .ok (.goto 4, 3) := by decide +kernel
theorem dX7_codeRing_43 : decode cX7_codeRing 43 = .ok (.iconst 0, 1) := by decide +kernel
theorem dX7_codeRing_44 : decode cX7_codeRing 44 = .ok (.ireturn, 1) := by decide +kernel
theorem dX7_codeCost_0 : decode cX7_codeCost 0 = .ok (.aload_n 0, 1) := by decide +kernel
theorem dX7_codeCost_1 : decode cX7_codeCost 1 = .ok (.getfield 10, 3) := by decide +kernel
theorem dX7_codeCost_4 : decode cX7_codeCost 4 = .ok (.aload_n 0, 1) := by decide +kernel
theorem dX7_codeCost_5 : decode cX7_codeCost 5 = .ok (.iload_n 1, 1) := by decide +kernel
theorem dX7_codeCost_6 : decode cX7_codeCost 6 = .ok (.invokevirtual 57, 3) := by decide +kernel
theorem dX7_codeCost_9 : decode cX7_codeCost 9 = .ok (.invokevirtual 203, 3) := by decide +kernel
theorem dX7_codeCost_12 : decode cX7_codeCost 12 = .ok (.ireturn, 1) := by decide +kernel
theorem dX7_bestCodes_0 : decode cX7_bestCodes 0 = .ok (.aload_n 0, 1) := by decide +kernel
theorem dX7_bestCodes_1 : decode cX7_bestCodes 1 = .ok (.getfield 10, 3) := by decide +kernel
theorem dX7_bestCodes_4 : decode cX7_bestCodes 4 = .ok (.aload_n 0, 1) := by decide +kernel
theorem dX7_bestCodes_5 : decode cX7_bestCodes 5 = .ok (.iload_n 1, 1) := by decide +kernel
theorem dX7_bestCodes_6 : decode cX7_bestCodes 6 = .ok (.invokevirtual 57, 3) := by decide +kernel
theorem dX7_bestCodes_9 : decode cX7_bestCodes 9 = .ok (.invokevirtual 206, 3) := by decide +kernel
theorem dX7_bestCodes_12 : decode cX7_bestCodes 12 = .ok (.ireturn, 1) := by decide +kernel
theorem dX7_assignCodes_0 : decode cX7_assignCodes 0 = .ok (.aload_n 0, 1) := by decide +kernel
theorem dX7_assignCodes_1 : decode cX7_assignCodes 1 = .ok (.iload_n 1, 1) := by decide +kernel
theorem dX7_assignCodes_2 : decode cX7_assignCodes 2 = .ok (.invokevirtual 57, 3) := by decide +kernel
theorem dX7_assignCodes_5 : decode cX7_assignCodes 5 = .ok (.astore_n 2, 1) := by decide +kernel
theorem dX7_assignCodes_6 : decode cX7_assignCodes 6 = .ok (.aload_n 2, 1) := by decide +kernel
theorem dX7_assignCodes_7 : decode cX7_assignCodes 7 = .ok (.invokevirtual 209, 3) := by decide +kernel
theorem dX7_assignCodes_10 : decode cX7_assignCodes 10 = .ok (.ifCond .eq 13, 3) := by decide +kernel
theorem dX7_assignCodes_13 : decode cX7_assignCodes 13 = .ok (.new 43, 3) := by decide +kernel
theorem dX7_assignCodes_16 : decode cX7_assignCodes 16 = .ok (.dup, 1) := by decide +kernel
theorem dX7_assignCodes_17 : decode cX7_assignCodes 17 = .ok (.ldc 213, 2) := by decide +kernel
theorem dX7_assignCodes_19 : decode cX7_assignCodes 19 = .ok (.invokespecial 47, 3) := by decide +kernel
theorem dX7_assignCodes_22 : decode cX7_assignCodes 22 = .ok (.athrow, 1) := by decide +kernel
theorem dX7_assignCodes_23 : decode cX7_assignCodes 23 = .ok (.aload_n 0, 1) := by decide +kernel
theorem dX7_assignCodes_24 : decode cX7_assignCodes 24 = .ok (.getfield 28, 3) := by decide +kernel
theorem dX7_assignCodes_27 : decode cX7_assignCodes 27 = .ok (.aload_n 0, 1) := by decide +kernel
theorem dX7_assignCodes_28 : decode cX7_assignCodes 28 = .ok (.getfield 10, 3) := by decide +kernel
theorem dX7_assignCodes_31 : decode cX7_assignCodes 31 = .ok (.invokevirtual 50, 3) := by decide +kernel
theorem dX7_assignCodes_34 : decode cX7_assignCodes 34 = .ok (.aload_n 0, 1) := by decide +kernel
theorem dX7_assignCodes_35 : decode cX7_assignCodes 35 = .ok (.getfield 10, 3) := by decide +kernel
theorem dX7_assignCodes_38 : decode cX7_assignCodes 38 = .ok (.aload_n 2, 1) := by decide +kernel
theorem dX7_assignCodes_39 : decode cX7_assignCodes 39 = .ok (.invokevirtual 215, 3) := by decide +kernel
theorem dX7_assignCodes_42 : decode cX7_assignCodes 42 = .ok (.ireturn, 1) := by decide +kernel
theorem dX7_fault_0 : decode cX7_fault 0 = .ok (.aload_n 0, 1) := by decide +kernel
theorem dX7_fault_1 : decode cX7_fault 1 = .ok (.iload_n 1, 1) := by decide +kernel
theorem dX7_fault_2 : decode cX7_fault 2 = .ok (.invokevirtual 57, 3) := by decide +kernel
theorem dX7_fault_5 : decode cX7_fault 5 = .ok (.astore 4, 2) := by decide +kernel
theorem dX7_fault_7 : decode cX7_fault 7 = .ok (.iload_n 2, 1) := by decide +kernel
theorem dX7_fault_8 : decode cX7_fault 8 = .ok (.invokestatic 61, 3) := by decide +kernel
theorem dX7_fault_11 : decode cX7_fault 11 = .ok (.ifCond .ne 13, 3) := by decide +kernel
theorem dX7_fault_14 : decode cX7_fault 14 = .ok (.new 218, 3) := by decide +kernel
theorem dX7_fault_17 : decode cX7_fault 17 = .ok (.dup, 1) := by decide +kernel
theorem dX7_fault_18 : decode cX7_fault 18 = .ok (.ldc 220, 2) := by decide +kernel
theorem dX7_fault_20 : decode cX7_fault 20 = .ok (.invokespecial 222, 3) := by decide +kernel
theorem dX7_fault_23 : decode cX7_fault 23 = .ok (.athrow, 1) := by decide +kernel
theorem dX7_fault_24 : decode cX7_fault 24 = .ok (.aload 4, 2) := by decide +kernel
theorem dX7_fault_26 : decode cX7_fault 26 = .ok (.invokevirtual 223, 3) := by decide +kernel
theorem dX7_fault_29 : decode cX7_fault 29 = .ok (.ifCond .eq 13, 3) := by decide +kernel
theorem dX7_fault_32 : decode cX7_fault 32 = .ok (.new 43, 3) := by decide +kernel
theorem dX7_fault_35 : decode cX7_fault 35 = .ok (.dup, 1) := by decide +kernel
theorem dX7_fault_36 : decode cX7_fault 36 = .ok (.ldc 226, 2) := by decide +kernel
theorem dX7_fault_38 : decode cX7_fault 38 = .ok (.invokespecial 47, 3) := by decide +kernel
theorem dX7_fault_41 : decode cX7_fault 41 = .ok (.athrow, 1) := by decide +kernel
theorem dX7_fault_42 : decode cX7_fault 42 = .ok (.aload_n 0, 1) := by decide +kernel
theorem dX7_fault_43 : decode cX7_fault 43 = .ok (.getfield 28, 3) := by decide +kernel
theorem dX7_fault_46 : decode cX7_fault 46 = .ok (.aload_n 0, 1) := by decide +kernel
theorem dX7_fault_47 : decode cX7_fault 47 = .ok (.getfield 10, 3) := by decide +kernel
theorem dX7_fault_50 : decode cX7_fault 50 = .ok (.invokevirtual 50, 3) := by decide +kernel
theorem dX7_fault_53 : decode cX7_fault 53 = .ok (.aload_n 0, 1) := by decide +kernel
theorem dX7_fault_54 : decode cX7_fault 54 = .ok (.getfield 21, 3) := by decide +kernel
theorem dX7_fault_57 : decode cX7_fault 57 = .ok (.aload 4, 2) := by decide +kernel
theorem dX7_fault_59 : decode cX7_fault 59 = .ok (.iload_n 2, 1) := by decide +kernel
theorem dX7_fault_60 : decode cX7_fault 60 = .ok (.iload_n 3, 1) := by decide +kernel
theorem dX7_fault_61 : decode cX7_fault 61 = .ok (.invokevirtual 228, 3) := by decide +kernel
theorem dX7_fault_64 : decode cX7_fault 64 = .ok (.aload_n 0, 1) := by decide +kernel
theorem dX7_fault_65 : decode cX7_fault 65 = .ok (.getfield 10, 3) := by decide +kernel
theorem dX7_fault_68 : decode cX7_fault 68 = .ok (.aload 4, 2) := by decide +kernel
theorem dX7_fault_70 : decode cX7_fault 70 = .ok (.invokevirtual 232, 3) := by decide +kernel
theorem dX7_fault_73 : decode cX7_fault 73 = .ok (.ireturn, 1) := by decide +kernel
theorem dX7_mend_0 : decode cX7_mend 0 = .ok (.aload_n 0, 1) := by decide +kernel
theorem dX7_mend_1 : decode cX7_mend 1 = .ok (.iload_n 1, 1) := by decide +kernel
theorem dX7_mend_2 : decode cX7_mend 2 = .ok (.invokevirtual 57, 3) := by decide +kernel
theorem dX7_mend_5 : decode cX7_mend 5 = .ok (.astore_n 2, 1) := by decide +kernel
theorem dX7_mend_6 : decode cX7_mend 6 = .ok (.aload_n 2, 1) := by decide +kernel
theorem dX7_mend_7 : decode cX7_mend 7 = .ok (.invokevirtual 223, 3) := by decide +kernel
theorem dX7_mend_10 : decode cX7_mend 10 = .ok (.ifCond .ne 13, 3) := by decide +kernel
theorem dX7_mend_13 : decode cX7_mend 13 = .ok (.new 43, 3) := by decide +kernel
theorem dX7_mend_16 : decode cX7_mend 16 = .ok (.dup, 1) := by decide +kernel
theorem dX7_mend_17 : decode cX7_mend 17 = .ok (.ldc 235, 2) := by decide +kernel
theorem dX7_mend_19 : decode cX7_mend 19 = .ok (.invokespecial 47, 3) := by decide +kernel
theorem dX7_mend_22 : decode cX7_mend 22 = .ok (.athrow, 1) := by decide +kernel
theorem dX7_mend_23 : decode cX7_mend 23 = .ok (.aload_n 0, 1) := by decide +kernel
theorem dX7_mend_24 : decode cX7_mend 24 = .ok (.getfield 28, 3) := by decide +kernel
theorem dX7_mend_27 : decode cX7_mend 27 = .ok (.aload_n 0, 1) := by decide +kernel
theorem dX7_mend_28 : decode cX7_mend 28 = .ok (.getfield 10, 3) := by decide +kernel
theorem dX7_mend_31 : decode cX7_mend 31 = .ok (.invokevirtual 50, 3) := by decide +kernel
theorem dX7_mend_34 : decode cX7_mend 34 = .ok (.aload_n 2, 1) := by decide +kernel
theorem dX7_mend_35 : decode cX7_mend 35 = .ok (.getfield 237, 3) := by decide +kernel
theorem dX7_mend_38 : decode cX7_mend 38 = .ok (.istore_n 3, 1) := by decide +kernel
theorem dX7_mend_39 : decode cX7_mend 39 = .ok (.aload_n 0, 1) := by decide +kernel
theorem dX7_mend_40 : decode cX7_mend 40 = .ok (.getfield 21, 3) := by decide +kernel
theorem dX7_mend_43 : decode cX7_mend 43 = .ok (.aload_n 2, 1) := by decide +kernel
theorem dX7_mend_44 : decode cX7_mend 44 = .ok (.invokevirtual 240, 3) := by decide +kernel
theorem dX7_mend_47 : decode cX7_mend 47 = .ok (.iload_n 3, 1) := by decide +kernel
theorem dX7_mend_48 : decode cX7_mend 48 = .ok (.ireturn, 1) := by decide +kernel
theorem dX7_isCut_0 : decode cX7_isCut 0 = .ok (.aload_n 0, 1) := by decide +kernel
theorem dX7_isCut_1 : decode cX7_isCut 1 = .ok (.getfield 10, 3) := by decide +kernel
theorem dX7_isCut_4 : decode cX7_isCut 4 = .ok (.aload_n 0, 1) := by decide +kernel
theorem dX7_isCut_5 : decode cX7_isCut 5 = .ok (.iload_n 1, 1) := by decide +kernel
theorem dX7_isCut_6 : decode cX7_isCut 6 = .ok (.invokevirtual 88, 3) := by decide +kernel
theorem dX7_isCut_9 : decode cX7_isCut 9 = .ok (.invokevirtual 244, 3) := by decide +kernel
theorem dX7_isCut_12 : decode cX7_isCut 12 = .ok (.ireturn, 1) := by decide +kernel
theorem dX7_setRisk_0 : decode cX7_setRisk 0 = .ok (.aload_n 0, 1) := by decide +kernel
theorem dX7_setRisk_1 : decode cX7_setRisk 1 = .ok (.iload_n 1, 1) := by decide +kernel
theorem dX7_setRisk_2 : decode cX7_setRisk 2 = .ok (.invokevirtual 57, 3) := by decide +kernel
theorem dX7_setRisk_5 : decode cX7_setRisk 5 = .ok (.astore 4, 2) := by decide +kernel
theorem dX7_setRisk_7 : decode cX7_setRisk 7 = .ok (.iload_n 2, 1) := by decide +kernel
theorem dX7_setRisk_8 : decode cX7_setRisk 8 = .ok (.invokestatic 61, 3) := by decide +kernel
theorem dX7_setRisk_11 : decode cX7_setRisk 11 = .ok (.ifCond .ne 13, 3) := by decide +kernel
theorem dX7_setRisk_14 : decode cX7_setRisk 14 = .ok (.new 218, 3) := by decide +kernel
theorem dX7_setRisk_17 : decode cX7_setRisk 17 = .ok (.dup, 1) := by decide +kernel
theorem dX7_setRisk_18 : decode cX7_setRisk 18 = .ok (.ldc 220, 2) := by decide +kernel
theorem dX7_setRisk_20 : decode cX7_setRisk 20 = .ok (.invokespecial 222, 3) := by decide +kernel
theorem dX7_setRisk_23 : decode cX7_setRisk 23 = .ok (.athrow, 1) := by decide +kernel
theorem dX7_setRisk_24 : decode cX7_setRisk 24 = .ok (.iload_n 3, 1) := by decide +kernel
theorem dX7_setRisk_25 : decode cX7_setRisk 25 = .ok (.iconst 1, 1) := by decide +kernel
theorem dX7_setRisk_26 : decode cX7_setRisk 26 = .ok (.if_icmp .lt 9, 3) := by decide +kernel
theorem dX7_setRisk_29 : decode cX7_setRisk 29 = .ok (.iload_n 3, 1) := by decide +kernel
theorem dX7_setRisk_30 : decode cX7_setRisk 30 = .ok (.bipush 9, 2) := by decide +kernel
theorem dX7_setRisk_32 : decode cX7_setRisk 32 = .ok (.if_icmp .le 13, 3) := by decide +kernel
theorem dX7_setRisk_35 : decode cX7_setRisk 35 = .ok (.new 70, 3) := by decide +kernel
theorem dX7_setRisk_38 : decode cX7_setRisk 38 = .ok (.dup, 1) := by decide +kernel
theorem dX7_setRisk_39 : decode cX7_setRisk 39 = .ok (.ldc 248, 2) := by decide +kernel
theorem dX7_setRisk_41 : decode cX7_setRisk 41 = .ok (.invokespecial 74, 3) := by decide +kernel
theorem dX7_setRisk_44 : decode cX7_setRisk 44 = .ok (.athrow, 1) := by decide +kernel
theorem dX7_setRisk_45 : decode cX7_setRisk 45 = .ok (.aload_n 0, 1) := by decide +kernel
theorem dX7_setRisk_46 : decode cX7_setRisk 46 = .ok (.getfield 28, 3) := by decide +kernel
theorem dX7_setRisk_49 : decode cX7_setRisk 49 = .ok (.aload_n 0, 1) := by decide +kernel
theorem dX7_setRisk_50 : decode cX7_setRisk 50 = .ok (.getfield 10, 3) := by decide +kernel
theorem dX7_setRisk_53 : decode cX7_setRisk 53 = .ok (.invokevirtual 50, 3) := by decide +kernel
theorem dX7_setRisk_56 : decode cX7_setRisk 56 = .ok (.aload 4, 2) := by decide +kernel
theorem dX7_setRisk_58 : decode cX7_setRisk 58 = .ok (.getfield 250, 3) := by decide +kernel
theorem dX7_setRisk_61 : decode cX7_setRisk 61 = .ok (.iload_n 2, 1) := by decide +kernel
theorem dX7_setRisk_62 : decode cX7_setRisk 62 = .ok (.iaload, 1) := by decide +kernel
theorem dX7_setRisk_63 : decode cX7_setRisk 63 = .ok (.istore 5, 2) := by decide +kernel
theorem dX7_setRisk_65 : decode cX7_setRisk 65 = .ok (.aload 4, 2) := by decide +kernel
theorem dX7_setRisk_67 : decode cX7_setRisk 67 = .ok (.getfield 250, 3) := by decide +kernel
theorem dX7_setRisk_70 : decode cX7_setRisk 70 = .ok (.iload_n 2, 1) := by decide +kernel
theorem dX7_setRisk_71 : decode cX7_setRisk 71 = .ok (.iload_n 3, 1) := by decide +kernel
theorem dX7_setRisk_72 : decode cX7_setRisk 72 = .ok (.iastore, 1) := by decide +kernel
theorem dX7_setRisk_73 : decode cX7_setRisk 73 = .ok (.iload 5, 2) := by decide +kernel
theorem dX7_setRisk_75 : decode cX7_setRisk 75 = .ok (.ireturn, 1) := by decide +kernel
theorem dX7_test_0 : decode cX7_test 0 = .ok (.aload_n 0, 1) := by decide +kernel
theorem dX7_test_1 : decode cX7_test 1 = .ok (.iload_n 1, 1) := by decide +kernel
theorem dX7_test_2 : decode cX7_test 2 = .ok (.invokevirtual 57, 3) := by decide +kernel
theorem dX7_test_5 : decode cX7_test 5 = .ok (.astore_n 3, 1) := by decide +kernel
theorem dX7_test_6 : decode cX7_test 6 = .ok (.iload_n 2, 1) := by decide +kernel
theorem dX7_test_7 : decode cX7_test 7 = .ok (.iconst 1, 1) := by decide +kernel
theorem dX7_test_8 : decode cX7_test 8 = .ok (.if_icmp .lt 9, 3) := by decide +kernel
theorem dX7_test_11 : decode cX7_test 11 = .ok (.iload_n 2, 1) := by decide +kernel
theorem dX7_test_12 : decode cX7_test 12 = .ok (.bipush 12, 2) := by decide +kernel
theorem dX7_test_14 : decode cX7_test 14 = .ok (.if_icmp .lt 13, 3) := by decide +kernel
theorem dX7_test_17 : decode cX7_test 17 = .ok (.new 70, 3) := by decide +kernel
theorem dX7_test_20 : decode cX7_test 20 = .ok (.dup, 1) := by decide +kernel
