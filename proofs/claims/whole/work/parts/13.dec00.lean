theorem dX0_isCode_0 : decode cX0_isCode 0 = .ok (.iload_n 0, 1) := by decide +kernel
theorem dX0_isCode_1 : decode cX0_isCode 1 = .ok (.iconst 1, 1) := by decide +kernel
theorem dX0_isCode_2 : decode cX0_isCode 2 = .ok (.if_icmp .lt 13, 3) := by decide +kernel
theorem dX0_isCode_5 : decode cX0_isCode 5 = .ok (.iload_n 0, 1) := by decide +kernel
theorem dX0_isCode_6 : decode cX0_isCode 6 = .ok (.bipush 14, 2) := by decide +kernel
theorem dX0_isCode_8 : decode cX0_isCode 8 = .ok (.if_icmp .gt 7, 3) := by decide +kernel
theorem dX0_isCode_11 : decode cX0_isCode 11 = .ok (.iconst 1, 1) := by decide +kernel
theorem dX0_isCode_12 : decode cX0_isCode 12 = .ok (.goto 4, 3) := by decide +kernel
theorem dX0_isCode_15 : decode cX0_isCode 15 = .ok (.iconst 0, 1) := by decide +kernel
theorem dX0_isCode_16 : decode cX0_isCode 16 = .ok (.ireturn, 1) := by decide +kernel
theorem dX0_ringCount_0 : decode cX0_ringCount 0 = .ok (.iconst 0, 1) := by decide +kernel
theorem dX0_ringCount_1 : decode cX0_ringCount 1 = .ok (.istore_n 1, 1) := by decide +kernel
theorem dX0_ringCount_2 : decode cX0_ringCount 2 = .ok (.iload_n 1, 1) := by decide +kernel
theorem dX0_ringCount_3 : decode cX0_ringCount 3 = .ok (.iconst 3, 1) := by decide +kernel
theorem dX0_ringCount_4 : decode cX0_ringCount 4 = .ok (.if_icmp .ge 19, 3) := by decide +kernel
theorem dX0_ringCount_7 : decode cX0_ringCount 7 = .ok (.iload_n 0, 1) := by decide +kernel
theorem dX0_ringCount_8 : decode cX0_ringCount 8 = .ok (.iconst 1, 1) := by decide +kernel
theorem dX0_ringCount_9 : decode cX0_ringCount 9 = .ok (.iadd, 1) := by decide +kernel
theorem dX0_ringCount_10 : decode cX0_ringCount 10 = .ok (.iload_n 1, 1) := by decide +kernel
theorem dX0_ringCount_11 : decode cX0_ringCount 11 = .ok (.iconst 1, 1) := by decide +kernel
theorem dX0_ringCount_12 : decode cX0_ringCount 12 = .ok (.iadd, 1) := by decide +kernel
theorem dX0_ringCount_13 : decode cX0_ringCount 13 = .ok (.ishr, 1) := by decide +kernel
theorem dX0_ringCount_14 : decode cX0_ringCount 14 = .ok (.ifCond .eq 9, 3) := by decide +kernel
theorem dX0_ringCount_17 : decode cX0_ringCount 17 = .ok (.iinc 1 1, 3) := by decide +kernel
theorem dX0_ringCount_20 : decode cX0_ringCount 20 = .ok (.goto (-18), 3) := by decide +kernel
theorem dX0_ringCount_23 : decode cX0_ringCount 23 = .ok (.iload_n 1, 1) := by decide +kernel
theorem dX0_ringCount_24 : decode cX0_ringCount 24 = .ok (.ireturn, 1) := by decide +kernel
theorem dX0_isLong_0 : decode cX0_isLong 0 = .ok (.iload_n 0, 1) := by decide +kernel
theorem dX0_isLong_1 : decode cX0_isLong 1 = .ok (.invokestatic 9, 3) := by decide +kernel
theorem dX0_isLong_4 : decode cX0_isLong 4 = .ok (.iconst 1, 1) := by decide +kernel
theorem dX0_isLong_5 : decode cX0_isLong 5 = .ok (.isub, 1) := by decide +kernel
theorem dX0_isLong_6 : decode cX0_isLong 6 = .ok (.iload_n 1, 1) := by decide +kernel
theorem dX0_isLong_7 : decode cX0_isLong 7 = .ok (.isub, 1) := by decide +kernel
theorem dX0_isLong_8 : decode cX0_isLong 8 = .ok (.istore_n 2, 1) := by decide +kernel
theorem dX0_isLong_9 : decode cX0_isLong 9 = .ok (.iload_n 0, 1) := by decide +kernel
theorem dX0_isLong_10 : decode cX0_isLong 10 = .ok (.iconst 1, 1) := by decide +kernel
theorem dX0_isLong_11 : decode cX0_isLong 11 = .ok (.iadd, 1) := by decide +kernel
theorem dX0_isLong_12 : decode cX0_isLong 12 = .ok (.iload_n 2, 1) := by decide +kernel
theorem dX0_isLong_13 : decode cX0_isLong 13 = .ok (.ishr, 1) := by decide +kernel
theorem dX0_isLong_14 : decode cX0_isLong 14 = .ok (.iconst 1, 1) := by decide +kernel
theorem dX0_isLong_15 : decode cX0_isLong 15 = .ok (.iand, 1) := by decide +kernel
theorem dX0_isLong_16 : decode cX0_isLong 16 = .ok (.iconst 1, 1) := by decide +kernel
theorem dX0_isLong_17 : decode cX0_isLong 17 = .ok (.if_icmp .ne 7, 3) := by decide +kernel
theorem dX0_isLong_20 : decode cX0_isLong 20 = .ok (.iconst 1, 1) := by decide +kernel
theorem dX0_isLong_21 : decode cX0_isLong 21 = .ok (.goto 4, 3) := by decide +kernel
theorem dX0_isLong_24 : decode cX0_isLong 24 = .ok (.iconst 0, 1) := by decide +kernel
theorem dX0_isLong_25 : decode cX0_isLong 25 = .ok (.ireturn, 1) := by decide +kernel
theorem dX0_lengthOf_0 : decode cX0_lengthOf 0 = .ok (.iload_n 0, 1) := by decide +kernel
theorem dX0_lengthOf_1 : decode cX0_lengthOf 1 = .ok (.invokestatic 9, 3) := by decide +kernel
theorem dX0_lengthOf_4 : decode cX0_lengthOf 4 = .ok (.istore_n 1, 1) := by decide +kernel
theorem dX0_lengthOf_5 : decode cX0_lengthOf 5 = .ok (.iload_n 1, 1) := by decide +kernel
theorem dX0_lengthOf_6 : decode cX0_lengthOf 6 = .ok (.iconst 1, 1) := by decide +kernel
theorem dX0_lengthOf_7 : decode cX0_lengthOf 7 = .ok (.isub, 1) := by decide +kernel
theorem dX0_lengthOf_8 : decode cX0_lengthOf 8 = .ok (.iconst 1, 1) := by decide +kernel
theorem dX0_lengthOf_9 : decode cX0_lengthOf 9 = .ok (.imul, 1) := by decide +kernel
theorem dX0_lengthOf_10 : decode cX0_lengthOf 10 = .ok (.iconst 4, 1) := by decide +kernel
theorem dX0_lengthOf_11 : decode cX0_lengthOf 11 = .ok (.iadd, 1) := by decide +kernel
theorem dX0_lengthOf_12 : decode cX0_lengthOf 12 = .ok (.istore_n 2, 1) := by decide +kernel
theorem dX0_lengthOf_13 : decode cX0_lengthOf 13 = .ok (.iconst 0, 1) := by decide +kernel
theorem dX0_lengthOf_14 : decode cX0_lengthOf 14 = .ok (.istore_n 3, 1) := by decide +kernel
theorem dX0_lengthOf_15 : decode cX0_lengthOf 15 = .ok (.iload_n 3, 1) := by decide +kernel
theorem dX0_lengthOf_16 : decode cX0_lengthOf 16 = .ok (.iload_n 1, 1) := by decide +kernel
theorem dX0_lengthOf_17 : decode cX0_lengthOf 17 = .ok (.if_icmp .ge 28, 3) := by decide +kernel
theorem dX0_lengthOf_20 : decode cX0_lengthOf 20 = .ok (.iload_n 2, 1) := by decide +kernel
theorem dX0_lengthOf_21 : decode cX0_lengthOf 21 = .ok (.iload_n 0, 1) := by decide +kernel
theorem dX0_lengthOf_22 : decode cX0_lengthOf 22 = .ok (.iconst 1, 1) := by decide +kernel
theorem dX0_lengthOf_23 : decode cX0_lengthOf 23 = .ok (.iadd, 1) := by decide +kernel
theorem dX0_lengthOf_24 : decode cX0_lengthOf 24 = .ok (.iload_n 3, 1) := by decide +kernel
theorem dX0_lengthOf_25 : decode cX0_lengthOf 25 = .ok (.ishr, 1) := by decide +kernel
theorem dX0_lengthOf_26 : decode cX0_lengthOf 26 = .ok (.iconst 1, 1) := by decide +kernel
theorem dX0_lengthOf_27 : decode cX0_lengthOf 27 = .ok (.iand, 1) := by decide +kernel
theorem dX0_lengthOf_28 : decode cX0_lengthOf 28 = .ok (.iconst 1, 1) := by decide +kernel
theorem dX0_lengthOf_29 : decode cX0_lengthOf 29 = .ok (.if_icmp .ne 7, 3) := by decide +kernel
theorem dX0_lengthOf_32 : decode cX0_lengthOf 32 = .ok (.iconst 3, 1) := by decide +kernel
theorem dX0_lengthOf_33 : decode cX0_lengthOf 33 = .ok (.goto 4, 3) := by decide +kernel
theorem dX0_lengthOf_36 : decode cX0_lengthOf 36 = .ok (.iconst 1, 1) := by decide +kernel
theorem dX0_lengthOf_37 : decode cX0_lengthOf 37 = .ok (.iadd, 1) := by decide +kernel
theorem dX0_lengthOf_38 : decode cX0_lengthOf 38 = .ok (.istore_n 2, 1) := by decide +kernel
theorem dX0_lengthOf_39 : decode cX0_lengthOf 39 = .ok (.iinc 3 1, 3) := by decide +kernel
theorem dX0_lengthOf_42 : decode cX0_lengthOf 42 = .ok (.goto (-27), 3) := by decide +kernel
theorem dX0_lengthOf_45 : decode cX0_lengthOf 45 = .ok (.iload_n 2, 1) := by decide +kernel
theorem dX0_lengthOf_46 : decode cX0_lengthOf 46 = .ok (.ireturn, 1) := by decide +kernel
theorem dX0_soundAt_0 : decode cX0_soundAt 0 = .ok (.iload_n 0, 1) := by decide +kernel
theorem dX0_soundAt_1 : decode cX0_soundAt 1 = .ok (.invokestatic 9, 3) := by decide +kernel
theorem dX0_soundAt_4 : decode cX0_soundAt 4 = .ok (.istore_n 2, 1) := by decide +kernel
theorem dX0_soundAt_5 : decode cX0_soundAt 5 = .ok (.iconst 0, 1) := by decide +kernel
theorem dX0_soundAt_6 : decode cX0_soundAt 6 = .ok (.istore_n 3, 1) := by decide +kernel
theorem dX0_soundAt_7 : decode cX0_soundAt 7 = .ok (.iconst 0, 1) := by decide +kernel
theorem dX0_soundAt_8 : decode cX0_soundAt 8 = .ok (.istore 4, 2) := by decide +kernel
theorem dX0_soundAt_10 : decode cX0_soundAt 10 = .ok (.iload 4, 2) := by decide +kernel
theorem dX0_soundAt_12 : decode cX0_soundAt 12 = .ok (.iload_n 2, 1) := by decide +kernel
theorem dX0_soundAt_13 : decode cX0_soundAt 13 = .ok (.if_icmp .ge 58, 3) := by decide +kernel
theorem dX0_soundAt_16 : decode cX0_soundAt 16 = .ok (.iload_n 0, 1) := by decide +kernel
theorem dX0_soundAt_17 : decode cX0_soundAt 17 = .ok (.iload 4, 2) := by decide +kernel
theorem dX0_soundAt_19 : decode cX0_soundAt 19 = .ok (.invokestatic 13, 3) := by decide +kernel
theorem dX0_soundAt_22 : decode cX0_soundAt 22 = .ok (.istore 5, 2) := by decide +kernel
theorem dX0_soundAt_24 : decode cX0_soundAt 24 = .ok (.iload_n 3, 1) := by decide +kernel
theorem dX0_soundAt_25 : decode cX0_soundAt 25 = .ok (.iload 5, 2) := by decide +kernel
theorem dX0_soundAt_27 : decode cX0_soundAt 27 = .ok (.ifCond .eq 7, 3) := by decide +kernel
theorem dX0_soundAt_30 : decode cX0_soundAt 30 = .ok (.iconst 3, 1) := by decide +kernel
theorem dX0_soundAt_31 : decode cX0_soundAt 31 = .ok (.goto 4, 3) := by decide +kernel
theorem dX0_soundAt_34 : decode cX0_soundAt 34 = .ok (.iconst 1, 1) := by decide +kernel
theorem dX0_soundAt_35 : decode cX0_soundAt 35 = .ok (.iadd, 1) := by decide +kernel
theorem dX0_soundAt_36 : decode cX0_soundAt 36 = .ok (.istore 6, 2) := by decide +kernel
theorem dX0_soundAt_38 : decode cX0_soundAt 38 = .ok (.iload_n 1, 1) := by decide +kernel
theorem dX0_soundAt_39 : decode cX0_soundAt 39 = .ok (.iload_n 3, 1) := by decide +kernel
theorem dX0_soundAt_40 : decode cX0_soundAt 40 = .ok (.if_icmp .lt 20, 3) := by decide +kernel
theorem dX0_soundAt_43 : decode cX0_soundAt 43 = .ok (.iload_n 1, 1) := by decide +kernel
theorem dX0_soundAt_44 : decode cX0_soundAt 44 = .ok (.iload 6, 2) := by decide +kernel
theorem dX0_soundAt_46 : decode cX0_soundAt 46 = .ok (.if_icmp .ge 14, 3) := by decide +kernel
theorem dX0_soundAt_49 : decode cX0_soundAt 49 = .ok (.iload 5, 2) := by decide +kernel
theorem dX0_soundAt_51 : decode cX0_soundAt 51 = .ok (.ifCond .eq 7, 3) := by decide +kernel
theorem dX0_soundAt_54 : decode cX0_soundAt 54 = .ok (.iconst 2, 1) := by decide +kernel
theorem dX0_soundAt_55 : decode cX0_soundAt 55 = .ok (.goto 4, 3) := by decide +kernel
theorem dX0_soundAt_58 : decode cX0_soundAt 58 = .ok (.iconst 1, 1) := by decide +kernel
theorem dX0_soundAt_59 : decode cX0_soundAt 59 = .ok (.ireturn, 1) := by decide +kernel
theorem dX0_soundAt_60 : decode cX0_soundAt 60 = .ok (.iload 6, 2) := by decide +kernel
theorem dX0_soundAt_62 : decode cX0_soundAt 62 = .ok (.iconst 1, 1) := by decide +kernel
theorem dX0_soundAt_63 : decode cX0_soundAt 63 = .ok (.iadd, 1) := by decide +kernel
theorem dX0_soundAt_64 : decode cX0_soundAt 64 = .ok (.istore_n 3, 1) := by decide +kernel
theorem dX0_soundAt_65 : decode cX0_soundAt 65 = .ok (.iinc 4 1, 3) := by decide +kernel
theorem dX0_soundAt_68 : decode cX0_soundAt 68 = .ok (.goto (-58), 3) := by decide +kernel
theorem dX0_soundAt_71 : decode cX0_soundAt 71 = .ok (.iconst 0, 1) := by decide +kernel
theorem dX0_soundAt_72 : decode cX0_soundAt 72 = .ok (.ireturn, 1) := by decide +kernel
theorem dX0_byLength_0 : decode cX0_byLength 0 = .ok (.iload_n 0, 1) := by decide +kernel
theorem dX0_byLength_1 : decode cX0_byLength 1 = .ok (.ifCond .lt 19, 3) := by decide +kernel
theorem dX0_byLength_4 : decode cX0_byLength 4 = .ok (.iload_n 0, 1) := by decide +kernel
theorem dX0_byLength_5 : decode cX0_byLength 5 = .ok (.getstatic 17, 3) := by decide +kernel
theorem dX0_byLength_8 : decode cX0_byLength 8 = .ok (.arraylength, 1) := by decide +kernel
theorem dX0_byLength_9 : decode cX0_byLength 9 = .ok (.if_icmp .ge 11, 3) := by decide +kernel
theorem dX0_byLength_12 : decode cX0_byLength 12 = .ok (.getstatic 17, 3) := by decide +kernel
theorem dX0_byLength_15 : decode cX0_byLength 15 = .ok (.iload_n 0, 1) := by decide +kernel
theorem dX0_byLength_16 : decode cX0_byLength 16 = .ok (.iaload, 1) := by decide +kernel
theorem dX0_byLength_17 : decode cX0_byLength 17 = .ok (.goto 5, 3) := by decide +kernel
theorem dX0_byLength_20 : decode cX0_byLength 20 = .ok (.bipush 14, 2) := by decide +kernel
theorem dX0_byLength_22 : decode cX0_byLength 22 = .ok (.ireturn, 1) := by decide +kernel
theorem dX1_init_0 : decode cX1_init 0 = .ok (.aload_n 0, 1) := by decide +kernel
theorem dX1_init_1 : decode cX1_init 1 = .ok (.invokespecial 3, 3) := by decide +kernel
theorem dX1_init_4 : decode cX1_init 4 = .ok (.aload_n 0, 1) := by decide +kernel
theorem dX1_init_5 : decode cX1_init 5 = .ok (.aload_n 1, 1) := by decide +kernel
theorem dX1_init_6 : decode cX1_init 6 = .ok (.putfield 9, 3) := by decide +kernel
theorem dX1_init_9 : decode cX1_init 9 = .ok (.return_, 1) := by decide +kernel
theorem dX1_liftReceiver_0 : decode cX1_liftReceiver 0 = .ok (.aload_n 1, 1) := by decide +kernel
theorem dX1_liftReceiver_1 : decode cX1_liftReceiver 1 = .ok (.iconst 1, 1) := by decide +kernel
theorem dX1_liftReceiver_2 : decode cX1_liftReceiver 2 = .ok (.putfield 15, 3) := by decide +kernel
theorem dX1_liftReceiver_5 : decode cX1_liftReceiver 5 = .ok (.aload_n 0, 1) := by decide +kernel
theorem dX1_liftReceiver_6 : decode cX1_liftReceiver 6 = .ok (.getfield 9, 3) := by decide +kernel
theorem dX1_liftReceiver_9 : decode cX1_liftReceiver 9 = .ok (.aload_n 1, 1) := by decide +kernel
theorem dX1_liftReceiver_10 : decode cX1_liftReceiver 10 = .ok (.getfield 21, 3) := by decide +kernel
theorem dX1_liftReceiver_13 : decode cX1_liftReceiver 13 = .ok (.invokevirtual 25, 3) := by decide +kernel
theorem dX1_liftReceiver_16 : decode cX1_liftReceiver 16 = .ok (.astore_n 2, 1) := by decide +kernel
theorem dX1_liftReceiver_17 : decode cX1_liftReceiver 17 = .ok (.aload_n 2, 1) := by decide +kernel
theorem dX1_liftReceiver_18 : decode cX1_liftReceiver 18 = .ok (.ifnull 11, 3) := by decide +kernel
theorem dX1_liftReceiver_21 : decode cX1_liftReceiver 21 = .ok (.aload_n 2, 1) := by decide +kernel
theorem dX1_liftReceiver_22 : decode cX1_liftReceiver 22 = .ok (.aload_n 1, 1) := by decide +kernel
theorem dX1_liftReceiver_23 : decode cX1_liftReceiver 23 = .ok (.invokevirtual 31, 3) := by decide +kernel
theorem dX1_liftReceiver_26 : decode cX1_liftReceiver 26 = .ok (.ifCond .eq 4, 3) := by decide +kernel
theorem dX1_liftReceiver_29 : decode cX1_liftReceiver 29 = .ok (.return_, 1) := by decide +kernel
theorem dX1_liftReceiver_30 : decode cX1_liftReceiver 30 = .ok (.aload_n 2, 1) := by decide +kernel
theorem dX1_liftReceiver_31 : decode cX1_liftReceiver 31 = .ok (.getfield 37, 3) := by decide +kernel
theorem dX1_liftReceiver_34 : decode cX1_liftReceiver 34 = .ok (.ifCond .ne 15, 3) := by decide +kernel
theorem dX1_liftReceiver_37 : decode cX1_liftReceiver 37 = .ok (.aload_n 2, 1) := by decide +kernel
theorem dX1_liftReceiver_38 : decode cX1_liftReceiver 38 = .ok (.iconst 1, 1) := by decide +kernel
theorem dX1_liftReceiver_39 : decode cX1_liftReceiver 39 = .ok (.aload_n 1, 1) := by decide +kernel
theorem dX1_liftReceiver_40 : decode cX1_liftReceiver 40 = .ok (.getfield 40, 3) := by decide +kernel
theorem dX1_liftReceiver_43 : decode cX1_liftReceiver 43 = .ok (.invokevirtual 43, 3) := by decide +kernel
theorem dX1_liftReceiver_46 : decode cX1_liftReceiver 46 = .ok (.goto 64, 3) := by decide +kernel
theorem dX1_liftReceiver_49 : decode cX1_liftReceiver 49 = .ok (.aload_n 2, 1) := by decide +kernel
theorem dX1_liftReceiver_50 : decode cX1_liftReceiver 50 = .ok (.getfield 37, 3) := by decide +kernel
theorem dX1_liftReceiver_53 : decode cX1_liftReceiver 53 = .ok (.iconst 3, 1) := by decide +kernel
theorem dX1_liftReceiver_54 : decode cX1_liftReceiver 54 = .ok (.if_icmp .ne 12, 3) := by decide +kernel
theorem dX1_liftReceiver_57 : decode cX1_liftReceiver 57 = .ok (.aload_n 0, 1) := by decide +kernel
theorem dX1_liftReceiver_58 : decode cX1_liftReceiver 58 = .ok (.aload_n 2, 1) := by decide +kernel
theorem dX1_liftReceiver_59 : decode cX1_liftReceiver 59 = .ok (.aload_n 1, 1) := by decide +kernel
theorem dX1_liftReceiver_60 : decode cX1_liftReceiver 60 = .ok (.invokevirtual 47, 3) := by decide +kernel
theorem dX1_liftReceiver_63 : decode cX1_liftReceiver 63 = .ok (.goto 47, 3) := by decide +kernel
theorem dX1_liftReceiver_66 : decode cX1_liftReceiver 66 = .ok (.aload_n 2, 1) := by decide +kernel
theorem dX1_liftReceiver_67 : decode cX1_liftReceiver 67 = .ok (.getfield 37, 3) := by decide +kernel
theorem dX1_liftReceiver_70 : decode cX1_liftReceiver 70 = .ok (.bipush 7, 2) := by decide +kernel
theorem dX1_liftReceiver_72 : decode cX1_liftReceiver 72 = .ok (.if_icmp .ne 12, 3) := by decide +kernel
theorem dX1_liftReceiver_75 : decode cX1_liftReceiver 75 = .ok (.aload_n 0, 1) := by decide +kernel
theorem dX1_liftReceiver_76 : decode cX1_liftReceiver 76 = .ok (.aload_n 2, 1) := by decide +kernel
theorem dX1_liftReceiver_77 : decode cX1_liftReceiver 77 = .ok (.aload_n 1, 1) := by decide +kernel
theorem dX1_liftReceiver_78 : decode cX1_liftReceiver 78 = .ok (.invokevirtual 51, 3) := by decide +kernel
theorem dX1_liftReceiver_81 : decode cX1_liftReceiver 81 = .ok (.goto 29, 3) := by decide +kernel
theorem dX1_liftReceiver_84 : decode cX1_liftReceiver 84 = .ok (.aload_n 2, 1) := by decide +kernel
theorem dX1_liftReceiver_85 : decode cX1_liftReceiver 85 = .ok (.getfield 37, 3) := by decide +kernel
theorem dX1_liftReceiver_88 : decode cX1_liftReceiver 88 = .ok (.bipush 8, 2) := by decide +kernel
theorem dX1_liftReceiver_90 : decode cX1_liftReceiver 90 = .ok (.if_icmp .ne 14, 3) := by decide +kernel
theorem dX1_liftReceiver_93 : decode cX1_liftReceiver 93 = .ok (.aload_n 2, 1) := by decide +kernel
theorem dX1_liftReceiver_94 : decode cX1_liftReceiver 94 = .ok (.getfield 54, 3) := by decide +kernel
theorem dX1_liftReceiver_97 : decode cX1_liftReceiver 97 = .ok (.aload_n 1, 1) := by decide +kernel
theorem dX1_liftReceiver_98 : decode cX1_liftReceiver 98 = .ok (.getfield 40, 3) := by decide +kernel
theorem dX1_liftReceiver_101 : decode cX1_liftReceiver 101 = .ok (.if_icmp .eq 9, 3) := by decide +kernel
theorem dX1_liftReceiver_104 : decode cX1_liftReceiver 104 = .ok (.aload_n 0, 1) := by decide +kernel
theorem dX1_liftReceiver_105 : decode cX1_liftReceiver 105 = .ok (.aload_n 2, 1) := by decide +kernel
theorem dX1_liftReceiver_106 : decode cX1_liftReceiver 106 = .ok (.aload_n 1, 1) := by decide +kernel
theorem dX1_liftReceiver_107 : decode cX1_liftReceiver 107 = .ok (.invokevirtual 57, 3) := by decide +kernel
theorem dX1_liftReceiver_110 : decode cX1_liftReceiver 110 = .ok (.return_, 1) := by decide +kernel
theorem dX1_answerCall_0 : decode cX1_answerCall 0 = .ok (.aload_n 1, 1) := by decide +kernel
theorem dX1_answerCall_1 : decode cX1_answerCall 1 = .ok (.iconst 4, 1) := by decide +kernel
theorem dX1_answerCall_2 : decode cX1_answerCall 2 = .ok (.aload_n 2, 1) := by decide +kernel
theorem dX1_answerCall_3 : decode cX1_answerCall 3 = .ok (.getfield 40, 3) := by decide +kernel
theorem dX1_answerCall_6 : decode cX1_answerCall 6 = .ok (.invokevirtual 43, 3) := by decide +kernel
theorem dX1_answerCall_9 : decode cX1_answerCall 9 = .ok (.aload_n 0, 1) := by decide +kernel
theorem dX1_answerCall_10 : decode cX1_answerCall 10 = .ok (.getfield 9, 3) := by decide +kernel
theorem dX1_answerCall_13 : decode cX1_answerCall 13 = .ok (.aload_n 1, 1) := by decide +kernel
theorem dX1_answerCall_14 : decode cX1_answerCall 14 = .ok (.getfield 60, 3) := by decide +kernel
theorem dX1_answerCall_17 : decode cX1_answerCall 17 = .ok (.invokevirtual 25, 3) := by decide +kernel
theorem dX1_answerCall_20 : decode cX1_answerCall 20 = .ok (.astore_n 3, 1) := by decide +kernel
theorem dX1_answerCall_21 : decode cX1_answerCall 21 = .ok (.aload_n 3, 1) := by decide +kernel
theorem dX1_answerCall_22 : decode cX1_answerCall 22 = .ok (.ifnull 13, 3) := by decide +kernel
theorem dX1_answerCall_25 : decode cX1_answerCall 25 = .ok (.aload_n 3, 1) := by decide +kernel
theorem dX1_answerCall_26 : decode cX1_answerCall 26 = .ok (.iconst 4, 1) := by decide +kernel
theorem dX1_answerCall_27 : decode cX1_answerCall 27 = .ok (.invokevirtual 63, 3) := by decide +kernel
theorem dX1_answerCall_30 : decode cX1_answerCall 30 = .ok (.aload_n 3, 1) := by decide +kernel
theorem dX1_answerCall_31 : decode cX1_answerCall 31 = .ok (.iconst 1, 1) := by decide +kernel
theorem dX1_answerCall_32 : decode cX1_answerCall 32 = .ok (.putfield 67, 3) := by decide +kernel
theorem dX1_answerCall_35 : decode cX1_answerCall 35 = .ok (.aload_n 0, 1) := by decide +kernel
theorem dX1_answerCall_36 : decode cX1_answerCall 36 = .ok (.getfield 9, 3) := by decide +kernel
theorem dX1_answerCall_39 : decode cX1_answerCall 39 = .ok (.getfield 70, 3) := by decide +kernel
theorem dX1_answerCall_42 : decode cX1_answerCall 42 = .ok (.iconst 0, 1) := by decide +kernel
theorem dX1_answerCall_43 : decode cX1_answerCall 43 = .ok (.dup2, 1) := by decide +kernel
theorem dX1_answerCall_44 : decode cX1_answerCall 44 = .ok (.iaload, 1) := by decide +kernel
theorem dX1_answerCall_45 : decode cX1_answerCall 45 = .ok (.iconst 1, 1) := by decide +kernel
theorem dX1_answerCall_46 : decode cX1_answerCall 46 = .ok (.iadd, 1) := by decide +kernel
theorem dX1_answerCall_47 : decode cX1_answerCall 47 = .ok (.iastore, 1) := by decide +kernel
theorem dX1_answerCall_48 : decode cX1_answerCall 48 = .ok (.return_, 1) := by decide +kernel
theorem dX1_answerInLoop_0 : decode cX1_answerInLoop 0 = .ok (.aload_n 1, 1) := by decide +kernel
theorem dX1_answerInLoop_1 : decode cX1_answerInLoop 1 = .ok (.getfield 54, 3) := by decide +kernel
theorem dX1_answerInLoop_4 : decode cX1_answerInLoop 4 = .ok (.aload_n 2, 1) := by decide +kernel
theorem dX1_answerInLoop_5 : decode cX1_answerInLoop 5 = .ok (.getfield 40, 3) := by decide +kernel
theorem dX1_answerInLoop_8 : decode cX1_answerInLoop 8 = .ok (.if_icmp .ne 9, 3) := by decide +kernel
theorem dX1_answerInLoop_11 : decode cX1_answerInLoop 11 = .ok (.aload_n 1, 1) := by decide +kernel
theorem dX1_answerInLoop_12 : decode cX1_answerInLoop 12 = .ok (.iconst 1, 1) := by decide +kernel
theorem dX1_answerInLoop_13 : decode cX1_answerInLoop 13 = .ok (.invokevirtual 63, 3) := by decide +kernel
theorem dX1_answerInLoop_16 : decode cX1_answerInLoop 16 = .ok (.return_, 1) := by decide +kernel
theorem dX1_answerInLoop_17 : decode cX1_answerInLoop 17 = .ok (.aload_n 1, 1) := by decide +kernel
theorem dX1_answerInLoop_18 : decode cX1_answerInLoop 18 = .ok (.bipush 8, 2) := by decide +kernel
theorem dX1_answerInLoop_20 : decode cX1_answerInLoop 20 = .ok (.invokevirtual 63, 3) := by decide +kernel
theorem dX1_answerInLoop_23 : decode cX1_answerInLoop 23 = .ok (.aload_n 1, 1) := by decide +kernel
theorem dX1_answerInLoop_24 : decode cX1_answerInLoop 24 = .ok (.aload_n 2, 1) := by decide +kernel
theorem dX1_answerInLoop_25 : decode cX1_answerInLoop 25 = .ok (.getfield 40, 3) := by decide +kernel
theorem dX1_answerInLoop_28 : decode cX1_answerInLoop 28 = .ok (.putfield 74, 3) := by decide +kernel
theorem dX1_answerInLoop_31 : decode cX1_answerInLoop 31 = .ok (.aload_n 0, 1) := by decide +kernel
theorem dX1_answerInLoop_32 : decode cX1_answerInLoop 32 = .ok (.getfield 9, 3) := by decide +kernel
theorem dX1_answerInLoop_35 : decode cX1_answerInLoop 35 = .ok (.getfield 70, 3) := by decide +kernel
theorem dX1_answerInLoop_38 : decode cX1_answerInLoop 38 = .ok (.iconst 1, 1) := by decide +kernel
theorem dX1_answerInLoop_39 : decode cX1_answerInLoop 39 = .ok (.dup2, 1) := by decide +kernel
theorem dX1_answerInLoop_40 : decode cX1_answerInLoop 40 = .ok (.iaload, 1) := by decide +kernel
theorem dX1_answerInLoop_41 : decode cX1_answerInLoop 41 = .ok (.iconst 1, 1) := by decide +kernel
theorem dX1_answerInLoop_42 : decode cX1_answerInLoop 42 = .ok (.iadd, 1) := by decide +kernel
theorem dX1_answerInLoop_43 : decode cX1_answerInLoop 43 = .ok (.iastore, 1) := by decide +kernel
theorem dX1_answerInLoop_44 : decode cX1_answerInLoop 44 = .ok (.return_, 1) := by decide +kernel
theorem dX1_comeUpon_0 : decode cX1_comeUpon 0 = .ok (.aload_n 0, 1) := by decide +kernel
theorem dX1_comeUpon_1 : decode cX1_comeUpon 1 = .ok (.aload_n 1, 1) := by decide +kernel
theorem dX1_comeUpon_2 : decode cX1_comeUpon 2 = .ok (.invokevirtual 77, 3) := by decide +kernel
theorem dX1_comeUpon_5 : decode cX1_comeUpon 5 = .ok (.ifCond .eq 24, 3) := by decide +kernel
theorem dX1_comeUpon_8 : decode cX1_comeUpon 8 = .ok (.aload_n 2, 1) := by decide +kernel
theorem dX1_comeUpon_9 : decode cX1_comeUpon 9 = .ok (.iconst 1, 1) := by decide +kernel
theorem dX1_comeUpon_10 : decode cX1_comeUpon 10 = .ok (.putfield 81, 3) := by decide +kernel
theorem dX1_comeUpon_13 : decode cX1_comeUpon 13 = .ok (.aload_n 0, 1) := by decide +kernel
theorem dX1_comeUpon_14 : decode cX1_comeUpon 14 = .ok (.getfield 9, 3) := by decide +kernel
theorem dX1_comeUpon_17 : decode cX1_comeUpon 17 = .ok (.getfield 70, 3) := by decide +kernel
theorem dX1_comeUpon_20 : decode cX1_comeUpon 20 = .ok (.iconst 5, 1) := by decide +kernel
theorem dX1_comeUpon_21 : decode cX1_comeUpon 21 = .ok (.dup2, 1) := by decide +kernel
theorem dX1_comeUpon_22 : decode cX1_comeUpon 22 = .ok (.iaload, 1) := by decide +kernel
theorem dX1_comeUpon_23 : decode cX1_comeUpon 23 = .ok (.iconst 1, 1) := by decide +kernel
theorem dX1_comeUpon_24 : decode cX1_comeUpon 24 = .ok (.iadd, 1) := by decide +kernel
theorem dX1_comeUpon_25 : decode cX1_comeUpon 25 = .ok (.iastore, 1) := by decide +kernel
theorem dX1_comeUpon_26 : decode cX1_comeUpon 26 = .ok (.goto 16, 3) := by decide +kernel
theorem dX1_comeUpon_29 : decode cX1_comeUpon 29 = .ok (.aload_n 0, 1) := by decide +kernel
theorem dX1_comeUpon_30 : decode cX1_comeUpon 30 = .ok (.getfield 9, 3) := by decide +kernel
theorem dX1_comeUpon_33 : decode cX1_comeUpon 33 = .ok (.getfield 70, 3) := by decide +kernel
theorem dX1_comeUpon_36 : decode cX1_comeUpon 36 = .ok (.iconst 4, 1) := by decide +kernel
theorem dX1_comeUpon_37 : decode cX1_comeUpon 37 = .ok (.dup2, 1) := by decide +kernel
theorem dX1_comeUpon_38 : decode cX1_comeUpon 38 = .ok (.iaload, 1) := by decide +kernel
theorem dX1_comeUpon_39 : decode cX1_comeUpon 39 = .ok (.iconst 1, 1) := by decide +kernel
theorem dX1_comeUpon_40 : decode cX1_comeUpon 40 = .ok (.iadd, 1) := by decide +kernel
theorem dX1_comeUpon_41 : decode cX1_comeUpon 41 = .ok (.iastore, 1) := by decide +kernel
theorem dX1_comeUpon_42 : decode cX1_comeUpon 42 = .ok (.return_, 1) := by decide +kernel
theorem dX1_isPrivateTalk_0 : decode cX1_isPrivateTalk 0 = .ok (.aload_n 1, 1) := by decide +kernel
theorem dX1_isPrivateTalk_1 : decode cX1_isPrivateTalk 1 = .ok (.getfield 37, 3) := by decide +kernel
theorem dX1_isPrivateTalk_4 : decode cX1_isPrivateTalk 4 = .ok (.iconst 4, 1) := by decide +kernel
theorem dX1_isPrivateTalk_5 : decode cX1_isPrivateTalk 5 = .ok (.if_icmp .eq 14, 3) := by decide +kernel
theorem dX1_isPrivateTalk_8 : decode cX1_isPrivateTalk 8 = .ok (.aload_n 1, 1) := by decide +kernel
theorem dX1_isPrivateTalk_9 : decode cX1_isPrivateTalk 9 = .ok (.getfield 37, 3) := by decide +kernel
theorem dX1_isPrivateTalk_12 : decode cX1_isPrivateTalk 12 = .ok (.bipush 8, 2) := by decide +kernel
theorem dX1_isPrivateTalk_14 : decode cX1_isPrivateTalk 14 = .ok (.if_icmp .eq 5, 3) := by decide +kernel
theorem dX1_isPrivateTalk_17 : decode cX1_isPrivateTalk 17 = .ok (.iconst 0, 1) := by decide +kernel
theorem dX1_isPrivateTalk_18 : decode cX1_isPrivateTalk 18 = .ok (.ireturn, 1) := by decide +kernel
theorem dX1_isPrivateTalk_19 : decode cX1_isPrivateTalk 19 = .ok (.aload_n 0, 1) := by decide +kernel
theorem dX1_isPrivateTalk_20 : decode cX1_isPrivateTalk 20 = .ok (.aload_n 1, 1) := by decide +kernel
theorem dX1_isPrivateTalk_21 : decode cX1_isPrivateTalk 21 = .ok (.getfield 54, 3) := by decide +kernel
theorem dX1_isPrivateTalk_24 : decode cX1_isPrivateTalk 24 = .ok (.invokevirtual 84, 3) := by decide +kernel
theorem dX1_isPrivateTalk_27 : decode cX1_isPrivateTalk 27 = .ok (.ifCond .ne 14, 3) := by decide +kernel
theorem dX1_isPrivateTalk_30 : decode cX1_isPrivateTalk 30 = .ok (.aload_n 0, 1) := by decide +kernel
theorem dX1_isPrivateTalk_31 : decode cX1_isPrivateTalk 31 = .ok (.aload_n 1, 1) := by decide +kernel
theorem dX1_isPrivateTalk_32 : decode cX1_isPrivateTalk 32 = .ok (.getfield 74, 3) := by decide +kernel
theorem dX1_isPrivateTalk_35 : decode cX1_isPrivateTalk 35 = .ok (.invokevirtual 84, 3) := by decide +kernel
theorem dX1_isPrivateTalk_38 : decode cX1_isPrivateTalk 38 = .ok (.ifCond .eq 7, 3) := by decide +kernel
theorem dX1_isPrivateTalk_41 : decode cX1_isPrivateTalk 41 = .ok (.iconst 1, 1) := by decide +kernel
theorem dX1_isPrivateTalk_42 : decode cX1_isPrivateTalk 42 = .ok (.goto 4, 3) := by decide +kernel
theorem dX1_isPrivateTalk_45 : decode cX1_isPrivateTalk 45 = .ok (.iconst 0, 1) := by decide +kernel
theorem dX1_isPrivateTalk_46 : decode cX1_isPrivateTalk 46 = .ok (.ireturn, 1) := by decide +kernel
theorem dX1_wantsPrivacy_0 : decode cX1_wantsPrivacy 0 = .ok (.aload_n 0, 1) := by decide +kernel
theorem dX1_wantsPrivacy_1 : decode cX1_wantsPrivacy 1 = .ok (.getfield 9, 3) := by decide +kernel
theorem dX1_wantsPrivacy_4 : decode cX1_wantsPrivacy 4 = .ok (.iload_n 1, 1) := by decide +kernel
theorem dX1_wantsPrivacy_5 : decode cX1_wantsPrivacy 5 = .ok (.invokevirtual 88, 3) := by decide +kernel
theorem dX1_wantsPrivacy_8 : decode cX1_wantsPrivacy 8 = .ok (.astore_n 2, 1) := by decide +kernel
theorem dX1_wantsPrivacy_9 : decode cX1_wantsPrivacy 9 = .ok (.aload_n 2, 1) := by decide +kernel
theorem dX1_wantsPrivacy_10 : decode cX1_wantsPrivacy 10 = .ok (.ifnull 14, 3) := by decide +kernel
theorem dX1_wantsPrivacy_13 : decode cX1_wantsPrivacy 13 = .ok (.aload_n 2, 1) := by decide +kernel
theorem dX1_wantsPrivacy_14 : decode cX1_wantsPrivacy 14 = .ok (.getfield 92, 3) := by decide +kernel
theorem dX1_wantsPrivacy_17 : decode cX1_wantsPrivacy 17 = .ok (.ifCond .eq 7, 3) := by decide +kernel
theorem dX1_wantsPrivacy_20 : decode cX1_wantsPrivacy 20 = .ok (.iconst 1, 1) := by decide +kernel
theorem dX1_wantsPrivacy_21 : decode cX1_wantsPrivacy 21 = .ok (.goto 4, 3) := by decide +kernel
theorem dX1_wantsPrivacy_24 : decode cX1_wantsPrivacy 24 = .ok (.iconst 0, 1) := by decide +kernel
theorem dX1_wantsPrivacy_25 : decode cX1_wantsPrivacy 25 = .ok (.ireturn, 1) := by decide +kernel
theorem dX1_hangUp_0 : decode cX1_hangUp 0 = .ok (.aload_n 0, 1) := by decide +kernel
theorem dX1_hangUp_1 : decode cX1_hangUp 1 = .ok (.getfield 9, 3) := by decide +kernel
theorem dX1_hangUp_4 : decode cX1_hangUp 4 = .ok (.aload_n 1, 1) := by decide +kernel
theorem dX1_hangUp_5 : decode cX1_hangUp 5 = .ok (.invokevirtual 95, 3) := by decide +kernel
theorem dX1_hangUp_8 : decode cX1_hangUp 8 = .ok (.istore_n 2, 1) := by decide +kernel
theorem dX1_hangUp_9 : decode cX1_hangUp 9 = .ok (.aload_n 1, 1) := by decide +kernel
theorem dX1_hangUp_10 : decode cX1_hangUp 10 = .ok (.iconst 0, 1) := by decide +kernel
theorem dX1_hangUp_11 : decode cX1_hangUp 11 = .ok (.putfield 15, 3) := by decide +kernel
theorem dX1_hangUp_14 : decode cX1_hangUp 14 = .ok (.aload_n 1, 1) := by decide +kernel
theorem dX1_hangUp_15 : decode cX1_hangUp 15 = .ok (.iconst 0, 1) := by decide +kernel
theorem dX1_hangUp_16 : decode cX1_hangUp 16 = .ok (.putfield 81, 3) := by decide +kernel
theorem dX1_hangUp_19 : decode cX1_hangUp 19 = .ok (.aload_n 0, 1) := by decide +kernel
theorem dX1_hangUp_20 : decode cX1_hangUp 20 = .ok (.getfield 9, 3) := by decide +kernel
theorem dX1_hangUp_23 : decode cX1_hangUp 23 = .ok (.aload_n 1, 1) := by decide +kernel
theorem dX1_hangUp_24 : decode cX1_hangUp 24 = .ok (.getfield 21, 3) := by decide +kernel
theorem dX1_hangUp_27 : decode cX1_hangUp 27 = .ok (.invokevirtual 25, 3) := by decide +kernel
theorem dX1_hangUp_30 : decode cX1_hangUp 30 = .ok (.astore_n 3, 1) := by decide +kernel
theorem dX1_hangUp_31 : decode cX1_hangUp 31 = .ok (.aload_n 3, 1) := by decide +kernel
theorem dX1_hangUp_32 : decode cX1_hangUp 32 = .ok (.ifnull 7, 3) := by decide +kernel
theorem dX1_hangUp_35 : decode cX1_hangUp 35 = .ok (.iload_n 2, 1) := by decide +kernel
theorem dX1_hangUp_36 : decode cX1_hangUp 36 = .ok (.ifCond .ne 4, 3) := by decide +kernel
theorem dX1_hangUp_39 : decode cX1_hangUp 39 = .ok (.return_, 1) := by decide +kernel
theorem dX1_hangUp_40 : decode cX1_hangUp 40 = .ok (.aload_n 3, 1) := by decide +kernel
theorem dX1_hangUp_41 : decode cX1_hangUp 41 = .ok (.getfield 37, 3) := by decide +kernel
theorem dX1_hangUp_44 : decode cX1_hangUp 44 = .ok (.bipush 6, 2) := by decide +kernel
theorem dX1_hangUp_46 : decode cX1_hangUp 46 = .ok (.if_icmp .ne 21, 3) := by decide +kernel
theorem dX1_hangUp_49 : decode cX1_hangUp 49 = .ok (.aload_n 0, 1) := by decide +kernel
theorem dX1_hangUp_50 : decode cX1_hangUp 50 = .ok (.aload_n 3, 1) := by decide +kernel
theorem dX1_hangUp_51 : decode cX1_hangUp 51 = .ok (.invokevirtual 98, 3) := by decide +kernel
theorem dX1_hangUp_54 : decode cX1_hangUp 54 = .ok (.iconst (-1), 1) := by decide +kernel
theorem dX1_hangUp_55 : decode cX1_hangUp 55 = .ok (.if_icmp .ne 12, 3) := by decide +kernel
theorem dX1_hangUp_58 : decode cX1_hangUp 58 = .ok (.aload_n 3, 1) := by decide +kernel
theorem dX1_hangUp_59 : decode cX1_hangUp 59 = .ok (.bipush 7, 2) := by decide +kernel
theorem dX1_hangUp_61 : decode cX1_hangUp 61 = .ok (.invokevirtual 63, 3) := by decide +kernel
theorem dX1_hangUp_64 : decode cX1_hangUp 64 = .ok (.goto 8, 3) := by decide +kernel
theorem dX1_hangUp_67 : decode cX1_hangUp 67 = .ok (.aload_n 0, 1) := by decide +kernel
theorem dX1_hangUp_68 : decode cX1_hangUp 68 = .ok (.aload_n 3, 1) := by decide +kernel
theorem dX1_hangUp_69 : decode cX1_hangUp 69 = .ok (.invokevirtual 102, 3) := by decide +kernel
theorem dX1_hangUp_72 : decode cX1_hangUp 72 = .ok (.return_, 1) := by decide +kernel
theorem dX1_endCall_0 : decode cX1_endCall 0 = .ok (.aload_n 0, 1) := by decide +kernel
theorem dX1_endCall_1 : decode cX1_endCall 1 = .ok (.getfield 9, 3) := by decide +kernel
theorem dX1_endCall_4 : decode cX1_endCall 4 = .ok (.aload_n 1, 1) := by decide +kernel
theorem dX1_endCall_5 : decode cX1_endCall 5 = .ok (.getfield 60, 3) := by decide +kernel
theorem dX1_endCall_8 : decode cX1_endCall 8 = .ok (.invokevirtual 25, 3) := by decide +kernel
theorem dX1_endCall_11 : decode cX1_endCall 11 = .ok (.astore_n 2, 1) := by decide +kernel
theorem dX1_endCall_12 : decode cX1_endCall 12 = .ok (.aload_n 2, 1) := by decide +kernel
theorem dX1_endCall_13 : decode cX1_endCall 13 = .ok (.ifnull 20, 3) := by decide +kernel
theorem dX1_endCall_16 : decode cX1_endCall 16 = .ok (.aload_n 2, 1) := by decide +kernel
theorem dX1_endCall_17 : decode cX1_endCall 17 = .ok (.aload_n 2, 1) := by decide +kernel
theorem dX1_endCall_18 : decode cX1_endCall 18 = .ok (.getfield 37, 3) := by decide +kernel
theorem dX1_endCall_21 : decode cX1_endCall 21 = .ok (.iconst 3, 1) := by decide +kernel
theorem dX1_endCall_22 : decode cX1_endCall 22 = .ok (.if_icmp .ne 7, 3) := by decide +kernel
theorem dX1_endCall_25 : decode cX1_endCall 25 = .ok (.iconst 0, 1) := by decide +kernel
theorem dX1_endCall_26 : decode cX1_endCall 26 = .ok (.goto 4, 3) := by decide +kernel
theorem dX1_endCall_29 : decode cX1_endCall 29 = .ok (.iconst 5, 1) := by decide +kernel
theorem dX1_endCall_30 : decode cX1_endCall 30 = .ok (.invokevirtual 63, 3) := by decide +kernel
theorem dX1_endCall_33 : decode cX1_endCall 33 = .ok (.aload_n 0, 1) := by decide +kernel
theorem dX1_endCall_34 : decode cX1_endCall 34 = .ok (.aload_n 1, 1) := by decide +kernel
theorem dX1_endCall_35 : decode cX1_endCall 35 = .ok (.invokevirtual 106, 3) := by decide +kernel
theorem dX1_endCall_38 : decode cX1_endCall 38 = .ok (.return_, 1) := by decide +kernel
theorem dX1_leave_0 : decode cX1_leave 0 = .ok (.iconst 0, 1) := by decide +kernel
theorem dX1_leave_1 : decode cX1_leave 1 = .ok (.istore_n 2, 1) := by decide +kernel
theorem dX1_leave_2 : decode cX1_leave 2 = .ok (.iload_n 2, 1) := by decide +kernel
theorem dX1_leave_3 : decode cX1_leave 3 = .ok (.bipush 16, 2) := by decide +kernel
theorem dX1_leave_5 : decode cX1_leave 5 = .ok (.if_icmp .ge 28, 3) := by decide +kernel
theorem dX1_leave_8 : decode cX1_leave 8 = .ok (.aload_n 0, 1) := by decide +kernel
theorem dX1_leave_9 : decode cX1_leave 9 = .ok (.getfield 9, 3) := by decide +kernel
theorem dX1_leave_12 : decode cX1_leave 12 = .ok (.aload_n 1, 1) := by decide +kernel
theorem dX1_leave_13 : decode cX1_leave 13 = .ok (.iload_n 2, 1) := by decide +kernel
theorem dX1_leave_14 : decode cX1_leave 14 = .ok (.invokevirtual 109, 3) := by decide +kernel
theorem dX1_leave_17 : decode cX1_leave 17 = .ok (.astore_n 3, 1) := by decide +kernel
theorem dX1_leave_18 : decode cX1_leave 18 = .ok (.aload_n 3, 1) := by decide +kernel
theorem dX1_leave_19 : decode cX1_leave 19 = .ok (.ifnull 8, 3) := by decide +kernel
theorem dX1_leave_22 : decode cX1_leave 22 = .ok (.aload_n 3, 1) := by decide +kernel
theorem dX1_leave_23 : decode cX1_leave 23 = .ok (.iconst 0, 1) := by decide +kernel
theorem dX1_leave_24 : decode cX1_leave 24 = .ok (.putfield 81, 3) := by decide +kernel
theorem dX1_leave_27 : decode cX1_leave 27 = .ok (.iinc 2 1, 3) := by decide +kernel
theorem dX1_leave_30 : decode cX1_leave 30 = .ok (.goto (-28), 3) := by decide +kernel
theorem dX1_leave_33 : decode cX1_leave 33 = .ok (.aload_n 0, 1) := by decide +kernel
theorem dX1_leave_34 : decode cX1_leave 34 = .ok (.aload_n 1, 1) := by decide +kernel
theorem dX1_leave_35 : decode cX1_leave 35 = .ok (.invokevirtual 98, 3) := by decide +kernel
theorem dX1_leave_38 : decode cX1_leave 38 = .ok (.istore_n 2, 1) := by decide +kernel
theorem dX1_leave_39 : decode cX1_leave 39 = .ok (.aload_n 1, 1) := by decide +kernel
theorem dX1_leave_40 : decode cX1_leave 40 = .ok (.iload_n 2, 1) := by decide +kernel
theorem dX1_leave_41 : decode cX1_leave 41 = .ok (.iconst (-1), 1) := by decide +kernel
theorem dX1_leave_42 : decode cX1_leave 42 = .ok (.if_icmp .ne 7, 3) := by decide +kernel
theorem dX1_leave_45 : decode cX1_leave 45 = .ok (.iconst 0, 1) := by decide +kernel
theorem dX1_leave_46 : decode cX1_leave 46 = .ok (.goto 4, 3) := by decide +kernel
theorem dX1_leave_49 : decode cX1_leave 49 = .ok (.iconst 5, 1) := by decide +kernel
theorem dX1_leave_50 : decode cX1_leave 50 = .ok (.iload_n 2, 1) := by decide +kernel
theorem dX1_leave_51 : decode cX1_leave 51 = .ok (.invokevirtual 43, 3) := by decide +kernel
theorem dX1_leave_54 : decode cX1_leave 54 = .ok (.return_, 1) := by decide +kernel
theorem dX1_lowestOffHook_0 : decode cX1_lowestOffHook 0 = .ok (.iconst 0, 1) := by decide +kernel
theorem dX1_lowestOffHook_1 : decode cX1_lowestOffHook 1 = .ok (.istore_n 2, 1) := by decide +kernel
theorem dX1_lowestOffHook_2 : decode cX1_lowestOffHook 2 = .ok (.iload_n 2, 1) := by decide +kernel
theorem dX1_lowestOffHook_3 : decode cX1_lowestOffHook 3 = .ok (.bipush 16, 2) := by decide +kernel
theorem dX1_lowestOffHook_5 : decode cX1_lowestOffHook 5 = .ok (.if_icmp .ge 40, 3) := by decide +kernel
theorem dX1_lowestOffHook_8 : decode cX1_lowestOffHook 8 = .ok (.aload_n 0, 1) := by decide +kernel
theorem dX1_lowestOffHook_9 : decode cX1_lowestOffHook 9 = .ok (.getfield 9, 3) := by decide +kernel
theorem dX1_lowestOffHook_12 : decode cX1_lowestOffHook 12 = .ok (.aload_n 1, 1) := by decide +kernel
theorem dX1_lowestOffHook_13 : decode cX1_lowestOffHook 13 = .ok (.iload_n 2, 1) := by decide +kernel
theorem dX1_lowestOffHook_14 : decode cX1_lowestOffHook 14 = .ok (.invokevirtual 109, 3) := by decide +kernel
theorem dX1_lowestOffHook_17 : decode cX1_lowestOffHook 17 = .ok (.astore_n 3, 1) := by decide +kernel
theorem dX1_lowestOffHook_18 : decode cX1_lowestOffHook 18 = .ok (.aload_n 3, 1) := by decide +kernel
theorem dX1_lowestOffHook_19 : decode cX1_lowestOffHook 19 = .ok (.ifnull 20, 3) := by decide +kernel
theorem dX1_lowestOffHook_22 : decode cX1_lowestOffHook 22 = .ok (.aload_n 3, 1) := by decide +kernel
theorem dX1_lowestOffHook_23 : decode cX1_lowestOffHook 23 = .ok (.getfield 15, 3) := by decide +kernel
theorem dX1_lowestOffHook_26 : decode cX1_lowestOffHook 26 = .ok (.ifCond .eq 13, 3) := by decide +kernel
theorem dX1_lowestOffHook_29 : decode cX1_lowestOffHook 29 = .ok (.aload_n 1, 1) := by decide +kernel
theorem dX1_lowestOffHook_30 : decode cX1_lowestOffHook 30 = .ok (.aload_n 3, 1) := by decide +kernel
theorem dX1_lowestOffHook_31 : decode cX1_lowestOffHook 31 = .ok (.invokevirtual 31, 3) := by decide +kernel
theorem dX1_lowestOffHook_34 : decode cX1_lowestOffHook 34 = .ok (.ifCond .ne 5, 3) := by decide +kernel
theorem dX1_lowestOffHook_37 : decode cX1_lowestOffHook 37 = .ok (.iload_n 2, 1) := by decide +kernel
theorem dX1_lowestOffHook_38 : decode cX1_lowestOffHook 38 = .ok (.ireturn, 1) := by decide +kernel
theorem dX1_lowestOffHook_39 : decode cX1_lowestOffHook 39 = .ok (.iinc 2 1, 3) := by decide +kernel
theorem dX1_lowestOffHook_42 : decode cX1_lowestOffHook 42 = .ok (.goto (-40), 3) := by decide +kernel
theorem dX1_lowestOffHook_45 : decode cX1_lowestOffHook 45 = .ok (.iconst (-1), 1) := by decide +kernel
theorem dX1_lowestOffHook_46 : decode cX1_lowestOffHook 46 = .ok (.ireturn, 1) := by decide +kernel
theorem dX1_phaseByDialing_0 : decode cX1_phaseByDialing 0 = .ok (.aload_n 0, 1) := by decide +kernel
theorem dX1_phaseByDialing_1 : decode cX1_phaseByDialing 1 = .ok (.getfield 9, 3) := by decide +kernel
theorem dX1_phaseByDialing_4 : decode cX1_phaseByDialing 4 = .ok (.iload_n 2, 1) := by decide +kernel
theorem dX1_phaseByDialing_5 : decode cX1_phaseByDialing 5 = .ok (.invokevirtual 88, 3) := by decide +kernel
theorem dX1_phaseByDialing_8 : decode cX1_phaseByDialing 8 = .ok (.astore_n 3, 1) := by decide +kernel
theorem dX1_phaseByDialing_9 : decode cX1_phaseByDialing 9 = .ok (.aload_n 3, 1) := by decide +kernel
theorem dX1_phaseByDialing_10 : decode cX1_phaseByDialing 10 = .ok (.ifnull 22, 3) := by decide +kernel
theorem dX1_phaseByDialing_13 : decode cX1_phaseByDialing 13 = .ok (.iload_n 2, 1) := by decide +kernel
theorem dX1_phaseByDialing_14 : decode cX1_phaseByDialing 14 = .ok (.aload_n 1, 1) := by decide +kernel
theorem dX1_phaseByDialing_15 : decode cX1_phaseByDialing 15 = .ok (.getfield 40, 3) := by decide +kernel
theorem dX1_phaseByDialing_18 : decode cX1_phaseByDialing 18 = .ok (.if_icmp .eq 14, 3) := by decide +kernel
theorem dX1_phaseByDialing_21 : decode cX1_phaseByDialing 21 = .ok (.aload_n 0, 1) := by decide +kernel
theorem dX1_phaseByDialing_22 : decode cX1_phaseByDialing 22 = .ok (.getfield 9, 3) := by decide +kernel
theorem dX1_phaseByDialing_25 : decode cX1_phaseByDialing 25 = .ok (.aload_n 3, 1) := by decide +kernel
theorem dX1_phaseByDialing_26 : decode cX1_phaseByDialing 26 = .ok (.invokevirtual 113, 3) := by decide +kernel
theorem dX1_phaseByDialing_29 : decode cX1_phaseByDialing 29 = .ok (.ifCond .eq 5, 3) := by decide +kernel
theorem dX1_phaseByDialing_32 : decode cX1_phaseByDialing 32 = .ok (.iconst 5, 1) := by decide +kernel
theorem dX1_phaseByDialing_33 : decode cX1_phaseByDialing 33 = .ok (.ireturn, 1) := by decide +kernel
theorem dX1_phaseByDialing_34 : decode cX1_phaseByDialing 34 = .ok (.aload_n 3, 1) := by decide +kernel
theorem dX1_phaseByDialing_35 : decode cX1_phaseByDialing 35 = .ok (.getfield 21, 3) := by decide +kernel
theorem dX1_phaseByDialing_38 : decode cX1_phaseByDialing 38 = .ok (.aload_n 1, 1) := by decide +kernel
theorem dX1_phaseByDialing_39 : decode cX1_phaseByDialing 39 = .ok (.getfield 21, 3) := by decide +kernel
theorem dX1_phaseByDialing_42 : decode cX1_phaseByDialing 42 = .ok (.if_icmp .ne 6, 3) := by decide +kernel
theorem dX1_phaseByDialing_45 : decode cX1_phaseByDialing 45 = .ok (.bipush 6, 2) := by decide +kernel
theorem dX1_phaseByDialing_47 : decode cX1_phaseByDialing 47 = .ok (.ireturn, 1) := by decide +kernel
theorem dX1_phaseByDialing_48 : decode cX1_phaseByDialing 48 = .ok (.aload_n 0, 1) := by decide +kernel
theorem dX1_phaseByDialing_49 : decode cX1_phaseByDialing 49 = .ok (.getfield 9, 3) := by decide +kernel
theorem dX1_phaseByDialing_52 : decode cX1_phaseByDialing 52 = .ok (.aload_n 3, 1) := by decide +kernel
theorem dX1_phaseByDialing_53 : decode cX1_phaseByDialing 53 = .ok (.getfield 21, 3) := by decide +kernel
theorem dX1_phaseByDialing_56 : decode cX1_phaseByDialing 56 = .ok (.invokevirtual 25, 3) := by decide +kernel
theorem dX1_phaseByDialing_59 : decode cX1_phaseByDialing 59 = .ok (.astore 4, 2) := by decide +kernel
theorem dX1_phaseByDialing_61 : decode cX1_phaseByDialing 61 = .ok (.aload 4, 2) := by decide +kernel
theorem dX1_phaseByDialing_63 : decode cX1_phaseByDialing 63 = .ok (.ifnull 15, 3) := by decide +kernel
theorem dX1_phaseByDialing_66 : decode cX1_phaseByDialing 66 = .ok (.aload 4, 2) := by decide +kernel
theorem dX1_phaseByDialing_68 : decode cX1_phaseByDialing 68 = .ok (.getfield 37, 3) := by decide +kernel
theorem dX1_phaseByDialing_71 : decode cX1_phaseByDialing 71 = .ok (.ifCond .ne 7, 3) := by decide +kernel
theorem dX1_phaseByDialing_74 : decode cX1_phaseByDialing 74 = .ok (.iconst 2, 1) := by decide +kernel
theorem dX1_phaseByDialing_75 : decode cX1_phaseByDialing 75 = .ok (.goto 4, 3) := by decide +kernel
theorem dX1_phaseByDialing_78 : decode cX1_phaseByDialing 78 = .ok (.iconst 5, 1) := by decide +kernel
theorem dX1_phaseByDialing_79 : decode cX1_phaseByDialing 79 = .ok (.ireturn, 1) := by decide +kernel
theorem dX1_dialNumber_0 : decode cX1_dialNumber 0 = .ok (.aload_n 0, 1) := by decide +kernel
theorem dX1_dialNumber_1 : decode cX1_dialNumber 1 = .ok (.aload_n 2, 1) := by decide +kernel
theorem dX1_dialNumber_2 : decode cX1_dialNumber 2 = .ok (.iload_n 3, 1) := by decide +kernel
theorem dX1_dialNumber_3 : decode cX1_dialNumber 3 = .ok (.invokevirtual 116, 3) := by decide +kernel
theorem dX1_dialNumber_6 : decode cX1_dialNumber 6 = .ok (.istore 4, 2) := by decide +kernel
theorem dX1_dialNumber_8 : decode cX1_dialNumber 8 = .ok (.aload_n 1, 1) := by decide +kernel
theorem dX1_dialNumber_9 : decode cX1_dialNumber 9 = .ok (.iload 4, 2) := by decide +kernel
theorem dX1_dialNumber_11 : decode cX1_dialNumber 11 = .ok (.invokevirtual 63, 3) := by decide +kernel
theorem dX1_dialNumber_14 : decode cX1_dialNumber 14 = .ok (.iload 4, 2) := by decide +kernel
theorem dX1_dialNumber_16 : decode cX1_dialNumber 16 = .ok (.iconst 5, 1) := by decide +kernel
theorem dX1_dialNumber_17 : decode cX1_dialNumber 17 = .ok (.if_icmp .ne 19, 3) := by decide +kernel
theorem dX1_dialNumber_20 : decode cX1_dialNumber 20 = .ok (.aload_n 0, 1) := by decide +kernel
theorem dX1_dialNumber_21 : decode cX1_dialNumber 21 = .ok (.getfield 9, 3) := by decide +kernel
theorem dX1_dialNumber_24 : decode cX1_dialNumber 24 = .ok (.getfield 70, 3) := by decide +kernel
theorem dX1_dialNumber_27 : decode cX1_dialNumber 27 = .ok (.iconst 3, 1) := by decide +kernel
theorem dX1_dialNumber_28 : decode cX1_dialNumber 28 = .ok (.dup2, 1) := by decide +kernel
theorem dX1_dialNumber_29 : decode cX1_dialNumber 29 = .ok (.iaload, 1) := by decide +kernel
theorem dX1_dialNumber_30 : decode cX1_dialNumber 30 = .ok (.iconst 1, 1) := by decide +kernel
theorem dX1_dialNumber_31 : decode cX1_dialNumber 31 = .ok (.iadd, 1) := by decide +kernel
theorem dX1_dialNumber_32 : decode cX1_dialNumber 32 = .ok (.iastore, 1) := by decide +kernel
theorem dX1_dialNumber_33 : decode cX1_dialNumber 33 = .ok (.goto 24, 3) := by decide +kernel
theorem dX1_dialNumber_36 : decode cX1_dialNumber 36 = .ok (.iload 4, 2) := by decide +kernel
theorem dX1_dialNumber_38 : decode cX1_dialNumber 38 = .ok (.bipush 6, 2) := by decide +kernel
theorem dX1_dialNumber_40 : decode cX1_dialNumber 40 = .ok (.if_icmp .ne 11, 3) := by decide +kernel
theorem dX1_dialNumber_43 : decode cX1_dialNumber 43 = .ok (.aload_n 1, 1) := by decide +kernel
theorem dX1_dialNumber_44 : decode cX1_dialNumber 44 = .ok (.iload_n 3, 1) := by decide +kernel
theorem dX1_dialNumber_45 : decode cX1_dialNumber 45 = .ok (.putfield 74, 3) := by decide +kernel
theorem dX1_dialNumber_48 : decode cX1_dialNumber 48 = .ok (.goto 9, 3) := by decide +kernel
theorem dX1_dialNumber_51 : decode cX1_dialNumber 51 = .ok (.aload_n 0, 1) := by decide +kernel
theorem dX1_dialNumber_52 : decode cX1_dialNumber 52 = .ok (.aload_n 1, 1) := by decide +kernel
theorem dX1_dialNumber_53 : decode cX1_dialNumber 53 = .ok (.iload_n 3, 1) := by decide +kernel
theorem dX1_dialNumber_54 : decode cX1_dialNumber 54 = .ok (.invokevirtual 120, 3) := by decide +kernel
theorem dX1_dialNumber_57 : decode cX1_dialNumber 57 = .ok (.return_, 1) := by decide +kernel
theorem dX1_ringFrom_0 : decode cX1_ringFrom 0 = .ok (.aload_n 0, 1) := by decide +kernel
theorem dX1_ringFrom_1 : decode cX1_ringFrom 1 = .ok (.getfield 9, 3) := by decide +kernel
theorem dX1_ringFrom_4 : decode cX1_ringFrom 4 = .ok (.iload_n 2, 1) := by decide +kernel
theorem dX1_ringFrom_5 : decode cX1_ringFrom 5 = .ok (.invokevirtual 88, 3) := by decide +kernel
theorem dX1_ringFrom_8 : decode cX1_ringFrom 8 = .ok (.astore_n 3, 1) := by decide +kernel
theorem dX1_ringFrom_9 : decode cX1_ringFrom 9 = .ok (.aload_n 3, 1) := by decide +kernel
theorem dX1_ringFrom_10 : decode cX1_ringFrom 10 = .ok (.ifnonnull 7, 3) := by decide +kernel
theorem dX1_ringFrom_13 : decode cX1_ringFrom 13 = .ok (.aconst_null, 1) := by decide +kernel
theorem dX1_ringFrom_14 : decode cX1_ringFrom 14 = .ok (.goto 14, 3) := by decide +kernel
theorem dX1_ringFrom_17 : decode cX1_ringFrom 17 = .ok (.aload_n 0, 1) := by decide +kernel
theorem dX1_ringFrom_18 : decode cX1_ringFrom 18 = .ok (.getfield 9, 3) := by decide +kernel
theorem dX1_ringFrom_21 : decode cX1_ringFrom 21 = .ok (.aload_n 3, 1) := by decide +kernel
theorem dX1_ringFrom_22 : decode cX1_ringFrom 22 = .ok (.getfield 21, 3) := by decide +kernel
theorem dX1_ringFrom_25 : decode cX1_ringFrom 25 = .ok (.invokevirtual 25, 3) := by decide +kernel
theorem dX1_ringFrom_28 : decode cX1_ringFrom 28 = .ok (.astore 4, 2) := by decide +kernel
theorem dX1_ringFrom_30 : decode cX1_ringFrom 30 = .ok (.aload 4, 2) := by decide +kernel
theorem dX1_ringFrom_32 : decode cX1_ringFrom 32 = .ok (.ifnull 28, 3) := by decide +kernel
theorem dX1_ringFrom_35 : decode cX1_ringFrom 35 = .ok (.aload 4, 2) := by decide +kernel
theorem dX1_ringFrom_37 : decode cX1_ringFrom 37 = .ok (.iconst 3, 1) := by decide +kernel
theorem dX1_ringFrom_38 : decode cX1_ringFrom 38 = .ok (.iload_n 2, 1) := by decide +kernel
theorem dX1_ringFrom_39 : decode cX1_ringFrom 39 = .ok (.invokevirtual 43, 3) := by decide +kernel
theorem dX1_ringFrom_42 : decode cX1_ringFrom 42 = .ok (.aload 4, 2) := by decide +kernel
theorem dX1_ringFrom_44 : decode cX1_ringFrom 44 = .ok (.aload_n 1, 1) := by decide +kernel
theorem dX1_ringFrom_45 : decode cX1_ringFrom 45 = .ok (.getfield 124, 3) := by decide +kernel
theorem dX1_ringFrom_48 : decode cX1_ringFrom 48 = .ok (.putfield 60, 3) := by decide +kernel
theorem dX1_ringFrom_51 : decode cX1_ringFrom 51 = .ok (.aload_n 1, 1) := by decide +kernel
theorem dX1_ringFrom_52 : decode cX1_ringFrom 52 = .ok (.aload 4, 2) := by decide +kernel
theorem dX1_ringFrom_54 : decode cX1_ringFrom 54 = .ok (.getfield 124, 3) := by decide +kernel
theorem dX1_ringFrom_57 : decode cX1_ringFrom 57 = .ok (.putfield 60, 3) := by decide +kernel
theorem dX1_ringFrom_60 : decode cX1_ringFrom 60 = .ok (.return_, 1) := by decide +kernel
theorem dX1_passOneTick_0 : decode cX1_passOneTick 0 = .ok (.iconst 0, 1) := by decide +kernel
theorem dX1_passOneTick_1 : decode cX1_passOneTick 1 = .ok (.istore_n 1, 1) := by decide +kernel
theorem dX1_passOneTick_2 : decode cX1_passOneTick 2 = .ok (.iload_n 1, 1) := by decide +kernel
theorem dX1_passOneTick_3 : decode cX1_passOneTick 3 = .ok (.iconst 5, 1) := by decide +kernel
theorem dX1_passOneTick_4 : decode cX1_passOneTick 4 = .ok (.if_icmp .ge 32, 3) := by decide +kernel
theorem dX1_passOneTick_7 : decode cX1_passOneTick 7 = .ok (.aload_n 0, 1) := by decide +kernel
theorem dX1_passOneTick_8 : decode cX1_passOneTick 8 = .ok (.getfield 9, 3) := by decide +kernel
theorem dX1_passOneTick_11 : decode cX1_passOneTick 11 = .ok (.iload_n 1, 1) := by decide +kernel
theorem dX1_passOneTick_12 : decode cX1_passOneTick 12 = .ok (.invokevirtual 25, 3) := by decide +kernel
theorem dX1_passOneTick_15 : decode cX1_passOneTick 15 = .ok (.astore_n 2, 1) := by decide +kernel
theorem dX1_passOneTick_16 : decode cX1_passOneTick 16 = .ok (.aload_n 2, 1) := by decide +kernel
theorem dX1_passOneTick_17 : decode cX1_passOneTick 17 = .ok (.ifnull 13, 3) := by decide +kernel
theorem dX1_passOneTick_20 : decode cX1_passOneTick 20 = .ok (.aload_n 2, 1) := by decide +kernel
theorem dX1_passOneTick_21 : decode cX1_passOneTick 21 = .ok (.dup, 1) := by decide +kernel
theorem dX1_passOneTick_22 : decode cX1_passOneTick 22 = .ok (.getfield 125, 3) := by decide +kernel
theorem dX1_passOneTick_25 : decode cX1_passOneTick 25 = .ok (.iconst 1, 1) := by decide +kernel
theorem dX1_passOneTick_26 : decode cX1_passOneTick 26 = .ok (.iadd, 1) := by decide +kernel
theorem dX1_passOneTick_27 : decode cX1_passOneTick 27 = .ok (.putfield 125, 3) := by decide +kernel
theorem dX1_passOneTick_30 : decode cX1_passOneTick 30 = .ok (.iinc 1 1, 3) := by decide +kernel
theorem dX1_passOneTick_33 : decode cX1_passOneTick 33 = .ok (.goto (-31), 3) := by decide +kernel
theorem dX1_passOneTick_36 : decode cX1_passOneTick 36 = .ok (.iconst 0, 1) := by decide +kernel
theorem dX1_passOneTick_37 : decode cX1_passOneTick 37 = .ok (.istore_n 1, 1) := by decide +kernel
theorem dX1_passOneTick_38 : decode cX1_passOneTick 38 = .ok (.iload_n 1, 1) := by decide +kernel
theorem dX1_passOneTick_39 : decode cX1_passOneTick 39 = .ok (.iconst 5, 1) := by decide +kernel
theorem dX1_passOneTick_40 : decode cX1_passOneTick 40 = .ok (.if_icmp .ge 27, 3) := by decide +kernel
theorem dX1_passOneTick_43 : decode cX1_passOneTick 43 = .ok (.aload_n 0, 1) := by decide +kernel
theorem dX1_passOneTick_44 : decode cX1_passOneTick 44 = .ok (.getfield 9, 3) := by decide +kernel
theorem dX1_passOneTick_47 : decode cX1_passOneTick 47 = .ok (.iload_n 1, 1) := by decide +kernel
theorem dX1_passOneTick_48 : decode cX1_passOneTick 48 = .ok (.invokevirtual 25, 3) := by decide +kernel
theorem dX1_passOneTick_51 : decode cX1_passOneTick 51 = .ok (.astore_n 2, 1) := by decide +kernel
theorem dX1_passOneTick_52 : decode cX1_passOneTick 52 = .ok (.aload_n 2, 1) := by decide +kernel
theorem dX1_passOneTick_53 : decode cX1_passOneTick 53 = .ok (.ifnull 8, 3) := by decide +kernel
theorem dX1_passOneTick_56 : decode cX1_passOneTick 56 = .ok (.aload_n 0, 1) := by decide +kernel
theorem dX1_passOneTick_57 : decode cX1_passOneTick 57 = .ok (.aload_n 2, 1) := by decide +kernel
theorem dX1_passOneTick_58 : decode cX1_passOneTick 58 = .ok (.invokevirtual 128, 3) := by decide +kernel
theorem dX1_passOneTick_61 : decode cX1_passOneTick 61 = .ok (.iinc 1 1, 3) := by decide +kernel
theorem dX1_passOneTick_64 : decode cX1_passOneTick 64 = .ok (.goto (-26), 3) := by decide +kernel
theorem dX1_passOneTick_67 : decode cX1_passOneTick 67 = .ok (.return_, 1) := by decide +kernel
theorem dX1_takeTurn_0 : decode cX1_takeTurn 0 = .ok (.aload_n 1, 1) := by decide +kernel
theorem dX1_takeTurn_1 : decode cX1_takeTurn 1 = .ok (.getfield 37, 3) := by decide +kernel
theorem dX1_takeTurn_4 : decode cX1_takeTurn 4 = .ok (.iconst 1, 1) := by decide +kernel
theorem dX1_takeTurn_5 : decode cX1_takeTurn 5 = .ok (.if_icmp .ne 20, 3) := by decide +kernel
theorem dX1_takeTurn_8 : decode cX1_takeTurn 8 = .ok (.aload_n 1, 1) := by decide +kernel
theorem dX1_takeTurn_9 : decode cX1_takeTurn 9 = .ok (.getfield 125, 3) := by decide +kernel
theorem dX1_takeTurn_12 : decode cX1_takeTurn 12 = .ok (.bipush 12, 2) := by decide +kernel
theorem dX1_takeTurn_14 : decode cX1_takeTurn 14 = .ok (.if_icmp .ne 11, 3) := by decide +kernel
theorem dX1_takeTurn_17 : decode cX1_takeTurn 17 = .ok (.aload_n 1, 1) := by decide +kernel
theorem dX1_takeTurn_18 : decode cX1_takeTurn 18 = .ok (.iconst 5, 1) := by decide +kernel
theorem dX1_takeTurn_19 : decode cX1_takeTurn 19 = .ok (.invokevirtual 63, 3) := by decide +kernel
theorem dX1_takeTurn_22 : decode cX1_takeTurn 22 = .ok (.goto 73, 3) := by decide +kernel
theorem dX1_takeTurn_25 : decode cX1_takeTurn 25 = .ok (.aload_n 1, 1) := by decide +kernel
theorem dX1_takeTurn_26 : decode cX1_takeTurn 26 = .ok (.invokevirtual 131, 3) := by decide +kernel
theorem dX1_takeTurn_29 : decode cX1_takeTurn 29 = .ok (.ifCond .eq 32, 3) := by decide +kernel
theorem dX1_takeTurn_32 : decode cX1_takeTurn 32 = .ok (.aload_n 0, 1) := by decide +kernel
theorem dX1_takeTurn_33 : decode cX1_takeTurn 33 = .ok (.aload_n 1, 1) := by decide +kernel
theorem dX1_takeTurn_34 : decode cX1_takeTurn 34 = .ok (.invokevirtual 135, 3) := by decide +kernel
theorem dX1_takeTurn_37 : decode cX1_takeTurn 37 = .ok (.ifCond .eq 24, 3) := by decide +kernel
theorem dX1_takeTurn_40 : decode cX1_takeTurn 40 = .ok (.aload_n 0, 1) := by decide +kernel
theorem dX1_takeTurn_41 : decode cX1_takeTurn 41 = .ok (.getfield 9, 3) := by decide +kernel
theorem dX1_takeTurn_44 : decode cX1_takeTurn 44 = .ok (.getfield 70, 3) := by decide +kernel
theorem dX1_takeTurn_47 : decode cX1_takeTurn 47 = .ok (.iconst 2, 1) := by decide +kernel
theorem dX1_takeTurn_48 : decode cX1_takeTurn 48 = .ok (.dup2, 1) := by decide +kernel
theorem dX1_takeTurn_49 : decode cX1_takeTurn 49 = .ok (.iaload, 1) := by decide +kernel
theorem dX1_takeTurn_50 : decode cX1_takeTurn 50 = .ok (.iconst 1, 1) := by decide +kernel
theorem dX1_takeTurn_51 : decode cX1_takeTurn 51 = .ok (.iadd, 1) := by decide +kernel
theorem dX1_takeTurn_52 : decode cX1_takeTurn 52 = .ok (.iastore, 1) := by decide +kernel
theorem dX1_takeTurn_53 : decode cX1_takeTurn 53 = .ok (.aload_n 0, 1) := by decide +kernel
theorem dX1_takeTurn_54 : decode cX1_takeTurn 54 = .ok (.aload_n 1, 1) := by decide +kernel
theorem dX1_takeTurn_55 : decode cX1_takeTurn 55 = .ok (.invokevirtual 102, 3) := by decide +kernel
theorem dX1_takeTurn_58 : decode cX1_takeTurn 58 = .ok (.goto 37, 3) := by decide +kernel
theorem dX1_takeTurn_61 : decode cX1_takeTurn 61 = .ok (.aload_n 1, 1) := by decide +kernel
theorem dX1_takeTurn_62 : decode cX1_takeTurn 62 = .ok (.getfield 67, 3) := by decide +kernel
theorem dX1_takeTurn_65 : decode cX1_takeTurn 65 = .ok (.ifCond .ne 12, 3) := by decide +kernel
theorem dX1_takeTurn_68 : decode cX1_takeTurn 68 = .ok (.aload_n 1, 1) := by decide +kernel
theorem dX1_takeTurn_69 : decode cX1_takeTurn 69 = .ok (.getfield 37, 3) := by decide +kernel
theorem dX1_takeTurn_72 : decode cX1_takeTurn 72 = .ok (.bipush 8, 2) := by decide +kernel
theorem dX1_takeTurn_74 : decode cX1_takeTurn 74 = .ok (.if_icmp .ne 21, 3) := by decide +kernel
theorem dX1_takeTurn_77 : decode cX1_takeTurn 77 = .ok (.aload_n 0, 1) := by decide +kernel
theorem dX1_takeTurn_78 : decode cX1_takeTurn 78 = .ok (.aload_n 1, 1) := by decide +kernel
theorem dX1_takeTurn_79 : decode cX1_takeTurn 79 = .ok (.invokevirtual 138, 3) := by decide +kernel
theorem dX1_takeTurn_82 : decode cX1_takeTurn 82 = .ok (.aload_n 0, 1) := by decide +kernel
theorem dX1_takeTurn_83 : decode cX1_takeTurn 83 = .ok (.aload_n 1, 1) := by decide +kernel
theorem dX1_takeTurn_84 : decode cX1_takeTurn 84 = .ok (.invokevirtual 141, 3) := by decide +kernel
theorem dX1_takeTurn_87 : decode cX1_takeTurn 87 = .ok (.ifCond .eq 8, 3) := by decide +kernel
theorem dX1_takeTurn_90 : decode cX1_takeTurn 90 = .ok (.aload_n 0, 1) := by decide +kernel
theorem dX1_takeTurn_91 : decode cX1_takeTurn 91 = .ok (.aload_n 1, 1) := by decide +kernel
theorem dX1_takeTurn_92 : decode cX1_takeTurn 92 = .ok (.invokevirtual 102, 3) := by decide +kernel
theorem dX1_takeTurn_95 : decode cX1_takeTurn 95 = .ok (.return_, 1) := by decide +kernel
theorem dX1_isLost_0 : decode cX1_isLost 0 = .ok (.aload_n 1, 1) := by decide +kernel
theorem dX1_isLost_1 : decode cX1_isLost 1 = .ok (.getfield 37, 3) := by decide +kernel
theorem dX1_isLost_4 : decode cX1_isLost 4 = .ok (.iconst 3, 1) := by decide +kernel
theorem dX1_isLost_5 : decode cX1_isLost 5 = .ok (.if_icmp .ne 7, 3) := by decide +kernel
theorem dX1_isLost_8 : decode cX1_isLost 8 = .ok (.iconst 5, 1) := by decide +kernel
theorem dX1_isLost_9 : decode cX1_isLost 9 = .ok (.goto 4, 3) := by decide +kernel
theorem dX1_isLost_12 : decode cX1_isLost 12 = .ok (.iconst 4, 1) := by decide +kernel
theorem dX1_isLost_13 : decode cX1_isLost 13 = .ok (.istore_n 2, 1) := by decide +kernel
theorem dX1_isLost_14 : decode cX1_isLost 14 = .ok (.aload_n 1, 1) := by decide +kernel
theorem dX1_isLost_15 : decode cX1_isLost 15 = .ok (.getfield 125, 3) := by decide +kernel
theorem dX1_isLost_18 : decode cX1_isLost 18 = .ok (.iload_n 2, 1) := by decide +kernel
theorem dX1_isLost_19 : decode cX1_isLost 19 = .ok (.aload_n 0, 1) := by decide +kernel
theorem dX1_isLost_20 : decode cX1_isLost 20 = .ok (.aload_n 1, 1) := by decide +kernel
theorem dX1_isLost_21 : decode cX1_isLost 21 = .ok (.invokevirtual 144, 3) := by decide +kernel
theorem dX1_isLost_24 : decode cX1_isLost 24 = .ok (.imul, 1) := by decide +kernel
theorem dX1_isLost_25 : decode cX1_isLost 25 = .ok (.if_icmp .ne 7, 3) := by decide +kernel
theorem dX1_isLost_28 : decode cX1_isLost 28 = .ok (.iconst 1, 1) := by decide +kernel
theorem dX1_isLost_29 : decode cX1_isLost 29 = .ok (.goto 4, 3) := by decide +kernel
theorem dX1_isLost_32 : decode cX1_isLost 32 = .ok (.iconst 0, 1) := by decide +kernel
theorem dX1_isLost_33 : decode cX1_isLost 33 = .ok (.ireturn, 1) := by decide +kernel
theorem dX1_countUnits_0 : decode cX1_countUnits 0 = .ok (.aload_n 0, 1) := by decide +kernel
theorem dX1_countUnits_1 : decode cX1_countUnits 1 = .ok (.getfield 9, 3) := by decide +kernel
theorem dX1_countUnits_4 : decode cX1_countUnits 4 = .ok (.aload_n 1, 1) := by decide +kernel
theorem dX1_countUnits_5 : decode cX1_countUnits 5 = .ok (.getfield 54, 3) := by decide +kernel
theorem dX1_countUnits_8 : decode cX1_countUnits 8 = .ok (.invokevirtual 88, 3) := by decide +kernel
theorem dX1_countUnits_11 : decode cX1_countUnits 11 = .ok (.astore_n 2, 1) := by decide +kernel
theorem dX1_countUnits_12 : decode cX1_countUnits 12 = .ok (.aload_n 2, 1) := by decide +kernel
theorem dX1_countUnits_13 : decode cX1_countUnits 13 = .ok (.ifnull 30, 3) := by decide +kernel
theorem dX1_countUnits_16 : decode cX1_countUnits 16 = .ok (.aload_n 1, 1) := by decide +kernel
theorem dX1_countUnits_17 : decode cX1_countUnits 17 = .ok (.getfield 67, 3) := by decide +kernel
theorem dX1_countUnits_20 : decode cX1_countUnits 20 = .ok (.ifCond .eq 23, 3) := by decide +kernel
theorem dX1_countUnits_23 : decode cX1_countUnits 23 = .ok (.aload_n 1, 1) := by decide +kernel
theorem dX1_countUnits_24 : decode cX1_countUnits 24 = .ok (.getfield 125, 3) := by decide +kernel
theorem dX1_countUnits_27 : decode cX1_countUnits 27 = .ok (.bipush 6, 2) := by decide +kernel
theorem dX1_countUnits_29 : decode cX1_countUnits 29 = .ok (.irem, 1) := by decide +kernel
theorem dX1_countUnits_30 : decode cX1_countUnits 30 = .ok (.ifCond .ne 13, 3) := by decide +kernel
theorem dX1_countUnits_33 : decode cX1_countUnits 33 = .ok (.aload_n 2, 1) := by decide +kernel
theorem dX1_countUnits_34 : decode cX1_countUnits 34 = .ok (.dup, 1) := by decide +kernel
theorem dX1_countUnits_35 : decode cX1_countUnits 35 = .ok (.getfield 147, 3) := by decide +kernel
theorem dX1_countUnits_38 : decode cX1_countUnits 38 = .ok (.iconst 1, 1) := by decide +kernel
theorem dX1_countUnits_39 : decode cX1_countUnits 39 = .ok (.iadd, 1) := by decide +kernel
theorem dX1_countUnits_40 : decode cX1_countUnits 40 = .ok (.putfield 147, 3) := by decide +kernel
theorem dX1_countUnits_43 : decode cX1_countUnits 43 = .ok (.return_, 1) := by decide +kernel
theorem dX1_isOverLimit_0 : decode cX1_isOverLimit 0 = .ok (.aload_n 1, 1) := by decide +kernel
theorem dX1_isOverLimit_1 : decode cX1_isOverLimit 1 = .ok (.getfield 125, 3) := by decide +kernel
theorem dX1_isOverLimit_4 : decode cX1_isOverLimit 4 = .ok (.aload_n 0, 1) := by decide +kernel
theorem dX1_isOverLimit_5 : decode cX1_isOverLimit 5 = .ok (.getfield 9, 3) := by decide +kernel
theorem dX1_isOverLimit_8 : decode cX1_isOverLimit 8 = .ok (.getfield 150, 3) := by decide +kernel
theorem dX1_isOverLimit_11 : decode cX1_isOverLimit 11 = .ok (.if_icmp .ge 5, 3) := by decide +kernel
theorem dX1_isOverLimit_14 : decode cX1_isOverLimit 14 = .ok (.iconst 0, 1) := by decide +kernel
theorem dX1_isOverLimit_15 : decode cX1_isOverLimit 15 = .ok (.ireturn, 1) := by decide +kernel
theorem dX1_isOverLimit_16 : decode cX1_isOverLimit 16 = .ok (.aload_n 0, 1) := by decide +kernel
theorem dX1_isOverLimit_17 : decode cX1_isOverLimit 17 = .ok (.getfield 9, 3) := by decide +kernel
theorem dX1_isOverLimit_20 : decode cX1_isOverLimit 20 = .ok (.aload_n 1, 1) := by decide +kernel
theorem dX1_isOverLimit_21 : decode cX1_isOverLimit 21 = .ok (.getfield 60, 3) := by decide +kernel
theorem dX1_isOverLimit_24 : decode cX1_isOverLimit 24 = .ok (.invokevirtual 25, 3) := by decide +kernel
theorem dX1_isOverLimit_27 : decode cX1_isOverLimit 27 = .ok (.astore_n 2, 1) := by decide +kernel
theorem dX1_isOverLimit_28 : decode cX1_isOverLimit 28 = .ok (.aload_n 0, 1) := by decide +kernel
theorem dX1_isOverLimit_29 : decode cX1_isOverLimit 29 = .ok (.aload_n 1, 1) := by decide +kernel
theorem dX1_isOverLimit_30 : decode cX1_isOverLimit 30 = .ok (.invokevirtual 153, 3) := by decide +kernel
theorem dX1_isOverLimit_33 : decode cX1_isOverLimit 33 = .ok (.ifCond .ne 15, 3) := by decide +kernel
theorem dX1_isOverLimit_36 : decode cX1_isOverLimit 36 = .ok (.aload_n 2, 1) := by decide +kernel
theorem dX1_isOverLimit_37 : decode cX1_isOverLimit 37 = .ok (.ifnull 15, 3) := by decide +kernel
theorem dX1_isOverLimit_40 : decode cX1_isOverLimit 40 = .ok (.aload_n 0, 1) := by decide +kernel
theorem dX1_isOverLimit_41 : decode cX1_isOverLimit 41 = .ok (.aload_n 2, 1) := by decide +kernel
theorem dX1_isOverLimit_42 : decode cX1_isOverLimit 42 = .ok (.invokevirtual 153, 3) := by decide +kernel
theorem dX1_isOverLimit_45 : decode cX1_isOverLimit 45 = .ok (.ifCond .eq 7, 3) := by decide +kernel
theorem dX1_isOverLimit_48 : decode cX1_isOverLimit 48 = .ok (.iconst 1, 1) := by decide +kernel
theorem dX1_isOverLimit_49 : decode cX1_isOverLimit 49 = .ok (.goto 4, 3) := by decide +kernel
theorem dX1_isOverLimit_52 : decode cX1_isOverLimit 52 = .ok (.iconst 0, 1) := by decide +kernel
theorem dX1_isOverLimit_53 : decode cX1_isOverLimit 53 = .ok (.ireturn, 1) := by decide +kernel
theorem dX1_locksSomeoneOut_0 : decode cX1_locksSomeoneOut 0 = .ok (.iconst 0, 1) := by decide +kernel
theorem dX1_locksSomeoneOut_1 : decode cX1_locksSomeoneOut 1 = .ok (.istore_n 2, 1) := by decide +kernel
theorem dX1_locksSomeoneOut_2 : decode cX1_locksSomeoneOut 2 = .ok (.iload_n 2, 1) := by decide +kernel
theorem dX1_locksSomeoneOut_3 : decode cX1_locksSomeoneOut 3 = .ok (.bipush 16, 2) := by decide +kernel
theorem dX1_locksSomeoneOut_5 : decode cX1_locksSomeoneOut 5 = .ok (.if_icmp .ge 32, 3) := by decide +kernel
theorem dX1_locksSomeoneOut_8 : decode cX1_locksSomeoneOut 8 = .ok (.aload_n 0, 1) := by decide +kernel
theorem dX1_locksSomeoneOut_9 : decode cX1_locksSomeoneOut 9 = .ok (.getfield 9, 3) := by decide +kernel
theorem dX1_locksSomeoneOut_12 : decode cX1_locksSomeoneOut 12 = .ok (.aload_n 1, 1) := by decide +kernel
theorem dX1_locksSomeoneOut_13 : decode cX1_locksSomeoneOut 13 = .ok (.iload_n 2, 1) := by decide +kernel
theorem dX1_locksSomeoneOut_14 : decode cX1_locksSomeoneOut 14 = .ok (.invokevirtual 109, 3) := by decide +kernel
theorem dX1_locksSomeoneOut_17 : decode cX1_locksSomeoneOut 17 = .ok (.astore_n 3, 1) := by decide +kernel
theorem dX1_locksSomeoneOut_18 : decode cX1_locksSomeoneOut 18 = .ok (.aload_n 3, 1) := by decide +kernel
theorem dX1_locksSomeoneOut_19 : decode cX1_locksSomeoneOut 19 = .ok (.ifnull 12, 3) := by decide +kernel
theorem dX1_locksSomeoneOut_22 : decode cX1_locksSomeoneOut 22 = .ok (.aload_n 3, 1) := by decide +kernel
theorem dX1_locksSomeoneOut_23 : decode cX1_locksSomeoneOut 23 = .ok (.getfield 81, 3) := by decide +kernel
theorem dX1_locksSomeoneOut_26 : decode cX1_locksSomeoneOut 26 = .ok (.ifCond .eq 5, 3) := by decide +kernel
theorem dX1_locksSomeoneOut_29 : decode cX1_locksSomeoneOut 29 = .ok (.iconst 1, 1) := by decide +kernel
theorem dX1_locksSomeoneOut_30 : decode cX1_locksSomeoneOut 30 = .ok (.ireturn, 1) := by decide +kernel
theorem dX1_locksSomeoneOut_31 : decode cX1_locksSomeoneOut 31 = .ok (.iinc 2 1, 3) := by decide +kernel
theorem dX1_locksSomeoneOut_34 : decode cX1_locksSomeoneOut 34 = .ok (.goto (-32), 3) := by decide +kernel
theorem dX1_locksSomeoneOut_37 : decode cX1_locksSomeoneOut 37 = .ok (.iconst 0, 1) := by decide +kernel
theorem dX1_locksSomeoneOut_38 : decode cX1_locksSomeoneOut 38 = .ok (.ireturn, 1) := by decide +kernel
theorem dX1_breakSpan_0 : decode cX1_breakSpan 0 = .ok (.aload_n 1, 1) := by decide +kernel
theorem dX1_breakSpan_1 : decode cX1_breakSpan 1 = .ok (.iload_n 2, 1) := by decide +kernel
theorem dX1_breakSpan_2 : decode cX1_breakSpan 2 = .ok (.putfield 156, 3) := by decide +kernel
theorem dX1_breakSpan_5 : decode cX1_breakSpan 5 = .ok (.aload_n 1, 1) := by decide +kernel
theorem dX1_breakSpan_6 : decode cX1_breakSpan 6 = .ok (.iload_n 3, 1) := by decide +kernel
theorem dX1_breakSpan_7 : decode cX1_breakSpan 7 = .ok (.putfield 159, 3) := by decide +kernel
theorem dX1_breakSpan_10 : decode cX1_breakSpan 10 = .ok (.aload_n 0, 1) := by decide +kernel
theorem dX1_breakSpan_11 : decode cX1_breakSpan 11 = .ok (.aload_n 1, 1) := by decide +kernel
theorem dX1_breakSpan_12 : decode cX1_breakSpan 12 = .ok (.invokevirtual 102, 3) := by decide +kernel
theorem dX1_breakSpan_15 : decode cX1_breakSpan 15 = .ok (.return_, 1) := by decide +kernel
theorem dX1_mendSpan_0 : decode cX1_mendSpan 0 = .ok (.aload_n 0, 1) := by decide +kernel
theorem dX1_mendSpan_1 : decode cX1_mendSpan 1 = .ok (.aload_n 1, 1) := by decide +kernel
theorem dX1_mendSpan_2 : decode cX1_mendSpan 2 = .ok (.invokevirtual 162, 3) := by decide +kernel
theorem dX1_mendSpan_5 : decode cX1_mendSpan 5 = .ok (.istore_n 2, 1) := by decide +kernel
theorem dX1_mendSpan_6 : decode cX1_mendSpan 6 = .ok (.aload_n 1, 1) := by decide +kernel
theorem dX1_mendSpan_7 : decode cX1_mendSpan 7 = .ok (.invokevirtual 165, 3) := by decide +kernel
theorem dX1_mendSpan_10 : decode cX1_mendSpan 10 = .ok (.iload_n 2, 1) := by decide +kernel
theorem dX1_mendSpan_11 : decode cX1_mendSpan 11 = .ok (.ifCond .eq 22, 3) := by decide +kernel
theorem dX1_mendSpan_14 : decode cX1_mendSpan 14 = .ok (.aload_n 1, 1) := by decide +kernel
theorem dX1_mendSpan_15 : decode cX1_mendSpan 15 = .ok (.getfield 37, 3) := by decide +kernel
theorem dX1_mendSpan_18 : decode cX1_mendSpan 18 = .ok (.ifCond .eq 10, 3) := by decide +kernel
theorem dX1_mendSpan_21 : decode cX1_mendSpan 21 = .ok (.aload_n 1, 1) := by decide +kernel
theorem dX1_mendSpan_22 : decode cX1_mendSpan 22 = .ok (.invokevirtual 131, 3) := by decide +kernel
theorem dX1_mendSpan_25 : decode cX1_mendSpan 25 = .ok (.ifCond .eq 8, 3) := by decide +kernel
theorem dX1_mendSpan_28 : decode cX1_mendSpan 28 = .ok (.aload_n 0, 1) := by decide +kernel
theorem dX1_mendSpan_29 : decode cX1_mendSpan 29 = .ok (.aload_n 1, 1) := by decide +kernel
theorem dX1_mendSpan_30 : decode cX1_mendSpan 30 = .ok (.invokevirtual 102, 3) := by decide +kernel
theorem dX1_mendSpan_33 : decode cX1_mendSpan 33 = .ok (.return_, 1) := by decide +kernel
theorem dX1_hasCutOffReceiver_0 : decode cX1_hasCutOffReceiver 0 = .ok (.iconst 0, 1) := by decide +kernel
theorem dX1_hasCutOffReceiver_1 : decode cX1_hasCutOffReceiver 1 = .ok (.istore_n 2, 1) := by decide +kernel
theorem dX1_hasCutOffReceiver_2 : decode cX1_hasCutOffReceiver 2 = .ok (.iload_n 2, 1) := by decide +kernel
theorem dX1_hasCutOffReceiver_3 : decode cX1_hasCutOffReceiver 3 = .ok (.bipush 16, 2) := by decide +kernel
theorem dX1_hasCutOffReceiver_5 : decode cX1_hasCutOffReceiver 5 = .ok (.if_icmp .ge 40, 3) := by decide +kernel
theorem dX1_hasCutOffReceiver_8 : decode cX1_hasCutOffReceiver 8 = .ok (.aload_n 0, 1) := by decide +kernel
theorem dX1_hasCutOffReceiver_9 : decode cX1_hasCutOffReceiver 9 = .ok (.getfield 9, 3) := by decide +kernel
theorem dX1_hasCutOffReceiver_12 : decode cX1_hasCutOffReceiver 12 = .ok (.aload_n 1, 1) := by decide +kernel
theorem dX1_hasCutOffReceiver_13 : decode cX1_hasCutOffReceiver 13 = .ok (.iload_n 2, 1) := by decide +kernel
theorem dX1_hasCutOffReceiver_14 : decode cX1_hasCutOffReceiver 14 = .ok (.invokevirtual 109, 3) := by decide +kernel
theorem dX1_hasCutOffReceiver_17 : decode cX1_hasCutOffReceiver 17 = .ok (.astore_n 3, 1) := by decide +kernel
theorem dX1_hasCutOffReceiver_18 : decode cX1_hasCutOffReceiver 18 = .ok (.aload_n 3, 1) := by decide +kernel
theorem dX1_hasCutOffReceiver_19 : decode cX1_hasCutOffReceiver 19 = .ok (.ifnull 20, 3) := by decide +kernel
theorem dX1_hasCutOffReceiver_22 : decode cX1_hasCutOffReceiver 22 = .ok (.aload_n 3, 1) := by decide +kernel
theorem dX1_hasCutOffReceiver_23 : decode cX1_hasCutOffReceiver 23 = .ok (.getfield 15, 3) := by decide +kernel
theorem dX1_hasCutOffReceiver_26 : decode cX1_hasCutOffReceiver 26 = .ok (.ifCond .eq 13, 3) := by decide +kernel
theorem dX1_hasCutOffReceiver_29 : decode cX1_hasCutOffReceiver 29 = .ok (.aload_n 1, 1) := by decide +kernel
theorem dX1_hasCutOffReceiver_30 : decode cX1_hasCutOffReceiver 30 = .ok (.aload_n 3, 1) := by decide +kernel
theorem dX1_hasCutOffReceiver_31 : decode cX1_hasCutOffReceiver 31 = .ok (.invokevirtual 31, 3) := by decide +kernel
theorem dX1_hasCutOffReceiver_34 : decode cX1_hasCutOffReceiver 34 = .ok (.ifCond .eq 5, 3) := by decide +kernel
theorem dX1_hasCutOffReceiver_37 : decode cX1_hasCutOffReceiver 37 = .ok (.iconst 1, 1) := by decide +kernel
theorem dX1_hasCutOffReceiver_38 : decode cX1_hasCutOffReceiver 38 = .ok (.ireturn, 1) := by decide +kernel
theorem dX1_hasCutOffReceiver_39 : decode cX1_hasCutOffReceiver 39 = .ok (.iinc 2 1, 3) := by decide +kernel
theorem dX1_hasCutOffReceiver_42 : decode cX1_hasCutOffReceiver 42 = .ok (.goto (-40), 3) := by decide +kernel
theorem dX1_hasCutOffReceiver_45 : decode cX1_hasCutOffReceiver 45 = .ok (.iconst 0, 1) := by decide +kernel
theorem dX1_hasCutOffReceiver_46 : decode cX1_hasCutOffReceiver 46 = .ok (.ireturn, 1) := by decide +kernel
theorem dX1_ticksOfRound_0 : decode cX1_ticksOfRound 0 = .ok (.aload_n 0, 1) := by decide +kernel
theorem dX1_ticksOfRound_1 : decode cX1_ticksOfRound 1 = .ok (.aload_n 1, 1) := by decide +kernel
theorem dX1_ticksOfRound_2 : decode cX1_ticksOfRound 2 = .ok (.getfield 74, 3) := by decide +kernel
theorem dX1_ticksOfRound_5 : decode cX1_ticksOfRound 5 = .ok (.invokevirtual 168, 3) := by decide +kernel
theorem dX1_ticksOfRound_8 : decode cX1_ticksOfRound 8 = .ok (.aload_n 0, 1) := by decide +kernel
theorem dX1_ticksOfRound_9 : decode cX1_ticksOfRound 9 = .ok (.aload_n 1, 1) := by decide +kernel
theorem dX1_ticksOfRound_10 : decode cX1_ticksOfRound 10 = .ok (.getfield 54, 3) := by decide +kernel
theorem dX1_ticksOfRound_13 : decode cX1_ticksOfRound 13 = .ok (.invokevirtual 168, 3) := by decide +kernel
theorem dX1_ticksOfRound_16 : decode cX1_ticksOfRound 16 = .ok (.iadd, 1) := by decide +kernel
theorem dX1_ticksOfRound_17 : decode cX1_ticksOfRound 17 = .ok (.ireturn, 1) := by decide +kernel
theorem dX1_ticksOfCode_0 : decode cX1_ticksOfCode 0 = .ok (.aload_n 0, 1) := by decide +kernel
theorem dX1_ticksOfCode_1 : decode cX1_ticksOfCode 1 = .ok (.getfield 9, 3) := by decide +kernel
theorem dX1_ticksOfCode_4 : decode cX1_ticksOfCode 4 = .ok (.iload_n 1, 1) := by decide +kernel
theorem dX1_ticksOfCode_5 : decode cX1_ticksOfCode 5 = .ok (.invokevirtual 88, 3) := by decide +kernel
theorem dX1_ticksOfCode_8 : decode cX1_ticksOfCode 8 = .ok (.astore_n 2, 1) := by decide +kernel
theorem dX1_ticksOfCode_9 : decode cX1_ticksOfCode 9 = .ok (.aload_n 2, 1) := by decide +kernel
theorem dX1_ticksOfCode_10 : decode cX1_ticksOfCode 10 = .ok (.ifnonnull 7, 3) := by decide +kernel
theorem dX1_ticksOfCode_13 : decode cX1_ticksOfCode 13 = .ok (.iconst 0, 1) := by decide +kernel
theorem dX1_ticksOfCode_14 : decode cX1_ticksOfCode 14 = .ok (.goto 10, 3) := by decide +kernel
theorem dX1_ticksOfCode_17 : decode cX1_ticksOfCode 17 = .ok (.aload_n 2, 1) := by decide +kernel
theorem dX1_ticksOfCode_18 : decode cX1_ticksOfCode 18 = .ok (.getfield 172, 3) := by decide +kernel
theorem dX1_ticksOfCode_21 : decode cX1_ticksOfCode 21 = .ok (.invokestatic 175, 3) := by decide +kernel
theorem dX1_ticksOfCode_24 : decode cX1_ticksOfCode 24 = .ok (.ireturn, 1) := by decide +kernel
theorem dX1_soundOf_0 : decode cX1_soundOf 0 = .ok (.aload_n 1, 1) := by decide +kernel
theorem dX1_soundOf_1 : decode cX1_soundOf 1 = .ok (.invokevirtual 131, 3) := by decide +kernel
theorem dX1_soundOf_4 : decode cX1_soundOf 4 = .ok (.ifCond .eq 11, 3) := by decide +kernel
theorem dX1_soundOf_7 : decode cX1_soundOf 7 = .ok (.aload_n 0, 1) := by decide +kernel
theorem dX1_soundOf_8 : decode cX1_soundOf 8 = .ok (.aload_n 1, 1) := by decide +kernel
theorem dX1_soundOf_9 : decode cX1_soundOf 9 = .ok (.invokevirtual 144, 3) := by decide +kernel
theorem dX1_soundOf_12 : decode cX1_soundOf 12 = .ok (.goto 4, 3) := by decide +kernel
theorem dX1_soundOf_15 : decode cX1_soundOf 15 = .ok (.iconst 0, 1) := by decide +kernel
theorem dX1_soundOf_16 : decode cX1_soundOf 16 = .ok (.istore_n 2, 1) := by decide +kernel
theorem dX1_soundOf_17 : decode cX1_soundOf 17 = .ok (.iload_n 2, 1) := by decide +kernel
theorem dX1_soundOf_18 : decode cX1_soundOf 18 = .ok (.ifCond .gt 5, 3) := by decide +kernel
theorem dX1_soundOf_21 : decode cX1_soundOf 21 = .ok (.iconst 0, 1) := by decide +kernel
theorem dX1_soundOf_22 : decode cX1_soundOf 22 = .ok (.ireturn, 1) := by decide +kernel
theorem dX1_soundOf_23 : decode cX1_soundOf 23 = .ok (.aload_n 1, 1) := by decide +kernel
theorem dX1_soundOf_24 : decode cX1_soundOf 24 = .ok (.getfield 125, 3) := by decide +kernel
theorem dX1_soundOf_27 : decode cX1_soundOf 27 = .ok (.iload_n 2, 1) := by decide +kernel
theorem dX1_soundOf_28 : decode cX1_soundOf 28 = .ok (.irem, 1) := by decide +kernel
theorem dX1_soundOf_29 : decode cX1_soundOf 29 = .ok (.istore_n 3, 1) := by decide +kernel
theorem dX1_soundOf_30 : decode cX1_soundOf 30 = .ok (.aload_n 0, 1) := by decide +kernel
theorem dX1_soundOf_31 : decode cX1_soundOf 31 = .ok (.aload_n 1, 1) := by decide +kernel
theorem dX1_soundOf_32 : decode cX1_soundOf 32 = .ok (.getfield 74, 3) := by decide +kernel
theorem dX1_soundOf_35 : decode cX1_soundOf 35 = .ok (.invokevirtual 168, 3) := by decide +kernel
theorem dX1_soundOf_38 : decode cX1_soundOf 38 = .ok (.istore 4, 2) := by decide +kernel
theorem dX1_soundOf_40 : decode cX1_soundOf 40 = .ok (.aload_n 0, 1) := by decide +kernel
theorem dX1_soundOf_41 : decode cX1_soundOf 41 = .ok (.getfield 9, 3) := by decide +kernel
theorem dX1_soundOf_44 : decode cX1_soundOf 44 = .ok (.iload_n 3, 1) := by decide +kernel
theorem dX1_soundOf_45 : decode cX1_soundOf 45 = .ok (.iload 4, 2) := by decide +kernel
theorem dX1_soundOf_47 : decode cX1_soundOf 47 = .ok (.if_icmp .ge 10, 3) := by decide +kernel
theorem dX1_soundOf_50 : decode cX1_soundOf 50 = .ok (.aload_n 1, 1) := by decide +kernel
theorem dX1_soundOf_51 : decode cX1_soundOf 51 = .ok (.getfield 74, 3) := by decide +kernel
theorem dX1_soundOf_54 : decode cX1_soundOf 54 = .ok (.goto 7, 3) := by decide +kernel
theorem dX1_soundOf_57 : decode cX1_soundOf 57 = .ok (.aload_n 1, 1) := by decide +kernel
theorem dX1_soundOf_58 : decode cX1_soundOf 58 = .ok (.getfield 54, 3) := by decide +kernel
theorem dX1_soundOf_61 : decode cX1_soundOf 61 = .ok (.invokevirtual 88, 3) := by decide +kernel
theorem dX1_soundOf_64 : decode cX1_soundOf 64 = .ok (.astore 5, 2) := by decide +kernel
theorem dX1_soundOf_66 : decode cX1_soundOf 66 = .ok (.aload 5, 2) := by decide +kernel
theorem dX1_soundOf_68 : decode cX1_soundOf 68 = .ok (.ifnonnull 5, 3) := by decide +kernel
theorem dX1_soundOf_71 : decode cX1_soundOf 71 = .ok (.iconst 0, 1) := by decide +kernel
theorem dX1_soundOf_72 : decode cX1_soundOf 72 = .ok (.ireturn, 1) := by decide +kernel
theorem dX1_soundOf_73 : decode cX1_soundOf 73 = .ok (.aload 5, 2) := by decide +kernel
theorem dX1_soundOf_75 : decode cX1_soundOf 75 = .ok (.getfield 172, 3) := by decide +kernel
theorem dX1_soundOf_78 : decode cX1_soundOf 78 = .ok (.iload_n 3, 1) := by decide +kernel
theorem dX1_soundOf_79 : decode cX1_soundOf 79 = .ok (.iload 4, 2) := by decide +kernel
theorem dX1_soundOf_81 : decode cX1_soundOf 81 = .ok (.if_icmp .ge 7, 3) := by decide +kernel
theorem dX1_soundOf_84 : decode cX1_soundOf 84 = .ok (.iload_n 3, 1) := by decide +kernel
theorem dX1_soundOf_85 : decode cX1_soundOf 85 = .ok (.goto 7, 3) := by decide +kernel
theorem dX1_soundOf_88 : decode cX1_soundOf 88 = .ok (.iload_n 3, 1) := by decide +kernel
theorem dX1_soundOf_89 : decode cX1_soundOf 89 = .ok (.iload 4, 2) := by decide +kernel
theorem dX1_soundOf_91 : decode cX1_soundOf 91 = .ok (.isub, 1) := by decide +kernel
theorem dX1_soundOf_92 : decode cX1_soundOf 92 = .ok (.invokestatic 180, 3) := by decide +kernel
theorem dX1_soundOf_95 : decode cX1_soundOf 95 = .ok (.ireturn, 1) := by decide +kernel
theorem dX2_init_0 : decode cX2_init 0 = .ok (.aload_n 0, 1) := by decide +kernel
theorem dX2_init_1 : decode cX2_init 1 = .ok (.invokespecial 3, 3) := by decide +kernel
theorem dX2_init_4 : decode cX2_init 4 = .ok (.aload_n 0, 1) := by decide +kernel
theorem dX2_init_5 : decode cX2_init 5 = .ok (.iconst 4, 1) := by decide +kernel
theorem dX2_init_6 : decode cX2_init 6 = .ok (.anewarray 9, 3) := by decide +kernel
theorem dX2_init_9 : decode cX2_init 9 = .ok (.putfield 11, 3) := by decide +kernel
theorem dX2_init_12 : decode cX2_init 12 = .ok (.aload_n 0, 1) := by decide +kernel
theorem dX2_init_13 : decode cX2_init 13 = .ok (.iconst 0, 1) := by decide +kernel
theorem dX2_init_14 : decode cX2_init 14 = .ok (.putfield 17, 3) := by decide +kernel
theorem dX2_init_17 : decode cX2_init 17 = .ok (.iconst 0, 1) := by decide +kernel
theorem dX2_init_18 : decode cX2_init 18 = .ok (.istore_n 1, 1) := by decide +kernel
theorem dX2_init_19 : decode cX2_init 19 = .ok (.iload_n 1, 1) := by decide +kernel
theorem dX2_init_20 : decode cX2_init 20 = .ok (.iconst 4, 1) := by decide +kernel
theorem dX2_init_21 : decode cX2_init 21 = .ok (.if_icmp .ge 22, 3) := by decide +kernel
theorem dX2_init_24 : decode cX2_init 24 = .ok (.aload_n 0, 1) := by decide +kernel
theorem dX2_init_25 : decode cX2_init 25 = .ok (.getfield 11, 3) := by decide +kernel
theorem dX2_init_28 : decode cX2_init 28 = .ok (.iload_n 1, 1) := by decide +kernel
theorem dX2_init_29 : decode cX2_init 29 = .ok (.new 9, 3) := by decide +kernel
theorem dX2_init_32 : decode cX2_init 32 = .ok (.dup, 1) := by decide +kernel
theorem dX2_init_33 : decode cX2_init 33 = .ok (.invokespecial 21, 3) := by decide +kernel
theorem dX2_init_36 : decode cX2_init 36 = .ok (.aastore, 1) := by decide +kernel
theorem dX2_init_37 : decode cX2_init 37 = .ok (.iinc 1 1, 3) := by decide +kernel
theorem dX2_init_40 : decode cX2_init 40 = .ok (.goto (-21), 3) := by decide +kernel
theorem dX2_init_43 : decode cX2_init 43 = .ok (.return_, 1) := by decide +kernel
theorem dX2_save_0 : decode cX2_save 0 = .ok (.aload_n 0, 1) := by decide +kernel
theorem dX2_save_1 : decode cX2_save 1 = .ok (.getfield 17, 3) := by decide +kernel
theorem dX2_save_4 : decode cX2_save 4 = .ok (.iconst 4, 1) := by decide +kernel
theorem dX2_save_5 : decode cX2_save 5 = .ok (.if_icmp .lt 7, 3) := by decide +kernel
theorem dX2_save_8 : decode cX2_save 8 = .ok (.aload_n 0, 1) := by decide +kernel
theorem dX2_save_9 : decode cX2_save 9 = .ok (.invokevirtual 22, 3) := by decide +kernel
theorem dX2_save_12 : decode cX2_save 12 = .ok (.aload_n 0, 1) := by decide +kernel
theorem dX2_save_13 : decode cX2_save 13 = .ok (.aload_n 0, 1) := by decide +kernel
theorem dX2_save_14 : decode cX2_save 14 = .ok (.getfield 17, 3) := by decide +kernel
theorem dX2_save_17 : decode cX2_save 17 = .ok (.invokevirtual 25, 3) := by decide +kernel
theorem dX2_save_20 : decode cX2_save 20 = .ok (.astore_n 2, 1) := by decide +kernel
theorem dX2_save_21 : decode cX2_save 21 = .ok (.aload_n 2, 1) := by decide +kernel
theorem dX2_save_22 : decode cX2_save 22 = .ok (.ifnull 18, 3) := by decide +kernel
theorem dX2_save_25 : decode cX2_save 25 = .ok (.aload_n 2, 1) := by decide +kernel
theorem dX2_save_26 : decode cX2_save 26 = .ok (.aload_n 1, 1) := by decide +kernel
theorem dX2_save_27 : decode cX2_save 27 = .ok (.invokevirtual 29, 3) := by decide +kernel
theorem dX2_save_30 : decode cX2_save 30 = .ok (.aload_n 0, 1) := by decide +kernel
theorem dX2_save_31 : decode cX2_save 31 = .ok (.dup, 1) := by decide +kernel
theorem dX2_save_32 : decode cX2_save 32 = .ok (.getfield 17, 3) := by decide +kernel
theorem dX2_save_35 : decode cX2_save 35 = .ok (.iconst 1, 1) := by decide +kernel
theorem dX2_save_36 : decode cX2_save 36 = .ok (.iadd, 1) := by decide +kernel
theorem dX2_save_37 : decode cX2_save 37 = .ok (.putfield 17, 3) := by decide +kernel
theorem dX2_save_40 : decode cX2_save 40 = .ok (.return_, 1) := by decide +kernel
theorem dX2_dropOldest_0 : decode cX2_dropOldest 0 = .ok (.aload_n 0, 1) := by decide +kernel
theorem dX2_dropOldest_1 : decode cX2_dropOldest 1 = .ok (.getfield 11, 3) := by decide +kernel
theorem dX2_dropOldest_4 : decode cX2_dropOldest 4 = .ok (.iconst 0, 1) := by decide +kernel
theorem dX2_dropOldest_5 : decode cX2_dropOldest 5 = .ok (.aaload, 1) := by decide +kernel
theorem dX2_dropOldest_6 : decode cX2_dropOldest 6 = .ok (.astore_n 1, 1) := by decide +kernel
theorem dX2_dropOldest_7 : decode cX2_dropOldest 7 = .ok (.iconst 1, 1) := by decide +kernel
theorem dX2_dropOldest_8 : decode cX2_dropOldest 8 = .ok (.istore_n 2, 1) := by decide +kernel
theorem dX2_dropOldest_9 : decode cX2_dropOldest 9 = .ok (.iload_n 2, 1) := by decide +kernel
theorem dX2_dropOldest_10 : decode cX2_dropOldest 10 = .ok (.iconst 4, 1) := by decide +kernel
theorem dX2_dropOldest_11 : decode cX2_dropOldest 11 = .ok (.if_icmp .ge 23, 3) := by decide +kernel
theorem dX2_dropOldest_14 : decode cX2_dropOldest 14 = .ok (.aload_n 0, 1) := by decide +kernel
theorem dX2_dropOldest_15 : decode cX2_dropOldest 15 = .ok (.getfield 11, 3) := by decide +kernel
theorem dX2_dropOldest_18 : decode cX2_dropOldest 18 = .ok (.iload_n 2, 1) := by decide +kernel
theorem dX2_dropOldest_19 : decode cX2_dropOldest 19 = .ok (.iconst 1, 1) := by decide +kernel
theorem dX2_dropOldest_20 : decode cX2_dropOldest 20 = .ok (.isub, 1) := by decide +kernel
theorem dX2_dropOldest_21 : decode cX2_dropOldest 21 = .ok (.aload_n 0, 1) := by decide +kernel
theorem dX2_dropOldest_22 : decode cX2_dropOldest 22 = .ok (.getfield 11, 3) := by decide +kernel
theorem dX2_dropOldest_25 : decode cX2_dropOldest 25 = .ok (.iload_n 2, 1) := by decide +kernel
theorem dX2_dropOldest_26 : decode cX2_dropOldest 26 = .ok (.aaload, 1) := by decide +kernel
theorem dX2_dropOldest_27 : decode cX2_dropOldest 27 = .ok (.aastore, 1) := by decide +kernel
theorem dX2_dropOldest_28 : decode cX2_dropOldest 28 = .ok (.iinc 2 1, 3) := by decide +kernel
theorem dX2_dropOldest_31 : decode cX2_dropOldest 31 = .ok (.goto (-22), 3) := by decide +kernel
theorem dX2_dropOldest_34 : decode cX2_dropOldest 34 = .ok (.aload_n 0, 1) := by decide +kernel
theorem dX2_dropOldest_35 : decode cX2_dropOldest 35 = .ok (.getfield 11, 3) := by decide +kernel
theorem dX2_dropOldest_38 : decode cX2_dropOldest 38 = .ok (.iconst 3, 1) := by decide +kernel
theorem dX2_dropOldest_39 : decode cX2_dropOldest 39 = .ok (.aload_n 1, 1) := by decide +kernel
theorem dX2_dropOldest_40 : decode cX2_dropOldest 40 = .ok (.aastore, 1) := by decide +kernel
theorem dX2_dropOldest_41 : decode cX2_dropOldest 41 = .ok (.aload_n 0, 1) := by decide +kernel
theorem dX2_dropOldest_42 : decode cX2_dropOldest 42 = .ok (.iconst 3, 1) := by decide +kernel
theorem dX2_dropOldest_43 : decode cX2_dropOldest 43 = .ok (.putfield 17, 3) := by decide +kernel
theorem dX2_dropOldest_46 : decode cX2_dropOldest 46 = .ok (.return_, 1) := by decide +kernel
theorem dX2_restore_0 : decode cX2_restore 0 = .ok (.aload_n 0, 1) := by decide +kernel
theorem dX2_restore_1 : decode cX2_restore 1 = .ok (.aload_n 0, 1) := by decide +kernel
theorem dX2_restore_2 : decode cX2_restore 2 = .ok (.getfield 17, 3) := by decide +kernel
theorem dX2_restore_5 : decode cX2_restore 5 = .ok (.iconst 1, 1) := by decide +kernel
theorem dX2_restore_6 : decode cX2_restore 6 = .ok (.isub, 1) := by decide +kernel
theorem dX2_restore_7 : decode cX2_restore 7 = .ok (.invokevirtual 25, 3) := by decide +kernel
theorem dX2_restore_10 : decode cX2_restore 10 = .ok (.astore_n 2, 1) := by decide +kernel
theorem dX2_restore_11 : decode cX2_restore 11 = .ok (.aload_n 2, 1) := by decide +kernel
theorem dX2_restore_12 : decode cX2_restore 12 = .ok (.ifnull 18, 3) := by decide +kernel
theorem dX2_restore_15 : decode cX2_restore 15 = .ok (.aload_n 1, 1) := by decide +kernel
theorem dX2_restore_16 : decode cX2_restore 16 = .ok (.aload_n 2, 1) := by decide +kernel
theorem dX2_restore_17 : decode cX2_restore 17 = .ok (.invokevirtual 29, 3) := by decide +kernel
theorem dX2_restore_20 : decode cX2_restore 20 = .ok (.aload_n 0, 1) := by decide +kernel
theorem dX2_restore_21 : decode cX2_restore 21 = .ok (.dup, 1) := by decide +kernel
theorem dX2_restore_22 : decode cX2_restore 22 = .ok (.getfield 17, 3) := by decide +kernel
theorem dX2_restore_25 : decode cX2_restore 25 = .ok (.iconst 1, 1) := by decide +kernel
theorem dX2_restore_26 : decode cX2_restore 26 = .ok (.isub, 1) := by decide +kernel
theorem dX2_restore_27 : decode cX2_restore 27 = .ok (.putfield 17, 3) := by decide +kernel
theorem dX2_restore_30 : decode cX2_restore 30 = .ok (.return_, 1) := by decide +kernel
theorem dX2_savedAt_0 : decode cX2_savedAt 0 = .ok (.iload_n 1, 1) := by decide +kernel
theorem dX2_savedAt_1 : decode cX2_savedAt 1 = .ok (.ifCond .lt 17, 3) := by decide +kernel
theorem dX2_savedAt_4 : decode cX2_savedAt 4 = .ok (.iload_n 1, 1) := by decide +kernel
theorem dX2_savedAt_5 : decode cX2_savedAt 5 = .ok (.iconst 4, 1) := by decide +kernel
theorem dX2_savedAt_6 : decode cX2_savedAt 6 = .ok (.if_icmp .ge 12, 3) := by decide +kernel
theorem dX2_savedAt_9 : decode cX2_savedAt 9 = .ok (.aload_n 0, 1) := by decide +kernel
theorem dX2_savedAt_10 : decode cX2_savedAt 10 = .ok (.getfield 11, 3) := by decide +kernel
theorem dX2_savedAt_13 : decode cX2_savedAt 13 = .ok (.iload_n 1, 1) := by decide +kernel
theorem dX2_savedAt_14 : decode cX2_savedAt 14 = .ok (.aaload, 1) := by decide +kernel
theorem dX2_savedAt_15 : decode cX2_savedAt 15 = .ok (.goto 4, 3) := by decide +kernel
theorem dX2_savedAt_18 : decode cX2_savedAt 18 = .ok (.aconst_null, 1) := by decide +kernel
theorem dX2_savedAt_19 : decode cX2_savedAt 19 = .ok (.areturn, 1) := by decide +kernel
theorem dX3_init_0 : decode cX3_init 0 = .ok (.aload_n 0, 1) := by decide +kernel
theorem dX3_init_1 : decode cX3_init 1 = .ok (.invokespecial 3, 3) := by decide +kernel
theorem dX3_init_4 : decode cX3_init 4 = .ok (.aload_n 0, 1) := by decide +kernel
theorem dX3_init_5 : decode cX3_init 5 = .ok (.bipush 13, 2) := by decide +kernel
theorem dX3_init_7 : decode cX3_init 7 = .ok (.newarray .int, 2) := by decide +kernel
theorem dX3_init_9 : decode cX3_init 9 = .ok (.putfield 9, 3) := by decide +kernel
theorem dX3_init_12 : decode cX3_init 12 = .ok (.aload_n 0, 1) := by decide +kernel
theorem dX3_init_13 : decode cX3_init 13 = .ok (.iload_n 1, 1) := by decide +kernel
theorem dX3_init_14 : decode cX3_init 14 = .ok (.putfield 15, 3) := by decide +kernel
theorem dX3_init_17 : decode cX3_init 17 = .ok (.return_, 1) := by decide +kernel
theorem dX3_begin_0 : decode cX3_begin 0 = .ok (.aload_n 0, 1) := by decide +kernel
theorem dX3_begin_1 : decode cX3_begin 1 = .ok (.iconst 0, 1) := by decide +kernel
theorem dX3_begin_2 : decode cX3_begin 2 = .ok (.invokevirtual 19, 3) := by decide +kernel
theorem dX3_begin_5 : decode cX3_begin 5 = .ok (.aload_n 0, 1) := by decide +kernel
theorem dX3_begin_6 : decode cX3_begin 6 = .ok (.invokevirtual 23, 3) := by decide +kernel
theorem dX3_begin_9 : decode cX3_begin 9 = .ok (.iconst 1, 1) := by decide +kernel
theorem dX3_begin_10 : decode cX3_begin 10 = .ok (.istore_n 1, 1) := by decide +kernel
theorem dX3_begin_11 : decode cX3_begin 11 = .ok (.iload_n 1, 1) := by decide +kernel
theorem dX3_begin_12 : decode cX3_begin 12 = .ok (.bipush 12, 2) := by decide +kernel
theorem dX3_begin_14 : decode cX3_begin 14 = .ok (.if_icmp .gt 16, 3) := by decide +kernel
theorem dX3_begin_17 : decode cX3_begin 17 = .ok (.aload_n 0, 1) := by decide +kernel
theorem dX3_begin_18 : decode cX3_begin 18 = .ok (.getfield 9, 3) := by decide +kernel
theorem dX3_begin_21 : decode cX3_begin 21 = .ok (.iload_n 1, 1) := by decide +kernel
theorem dX3_begin_22 : decode cX3_begin 22 = .ok (.iconst 1, 1) := by decide +kernel
theorem dX3_begin_23 : decode cX3_begin 23 = .ok (.iastore, 1) := by decide +kernel
theorem dX3_begin_24 : decode cX3_begin 24 = .ok (.iinc 1 1, 3) := by decide +kernel
theorem dX3_begin_27 : decode cX3_begin 27 = .ok (.goto (-16), 3) := by decide +kernel
theorem dX3_begin_30 : decode cX3_begin 30 = .ok (.return_, 1) := by decide +kernel
theorem dX3_comeTo_0 : decode cX3_comeTo 0 = .ok (.aload_n 0, 1) := by decide +kernel
theorem dX3_comeTo_1 : decode cX3_comeTo 1 = .ok (.iload_n 1, 1) := by decide +kernel
theorem dX3_comeTo_2 : decode cX3_comeTo 2 = .ok (.putfield 26, 3) := by decide +kernel
theorem dX3_comeTo_5 : decode cX3_comeTo 5 = .ok (.aload_n 0, 1) := by decide +kernel
theorem dX3_comeTo_6 : decode cX3_comeTo 6 = .ok (.iconst 0, 1) := by decide +kernel
theorem dX3_comeTo_7 : decode cX3_comeTo 7 = .ok (.putfield 29, 3) := by decide +kernel
theorem dX3_comeTo_10 : decode cX3_comeTo 10 = .ok (.aload_n 0, 1) := by decide +kernel
theorem dX3_comeTo_11 : decode cX3_comeTo 11 = .ok (.iconst 0, 1) := by decide +kernel
theorem dX3_comeTo_12 : decode cX3_comeTo 12 = .ok (.putfield 32, 3) := by decide +kernel
theorem dX3_comeTo_15 : decode cX3_comeTo 15 = .ok (.iload_n 1, 1) := by decide +kernel
theorem dX3_comeTo_16 : decode cX3_comeTo 16 = .ok (.ifCond .ne 8, 3) := by decide +kernel
theorem dX3_comeTo_19 : decode cX3_comeTo 19 = .ok (.aload_n 0, 1) := by decide +kernel
theorem dX3_comeTo_20 : decode cX3_comeTo 20 = .ok (.iconst (-1), 1) := by decide +kernel
theorem dX3_comeTo_21 : decode cX3_comeTo 21 = .ok (.putfield 36, 3) := by decide +kernel
theorem dX3_comeTo_24 : decode cX3_comeTo 24 = .ok (.iload_n 1, 1) := by decide +kernel
theorem dX3_comeTo_25 : decode cX3_comeTo 25 = .ok (.bipush 6, 2) := by decide +kernel
theorem dX3_comeTo_27 : decode cX3_comeTo 27 = .ok (.if_icmp .ge 8, 3) := by decide +kernel
theorem dX3_comeTo_30 : decode cX3_comeTo 30 = .ok (.aload_n 0, 1) := by decide +kernel
theorem dX3_comeTo_31 : decode cX3_comeTo 31 = .ok (.iconst (-1), 1) := by decide +kernel
theorem dX3_comeTo_32 : decode cX3_comeTo 32 = .ok (.putfield 39, 3) := by decide +kernel
theorem dX3_comeTo_35 : decode cX3_comeTo 35 = .ok (.iload_n 1, 1) := by decide +kernel
theorem dX3_comeTo_36 : decode cX3_comeTo 36 = .ok (.iconst 2, 1) := by decide +kernel
theorem dX3_comeTo_37 : decode cX3_comeTo 37 = .ok (.if_icmp .lt 8, 3) := by decide +kernel
theorem dX3_comeTo_40 : decode cX3_comeTo 40 = .ok (.iload_n 1, 1) := by decide +kernel
theorem dX3_comeTo_41 : decode cX3_comeTo 41 = .ok (.iconst 4, 1) := by decide +kernel
theorem dX3_comeTo_42 : decode cX3_comeTo 42 = .ok (.if_icmp .le 8, 3) := by decide +kernel
theorem dX3_comeTo_45 : decode cX3_comeTo 45 = .ok (.aload_n 0, 1) := by decide +kernel
theorem dX3_comeTo_46 : decode cX3_comeTo 46 = .ok (.iconst (-1), 1) := by decide +kernel
theorem dX3_comeTo_47 : decode cX3_comeTo 47 = .ok (.putfield 42, 3) := by decide +kernel
theorem dX3_comeTo_50 : decode cX3_comeTo 50 = .ok (.return_, 1) := by decide +kernel
theorem dX3_comeToWith_0 : decode cX3_comeToWith 0 = .ok (.aload_n 0, 1) := by decide +kernel
theorem dX3_comeToWith_1 : decode cX3_comeToWith 1 = .ok (.iload_n 2, 1) := by decide +kernel
theorem dX3_comeToWith_2 : decode cX3_comeToWith 2 = .ok (.putfield 36, 3) := by decide +kernel
theorem dX3_comeToWith_5 : decode cX3_comeToWith 5 = .ok (.aload_n 0, 1) := by decide +kernel
theorem dX3_comeToWith_6 : decode cX3_comeToWith 6 = .ok (.iload_n 1, 1) := by decide +kernel
theorem dX3_comeToWith_7 : decode cX3_comeToWith 7 = .ok (.invokevirtual 19, 3) := by decide +kernel
theorem dX3_comeToWith_10 : decode cX3_comeToWith 10 = .ok (.return_, 1) := by decide +kernel
theorem dX3_isRung_0 : decode cX3_isRung 0 = .ok (.aload_n 0, 1) := by decide +kernel
theorem dX3_isRung_1 : decode cX3_isRung 1 = .ok (.getfield 26, 3) := by decide +kernel
theorem dX3_isRung_4 : decode cX3_isRung 4 = .ok (.iconst 3, 1) := by decide +kernel
theorem dX3_isRung_5 : decode cX3_isRung 5 = .ok (.if_icmp .eq 12, 3) := by decide +kernel
theorem dX3_isRung_8 : decode cX3_isRung 8 = .ok (.aload_n 0, 1) := by decide +kernel
theorem dX3_isRung_9 : decode cX3_isRung 9 = .ok (.getfield 26, 3) := by decide +kernel
theorem dX3_isRung_12 : decode cX3_isRung 12 = .ok (.bipush 7, 2) := by decide +kernel
theorem dX3_isRung_14 : decode cX3_isRung 14 = .ok (.if_icmp .ne 7, 3) := by decide +kernel
theorem dX3_isRung_17 : decode cX3_isRung 17 = .ok (.iconst 1, 1) := by decide +kernel
theorem dX3_isRung_18 : decode cX3_isRung 18 = .ok (.goto 4, 3) := by decide +kernel
theorem dX3_isRung_21 : decode cX3_isRung 21 = .ok (.iconst 0, 1) := by decide +kernel
theorem dX3_isRung_22 : decode cX3_isRung 22 = .ok (.ireturn, 1) := by decide +kernel
theorem dX3_hasFault_0 : decode cX3_hasFault 0 = .ok (.aload_n 0, 1) := by decide +kernel
theorem dX3_hasFault_1 : decode cX3_hasFault 1 = .ok (.getfield 45, 3) := by decide +kernel
theorem dX3_hasFault_4 : decode cX3_hasFault 4 = .ok (.iconst (-1), 1) := by decide +kernel
theorem dX3_hasFault_5 : decode cX3_hasFault 5 = .ok (.if_icmp .eq 7, 3) := by decide +kernel
theorem dX3_hasFault_8 : decode cX3_hasFault 8 = .ok (.iconst 1, 1) := by decide +kernel
theorem dX3_hasFault_9 : decode cX3_hasFault 9 = .ok (.goto 4, 3) := by decide +kernel
theorem dX3_hasFault_12 : decode cX3_hasFault 12 = .ok (.iconst 0, 1) := by decide +kernel
theorem dX3_hasFault_13 : decode cX3_hasFault 13 = .ok (.ireturn, 1) := by decide +kernel
theorem dX3_clearFault_0 : decode cX3_clearFault 0 = .ok (.aload_n 0, 1) := by decide +kernel
theorem dX3_clearFault_1 : decode cX3_clearFault 1 = .ok (.iconst (-1), 1) := by decide +kernel
theorem dX3_clearFault_2 : decode cX3_clearFault 2 = .ok (.putfield 45, 3) := by decide +kernel
theorem dX3_clearFault_5 : decode cX3_clearFault 5 = .ok (.aload_n 0, 1) := by decide +kernel
theorem dX3_clearFault_6 : decode cX3_clearFault 6 = .ok (.iconst 0, 1) := by decide +kernel
theorem dX3_clearFault_7 : decode cX3_clearFault 7 = .ok (.putfield 48, 3) := by decide +kernel
theorem dX3_clearFault_10 : decode cX3_clearFault 10 = .ok (.return_, 1) := by decide +kernel
theorem dX3_cutsOff_0 : decode cX3_cutsOff 0 = .ok (.aload_n 0, 1) := by decide +kernel
theorem dX3_cutsOff_1 : decode cX3_cutsOff 1 = .ok (.invokevirtual 51, 3) := by decide +kernel
theorem dX3_cutsOff_4 : decode cX3_cutsOff 4 = .ok (.ifCond .eq 25, 3) := by decide +kernel
theorem dX3_cutsOff_7 : decode cX3_cutsOff 7 = .ok (.aload_n 0, 1) := by decide +kernel
theorem dX3_cutsOff_8 : decode cX3_cutsOff 8 = .ok (.getfield 48, 3) := by decide +kernel
theorem dX3_cutsOff_11 : decode cX3_cutsOff 11 = .ok (.ifCond .ne 14, 3) := by decide +kernel
theorem dX3_cutsOff_14 : decode cX3_cutsOff 14 = .ok (.aload_n 1, 1) := by decide +kernel
theorem dX3_cutsOff_15 : decode cX3_cutsOff 15 = .ok (.getfield 55, 3) := by decide +kernel
theorem dX3_cutsOff_18 : decode cX3_cutsOff 18 = .ok (.aload_n 0, 1) := by decide +kernel
theorem dX3_cutsOff_19 : decode cX3_cutsOff 19 = .ok (.getfield 45, 3) := by decide +kernel
theorem dX3_cutsOff_22 : decode cX3_cutsOff 22 = .ok (.if_icmp .lt 7, 3) := by decide +kernel
theorem dX3_cutsOff_25 : decode cX3_cutsOff 25 = .ok (.iconst 1, 1) := by decide +kernel
theorem dX3_cutsOff_26 : decode cX3_cutsOff 26 = .ok (.goto 4, 3) := by decide +kernel
theorem dX3_cutsOff_29 : decode cX3_cutsOff 29 = .ok (.iconst 0, 1) := by decide +kernel
theorem dX3_cutsOff_30 : decode cX3_cutsOff 30 = .ok (.ireturn, 1) := by decide +kernel
theorem dX3_copyFrom_0 : decode cX3_copyFrom 0 = .ok (.aload_n 0, 1) := by decide +kernel
theorem dX3_copyFrom_1 : decode cX3_copyFrom 1 = .ok (.aload_n 1, 1) := by decide +kernel
theorem dX3_copyFrom_2 : decode cX3_copyFrom 2 = .ok (.getfield 26, 3) := by decide +kernel
theorem dX3_copyFrom_5 : decode cX3_copyFrom 5 = .ok (.putfield 26, 3) := by decide +kernel
theorem dX3_copyFrom_8 : decode cX3_copyFrom 8 = .ok (.aload_n 0, 1) := by decide +kernel
theorem dX3_copyFrom_9 : decode cX3_copyFrom 9 = .ok (.aload_n 1, 1) := by decide +kernel
theorem dX3_copyFrom_10 : decode cX3_copyFrom 10 = .ok (.getfield 29, 3) := by decide +kernel
theorem dX3_copyFrom_13 : decode cX3_copyFrom 13 = .ok (.putfield 29, 3) := by decide +kernel
theorem dX3_copyFrom_16 : decode cX3_copyFrom 16 = .ok (.aload_n 0, 1) := by decide +kernel
theorem dX3_copyFrom_17 : decode cX3_copyFrom 17 = .ok (.aload_n 1, 1) := by decide +kernel
theorem dX3_copyFrom_18 : decode cX3_copyFrom 18 = .ok (.getfield 36, 3) := by decide +kernel
theorem dX3_copyFrom_21 : decode cX3_copyFrom 21 = .ok (.putfield 36, 3) := by decide +kernel
theorem dX3_copyFrom_24 : decode cX3_copyFrom 24 = .ok (.aload_n 0, 1) := by decide +kernel
theorem dX3_copyFrom_25 : decode cX3_copyFrom 25 = .ok (.aload_n 1, 1) := by decide +kernel
theorem dX3_copyFrom_26 : decode cX3_copyFrom 26 = .ok (.getfield 39, 3) := by decide +kernel
theorem dX3_copyFrom_29 : decode cX3_copyFrom 29 = .ok (.putfield 39, 3) := by decide +kernel
theorem dX3_copyFrom_32 : decode cX3_copyFrom 32 = .ok (.aload_n 0, 1) := by decide +kernel
theorem dX3_copyFrom_33 : decode cX3_copyFrom 33 = .ok (.aload_n 1, 1) := by decide +kernel
theorem dX3_copyFrom_34 : decode cX3_copyFrom 34 = .ok (.getfield 42, 3) := by decide +kernel
theorem dX3_copyFrom_37 : decode cX3_copyFrom 37 = .ok (.putfield 42, 3) := by decide +kernel
theorem dX3_copyFrom_40 : decode cX3_copyFrom 40 = .ok (.aload_n 0, 1) := by decide +kernel
theorem dX3_copyFrom_41 : decode cX3_copyFrom 41 = .ok (.aload_n 1, 1) := by decide +kernel
theorem dX3_copyFrom_42 : decode cX3_copyFrom 42 = .ok (.getfield 32, 3) := by decide +kernel
theorem dX3_copyFrom_45 : decode cX3_copyFrom 45 = .ok (.putfield 32, 3) := by decide +kernel
theorem dX3_copyFrom_48 : decode cX3_copyFrom 48 = .ok (.aload_n 0, 1) := by decide +kernel
theorem dX3_copyFrom_49 : decode cX3_copyFrom 49 = .ok (.aload_n 1, 1) := by decide +kernel
theorem dX3_copyFrom_50 : decode cX3_copyFrom 50 = .ok (.getfield 45, 3) := by decide +kernel
theorem dX3_copyFrom_53 : decode cX3_copyFrom 53 = .ok (.putfield 45, 3) := by decide +kernel
theorem dX3_copyFrom_56 : decode cX3_copyFrom 56 = .ok (.aload_n 0, 1) := by decide +kernel
theorem dX3_copyFrom_57 : decode cX3_copyFrom 57 = .ok (.aload_n 1, 1) := by decide +kernel
theorem dX3_copyFrom_58 : decode cX3_copyFrom 58 = .ok (.getfield 48, 3) := by decide +kernel
theorem dX3_copyFrom_61 : decode cX3_copyFrom 61 = .ok (.putfield 48, 3) := by decide +kernel
theorem dX3_copyFrom_64 : decode cX3_copyFrom 64 = .ok (.iconst 1, 1) := by decide +kernel
theorem dX3_copyFrom_65 : decode cX3_copyFrom 65 = .ok (.istore_n 2, 1) := by decide +kernel
theorem dX3_copyFrom_66 : decode cX3_copyFrom 66 = .ok (.iload_n 2, 1) := by decide +kernel
theorem dX3_copyFrom_67 : decode cX3_copyFrom 67 = .ok (.bipush 12, 2) := by decide +kernel
theorem dX3_copyFrom_69 : decode cX3_copyFrom 69 = .ok (.if_icmp .gt 21, 3) := by decide +kernel
theorem dX3_copyFrom_72 : decode cX3_copyFrom 72 = .ok (.aload_n 0, 1) := by decide +kernel
theorem dX3_copyFrom_73 : decode cX3_copyFrom 73 = .ok (.getfield 9, 3) := by decide +kernel
theorem dX3_copyFrom_76 : decode cX3_copyFrom 76 = .ok (.iload_n 2, 1) := by decide +kernel
theorem dX3_copyFrom_77 : decode cX3_copyFrom 77 = .ok (.aload_n 1, 1) := by decide +kernel
theorem dX3_copyFrom_78 : decode cX3_copyFrom 78 = .ok (.getfield 9, 3) := by decide +kernel
theorem dX3_copyFrom_81 : decode cX3_copyFrom 81 = .ok (.iload_n 2, 1) := by decide +kernel
theorem dX3_copyFrom_82 : decode cX3_copyFrom 82 = .ok (.iaload, 1) := by decide +kernel
theorem dX3_copyFrom_83 : decode cX3_copyFrom 83 = .ok (.iastore, 1) := by decide +kernel
theorem dX3_copyFrom_84 : decode cX3_copyFrom 84 = .ok (.iinc 2 1, 3) := by decide +kernel
theorem dX3_copyFrom_87 : decode cX3_copyFrom 87 = .ok (.goto (-21), 3) := by decide +kernel
theorem dX3_copyFrom_90 : decode cX3_copyFrom 90 = .ok (.return_, 1) := by decide +kernel
theorem dX4_init_0 : decode cX4_init 0 = .ok (.aload_n 0, 1) := by decide +kernel
theorem dX4_init_1 : decode cX4_init 1 = .ok (.invokespecial 3, 3) := by decide +kernel
theorem dX4_init_4 : decode cX4_init 4 = .ok (.aload_n 0, 1) := by decide +kernel
theorem dX4_init_5 : decode cX4_init 5 = .ok (.bipush 13, 2) := by decide +kernel
theorem dX4_init_7 : decode cX4_init 7 = .ok (.bipush 13, 2) := by decide +kernel
theorem dX4_init_9 : decode cX4_init 9 = .ok (.multianewarray 9 2, 4) := by decide +kernel
theorem dX4_init_13 : decode cX4_init 13 = .ok (.putfield 11, 3) := by decide +kernel
theorem dX4_init_16 : decode cX4_init 16 = .ok (.aload_n 0, 1) := by decide +kernel
theorem dX4_init_17 : decode cX4_init 17 = .ok (.bipush 13, 2) := by decide +kernel
theorem dX4_init_19 : decode cX4_init 19 = .ok (.bipush 13, 2) := by decide +kernel
theorem dX4_init_21 : decode cX4_init 21 = .ok (.multianewarray 9 2, 4) := by decide +kernel
theorem dX4_init_25 : decode cX4_init 25 = .ok (.putfield 16, 3) := by decide +kernel
theorem dX4_init_28 : decode cX4_init 28 = .ok (.return_, 1) := by decide +kernel
theorem dX4_plan_0 : decode cX4_plan 0 = .ok (.iconst 0, 1) := by decide +kernel
theorem dX4_plan_1 : decode cX4_plan 1 = .ok (.istore 4, 2) := by decide +kernel
theorem dX4_plan_3 : decode cX4_plan 3 = .ok (.iload 4, 2) := by decide +kernel
theorem dX4_plan_5 : decode cX4_plan 5 = .ok (.iload_n 3, 1) := by decide +kernel
theorem dX4_plan_6 : decode cX4_plan 6 = .ok (.iload_n 2, 1) := by decide +kernel
theorem dX4_plan_7 : decode cX4_plan 7 = .ok (.isub, 1) := by decide +kernel
theorem dX4_plan_8 : decode cX4_plan 8 = .ok (.if_icmp .gt 39, 3) := by decide +kernel
theorem dX4_plan_11 : decode cX4_plan 11 = .ok (.iload_n 2, 1) := by decide +kernel
theorem dX4_plan_12 : decode cX4_plan 12 = .ok (.istore 5, 2) := by decide +kernel
theorem dX4_plan_14 : decode cX4_plan 14 = .ok (.iload 5, 2) := by decide +kernel
theorem dX4_plan_16 : decode cX4_plan 16 = .ok (.iload 4, 2) := by decide +kernel
theorem dX4_plan_18 : decode cX4_plan 18 = .ok (.iadd, 1) := by decide +kernel
theorem dX4_plan_19 : decode cX4_plan 19 = .ok (.iload_n 3, 1) := by decide +kernel
theorem dX4_plan_20 : decode cX4_plan 20 = .ok (.if_icmp .gt 21, 3) := by decide +kernel
theorem dX4_plan_23 : decode cX4_plan 23 = .ok (.aload_n 0, 1) := by decide +kernel
theorem dX4_plan_24 : decode cX4_plan 24 = .ok (.aload_n 1, 1) := by decide +kernel
theorem dX4_plan_25 : decode cX4_plan 25 = .ok (.iload 5, 2) := by decide +kernel
theorem dX4_plan_27 : decode cX4_plan 27 = .ok (.iload 5, 2) := by decide +kernel
theorem dX4_plan_29 : decode cX4_plan 29 = .ok (.iload 4, 2) := by decide +kernel
theorem dX4_plan_31 : decode cX4_plan 31 = .ok (.iadd, 1) := by decide +kernel
theorem dX4_plan_32 : decode cX4_plan 32 = .ok (.invokevirtual 19, 3) := by decide +kernel
theorem dX4_plan_35 : decode cX4_plan 35 = .ok (.iinc 5 1, 3) := by decide +kernel
theorem dX4_plan_38 : decode cX4_plan 38 = .ok (.goto (-24), 3) := by decide +kernel
theorem dX4_plan_41 : decode cX4_plan 41 = .ok (.iinc 4 1, 3) := by decide +kernel
theorem dX4_plan_44 : decode cX4_plan 44 = .ok (.goto (-41), 3) := by decide +kernel
theorem dX4_plan_47 : decode cX4_plan 47 = .ok (.return_, 1) := by decide +kernel
theorem dX4_planRun_0 : decode cX4_planRun 0 = .ok (.iconst 0, 1) := by decide +kernel
theorem dX4_planRun_1 : decode cX4_planRun 1 = .ok (.istore 4, 2) := by decide +kernel
theorem dX4_planRun_3 : decode cX4_planRun 3 = .ok (.iconst (-1), 1) := by decide +kernel
theorem dX4_planRun_4 : decode cX4_planRun 4 = .ok (.istore 5, 2) := by decide +kernel
theorem dX4_planRun_6 : decode cX4_planRun 6 = .ok (.aload_n 1, 1) := by decide +kernel
theorem dX4_planRun_7 : decode cX4_planRun 7 = .ok (.iload_n 3, 1) := by decide +kernel
theorem dX4_planRun_8 : decode cX4_planRun 8 = .ok (.iaload, 1) := by decide +kernel
theorem dX4_planRun_9 : decode cX4_planRun 9 = .ok (.istore 6, 2) := by decide +kernel
theorem dX4_planRun_11 : decode cX4_planRun 11 = .ok (.iload_n 2, 1) := by decide +kernel
theorem dX4_planRun_12 : decode cX4_planRun 12 = .ok (.istore 7, 2) := by decide +kernel
theorem dX4_planRun_14 : decode cX4_planRun 14 = .ok (.iload 7, 2) := by decide +kernel
theorem dX4_planRun_16 : decode cX4_planRun 16 = .ok (.iload_n 3, 1) := by decide +kernel
theorem dX4_planRun_17 : decode cX4_planRun 17 = .ok (.if_icmp .ge 62, 3) := by decide +kernel
theorem dX4_planRun_20 : decode cX4_planRun 20 = .ok (.aload_n 0, 1) := by decide +kernel
theorem dX4_planRun_21 : decode cX4_planRun 21 = .ok (.getfield 11, 3) := by decide +kernel
theorem dX4_planRun_24 : decode cX4_planRun 24 = .ok (.iload_n 2, 1) := by decide +kernel
theorem dX4_planRun_25 : decode cX4_planRun 25 = .ok (.aaload, 1) := by decide +kernel
theorem dX4_planRun_26 : decode cX4_planRun 26 = .ok (.iload 7, 2) := by decide +kernel
theorem dX4_planRun_28 : decode cX4_planRun 28 = .ok (.iaload, 1) := by decide +kernel
theorem dX4_planRun_29 : decode cX4_planRun 29 = .ok (.aload_n 0, 1) := by decide +kernel
theorem dX4_planRun_30 : decode cX4_planRun 30 = .ok (.getfield 11, 3) := by decide +kernel
theorem dX4_planRun_33 : decode cX4_planRun 33 = .ok (.iload 7, 2) := by decide +kernel
theorem dX4_planRun_35 : decode cX4_planRun 35 = .ok (.iconst 1, 1) := by decide +kernel
theorem dX4_planRun_36 : decode cX4_planRun 36 = .ok (.iadd, 1) := by decide +kernel
theorem dX4_planRun_37 : decode cX4_planRun 37 = .ok (.aaload, 1) := by decide +kernel
theorem dX4_planRun_38 : decode cX4_planRun 38 = .ok (.iload_n 3, 1) := by decide +kernel
theorem dX4_planRun_39 : decode cX4_planRun 39 = .ok (.iaload, 1) := by decide +kernel
theorem dX4_planRun_40 : decode cX4_planRun 40 = .ok (.iadd, 1) := by decide +kernel
theorem dX4_planRun_41 : decode cX4_planRun 41 = .ok (.istore 8, 2) := by decide +kernel
theorem dX4_planRun_43 : decode cX4_planRun 43 = .ok (.iload 5, 2) := by decide +kernel
theorem dX4_planRun_45 : decode cX4_planRun 45 = .ok (.iconst (-1), 1) := by decide +kernel
theorem dX4_planRun_46 : decode cX4_planRun 46 = .ok (.if_icmp .eq 10, 3) := by decide +kernel
theorem dX4_planRun_49 : decode cX4_planRun 49 = .ok (.iload 8, 2) := by decide +kernel
theorem dX4_planRun_51 : decode cX4_planRun 51 = .ok (.iload 4, 2) := by decide +kernel
theorem dX4_planRun_53 : decode cX4_planRun 53 = .ok (.if_icmp .ge 11, 3) := by decide +kernel
theorem dX4_planRun_56 : decode cX4_planRun 56 = .ok (.iload 8, 2) := by decide +kernel
theorem dX4_planRun_58 : decode cX4_planRun 58 = .ok (.istore 4, 2) := by decide +kernel
theorem dX4_planRun_60 : decode cX4_planRun 60 = .ok (.iload 7, 2) := by decide +kernel
theorem dX4_planRun_62 : decode cX4_planRun 62 = .ok (.istore 5, 2) := by decide +kernel
theorem dX4_planRun_64 : decode cX4_planRun 64 = .ok (.iload 6, 2) := by decide +kernel
theorem dX4_planRun_66 : decode cX4_planRun 66 = .ok (.aload_n 1, 1) := by decide +kernel
theorem dX4_planRun_67 : decode cX4_planRun 67 = .ok (.iload 7, 2) := by decide +kernel
theorem dX4_planRun_69 : decode cX4_planRun 69 = .ok (.iaload, 1) := by decide +kernel
theorem dX4_planRun_70 : decode cX4_planRun 70 = .ok (.iadd, 1) := by decide +kernel
theorem dX4_planRun_71 : decode cX4_planRun 71 = .ok (.istore 6, 2) := by decide +kernel
theorem dX4_planRun_73 : decode cX4_planRun 73 = .ok (.iinc 7 1, 3) := by decide +kernel
theorem dX4_planRun_76 : decode cX4_planRun 76 = .ok (.goto (-62), 3) := by decide +kernel
theorem dX4_planRun_79 : decode cX4_planRun 79 = .ok (.aload_n 0, 1) := by decide +kernel
