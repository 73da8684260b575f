theorem dX7_test_21 : decode cX7_test 21 = .ok (.ldc 253, 2) := by decide +kernel
theorem dX7_test_23 : decode cX7_test 23 = .ok (.invokespecial 74, 3) := by decide +kernel
theorem dX7_test_26 : decode cX7_test 26 = .ok (.athrow, 1) := by decide +kernel
theorem dX7_test_27 : decode cX7_test 27 = .ok (.aload_n 3, 1) := by decide +kernel
theorem dX7_test_28 : decode cX7_test 28 = .ok (.invokevirtual 223, 3) := by decide +kernel
theorem dX7_test_31 : decode cX7_test 31 = .ok (.ifCond .ne 13, 3) := by decide +kernel
theorem dX7_test_34 : decode cX7_test 34 = .ok (.new 43, 3) := by decide +kernel
theorem dX7_test_37 : decode cX7_test 37 = .ok (.dup, 1) := by decide +kernel
theorem dX7_test_38 : decode cX7_test 38 = .ok (.ldc 235, 2) := by decide +kernel
theorem dX7_test_40 : decode cX7_test 40 = .ok (.invokespecial 47, 3) := by decide +kernel
theorem dX7_test_43 : decode cX7_test 43 = .ok (.athrow, 1) := by decide +kernel
theorem dX7_test_44 : decode cX7_test 44 = .ok (.aload_n 3, 1) := by decide +kernel
theorem dX7_test_45 : decode cX7_test 45 = .ok (.getfield 237, 3) := by decide +kernel
theorem dX7_test_48 : decode cX7_test 48 = .ok (.iload_n 2, 1) := by decide +kernel
theorem dX7_test_49 : decode cX7_test 49 = .ok (.if_icmp .gt 7, 3) := by decide +kernel
theorem dX7_test_52 : decode cX7_test 52 = .ok (.iconst 1, 1) := by decide +kernel
theorem dX7_test_53 : decode cX7_test 53 = .ok (.goto 4, 3) := by decide +kernel
theorem dX7_test_56 : decode cX7_test 56 = .ok (.iconst 0, 1) := by decide +kernel
theorem dX7_test_57 : decode cX7_test 57 = .ok (.ireturn, 1) := by decide +kernel
theorem dX7_testCost_0 : decode cX7_testCost 0 = .ok (.aload_n 0, 1) := by decide +kernel
theorem dX7_testCost_1 : decode cX7_testCost 1 = .ok (.iload_n 1, 1) := by decide +kernel
theorem dX7_testCost_2 : decode cX7_testCost 2 = .ok (.iload_n 2, 1) := by decide +kernel
theorem dX7_testCost_3 : decode cX7_testCost 3 = .ok (.iload_n 3, 1) := by decide +kernel
theorem dX7_testCost_4 : decode cX7_testCost 4 = .ok (.invokevirtual 255, 3) := by decide +kernel
theorem dX7_testCost_7 : decode cX7_testCost 7 = .ok (.aload_n 0, 1) := by decide +kernel
theorem dX7_testCost_8 : decode cX7_testCost 8 = .ok (.getfield 35, 3) := by decide +kernel
theorem dX7_testCost_11 : decode cX7_testCost 11 = .ok (.getfield 259, 3) := by decide +kernel
theorem dX7_testCost_14 : decode cX7_testCost 14 = .ok (.iload_n 2, 1) := by decide +kernel
theorem dX7_testCost_15 : decode cX7_testCost 15 = .ok (.aaload, 1) := by decide +kernel
theorem dX7_testCost_16 : decode cX7_testCost 16 = .ok (.iload_n 3, 1) := by decide +kernel
theorem dX7_testCost_17 : decode cX7_testCost 17 = .ok (.iaload, 1) := by decide +kernel
theorem dX7_testCost_18 : decode cX7_testCost 18 = .ok (.ireturn, 1) := by decide +kernel
theorem dX7_bestTest_0 : decode cX7_bestTest 0 = .ok (.aload_n 0, 1) := by decide +kernel
theorem dX7_bestTest_1 : decode cX7_bestTest 1 = .ok (.iload_n 1, 1) := by decide +kernel
theorem dX7_bestTest_2 : decode cX7_bestTest 2 = .ok (.iload_n 2, 1) := by decide +kernel
theorem dX7_bestTest_3 : decode cX7_bestTest 3 = .ok (.iload_n 3, 1) := by decide +kernel
theorem dX7_bestTest_4 : decode cX7_bestTest 4 = .ok (.invokevirtual 255, 3) := by decide +kernel
theorem dX7_bestTest_7 : decode cX7_bestTest 7 = .ok (.aload_n 0, 1) := by decide +kernel
theorem dX7_bestTest_8 : decode cX7_bestTest 8 = .ok (.getfield 35, 3) := by decide +kernel
theorem dX7_bestTest_11 : decode cX7_bestTest 11 = .ok (.getfield 263, 3) := by decide +kernel
theorem dX7_bestTest_14 : decode cX7_bestTest 14 = .ok (.iload_n 2, 1) := by decide +kernel
theorem dX7_bestTest_15 : decode cX7_bestTest 15 = .ok (.aaload, 1) := by decide +kernel
theorem dX7_bestTest_16 : decode cX7_bestTest 16 = .ok (.iload_n 3, 1) := by decide +kernel
theorem dX7_bestTest_17 : decode cX7_bestTest 17 = .ok (.iaload, 1) := by decide +kernel
theorem dX7_bestTest_18 : decode cX7_bestTest 18 = .ok (.ireturn, 1) := by decide +kernel
theorem dX7_testsNeeded_0 : decode cX7_testsNeeded 0 = .ok (.aload_n 0, 1) := by decide +kernel
theorem dX7_testsNeeded_1 : decode cX7_testsNeeded 1 = .ok (.iload_n 1, 1) := by decide +kernel
theorem dX7_testsNeeded_2 : decode cX7_testsNeeded 2 = .ok (.invokevirtual 57, 3) := by decide +kernel
theorem dX7_testsNeeded_5 : decode cX7_testsNeeded 5 = .ok (.astore_n 2, 1) := by decide +kernel
theorem dX7_testsNeeded_6 : decode cX7_testsNeeded 6 = .ok (.aload_n 2, 1) := by decide +kernel
theorem dX7_testsNeeded_7 : decode cX7_testsNeeded 7 = .ok (.invokevirtual 223, 3) := by decide +kernel
theorem dX7_testsNeeded_10 : decode cX7_testsNeeded 10 = .ok (.ifCond .ne 13, 3) := by decide +kernel
theorem dX7_testsNeeded_13 : decode cX7_testsNeeded 13 = .ok (.new 43, 3) := by decide +kernel
theorem dX7_testsNeeded_16 : decode cX7_testsNeeded 16 = .ok (.dup, 1) := by decide +kernel
theorem dX7_testsNeeded_17 : decode cX7_testsNeeded 17 = .ok (.ldc 235, 2) := by decide +kernel
theorem dX7_testsNeeded_19 : decode cX7_testsNeeded 19 = .ok (.invokespecial 47, 3) := by decide +kernel
theorem dX7_testsNeeded_22 : decode cX7_testsNeeded 22 = .ok (.athrow, 1) := by decide +kernel
theorem dX7_testsNeeded_23 : decode cX7_testsNeeded 23 = .ok (.aload_n 0, 1) := by decide +kernel
theorem dX7_testsNeeded_24 : decode cX7_testsNeeded 24 = .ok (.getfield 35, 3) := by decide +kernel
theorem dX7_testsNeeded_27 : decode cX7_testsNeeded 27 = .ok (.aload_n 2, 1) := by decide +kernel
theorem dX7_testsNeeded_28 : decode cX7_testsNeeded 28 = .ok (.getfield 250, 3) := by decide +kernel
theorem dX7_testsNeeded_31 : decode cX7_testsNeeded 31 = .ok (.iconst 1, 1) := by decide +kernel
theorem dX7_testsNeeded_32 : decode cX7_testsNeeded 32 = .ok (.bipush 12, 2) := by decide +kernel
theorem dX7_testsNeeded_34 : decode cX7_testsNeeded 34 = .ok (.invokevirtual 266, 3) := by decide +kernel
theorem dX7_testsNeeded_37 : decode cX7_testsNeeded 37 = .ok (.aload_n 0, 1) := by decide +kernel
theorem dX7_testsNeeded_38 : decode cX7_testsNeeded 38 = .ok (.getfield 35, 3) := by decide +kernel
theorem dX7_testsNeeded_41 : decode cX7_testsNeeded 41 = .ok (.aload_n 2, 1) := by decide +kernel
theorem dX7_testsNeeded_42 : decode cX7_testsNeeded 42 = .ok (.getfield 237, 3) := by decide +kernel
theorem dX7_testsNeeded_45 : decode cX7_testsNeeded 45 = .ok (.invokevirtual 270, 3) := by decide +kernel
theorem dX7_testsNeeded_48 : decode cX7_testsNeeded 48 = .ok (.ireturn, 1) := by decide +kernel
theorem dX7_undo_0 : decode cX7_undo 0 = .ok (.aload_n 0, 1) := by decide +kernel
theorem dX7_undo_1 : decode cX7_undo 1 = .ok (.getfield 28, 3) := by decide +kernel
theorem dX7_undo_4 : decode cX7_undo 4 = .ok (.getfield 273, 3) := by decide +kernel
theorem dX7_undo_7 : decode cX7_undo 7 = .ok (.ifCond .ne 14, 3) := by decide +kernel
theorem dX7_undo_10 : decode cX7_undo 10 = .ok (.new 43, 3) := by decide +kernel
theorem dX7_undo_13 : decode cX7_undo 13 = .ok (.dup, 1) := by decide +kernel
theorem dX7_undo_14 : decode cX7_undo 14 = .ok (.ldc_w 276, 3) := by decide +kernel
theorem dX7_undo_17 : decode cX7_undo 17 = .ok (.invokespecial 47, 3) := by decide +kernel
theorem dX7_undo_20 : decode cX7_undo 20 = .ok (.athrow, 1) := by decide +kernel
theorem dX7_undo_21 : decode cX7_undo 21 = .ok (.aload_n 0, 1) := by decide +kernel
theorem dX7_undo_22 : decode cX7_undo 22 = .ok (.getfield 28, 3) := by decide +kernel
theorem dX7_undo_25 : decode cX7_undo 25 = .ok (.aload_n 0, 1) := by decide +kernel
theorem dX7_undo_26 : decode cX7_undo 26 = .ok (.getfield 10, 3) := by decide +kernel
theorem dX7_undo_29 : decode cX7_undo 29 = .ok (.invokevirtual 278, 3) := by decide +kernel
theorem dX7_undo_32 : decode cX7_undo 32 = .ok (.aload_n 0, 1) := by decide +kernel
theorem dX7_undo_33 : decode cX7_undo 33 = .ok (.getfield 28, 3) := by decide +kernel
theorem dX7_undo_36 : decode cX7_undo 36 = .ok (.getfield 273, 3) := by decide +kernel
theorem dX7_undo_39 : decode cX7_undo 39 = .ok (.ireturn, 1) := by decide +kernel
theorem dX7_digest_0 : decode cX7_digest 0 = .ok (.ldc2_w 281, 3) := by decide +kernel
theorem dX7_digest_3 : decode cX7_digest 3 = .ok (.aload_n 0, 1) := by decide +kernel
theorem dX7_digest_4 : decode cX7_digest 4 = .ok (.getfield 10, 3) := by decide +kernel
theorem dX7_digest_7 : decode cX7_digest 7 = .ok (.getfield 39, 3) := by decide +kernel
theorem dX7_digest_10 : decode cX7_digest 10 = .ok (.i2l, 1) := by decide +kernel
theorem dX7_digest_11 : decode cX7_digest 11 = .ok (.invokestatic 283, 3) := by decide +kernel
theorem dX7_digest_14 : decode cX7_digest 14 = .ok (.lstore_n 1, 1) := by decide +kernel
theorem dX7_digest_15 : decode cX7_digest 15 = .ok (.iconst 0, 1) := by decide +kernel
theorem dX7_digest_16 : decode cX7_digest 16 = .ok (.istore_n 3, 1) := by decide +kernel
theorem dX7_digest_17 : decode cX7_digest 17 = .ok (.iload_n 3, 1) := by decide +kernel
theorem dX7_digest_18 : decode cX7_digest 18 = .ok (.iconst 5, 1) := by decide +kernel
theorem dX7_digest_19 : decode cX7_digest 19 = .ok (.if_icmp .ge 32, 3) := by decide +kernel
theorem dX7_digest_22 : decode cX7_digest 22 = .ok (.aload_n 0, 1) := by decide +kernel
theorem dX7_digest_23 : decode cX7_digest 23 = .ok (.getfield 10, 3) := by decide +kernel
theorem dX7_digest_26 : decode cX7_digest 26 = .ok (.iload_n 3, 1) := by decide +kernel
theorem dX7_digest_27 : decode cX7_digest 27 = .ok (.invokevirtual 147, 3) := by decide +kernel
theorem dX7_digest_30 : decode cX7_digest 30 = .ok (.astore 4, 2) := by decide +kernel
theorem dX7_digest_32 : decode cX7_digest 32 = .ok (.aload 4, 2) := by decide +kernel
theorem dX7_digest_34 : decode cX7_digest 34 = .ok (.ifnull 11, 3) := by decide +kernel
theorem dX7_digest_37 : decode cX7_digest 37 = .ok (.aload_n 0, 1) := by decide +kernel
theorem dX7_digest_38 : decode cX7_digest 38 = .ok (.lload_n 1, 1) := by decide +kernel
theorem dX7_digest_39 : decode cX7_digest 39 = .ok (.aload 4, 2) := by decide +kernel
theorem dX7_digest_41 : decode cX7_digest 41 = .ok (.invokevirtual 287, 3) := by decide +kernel
theorem dX7_digest_44 : decode cX7_digest 44 = .ok (.lstore_n 1, 1) := by decide +kernel
theorem dX7_digest_45 : decode cX7_digest 45 = .ok (.iinc 3 1, 3) := by decide +kernel
theorem dX7_digest_48 : decode cX7_digest 48 = .ok (.goto (-31), 3) := by decide +kernel
theorem dX7_digest_51 : decode cX7_digest 51 = .ok (.lload_n 1, 1) := by decide +kernel
theorem dX7_digest_52 : decode cX7_digest 52 = .ok (.aload_n 0, 1) := by decide +kernel
theorem dX7_digest_53 : decode cX7_digest 53 = .ok (.getfield 10, 3) := by decide +kernel
theorem dX7_digest_56 : decode cX7_digest 56 = .ok (.getfield 75, 3) := by decide +kernel
theorem dX7_digest_59 : decode cX7_digest 59 = .ok (.i2l, 1) := by decide +kernel
theorem dX7_digest_60 : decode cX7_digest 60 = .ok (.invokestatic 283, 3) := by decide +kernel
theorem dX7_digest_63 : decode cX7_digest 63 = .ok (.lstore_n 1, 1) := by decide +kernel
theorem dX7_digest_64 : decode cX7_digest 64 = .ok (.iconst 0, 1) := by decide +kernel
theorem dX7_digest_65 : decode cX7_digest 65 = .ok (.istore_n 3, 1) := by decide +kernel
theorem dX7_digest_66 : decode cX7_digest 66 = .ok (.iload_n 3, 1) := by decide +kernel
theorem dX7_digest_67 : decode cX7_digest 67 = .ok (.bipush 16, 2) := by decide +kernel
theorem dX7_digest_69 : decode cX7_digest 69 = .ok (.if_icmp .ge 32, 3) := by decide +kernel
theorem dX7_digest_72 : decode cX7_digest 72 = .ok (.aload_n 0, 1) := by decide +kernel
theorem dX7_digest_73 : decode cX7_digest 73 = .ok (.getfield 10, 3) := by decide +kernel
theorem dX7_digest_76 : decode cX7_digest 76 = .ok (.iload_n 3, 1) := by decide +kernel
theorem dX7_digest_77 : decode cX7_digest 77 = .ok (.invokevirtual 291, 3) := by decide +kernel
theorem dX7_digest_80 : decode cX7_digest 80 = .ok (.astore 4, 2) := by decide +kernel
theorem dX7_digest_82 : decode cX7_digest 82 = .ok (.aload 4, 2) := by decide +kernel
theorem dX7_digest_84 : decode cX7_digest 84 = .ok (.ifnull 11, 3) := by decide +kernel
theorem dX7_digest_87 : decode cX7_digest 87 = .ok (.aload_n 0, 1) := by decide +kernel
theorem dX7_digest_88 : decode cX7_digest 88 = .ok (.lload_n 1, 1) := by decide +kernel
theorem dX7_digest_89 : decode cX7_digest 89 = .ok (.aload 4, 2) := by decide +kernel
theorem dX7_digest_91 : decode cX7_digest 91 = .ok (.invokevirtual 294, 3) := by decide +kernel
theorem dX7_digest_94 : decode cX7_digest 94 = .ok (.lstore_n 1, 1) := by decide +kernel
theorem dX7_digest_95 : decode cX7_digest 95 = .ok (.iinc 3 1, 3) := by decide +kernel
theorem dX7_digest_98 : decode cX7_digest 98 = .ok (.goto (-32), 3) := by decide +kernel
theorem dX7_digest_101 : decode cX7_digest 101 = .ok (.lload_n 1, 1) := by decide +kernel
theorem dX7_digest_102 : decode cX7_digest 102 = .ok (.aload_n 0, 1) := by decide +kernel
theorem dX7_digest_103 : decode cX7_digest 103 = .ok (.getfield 10, 3) := by decide +kernel
theorem dX7_digest_106 : decode cX7_digest 106 = .ok (.getfield 177, 3) := by decide +kernel
theorem dX7_digest_109 : decode cX7_digest 109 = .ok (.i2l, 1) := by decide +kernel
theorem dX7_digest_110 : decode cX7_digest 110 = .ok (.invokestatic 283, 3) := by decide +kernel
theorem dX7_digest_113 : decode cX7_digest 113 = .ok (.lstore_n 1, 1) := by decide +kernel
theorem dX7_digest_114 : decode cX7_digest 114 = .ok (.iconst 0, 1) := by decide +kernel
theorem dX7_digest_115 : decode cX7_digest 115 = .ok (.istore_n 3, 1) := by decide +kernel
theorem dX7_digest_116 : decode cX7_digest 116 = .ok (.iload_n 3, 1) := by decide +kernel
theorem dX7_digest_117 : decode cX7_digest 117 = .ok (.bipush 6, 2) := by decide +kernel
theorem dX7_digest_119 : decode cX7_digest 119 = .ok (.if_icmp .ge 24, 3) := by decide +kernel
theorem dX7_digest_122 : decode cX7_digest 122 = .ok (.lload_n 1, 1) := by decide +kernel
theorem dX7_digest_123 : decode cX7_digest 123 = .ok (.aload_n 0, 1) := by decide +kernel
theorem dX7_digest_124 : decode cX7_digest 124 = .ok (.getfield 10, 3) := by decide +kernel
theorem dX7_digest_127 : decode cX7_digest 127 = .ok (.getfield 187, 3) := by decide +kernel
theorem dX7_digest_130 : decode cX7_digest 130 = .ok (.iload_n 3, 1) := by decide +kernel
theorem dX7_digest_131 : decode cX7_digest 131 = .ok (.iaload, 1) := by decide +kernel
theorem dX7_digest_132 : decode cX7_digest 132 = .ok (.i2l, 1) := by decide +kernel
theorem dX7_digest_133 : decode cX7_digest 133 = .ok (.invokestatic 283, 3) := by decide +kernel
theorem dX7_digest_136 : decode cX7_digest 136 = .ok (.lstore_n 1, 1) := by decide +kernel
theorem dX7_digest_137 : decode cX7_digest 137 = .ok (.iinc 3 1, 3) := by decide +kernel
theorem dX7_digest_140 : decode cX7_digest 140 = .ok (.goto (-24), 3) := by decide +kernel
theorem dX7_digest_143 : decode cX7_digest 143 = .ok (.lload_n 1, 1) := by decide +kernel
theorem dX7_digest_144 : decode cX7_digest 144 = .ok (.aload_n 0, 1) := by decide +kernel
theorem dX7_digest_145 : decode cX7_digest 145 = .ok (.getfield 28, 3) := by decide +kernel
theorem dX7_digest_148 : decode cX7_digest 148 = .ok (.getfield 273, 3) := by decide +kernel
theorem dX7_digest_151 : decode cX7_digest 151 = .ok (.i2l, 1) := by decide +kernel
theorem dX7_digest_152 : decode cX7_digest 152 = .ok (.invokestatic 283, 3) := by decide +kernel
theorem dX7_digest_155 : decode cX7_digest 155 = .ok (.lreturn, 1) := by decide +kernel
theorem dX7_knownLoop_0 : decode cX7_knownLoop 0 = .ok (.aload_n 0, 1) := by decide +kernel
theorem dX7_knownLoop_1 : decode cX7_knownLoop 1 = .ok (.getfield 10, 3) := by decide +kernel
theorem dX7_knownLoop_4 : decode cX7_knownLoop 4 = .ok (.iload_n 1, 1) := by decide +kernel
theorem dX7_knownLoop_5 : decode cX7_knownLoop 5 = .ok (.invokevirtual 147, 3) := by decide +kernel
theorem dX7_knownLoop_8 : decode cX7_knownLoop 8 = .ok (.astore_n 2, 1) := by decide +kernel
theorem dX7_knownLoop_9 : decode cX7_knownLoop 9 = .ok (.aload_n 2, 1) := by decide +kernel
theorem dX7_knownLoop_10 : decode cX7_knownLoop 10 = .ok (.ifnonnull 14, 3) := by decide +kernel
theorem dX7_knownLoop_13 : decode cX7_knownLoop 13 = .ok (.new 218, 3) := by decide +kernel
theorem dX7_knownLoop_16 : decode cX7_knownLoop 16 = .ok (.dup, 1) := by decide +kernel
theorem dX7_knownLoop_17 : decode cX7_knownLoop 17 = .ok (.ldc_w 298, 3) := by decide +kernel
theorem dX7_knownLoop_20 : decode cX7_knownLoop 20 = .ok (.invokespecial 222, 3) := by decide +kernel
theorem dX7_knownLoop_23 : decode cX7_knownLoop 23 = .ok (.athrow, 1) := by decide +kernel
theorem dX7_knownLoop_24 : decode cX7_knownLoop 24 = .ok (.aload_n 2, 1) := by decide +kernel
theorem dX7_knownLoop_25 : decode cX7_knownLoop 25 = .ok (.areturn, 1) := by decide +kernel
theorem dX7_knownSubscriber_0 : decode cX7_knownSubscriber 0 = .ok (.aload_n 0, 1) := by decide +kernel
theorem dX7_knownSubscriber_1 : decode cX7_knownSubscriber 1 = .ok (.getfield 10, 3) := by decide +kernel
theorem dX7_knownSubscriber_4 : decode cX7_knownSubscriber 4 = .ok (.iload_n 1, 1) := by decide +kernel
theorem dX7_knownSubscriber_5 : decode cX7_knownSubscriber 5 = .ok (.invokevirtual 291, 3) := by decide +kernel
theorem dX7_knownSubscriber_8 : decode cX7_knownSubscriber 8 = .ok (.astore_n 2, 1) := by decide +kernel
theorem dX7_knownSubscriber_9 : decode cX7_knownSubscriber 9 = .ok (.aload_n 2, 1) := by decide +kernel
theorem dX7_knownSubscriber_10 : decode cX7_knownSubscriber 10 = .ok (.ifnonnull 14, 3) := by decide +kernel
theorem dX7_knownSubscriber_13 : decode cX7_knownSubscriber 13 = .ok (.new 218, 3) := by decide +kernel
theorem dX7_knownSubscriber_16 : decode cX7_knownSubscriber 16 = .ok (.dup, 1) := by decide +kernel
theorem dX7_knownSubscriber_17 : decode cX7_knownSubscriber 17 = .ok (.ldc_w 300, 3) := by decide +kernel
theorem dX7_knownSubscriber_20 : decode cX7_knownSubscriber 20 = .ok (.invokespecial 222, 3) := by decide +kernel
theorem dX7_knownSubscriber_23 : decode cX7_knownSubscriber 23 = .ok (.athrow, 1) := by decide +kernel
theorem dX7_knownSubscriber_24 : decode cX7_knownSubscriber 24 = .ok (.aload_n 2, 1) := by decide +kernel
theorem dX7_knownSubscriber_25 : decode cX7_knownSubscriber 25 = .ok (.areturn, 1) := by decide +kernel
theorem dX7_isSpan_0 : decode cX7_isSpan 0 = .ok (.iload_n 0, 1) := by decide +kernel
theorem dX7_isSpan_1 : decode cX7_isSpan 1 = .ok (.iconst 1, 1) := by decide +kernel
theorem dX7_isSpan_2 : decode cX7_isSpan 2 = .ok (.if_icmp .lt 13, 3) := by decide +kernel
theorem dX7_isSpan_5 : decode cX7_isSpan 5 = .ok (.iload_n 0, 1) := by decide +kernel
theorem dX7_isSpan_6 : decode cX7_isSpan 6 = .ok (.bipush 12, 2) := by decide +kernel
theorem dX7_isSpan_8 : decode cX7_isSpan 8 = .ok (.if_icmp .gt 7, 3) := by decide +kernel
theorem dX7_isSpan_11 : decode cX7_isSpan 11 = .ok (.iconst 1, 1) := by decide +kernel
theorem dX7_isSpan_12 : decode cX7_isSpan 12 = .ok (.goto 4, 3) := by decide +kernel
theorem dX7_isSpan_15 : decode cX7_isSpan 15 = .ok (.iconst 0, 1) := by decide +kernel
theorem dX7_isSpan_16 : decode cX7_isSpan 16 = .ok (.ireturn, 1) := by decide +kernel
theorem dX7_isSettable_0 : decode cX7_isSettable 0 = .ok (.iload_n 0, 1) := by decide +kernel
theorem dX7_isSettable_1 : decode cX7_isSettable 1 = .ok (.ifCond .ne 8, 3) := by decide +kernel
theorem dX7_isSettable_4 : decode cX7_isSettable 4 = .ok (.iload_n 1, 1) := by decide +kernel
theorem dX7_isSettable_5 : decode cX7_isSettable 5 = .ok (.invokestatic 65, 3) := by decide +kernel
theorem dX7_isSettable_8 : decode cX7_isSettable 8 = .ok (.ireturn, 1) := by decide +kernel
theorem dX7_isSettable_9 : decode cX7_isSettable 9 = .ok (.iload_n 0, 1) := by decide +kernel
theorem dX7_isSettable_10 : decode cX7_isSettable 10 = .ok (.iconst 1, 1) := by decide +kernel
theorem dX7_isSettable_11 : decode cX7_isSettable 11 = .ok (.if_icmp .ne 18, 3) := by decide +kernel
theorem dX7_isSettable_14 : decode cX7_isSettable 14 = .ok (.iload_n 1, 1) := by decide +kernel
theorem dX7_isSettable_15 : decode cX7_isSettable 15 = .ok (.ifCond .eq 8, 3) := by decide +kernel
theorem dX7_isSettable_18 : decode cX7_isSettable 18 = .ok (.iload_n 1, 1) := by decide +kernel
theorem dX7_isSettable_19 : decode cX7_isSettable 19 = .ok (.iconst 1, 1) := by decide +kernel
theorem dX7_isSettable_20 : decode cX7_isSettable 20 = .ok (.if_icmp .ne 7, 3) := by decide +kernel
theorem dX7_isSettable_23 : decode cX7_isSettable 23 = .ok (.iconst 1, 1) := by decide +kernel
theorem dX7_isSettable_24 : decode cX7_isSettable 24 = .ok (.goto 4, 3) := by decide +kernel
theorem dX7_isSettable_27 : decode cX7_isSettable 27 = .ok (.iconst 0, 1) := by decide +kernel
theorem dX7_isSettable_28 : decode cX7_isSettable 28 = .ok (.ireturn, 1) := by decide +kernel
theorem dX7_isSettable_29 : decode cX7_isSettable 29 = .ok (.iload_n 0, 1) := by decide +kernel
theorem dX7_isSettable_30 : decode cX7_isSettable 30 = .ok (.iconst 2, 1) := by decide +kernel
theorem dX7_isSettable_31 : decode cX7_isSettable 31 = .ok (.if_icmp .ne 17, 3) := by decide +kernel
theorem dX7_isSettable_34 : decode cX7_isSettable 34 = .ok (.iload_n 1, 1) := by decide +kernel
theorem dX7_isSettable_35 : decode cX7_isSettable 35 = .ok (.ifCond .lt 13, 3) := by decide +kernel
theorem dX7_isSettable_38 : decode cX7_isSettable 38 = .ok (.iload_n 1, 1) := by decide +kernel
theorem dX7_isSettable_39 : decode cX7_isSettable 39 = .ok (.bipush 99, 2) := by decide +kernel
theorem dX7_isSettable_41 : decode cX7_isSettable 41 = .ok (.if_icmp .gt 7, 3) := by decide +kernel
theorem dX7_isSettable_44 : decode cX7_isSettable 44 = .ok (.iconst 1, 1) := by decide +kernel
theorem dX7_isSettable_45 : decode cX7_isSettable 45 = .ok (.goto 4, 3) := by decide +kernel
theorem dX7_isSettable_48 : decode cX7_isSettable 48 = .ok (.iconst 0, 1) := by decide +kernel
theorem dX7_isSettable_49 : decode cX7_isSettable 49 = .ok (.ireturn, 1) := by decide +kernel
theorem dX7_mayTakeCode_0 : decode cX7_mayTakeCode 0 = .ok (.aload_n 0, 1) := by decide +kernel
theorem dX7_mayTakeCode_1 : decode cX7_mayTakeCode 1 = .ok (.getfield 10, 3) := by decide +kernel
theorem dX7_mayTakeCode_4 : decode cX7_mayTakeCode 4 = .ok (.aload_n 1, 1) := by decide +kernel
theorem dX7_mayTakeCode_5 : decode cX7_mayTakeCode 5 = .ok (.getfield 144, 3) := by decide +kernel
theorem dX7_mayTakeCode_8 : decode cX7_mayTakeCode 8 = .ok (.invokevirtual 147, 3) := by decide +kernel
theorem dX7_mayTakeCode_11 : decode cX7_mayTakeCode 11 = .ok (.astore_n 3, 1) := by decide +kernel
theorem dX7_mayTakeCode_12 : decode cX7_mayTakeCode 12 = .ok (.aload_n 3, 1) := by decide +kernel
theorem dX7_mayTakeCode_13 : decode cX7_mayTakeCode 13 = .ok (.ifnull 30, 3) := by decide +kernel
theorem dX7_mayTakeCode_16 : decode cX7_mayTakeCode 16 = .ok (.aload_n 3, 1) := by decide +kernel
theorem dX7_mayTakeCode_17 : decode cX7_mayTakeCode 17 = .ok (.invokevirtual 209, 3) := by decide +kernel
theorem dX7_mayTakeCode_20 : decode cX7_mayTakeCode 20 = .ok (.ifCond .ne 23, 3) := by decide +kernel
theorem dX7_mayTakeCode_23 : decode cX7_mayTakeCode 23 = .ok (.aload_n 0, 1) := by decide +kernel
theorem dX7_mayTakeCode_24 : decode cX7_mayTakeCode 24 = .ok (.getfield 10, 3) := by decide +kernel
theorem dX7_mayTakeCode_27 : decode cX7_mayTakeCode 27 = .ok (.aload_n 3, 1) := by decide +kernel
theorem dX7_mayTakeCode_28 : decode cX7_mayTakeCode 28 = .ok (.iload_n 2, 1) := by decide +kernel
theorem dX7_mayTakeCode_29 : decode cX7_mayTakeCode 29 = .ok (.aload_n 1, 1) := by decide +kernel
theorem dX7_mayTakeCode_30 : decode cX7_mayTakeCode 30 = .ok (.getfield 158, 3) := by decide +kernel
theorem dX7_mayTakeCode_33 : decode cX7_mayTakeCode 33 = .ok (.invokevirtual 78, 3) := by decide +kernel
theorem dX7_mayTakeCode_36 : decode cX7_mayTakeCode 36 = .ok (.ifCond .ne 7, 3) := by decide +kernel
theorem dX7_mayTakeCode_39 : decode cX7_mayTakeCode 39 = .ok (.iconst 1, 1) := by decide +kernel
theorem dX7_mayTakeCode_40 : decode cX7_mayTakeCode 40 = .ok (.goto 4, 3) := by decide +kernel
theorem dX7_mayTakeCode_43 : decode cX7_mayTakeCode 43 = .ok (.iconst 0, 1) := by decide +kernel
theorem dX7_mayTakeCode_44 : decode cX7_mayTakeCode 44 = .ok (.ireturn, 1) := by decide +kernel
theorem dX7_planTests_0 : decode cX7_planTests 0 = .ok (.aload_n 0, 1) := by decide +kernel
theorem dX7_planTests_1 : decode cX7_planTests 1 = .ok (.iload_n 1, 1) := by decide +kernel
theorem dX7_planTests_2 : decode cX7_planTests 2 = .ok (.invokevirtual 57, 3) := by decide +kernel
theorem dX7_planTests_5 : decode cX7_planTests 5 = .ok (.astore 4, 2) := by decide +kernel
theorem dX7_planTests_7 : decode cX7_planTests 7 = .ok (.iload_n 2, 1) := by decide +kernel
theorem dX7_planTests_8 : decode cX7_planTests 8 = .ok (.iconst 1, 1) := by decide +kernel
theorem dX7_planTests_9 : decode cX7_planTests 9 = .ok (.if_icmp .lt 14, 3) := by decide +kernel
theorem dX7_planTests_12 : decode cX7_planTests 12 = .ok (.iload_n 2, 1) := by decide +kernel
theorem dX7_planTests_13 : decode cX7_planTests 13 = .ok (.iload_n 3, 1) := by decide +kernel
theorem dX7_planTests_14 : decode cX7_planTests 14 = .ok (.if_icmp .gt 9, 3) := by decide +kernel
theorem dX7_planTests_17 : decode cX7_planTests 17 = .ok (.iload_n 3, 1) := by decide +kernel
theorem dX7_planTests_18 : decode cX7_planTests 18 = .ok (.bipush 12, 2) := by decide +kernel
theorem dX7_planTests_20 : decode cX7_planTests 20 = .ok (.if_icmp .le 14, 3) := by decide +kernel
theorem dX7_planTests_23 : decode cX7_planTests 23 = .ok (.new 70, 3) := by decide +kernel
theorem dX7_planTests_26 : decode cX7_planTests 26 = .ok (.dup, 1) := by decide +kernel
theorem dX7_planTests_27 : decode cX7_planTests 27 = .ok (.ldc_w 302, 3) := by decide +kernel
theorem dX7_planTests_30 : decode cX7_planTests 30 = .ok (.invokespecial 74, 3) := by decide +kernel
theorem dX7_planTests_33 : decode cX7_planTests 33 = .ok (.athrow, 1) := by decide +kernel
theorem dX7_planTests_34 : decode cX7_planTests 34 = .ok (.aload_n 0, 1) := by decide +kernel
theorem dX7_planTests_35 : decode cX7_planTests 35 = .ok (.getfield 35, 3) := by decide +kernel
theorem dX7_planTests_38 : decode cX7_planTests 38 = .ok (.aload 4, 2) := by decide +kernel
theorem dX7_planTests_40 : decode cX7_planTests 40 = .ok (.getfield 250, 3) := by decide +kernel
theorem dX7_planTests_43 : decode cX7_planTests 43 = .ok (.iload_n 2, 1) := by decide +kernel
theorem dX7_planTests_44 : decode cX7_planTests 44 = .ok (.iload_n 3, 1) := by decide +kernel
theorem dX7_planTests_45 : decode cX7_planTests 45 = .ok (.invokevirtual 266, 3) := by decide +kernel
theorem dX7_planTests_48 : decode cX7_planTests 48 = .ok (.return_, 1) := by decide +kernel
theorem dX7_phaseOfLoopOf_0 : decode cX7_phaseOfLoopOf 0 = .ok (.aload_n 0, 1) := by decide +kernel
theorem dX7_phaseOfLoopOf_1 : decode cX7_phaseOfLoopOf 1 = .ok (.getfield 10, 3) := by decide +kernel
theorem dX7_phaseOfLoopOf_4 : decode cX7_phaseOfLoopOf 4 = .ok (.aload_n 1, 1) := by decide +kernel
theorem dX7_phaseOfLoopOf_5 : decode cX7_phaseOfLoopOf 5 = .ok (.getfield 144, 3) := by decide +kernel
theorem dX7_phaseOfLoopOf_8 : decode cX7_phaseOfLoopOf 8 = .ok (.invokevirtual 147, 3) := by decide +kernel
theorem dX7_phaseOfLoopOf_11 : decode cX7_phaseOfLoopOf 11 = .ok (.astore_n 2, 1) := by decide +kernel
theorem dX7_phaseOfLoopOf_12 : decode cX7_phaseOfLoopOf 12 = .ok (.aload_n 2, 1) := by decide +kernel
theorem dX7_phaseOfLoopOf_13 : decode cX7_phaseOfLoopOf 13 = .ok (.ifnonnull 7, 3) := by decide +kernel
theorem dX7_phaseOfLoopOf_16 : decode cX7_phaseOfLoopOf 16 = .ok (.iconst 0, 1) := by decide +kernel
theorem dX7_phaseOfLoopOf_17 : decode cX7_phaseOfLoopOf 17 = .ok (.goto 7, 3) := by decide +kernel
theorem dX7_phaseOfLoopOf_20 : decode cX7_phaseOfLoopOf 20 = .ok (.aload_n 2, 1) := by decide +kernel
theorem dX7_phaseOfLoopOf_21 : decode cX7_phaseOfLoopOf 21 = .ok (.getfield 150, 3) := by decide +kernel
theorem dX7_phaseOfLoopOf_24 : decode cX7_phaseOfLoopOf 24 = .ok (.ireturn, 1) := by decide +kernel
theorem dX7_subscriberValue_0 : decode cX7_subscriberValue 0 = .ok (.iload_n 2, 1) := by decide +kernel
theorem dX7_subscriberValue_1 : decode cX7_subscriberValue 1 = .ok (.tableswitch 98 0 6 #[43, 48, 61, 66, 71, 76, 89], 43) := by decide +kernel
theorem dX7_subscriberValue_44 : decode cX7_subscriberValue 44 = .ok (.aload_n 1, 1) := by decide +kernel
theorem dX7_subscriberValue_45 : decode cX7_subscriberValue 45 = .ok (.getfield 108, 3) := by decide +kernel
theorem dX7_subscriberValue_48 : decode cX7_subscriberValue 48 = .ok (.ireturn, 1) := by decide +kernel
theorem dX7_subscriberValue_49 : decode cX7_subscriberValue 49 = .ok (.aload_n 1, 1) := by decide +kernel
theorem dX7_subscriberValue_50 : decode cX7_subscriberValue 50 = .ok (.getfield 113, 3) := by decide +kernel
theorem dX7_subscriberValue_53 : decode cX7_subscriberValue 53 = .ok (.ifCond .eq 7, 3) := by decide +kernel
theorem dX7_subscriberValue_56 : decode cX7_subscriberValue 56 = .ok (.iconst 1, 1) := by decide +kernel
theorem dX7_subscriberValue_57 : decode cX7_subscriberValue 57 = .ok (.goto 4, 3) := by decide +kernel
theorem dX7_subscriberValue_60 : decode cX7_subscriberValue 60 = .ok (.iconst 0, 1) := by decide +kernel
theorem dX7_subscriberValue_61 : decode cX7_subscriberValue 61 = .ok (.ireturn, 1) := by decide +kernel
theorem dX7_subscriberValue_62 : decode cX7_subscriberValue 62 = .ok (.aload_n 1, 1) := by decide +kernel
theorem dX7_subscriberValue_63 : decode cX7_subscriberValue 63 = .ok (.getfield 117, 3) := by decide +kernel
theorem dX7_subscriberValue_66 : decode cX7_subscriberValue 66 = .ok (.ireturn, 1) := by decide +kernel
theorem dX7_subscriberValue_67 : decode cX7_subscriberValue 67 = .ok (.aload_n 1, 1) := by decide +kernel
theorem dX7_subscriberValue_68 : decode cX7_subscriberValue 68 = .ok (.getfield 144, 3) := by decide +kernel
theorem dX7_subscriberValue_71 : decode cX7_subscriberValue 71 = .ok (.ireturn, 1) := by decide +kernel
theorem dX7_subscriberValue_72 : decode cX7_subscriberValue 72 = .ok (.aload_n 1, 1) := by decide +kernel
theorem dX7_subscriberValue_73 : decode cX7_subscriberValue 73 = .ok (.getfield 304, 3) := by decide +kernel
theorem dX7_subscriberValue_76 : decode cX7_subscriberValue 76 = .ok (.ireturn, 1) := by decide +kernel
theorem dX7_subscriberValue_77 : decode cX7_subscriberValue 77 = .ok (.aload_n 1, 1) := by decide +kernel
theorem dX7_subscriberValue_78 : decode cX7_subscriberValue 78 = .ok (.getfield 126, 3) := by decide +kernel
theorem dX7_subscriberValue_81 : decode cX7_subscriberValue 81 = .ok (.ifCond .eq 7, 3) := by decide +kernel
theorem dX7_subscriberValue_84 : decode cX7_subscriberValue 84 = .ok (.iconst 1, 1) := by decide +kernel
theorem dX7_subscriberValue_85 : decode cX7_subscriberValue 85 = .ok (.goto 4, 3) := by decide +kernel
theorem dX7_subscriberValue_88 : decode cX7_subscriberValue 88 = .ok (.iconst 0, 1) := by decide +kernel
theorem dX7_subscriberValue_89 : decode cX7_subscriberValue 89 = .ok (.ireturn, 1) := by decide +kernel
theorem dX7_subscriberValue_90 : decode cX7_subscriberValue 90 = .ok (.aload_n 0, 1) := by decide +kernel
theorem dX7_subscriberValue_91 : decode cX7_subscriberValue 91 = .ok (.getfield 10, 3) := by decide +kernel
theorem dX7_subscriberValue_94 : decode cX7_subscriberValue 94 = .ok (.aload_n 1, 1) := by decide +kernel
theorem dX7_subscriberValue_95 : decode cX7_subscriberValue 95 = .ok (.invokevirtual 307, 3) := by decide +kernel
theorem dX7_subscriberValue_98 : decode cX7_subscriberValue 98 = .ok (.ireturn, 1) := by decide +kernel
theorem dX7_subscriberValue_99 : decode cX7_subscriberValue 99 = .ok (.aload_n 1, 1) := by decide +kernel
theorem dX7_subscriberValue_100 : decode cX7_subscriberValue 100 = .ok (.getfield 310, 3) := by decide +kernel
theorem dX7_subscriberValue_103 : decode cX7_subscriberValue 103 = .ok (.ireturn, 1) := by decide +kernel
theorem dX7_loopValue_0 : decode cX7_loopValue 0 = .ok (.iload_n 2, 1) := by decide +kernel
theorem dX7_loopValue_1 : decode cX7_loopValue 1 = .ok (.tableswitch 103 0 7 #[47, 52, 57, 62, 67, 72, 85, 90], 47) := by decide +kernel
theorem dX7_loopValue_48 : decode cX7_loopValue 48 = .ok (.aload_n 1, 1) := by decide +kernel
theorem dX7_loopValue_49 : decode cX7_loopValue 49 = .ok (.getfield 150, 3) := by decide +kernel
theorem dX7_loopValue_52 : decode cX7_loopValue 52 = .ok (.ireturn, 1) := by decide +kernel
theorem dX7_loopValue_53 : decode cX7_loopValue 53 = .ok (.aload_n 1, 1) := by decide +kernel
theorem dX7_loopValue_54 : decode cX7_loopValue 54 = .ok (.getfield 313, 3) := by decide +kernel
theorem dX7_loopValue_57 : decode cX7_loopValue 57 = .ok (.ireturn, 1) := by decide +kernel
theorem dX7_loopValue_58 : decode cX7_loopValue 58 = .ok (.aload_n 1, 1) := by decide +kernel
theorem dX7_loopValue_59 : decode cX7_loopValue 59 = .ok (.getfield 155, 3) := by decide +kernel
theorem dX7_loopValue_62 : decode cX7_loopValue 62 = .ok (.ireturn, 1) := by decide +kernel
theorem dX7_loopValue_63 : decode cX7_loopValue 63 = .ok (.aload_n 1, 1) := by decide +kernel
theorem dX7_loopValue_64 : decode cX7_loopValue 64 = .ok (.getfield 316, 3) := by decide +kernel
theorem dX7_loopValue_67 : decode cX7_loopValue 67 = .ok (.ireturn, 1) := by decide +kernel
theorem dX7_loopValue_68 : decode cX7_loopValue 68 = .ok (.aload_n 1, 1) := by decide +kernel
theorem dX7_loopValue_69 : decode cX7_loopValue 69 = .ok (.getfield 319, 3) := by decide +kernel
theorem dX7_loopValue_72 : decode cX7_loopValue 72 = .ok (.ireturn, 1) := by decide +kernel
theorem dX7_loopValue_73 : decode cX7_loopValue 73 = .ok (.aload_n 1, 1) := by decide +kernel
theorem dX7_loopValue_74 : decode cX7_loopValue 74 = .ok (.getfield 322, 3) := by decide +kernel
theorem dX7_loopValue_77 : decode cX7_loopValue 77 = .ok (.ifCond .eq 7, 3) := by decide +kernel
theorem dX7_loopValue_80 : decode cX7_loopValue 80 = .ok (.iconst 1, 1) := by decide +kernel
theorem dX7_loopValue_81 : decode cX7_loopValue 81 = .ok (.goto 4, 3) := by decide +kernel
theorem dX7_loopValue_84 : decode cX7_loopValue 84 = .ok (.iconst 0, 1) := by decide +kernel
theorem dX7_loopValue_85 : decode cX7_loopValue 85 = .ok (.ireturn, 1) := by decide +kernel
theorem dX7_loopValue_86 : decode cX7_loopValue 86 = .ok (.aload_n 1, 1) := by decide +kernel
theorem dX7_loopValue_87 : decode cX7_loopValue 87 = .ok (.getfield 237, 3) := by decide +kernel
theorem dX7_loopValue_90 : decode cX7_loopValue 90 = .ok (.ireturn, 1) := by decide +kernel
theorem dX7_loopValue_91 : decode cX7_loopValue 91 = .ok (.aload_n 1, 1) := by decide +kernel
theorem dX7_loopValue_92 : decode cX7_loopValue 92 = .ok (.getfield 325, 3) := by decide +kernel
theorem dX7_loopValue_95 : decode cX7_loopValue 95 = .ok (.ifCond .eq 7, 3) := by decide +kernel
theorem dX7_loopValue_98 : decode cX7_loopValue 98 = .ok (.iconst 1, 1) := by decide +kernel
theorem dX7_loopValue_99 : decode cX7_loopValue 99 = .ok (.goto 4, 3) := by decide +kernel
theorem dX7_loopValue_102 : decode cX7_loopValue 102 = .ok (.iconst 0, 1) := by decide +kernel
theorem dX7_loopValue_103 : decode cX7_loopValue 103 = .ok (.ireturn, 1) := by decide +kernel
theorem dX7_loopValue_104 : decode cX7_loopValue 104 = .ok (.aload_n 0, 1) := by decide +kernel
theorem dX7_loopValue_105 : decode cX7_loopValue 105 = .ok (.getfield 10, 3) := by decide +kernel
theorem dX7_loopValue_108 : decode cX7_loopValue 108 = .ok (.aload_n 1, 1) := by decide +kernel
theorem dX7_loopValue_109 : decode cX7_loopValue 109 = .ok (.invokevirtual 328, 3) := by decide +kernel
theorem dX7_loopValue_112 : decode cX7_loopValue 112 = .ok (.ireturn, 1) := by decide +kernel
theorem dX7_mix_0 : decode cX7_mix 0 = .ok (.ldc2_w 331, 3) := by decide +kernel
theorem dX7_mix_3 : decode cX7_mix 3 = .ok (.lload_n 0, 1) := by decide +kernel
theorem dX7_mix_4 : decode cX7_mix 4 = .ok (.lmul, 1) := by decide +kernel
theorem dX7_mix_5 : decode cX7_mix 5 = .ok (.lload_n 2, 1) := by decide +kernel
theorem dX7_mix_6 : decode cX7_mix 6 = .ok (.ladd, 1) := by decide +kernel
theorem dX7_mix_7 : decode cX7_mix 7 = .ok (.lreturn, 1) := by decide +kernel
theorem dX7_mixLoop_0 : decode cX7_mixLoop 0 = .ok (.lload_n 1, 1) := by decide +kernel
theorem dX7_mixLoop_1 : decode cX7_mixLoop 1 = .ok (.lstore 4, 2) := by decide +kernel
theorem dX7_mixLoop_3 : decode cX7_mixLoop 3 = .ok (.iconst 0, 1) := by decide +kernel
theorem dX7_mixLoop_4 : decode cX7_mixLoop 4 = .ok (.istore 6, 2) := by decide +kernel
theorem dX7_mixLoop_6 : decode cX7_mixLoop 6 = .ok (.iload 6, 2) := by decide +kernel
theorem dX7_mixLoop_8 : decode cX7_mixLoop 8 = .ok (.bipush 9, 2) := by decide +kernel
theorem dX7_mixLoop_10 : decode cX7_mixLoop 10 = .ok (.if_icmp .ge 24, 3) := by decide +kernel
theorem dX7_mixLoop_13 : decode cX7_mixLoop 13 = .ok (.lload 4, 2) := by decide +kernel
theorem dX7_mixLoop_15 : decode cX7_mixLoop 15 = .ok (.aload_n 0, 1) := by decide +kernel
theorem dX7_mixLoop_16 : decode cX7_mixLoop 16 = .ok (.aload_n 3, 1) := by decide +kernel
theorem dX7_mixLoop_17 : decode cX7_mixLoop 17 = .ok (.iload 6, 2) := by decide +kernel
theorem dX7_mixLoop_19 : decode cX7_mixLoop 19 = .ok (.invokevirtual 122, 3) := by decide +kernel
theorem dX7_mixLoop_22 : decode cX7_mixLoop 22 = .ok (.i2l, 1) := by decide +kernel
theorem dX7_mixLoop_23 : decode cX7_mixLoop 23 = .ok (.invokestatic 283, 3) := by decide +kernel
theorem dX7_mixLoop_26 : decode cX7_mixLoop 26 = .ok (.lstore 4, 2) := by decide +kernel
theorem dX7_mixLoop_28 : decode cX7_mixLoop 28 = .ok (.iinc 6 1, 3) := by decide +kernel
theorem dX7_mixLoop_31 : decode cX7_mixLoop 31 = .ok (.goto (-25), 3) := by decide +kernel
theorem dX7_mixLoop_34 : decode cX7_mixLoop 34 = .ok (.lload 4, 2) := by decide +kernel
theorem dX7_mixLoop_36 : decode cX7_mixLoop 36 = .ok (.aload_n 0, 1) := by decide +kernel
theorem dX7_mixLoop_37 : decode cX7_mixLoop 37 = .ok (.getfield 21, 3) := by decide +kernel
theorem dX7_mixLoop_40 : decode cX7_mixLoop 40 = .ok (.aload_n 3, 1) := by decide +kernel
theorem dX7_mixLoop_41 : decode cX7_mixLoop 41 = .ok (.invokevirtual 180, 3) := by decide +kernel
theorem dX7_mixLoop_44 : decode cX7_mixLoop 44 = .ok (.i2l, 1) := by decide +kernel
theorem dX7_mixLoop_45 : decode cX7_mixLoop 45 = .ok (.invokestatic 283, 3) := by decide +kernel
theorem dX7_mixLoop_48 : decode cX7_mixLoop 48 = .ok (.lstore 4, 2) := by decide +kernel
theorem dX7_mixLoop_50 : decode cX7_mixLoop 50 = .ok (.lload 4, 2) := by decide +kernel
theorem dX7_mixLoop_52 : decode cX7_mixLoop 52 = .ok (.aload_n 0, 1) := by decide +kernel
theorem dX7_mixLoop_53 : decode cX7_mixLoop 53 = .ok (.getfield 10, 3) := by decide +kernel
theorem dX7_mixLoop_56 : decode cX7_mixLoop 56 = .ok (.aload_n 3, 1) := by decide +kernel
theorem dX7_mixLoop_57 : decode cX7_mixLoop 57 = .ok (.invokevirtual 203, 3) := by decide +kernel
theorem dX7_mixLoop_60 : decode cX7_mixLoop 60 = .ok (.i2l, 1) := by decide +kernel
theorem dX7_mixLoop_61 : decode cX7_mixLoop 61 = .ok (.invokestatic 283, 3) := by decide +kernel
theorem dX7_mixLoop_64 : decode cX7_mixLoop 64 = .ok (.lstore 4, 2) := by decide +kernel
theorem dX7_mixLoop_66 : decode cX7_mixLoop 66 = .ok (.iconst 1, 1) := by decide +kernel
theorem dX7_mixLoop_67 : decode cX7_mixLoop 67 = .ok (.istore 6, 2) := by decide +kernel
theorem dX7_mixLoop_69 : decode cX7_mixLoop 69 = .ok (.iload 6, 2) := by decide +kernel
theorem dX7_mixLoop_71 : decode cX7_mixLoop 71 = .ok (.bipush 12, 2) := by decide +kernel
theorem dX7_mixLoop_73 : decode cX7_mixLoop 73 = .ok (.if_icmp .gt 24, 3) := by decide +kernel
theorem dX7_mixLoop_76 : decode cX7_mixLoop 76 = .ok (.lload 4, 2) := by decide +kernel
theorem dX7_mixLoop_78 : decode cX7_mixLoop 78 = .ok (.aload_n 3, 1) := by decide +kernel
theorem dX7_mixLoop_79 : decode cX7_mixLoop 79 = .ok (.getfield 250, 3) := by decide +kernel
theorem dX7_mixLoop_82 : decode cX7_mixLoop 82 = .ok (.iload 6, 2) := by decide +kernel
theorem dX7_mixLoop_84 : decode cX7_mixLoop 84 = .ok (.iaload, 1) := by decide +kernel
theorem dX7_mixLoop_85 : decode cX7_mixLoop 85 = .ok (.i2l, 1) := by decide +kernel
theorem dX7_mixLoop_86 : decode cX7_mixLoop 86 = .ok (.invokestatic 283, 3) := by decide +kernel
theorem dX7_mixLoop_89 : decode cX7_mixLoop 89 = .ok (.lstore 4, 2) := by decide +kernel
theorem dX7_mixLoop_91 : decode cX7_mixLoop 91 = .ok (.iinc 6 1, 3) := by decide +kernel
theorem dX7_mixLoop_94 : decode cX7_mixLoop 94 = .ok (.goto (-25), 3) := by decide +kernel
theorem dX7_mixLoop_97 : decode cX7_mixLoop 97 = .ok (.lload 4, 2) := by decide +kernel
theorem dX7_mixLoop_99 : decode cX7_mixLoop 99 = .ok (.lreturn, 1) := by decide +kernel
theorem dX7_mixSubscriber_0 : decode cX7_mixSubscriber 0 = .ok (.lload_n 1, 1) := by decide +kernel
theorem dX7_mixSubscriber_1 : decode cX7_mixSubscriber 1 = .ok (.lstore 4, 2) := by decide +kernel
theorem dX7_mixSubscriber_3 : decode cX7_mixSubscriber 3 = .ok (.iconst 0, 1) := by decide +kernel
theorem dX7_mixSubscriber_4 : decode cX7_mixSubscriber 4 = .ok (.istore 6, 2) := by decide +kernel
theorem dX7_mixSubscriber_6 : decode cX7_mixSubscriber 6 = .ok (.iload 6, 2) := by decide +kernel
theorem dX7_mixSubscriber_8 : decode cX7_mixSubscriber 8 = .ok (.bipush 8, 2) := by decide +kernel
theorem dX7_mixSubscriber_10 : decode cX7_mixSubscriber 10 = .ok (.if_icmp .ge 24, 3) := by decide +kernel
theorem dX7_mixSubscriber_13 : decode cX7_mixSubscriber 13 = .ok (.lload 4, 2) := by decide +kernel
theorem dX7_mixSubscriber_15 : decode cX7_mixSubscriber 15 = .ok (.aload_n 0, 1) := by decide +kernel
theorem dX7_mixSubscriber_16 : decode cX7_mixSubscriber 16 = .ok (.aload_n 3, 1) := by decide +kernel
theorem dX7_mixSubscriber_17 : decode cX7_mixSubscriber 17 = .ok (.iload 6, 2) := by decide +kernel
theorem dX7_mixSubscriber_19 : decode cX7_mixSubscriber 19 = .ok (.invokevirtual 104, 3) := by decide +kernel
theorem dX7_mixSubscriber_22 : decode cX7_mixSubscriber 22 = .ok (.i2l, 1) := by decide +kernel
theorem dX7_mixSubscriber_23 : decode cX7_mixSubscriber 23 = .ok (.invokestatic 283, 3) := by decide +kernel
theorem dX7_mixSubscriber_26 : decode cX7_mixSubscriber 26 = .ok (.lstore 4, 2) := by decide +kernel
theorem dX7_mixSubscriber_28 : decode cX7_mixSubscriber 28 = .ok (.iinc 6 1, 3) := by decide +kernel
theorem dX7_mixSubscriber_31 : decode cX7_mixSubscriber 31 = .ok (.goto (-25), 3) := by decide +kernel
theorem dX7_mixSubscriber_34 : decode cX7_mixSubscriber 34 = .ok (.lload 4, 2) := by decide +kernel
theorem dX7_mixSubscriber_36 : decode cX7_mixSubscriber 36 = .ok (.lreturn, 1) := by decide +kernel
theorem dX8_init_0 : decode cX8_init 0 = .ok (.aload_n 0, 1) := by decide +kernel
theorem dX8_init_1 : decode cX8_init 1 = .ok (.invokespecial 1, 3) := by decide +kernel
theorem dX8_init_4 : decode cX8_init 4 = .ok (.aload_n 0, 1) := by decide +kernel
theorem dX8_init_5 : decode cX8_init 5 = .ok (.sipush 237, 3) := by decide +kernel
theorem dX8_init_8 : decode cX8_init 8 = .ok (.newarray .int, 2) := by decide +kernel
theorem dX8_init_10 : decode cX8_init 10 = .ok (.putfield 7, 3) := by decide +kernel
theorem dX8_init_13 : decode cX8_init 13 = .ok (.aload_n 0, 1) := by decide +kernel
theorem dX8_init_14 : decode cX8_init 14 = .ok (.sipush 948, 3) := by decide +kernel
theorem dX8_init_17 : decode cX8_init 17 = .ok (.newarray .int, 2) := by decide +kernel
theorem dX8_init_19 : decode cX8_init 19 = .ok (.putfield 13, 3) := by decide +kernel
theorem dX8_init_22 : decode cX8_init 22 = .ok (.aload_n 0, 1) := by decide +kernel
theorem dX8_init_23 : decode cX8_init 23 = .ok (.sipush 169, 3) := by decide +kernel
theorem dX8_init_26 : decode cX8_init 26 = .ok (.newarray .int, 2) := by decide +kernel
theorem dX8_init_28 : decode cX8_init 28 = .ok (.putfield 16, 3) := by decide +kernel
theorem dX8_init_31 : decode cX8_init 31 = .ok (.aload_n 0, 1) := by decide +kernel
theorem dX8_init_32 : decode cX8_init 32 = .ok (.sipush 169, 3) := by decide +kernel
theorem dX8_init_35 : decode cX8_init 35 = .ok (.newarray .int, 2) := by decide +kernel
theorem dX8_init_37 : decode cX8_init 37 = .ok (.putfield 19, 3) := by decide +kernel
theorem dX8_init_40 : decode cX8_init 40 = .ok (.aload_n 0, 1) := by decide +kernel
theorem dX8_init_41 : decode cX8_init 41 = .ok (.getfield 7, 3) := by decide +kernel
theorem dX8_init_44 : decode cX8_init 44 = .ok (.sipush 230, 3) := by decide +kernel
theorem dX8_init_47 : decode cX8_init 47 = .ok (.bipush 60, 2) := by decide +kernel
theorem dX8_init_49 : decode cX8_init 49 = .ok (.iastore, 1) := by decide +kernel
theorem dX8_init_50 : decode cX8_init 50 = .ok (.aload_n 0, 1) := by decide +kernel
theorem dX8_init_51 : decode cX8_init 51 = .ok (.invokevirtual 22, 3) := by decide +kernel
theorem dX8_init_54 : decode cX8_init 54 = .ok (.aload_n 0, 1) := by decide +kernel
theorem dX8_init_55 : decode cX8_init 55 = .ok (.invokevirtual 22, 3) := by decide +kernel
theorem dX8_init_58 : decode cX8_init 58 = .ok (.return_, 1) := by decide +kernel
theorem dX8_thrown_0 : decode cX8_thrown 0 = .ok (.aload_n 0, 1) := by decide +kernel
theorem dX8_thrown_1 : decode cX8_thrown 1 = .ok (.getfield 25, 3) := by decide +kernel
theorem dX8_thrown_4 : decode cX8_thrown 4 = .ok (.ireturn, 1) := by decide +kernel
theorem dX8_refused_0 : decode cX8_refused 0 = .ok (.aload_n 0, 1) := by decide +kernel
theorem dX8_refused_1 : decode cX8_refused 1 = .ok (.iload_n 1, 1) := by decide +kernel
theorem dX8_refused_2 : decode cX8_refused 2 = .ok (.putfield 25, 3) := by decide +kernel
theorem dX8_refused_5 : decode cX8_refused 5 = .ok (.iload_n 1, 1) := by decide +kernel
theorem dX8_refused_6 : decode cX8_refused 6 = .ok (.ifCond .le 7, 3) := by decide +kernel
theorem dX8_refused_9 : decode cX8_refused 9 = .ok (.iconst 1, 1) := by decide +kernel
theorem dX8_refused_10 : decode cX8_refused 10 = .ok (.goto 4, 3) := by decide +kernel
theorem dX8_refused_13 : decode cX8_refused 13 = .ok (.iconst 0, 1) := by decide +kernel
theorem dX8_refused_14 : decode cX8_refused 14 = .ok (.ireturn, 1) := by decide +kernel
theorem dX8_within_0 : decode cX8_within 0 = .ok (.iload_n 0, 1) := by decide +kernel
theorem dX8_within_1 : decode cX8_within 1 = .ok (.iload_n 1, 1) := by decide +kernel
theorem dX8_within_2 : decode cX8_within 2 = .ok (.if_icmp .lt 12, 3) := by decide +kernel
theorem dX8_within_5 : decode cX8_within 5 = .ok (.iload_n 0, 1) := by decide +kernel
theorem dX8_within_6 : decode cX8_within 6 = .ok (.iload_n 2, 1) := by decide +kernel
theorem dX8_within_7 : decode cX8_within 7 = .ok (.if_icmp .gt 7, 3) := by decide +kernel
theorem dX8_within_10 : decode cX8_within 10 = .ok (.iconst 1, 1) := by decide +kernel
theorem dX8_within_11 : decode cX8_within 11 = .ok (.goto 4, 3) := by decide +kernel
theorem dX8_within_14 : decode cX8_within 14 = .ok (.iconst 0, 1) := by decide +kernel
theorem dX8_within_15 : decode cX8_within 15 = .ok (.ireturn, 1) := by decide +kernel
theorem dX8_need_0 : decode cX8_need 0 = .ok (.iload_n 1, 1) := by decide +kernel
theorem dX8_need_1 : decode cX8_need 1 = .ok (.ifCond .eq 7, 3) := by decide +kernel
theorem dX8_need_4 : decode cX8_need 4 = .ok (.iconst 0, 1) := by decide +kernel
theorem dX8_need_5 : decode cX8_need 5 = .ok (.goto 4, 3) := by decide +kernel
theorem dX8_need_8 : decode cX8_need 8 = .ok (.iconst 1, 1) := by decide +kernel
theorem dX8_need_9 : decode cX8_need 9 = .ok (.ireturn, 1) := by decide +kernel
theorem dX8_saves_0 : decode cX8_saves 0 = .ok (.aload_n 0, 1) := by decide +kernel
theorem dX8_saves_1 : decode cX8_saves 1 = .ok (.getfield 29, 3) := by decide +kernel
theorem dX8_saves_4 : decode cX8_saves 4 = .ok (.iconst 4, 1) := by decide +kernel
theorem dX8_saves_5 : decode cX8_saves 5 = .ok (.if_icmp .ne 44, 3) := by decide +kernel
theorem dX8_saves_8 : decode cX8_saves 8 = .ok (.iconst 0, 1) := by decide +kernel
theorem dX8_saves_9 : decode cX8_saves 9 = .ok (.istore_n 1, 1) := by decide +kernel
theorem dX8_saves_10 : decode cX8_saves 10 = .ok (.iload_n 1, 1) := by decide +kernel
theorem dX8_saves_11 : decode cX8_saves 11 = .ok (.sipush 711, 3) := by decide +kernel
theorem dX8_saves_14 : decode cX8_saves 14 = .ok (.if_icmp .ge 25, 3) := by decide +kernel
theorem dX8_saves_17 : decode cX8_saves 17 = .ok (.aload_n 0, 1) := by decide +kernel
theorem dX8_saves_18 : decode cX8_saves 18 = .ok (.getfield 13, 3) := by decide +kernel
theorem dX8_saves_21 : decode cX8_saves 21 = .ok (.iload_n 1, 1) := by decide +kernel
theorem dX8_saves_22 : decode cX8_saves 22 = .ok (.aload_n 0, 1) := by decide +kernel
theorem dX8_saves_23 : decode cX8_saves 23 = .ok (.getfield 13, 3) := by decide +kernel
theorem dX8_saves_26 : decode cX8_saves 26 = .ok (.iload_n 1, 1) := by decide +kernel
theorem dX8_saves_27 : decode cX8_saves 27 = .ok (.sipush 237, 3) := by decide +kernel
theorem dX8_saves_30 : decode cX8_saves 30 = .ok (.iadd, 1) := by decide +kernel
theorem dX8_saves_31 : decode cX8_saves 31 = .ok (.iaload, 1) := by decide +kernel
theorem dX8_saves_32 : decode cX8_saves 32 = .ok (.iastore, 1) := by decide +kernel
theorem dX8_saves_33 : decode cX8_saves 33 = .ok (.iinc 1 1, 3) := by decide +kernel
theorem dX8_saves_36 : decode cX8_saves 36 = .ok (.goto (-26), 3) := by decide +kernel
theorem dX8_saves_39 : decode cX8_saves 39 = .ok (.aload_n 0, 1) := by decide +kernel
theorem dX8_saves_40 : decode cX8_saves 40 = .ok (.dup, 1) := by decide +kernel
theorem dX8_saves_41 : decode cX8_saves 41 = .ok (.getfield 29, 3) := by decide +kernel
theorem dX8_saves_44 : decode cX8_saves 44 = .ok (.iconst 1, 1) := by decide +kernel
theorem dX8_saves_45 : decode cX8_saves 45 = .ok (.isub, 1) := by decide +kernel
theorem dX8_saves_46 : decode cX8_saves 46 = .ok (.putfield 29, 3) := by decide +kernel
theorem dX8_saves_49 : decode cX8_saves 49 = .ok (.iconst 0, 1) := by decide +kernel
theorem dX8_saves_50 : decode cX8_saves 50 = .ok (.istore_n 1, 1) := by decide +kernel
theorem dX8_saves_51 : decode cX8_saves 51 = .ok (.iload_n 1, 1) := by decide +kernel
theorem dX8_saves_52 : decode cX8_saves 52 = .ok (.sipush 237, 3) := by decide +kernel
theorem dX8_saves_55 : decode cX8_saves 55 = .ok (.if_icmp .ge 30, 3) := by decide +kernel
theorem dX8_saves_58 : decode cX8_saves 58 = .ok (.aload_n 0, 1) := by decide +kernel
theorem dX8_saves_59 : decode cX8_saves 59 = .ok (.getfield 13, 3) := by decide +kernel
theorem dX8_saves_62 : decode cX8_saves 62 = .ok (.sipush 237, 3) := by decide +kernel
theorem dX8_saves_65 : decode cX8_saves 65 = .ok (.aload_n 0, 1) := by decide +kernel
theorem dX8_saves_66 : decode cX8_saves 66 = .ok (.getfield 29, 3) := by decide +kernel
theorem dX8_saves_69 : decode cX8_saves 69 = .ok (.imul, 1) := by decide +kernel
theorem dX8_saves_70 : decode cX8_saves 70 = .ok (.iload_n 1, 1) := by decide +kernel
theorem dX8_saves_71 : decode cX8_saves 71 = .ok (.iadd, 1) := by decide +kernel
theorem dX8_saves_72 : decode cX8_saves 72 = .ok (.aload_n 0, 1) := by decide +kernel
theorem dX8_saves_73 : decode cX8_saves 73 = .ok (.getfield 7, 3) := by decide +kernel
theorem dX8_saves_76 : decode cX8_saves 76 = .ok (.iload_n 1, 1) := by decide +kernel
theorem dX8_saves_77 : decode cX8_saves 77 = .ok (.iaload, 1) := by decide +kernel
theorem dX8_saves_78 : decode cX8_saves 78 = .ok (.iastore, 1) := by decide +kernel
theorem dX8_saves_79 : decode cX8_saves 79 = .ok (.iinc 1 1, 3) := by decide +kernel
theorem dX8_saves_82 : decode cX8_saves 82 = .ok (.goto (-31), 3) := by decide +kernel
theorem dX8_saves_85 : decode cX8_saves 85 = .ok (.aload_n 0, 1) := by decide +kernel
theorem dX8_saves_86 : decode cX8_saves 86 = .ok (.dup, 1) := by decide +kernel
theorem dX8_saves_87 : decode cX8_saves 87 = .ok (.getfield 29, 3) := by decide +kernel
theorem dX8_saves_90 : decode cX8_saves 90 = .ok (.iconst 1, 1) := by decide +kernel
theorem dX8_saves_91 : decode cX8_saves 91 = .ok (.iadd, 1) := by decide +kernel
theorem dX8_saves_92 : decode cX8_saves 92 = .ok (.putfield 29, 3) := by decide +kernel
theorem dX8_saves_95 : decode cX8_saves 95 = .ok (.return_, 1) := by decide +kernel
theorem dX8_undo_0 : decode cX8_undo 0 = .ok (.aload_n 0, 1) := by decide +kernel
theorem dX8_undo_1 : decode cX8_undo 1 = .ok (.aload_n 0, 1) := by decide +kernel
theorem dX8_undo_2 : decode cX8_undo 2 = .ok (.getfield 29, 3) := by decide +kernel
theorem dX8_undo_5 : decode cX8_undo 5 = .ok (.ifCond .ne 7, 3) := by decide +kernel
theorem dX8_undo_8 : decode cX8_undo 8 = .ok (.iconst 1, 1) := by decide +kernel
theorem dX8_undo_9 : decode cX8_undo 9 = .ok (.goto 4, 3) := by decide +kernel
theorem dX8_undo_12 : decode cX8_undo 12 = .ok (.iconst 0, 1) := by decide +kernel
theorem dX8_undo_13 : decode cX8_undo 13 = .ok (.invokevirtual 32, 3) := by decide +kernel
theorem dX8_undo_16 : decode cX8_undo 16 = .ok (.ifCond .eq 5, 3) := by decide +kernel
theorem dX8_undo_19 : decode cX8_undo 19 = .ok (.iconst 0, 1) := by decide +kernel
theorem dX8_undo_20 : decode cX8_undo 20 = .ok (.ireturn, 1) := by decide +kernel
theorem dX8_undo_21 : decode cX8_undo 21 = .ok (.aload_n 0, 1) := by decide +kernel
theorem dX8_undo_22 : decode cX8_undo 22 = .ok (.dup, 1) := by decide +kernel
theorem dX8_undo_23 : decode cX8_undo 23 = .ok (.getfield 29, 3) := by decide +kernel
theorem dX8_undo_26 : decode cX8_undo 26 = .ok (.iconst 1, 1) := by decide +kernel
theorem dX8_undo_27 : decode cX8_undo 27 = .ok (.isub, 1) := by decide +kernel
theorem dX8_undo_28 : decode cX8_undo 28 = .ok (.putfield 29, 3) := by decide +kernel
theorem dX8_undo_31 : decode cX8_undo 31 = .ok (.iconst 0, 1) := by decide +kernel
theorem dX8_undo_32 : decode cX8_undo 32 = .ok (.istore_n 1, 1) := by decide +kernel
theorem dX8_undo_33 : decode cX8_undo 33 = .ok (.iload_n 1, 1) := by decide +kernel
theorem dX8_undo_34 : decode cX8_undo 34 = .ok (.sipush 237, 3) := by decide +kernel
theorem dX8_undo_37 : decode cX8_undo 37 = .ok (.if_icmp .ge 30, 3) := by decide +kernel
theorem dX8_undo_40 : decode cX8_undo 40 = .ok (.aload_n 0, 1) := by decide +kernel
theorem dX8_undo_41 : decode cX8_undo 41 = .ok (.getfield 7, 3) := by decide +kernel
theorem dX8_undo_44 : decode cX8_undo 44 = .ok (.iload_n 1, 1) := by decide +kernel
theorem dX8_undo_45 : decode cX8_undo 45 = .ok (.aload_n 0, 1) := by decide +kernel
theorem dX8_undo_46 : decode cX8_undo 46 = .ok (.getfield 13, 3) := by decide +kernel
theorem dX8_undo_49 : decode cX8_undo 49 = .ok (.sipush 237, 3) := by decide +kernel
theorem dX8_undo_52 : decode cX8_undo 52 = .ok (.aload_n 0, 1) := by decide +kernel
theorem dX8_undo_53 : decode cX8_undo 53 = .ok (.getfield 29, 3) := by decide +kernel
theorem dX8_undo_56 : decode cX8_undo 56 = .ok (.imul, 1) := by decide +kernel
theorem dX8_undo_57 : decode cX8_undo 57 = .ok (.iload_n 1, 1) := by decide +kernel
theorem dX8_undo_58 : decode cX8_undo 58 = .ok (.iadd, 1) := by decide +kernel
theorem dX8_undo_59 : decode cX8_undo 59 = .ok (.iaload, 1) := by decide +kernel
theorem dX8_undo_60 : decode cX8_undo 60 = .ok (.iastore, 1) := by decide +kernel
theorem dX8_undo_61 : decode cX8_undo 61 = .ok (.iinc 1 1, 3) := by decide +kernel
theorem dX8_undo_64 : decode cX8_undo 64 = .ok (.goto (-31), 3) := by decide +kernel
theorem dX8_undo_67 : decode cX8_undo 67 = .ok (.aload_n 0, 1) := by decide +kernel
theorem dX8_undo_68 : decode cX8_undo 68 = .ok (.getfield 29, 3) := by decide +kernel
theorem dX8_undo_71 : decode cX8_undo 71 = .ok (.ireturn, 1) := by decide +kernel
theorem dX8_of_0 : decode cX8_of 0 = .ok (.aload_n 0, 1) := by decide +kernel
theorem dX8_of_1 : decode cX8_of 1 = .ok (.getfield 7, 3) := by decide +kernel
theorem dX8_of_4 : decode cX8_of 4 = .ok (.iconst 1, 1) := by decide +kernel
theorem dX8_of_5 : decode cX8_of 5 = .ok (.bipush 20, 2) := by decide +kernel
theorem dX8_of_7 : decode cX8_of 7 = .ok (.iload_n 1, 1) := by decide +kernel
theorem dX8_of_8 : decode cX8_of 8 = .ok (.imul, 1) := by decide +kernel
theorem dX8_of_9 : decode cX8_of 9 = .ok (.iadd, 1) := by decide +kernel
theorem dX8_of_10 : decode cX8_of 10 = .ok (.iload_n 2, 1) := by decide +kernel
theorem dX8_of_11 : decode cX8_of 11 = .ok (.iadd, 1) := by decide +kernel
theorem dX8_of_12 : decode cX8_of 12 = .ok (.iaload, 1) := by decide +kernel
theorem dX8_of_13 : decode cX8_of 13 = .ok (.ireturn, 1) := by decide +kernel
theorem dX8_put_0 : decode cX8_put 0 = .ok (.aload_n 0, 1) := by decide +kernel
theorem dX8_put_1 : decode cX8_put 1 = .ok (.getfield 7, 3) := by decide +kernel
theorem dX8_put_4 : decode cX8_put 4 = .ok (.iconst 1, 1) := by decide +kernel
theorem dX8_put_5 : decode cX8_put 5 = .ok (.bipush 20, 2) := by decide +kernel
theorem dX8_put_7 : decode cX8_put 7 = .ok (.iload_n 1, 1) := by decide +kernel
theorem dX8_put_8 : decode cX8_put 8 = .ok (.imul, 1) := by decide +kernel
theorem dX8_put_9 : decode cX8_put 9 = .ok (.iadd, 1) := by decide +kernel
theorem dX8_put_10 : decode cX8_put 10 = .ok (.iload_n 2, 1) := by decide +kernel
theorem dX8_put_11 : decode cX8_put 11 = .ok (.iadd, 1) := by decide +kernel
theorem dX8_put_12 : decode cX8_put 12 = .ok (.iload_n 3, 1) := by decide +kernel
theorem dX8_put_13 : decode cX8_put 13 = .ok (.iastore, 1) := by decide +kernel
theorem dX8_put_14 : decode cX8_put 14 = .ok (.return_, 1) := by decide +kernel
theorem dX8_its_0 : decode cX8_its 0 = .ok (.aload_n 0, 1) := by decide +kernel
theorem dX8_its_1 : decode cX8_its 1 = .ok (.getfield 7, 3) := by decide +kernel
theorem dX8_its_4 : decode cX8_its 4 = .ok (.bipush 102, 2) := by decide +kernel
theorem dX8_its_6 : decode cX8_its 6 = .ok (.bipush 8, 2) := by decide +kernel
theorem dX8_its_8 : decode cX8_its 8 = .ok (.iload_n 1, 1) := by decide +kernel
theorem dX8_its_9 : decode cX8_its 9 = .ok (.imul, 1) := by decide +kernel
theorem dX8_its_10 : decode cX8_its 10 = .ok (.iadd, 1) := by decide +kernel
theorem dX8_its_11 : decode cX8_its 11 = .ok (.iload_n 2, 1) := by decide +kernel
theorem dX8_its_12 : decode cX8_its 12 = .ok (.iadd, 1) := by decide +kernel
theorem dX8_its_13 : decode cX8_its 13 = .ok (.iaload, 1) := by decide +kernel
theorem dX8_its_14 : decode cX8_its 14 = .ok (.ireturn, 1) := by decide +kernel
theorem dX8_give_0 : decode cX8_give 0 = .ok (.aload_n 0, 1) := by decide +kernel
theorem dX8_give_1 : decode cX8_give 1 = .ok (.getfield 7, 3) := by decide +kernel
theorem dX8_give_4 : decode cX8_give 4 = .ok (.bipush 102, 2) := by decide +kernel
theorem dX8_give_6 : decode cX8_give 6 = .ok (.bipush 8, 2) := by decide +kernel
theorem dX8_give_8 : decode cX8_give 8 = .ok (.iload_n 1, 1) := by decide +kernel
theorem dX8_give_9 : decode cX8_give 9 = .ok (.imul, 1) := by decide +kernel
theorem dX8_give_10 : decode cX8_give 10 = .ok (.iadd, 1) := by decide +kernel
theorem dX8_give_11 : decode cX8_give 11 = .ok (.iload_n 2, 1) := by decide +kernel
theorem dX8_give_12 : decode cX8_give 12 = .ok (.iadd, 1) := by decide +kernel
theorem dX8_give_13 : decode cX8_give 13 = .ok (.iload_n 3, 1) := by decide +kernel
theorem dX8_give_14 : decode cX8_give 14 = .ok (.iastore, 1) := by decide +kernel
theorem dX8_give_15 : decode cX8_give 15 = .ok (.return_, 1) := by decide +kernel
theorem dX8_isLoop_0 : decode cX8_isLoop 0 = .ok (.iload_n 1, 1) := by decide +kernel
theorem dX8_isLoop_1 : decode cX8_isLoop 1 = .ok (.iconst 0, 1) := by decide +kernel
theorem dX8_isLoop_2 : decode cX8_isLoop 2 = .ok (.aload_n 0, 1) := by decide +kernel
theorem dX8_isLoop_3 : decode cX8_isLoop 3 = .ok (.getfield 7, 3) := by decide +kernel
theorem dX8_isLoop_6 : decode cX8_isLoop 6 = .ok (.iconst 0, 1) := by decide +kernel
theorem dX8_isLoop_7 : decode cX8_isLoop 7 = .ok (.iaload, 1) := by decide +kernel
theorem dX8_isLoop_8 : decode cX8_isLoop 8 = .ok (.iconst 1, 1) := by decide +kernel
theorem dX8_isLoop_9 : decode cX8_isLoop 9 = .ok (.isub, 1) := by decide +kernel
theorem dX8_isLoop_10 : decode cX8_isLoop 10 = .ok (.invokestatic 36, 3) := by decide +kernel
theorem dX8_isLoop_13 : decode cX8_isLoop 13 = .ok (.ireturn, 1) := by decide +kernel
theorem dX8_isOne_0 : decode cX8_isOne 0 = .ok (.iload_n 1, 1) := by decide +kernel
theorem dX8_isOne_1 : decode cX8_isOne 1 = .ok (.iconst 0, 1) := by decide +kernel
theorem dX8_isOne_2 : decode cX8_isOne 2 = .ok (.aload_n 0, 1) := by decide +kernel
theorem dX8_isOne_3 : decode cX8_isOne 3 = .ok (.getfield 7, 3) := by decide +kernel
theorem dX8_isOne_6 : decode cX8_isOne 6 = .ok (.bipush 101, 2) := by decide +kernel
theorem dX8_isOne_8 : decode cX8_isOne 8 = .ok (.iaload, 1) := by decide +kernel
theorem dX8_isOne_9 : decode cX8_isOne 9 = .ok (.iconst 1, 1) := by decide +kernel
theorem dX8_isOne_10 : decode cX8_isOne 10 = .ok (.isub, 1) := by decide +kernel
theorem dX8_isOne_11 : decode cX8_isOne 11 = .ok (.invokestatic 36, 3) := by decide +kernel
theorem dX8_isOne_14 : decode cX8_isOne 14 = .ok (.ireturn, 1) := by decide +kernel
theorem dX8_makesLoop_0 : decode cX8_makesLoop 0 = .ok (.aload_n 0, 1) := by decide +kernel
theorem dX8_makesLoop_1 : decode cX8_makesLoop 1 = .ok (.getfield 7, 3) := by decide +kernel
theorem dX8_makesLoop_4 : decode cX8_makesLoop 4 = .ok (.iconst 0, 1) := by decide +kernel
theorem dX8_makesLoop_5 : decode cX8_makesLoop 5 = .ok (.iaload, 1) := by decide +kernel
theorem dX8_makesLoop_6 : decode cX8_makesLoop 6 = .ok (.istore_n 1, 1) := by decide +kernel
theorem dX8_makesLoop_7 : decode cX8_makesLoop 7 = .ok (.aload_n 0, 1) := by decide +kernel
theorem dX8_makesLoop_8 : decode cX8_makesLoop 8 = .ok (.getfield 7, 3) := by decide +kernel
theorem dX8_makesLoop_11 : decode cX8_makesLoop 11 = .ok (.iconst 0, 1) := by decide +kernel
theorem dX8_makesLoop_12 : decode cX8_makesLoop 12 = .ok (.dup2, 1) := by decide +kernel
theorem dX8_makesLoop_13 : decode cX8_makesLoop 13 = .ok (.iaload, 1) := by decide +kernel
theorem dX8_makesLoop_14 : decode cX8_makesLoop 14 = .ok (.iconst 1, 1) := by decide +kernel
theorem dX8_makesLoop_15 : decode cX8_makesLoop 15 = .ok (.iadd, 1) := by decide +kernel
theorem dX8_makesLoop_16 : decode cX8_makesLoop 16 = .ok (.iastore, 1) := by decide +kernel
theorem dX8_makesLoop_17 : decode cX8_makesLoop 17 = .ok (.aload_n 0, 1) := by decide +kernel
theorem dX8_makesLoop_18 : decode cX8_makesLoop 18 = .ok (.iload_n 1, 1) := by decide +kernel
theorem dX8_makesLoop_19 : decode cX8_makesLoop 19 = .ok (.iconst 2, 1) := by decide +kernel
theorem dX8_makesLoop_20 : decode cX8_makesLoop 20 = .ok (.iconst (-1), 1) := by decide +kernel
theorem dX8_makesLoop_21 : decode cX8_makesLoop 21 = .ok (.invokevirtual 40, 3) := by decide +kernel
theorem dX8_makesLoop_24 : decode cX8_makesLoop 24 = .ok (.aload_n 0, 1) := by decide +kernel
theorem dX8_makesLoop_25 : decode cX8_makesLoop 25 = .ok (.iload_n 1, 1) := by decide +kernel
theorem dX8_makesLoop_26 : decode cX8_makesLoop 26 = .ok (.iconst 3, 1) := by decide +kernel
theorem dX8_makesLoop_27 : decode cX8_makesLoop 27 = .ok (.iconst (-1), 1) := by decide +kernel
theorem dX8_makesLoop_28 : decode cX8_makesLoop 28 = .ok (.invokevirtual 40, 3) := by decide +kernel
theorem dX8_makesLoop_31 : decode cX8_makesLoop 31 = .ok (.aload_n 0, 1) := by decide +kernel
theorem dX8_makesLoop_32 : decode cX8_makesLoop 32 = .ok (.iload_n 1, 1) := by decide +kernel
theorem dX8_makesLoop_33 : decode cX8_makesLoop 33 = .ok (.iconst 4, 1) := by decide +kernel
theorem dX8_makesLoop_34 : decode cX8_makesLoop 34 = .ok (.iconst (-1), 1) := by decide +kernel
theorem dX8_makesLoop_35 : decode cX8_makesLoop 35 = .ok (.invokevirtual 40, 3) := by decide +kernel
theorem dX8_makesLoop_38 : decode cX8_makesLoop 38 = .ok (.aload_n 0, 1) := by decide +kernel
theorem dX8_makesLoop_39 : decode cX8_makesLoop 39 = .ok (.iload_n 1, 1) := by decide +kernel
theorem dX8_makesLoop_40 : decode cX8_makesLoop 40 = .ok (.bipush 6, 2) := by decide +kernel
theorem dX8_makesLoop_42 : decode cX8_makesLoop 42 = .ok (.iconst (-1), 1) := by decide +kernel
theorem dX8_makesLoop_43 : decode cX8_makesLoop 43 = .ok (.invokevirtual 40, 3) := by decide +kernel
theorem dX8_makesLoop_46 : decode cX8_makesLoop 46 = .ok (.iconst 0, 1) := by decide +kernel
theorem dX8_makesLoop_47 : decode cX8_makesLoop 47 = .ok (.istore_n 2, 1) := by decide +kernel
theorem dX8_makesLoop_48 : decode cX8_makesLoop 48 = .ok (.iload_n 2, 1) := by decide +kernel
theorem dX8_makesLoop_49 : decode cX8_makesLoop 49 = .ok (.bipush 12, 2) := by decide +kernel
theorem dX8_makesLoop_51 : decode cX8_makesLoop 51 = .ok (.if_icmp .ge 19, 3) := by decide +kernel
theorem dX8_makesLoop_54 : decode cX8_makesLoop 54 = .ok (.aload_n 0, 1) := by decide +kernel
theorem dX8_makesLoop_55 : decode cX8_makesLoop 55 = .ok (.iload_n 1, 1) := by decide +kernel
theorem dX8_makesLoop_56 : decode cX8_makesLoop 56 = .ok (.bipush 8, 2) := by decide +kernel
theorem dX8_makesLoop_58 : decode cX8_makesLoop 58 = .ok (.iload_n 2, 1) := by decide +kernel
theorem dX8_makesLoop_59 : decode cX8_makesLoop 59 = .ok (.iadd, 1) := by decide +kernel
theorem dX8_makesLoop_60 : decode cX8_makesLoop 60 = .ok (.iconst 1, 1) := by decide +kernel
theorem dX8_makesLoop_61 : decode cX8_makesLoop 61 = .ok (.invokevirtual 40, 3) := by decide +kernel
theorem dX8_makesLoop_64 : decode cX8_makesLoop 64 = .ok (.iinc 2 1, 3) := by decide +kernel
theorem dX8_makesLoop_67 : decode cX8_makesLoop 67 = .ok (.goto (-19), 3) := by decide +kernel
theorem dX8_makesLoop_70 : decode cX8_makesLoop 70 = .ok (.return_, 1) := by decide +kernel
theorem dX8_addLoop_0 : decode cX8_addLoop 0 = .ok (.aload_n 0, 1) := by decide +kernel
theorem dX8_addLoop_1 : decode cX8_addLoop 1 = .ok (.aload_n 0, 1) := by decide +kernel
theorem dX8_addLoop_2 : decode cX8_addLoop 2 = .ok (.getfield 7, 3) := by decide +kernel
theorem dX8_addLoop_5 : decode cX8_addLoop 5 = .ok (.iconst 0, 1) := by decide +kernel
theorem dX8_addLoop_6 : decode cX8_addLoop 6 = .ok (.iaload, 1) := by decide +kernel
theorem dX8_addLoop_7 : decode cX8_addLoop 7 = .ok (.iconst 5, 1) := by decide +kernel
theorem dX8_addLoop_8 : decode cX8_addLoop 8 = .ok (.if_icmp .ne 7, 3) := by decide +kernel
theorem dX8_addLoop_11 : decode cX8_addLoop 11 = .ok (.iconst 1, 1) := by decide +kernel
theorem dX8_addLoop_12 : decode cX8_addLoop 12 = .ok (.goto 4, 3) := by decide +kernel
theorem dX8_addLoop_15 : decode cX8_addLoop 15 = .ok (.iconst 0, 1) := by decide +kernel
theorem dX8_addLoop_16 : decode cX8_addLoop 16 = .ok (.invokevirtual 32, 3) := by decide +kernel
theorem dX8_addLoop_19 : decode cX8_addLoop 19 = .ok (.ifCond .eq 5, 3) := by decide +kernel
theorem dX8_addLoop_22 : decode cX8_addLoop 22 = .ok (.iconst 0, 1) := by decide +kernel
theorem dX8_addLoop_23 : decode cX8_addLoop 23 = .ok (.ireturn, 1) := by decide +kernel
theorem dX8_addLoop_24 : decode cX8_addLoop 24 = .ok (.aload_n 0, 1) := by decide +kernel
theorem dX8_addLoop_25 : decode cX8_addLoop 25 = .ok (.invokevirtual 44, 3) := by decide +kernel
theorem dX8_addLoop_28 : decode cX8_addLoop 28 = .ok (.aload_n 0, 1) := by decide +kernel
theorem dX8_addLoop_29 : decode cX8_addLoop 29 = .ok (.invokevirtual 22, 3) := by decide +kernel
theorem dX8_addLoop_32 : decode cX8_addLoop 32 = .ok (.aload_n 0, 1) := by decide +kernel
theorem dX8_addLoop_33 : decode cX8_addLoop 33 = .ok (.getfield 7, 3) := by decide +kernel
theorem dX8_addLoop_36 : decode cX8_addLoop 36 = .ok (.iconst 0, 1) := by decide +kernel
theorem dX8_addLoop_37 : decode cX8_addLoop 37 = .ok (.iaload, 1) := by decide +kernel
theorem dX8_addLoop_38 : decode cX8_addLoop 38 = .ok (.iconst 1, 1) := by decide +kernel
theorem dX8_addLoop_39 : decode cX8_addLoop 39 = .ok (.isub, 1) := by decide +kernel
theorem dX8_addLoop_40 : decode cX8_addLoop 40 = .ok (.ireturn, 1) := by decide +kernel
theorem dX8_isTaken_0 : decode cX8_isTaken 0 = .ok (.iconst 0, 1) := by decide +kernel
theorem dX8_isTaken_1 : decode cX8_isTaken 1 = .ok (.istore 4, 2) := by decide +kernel
theorem dX8_isTaken_3 : decode cX8_isTaken 3 = .ok (.iconst 0, 1) := by decide +kernel
theorem dX8_isTaken_4 : decode cX8_isTaken 4 = .ok (.istore 5, 2) := by decide +kernel
theorem dX8_isTaken_6 : decode cX8_isTaken 6 = .ok (.iload 5, 2) := by decide +kernel
theorem dX8_isTaken_8 : decode cX8_isTaken 8 = .ok (.aload_n 0, 1) := by decide +kernel
theorem dX8_isTaken_9 : decode cX8_isTaken 9 = .ok (.getfield 7, 3) := by decide +kernel
theorem dX8_isTaken_12 : decode cX8_isTaken 12 = .ok (.bipush 101, 2) := by decide +kernel
theorem dX8_isTaken_14 : decode cX8_isTaken 14 = .ok (.iaload, 1) := by decide +kernel
theorem dX8_isTaken_15 : decode cX8_isTaken 15 = .ok (.if_icmp .ge 47, 3) := by decide +kernel
theorem dX8_isTaken_18 : decode cX8_isTaken 18 = .ok (.iload 4, 2) := by decide +kernel
theorem dX8_isTaken_20 : decode cX8_isTaken 20 = .ok (.iload 5, 2) := by decide +kernel
theorem dX8_isTaken_22 : decode cX8_isTaken 22 = .ok (.iload_n 3, 1) := by decide +kernel
theorem dX8_isTaken_23 : decode cX8_isTaken 23 = .ok (.if_icmp .eq 29, 3) := by decide +kernel
theorem dX8_isTaken_26 : decode cX8_isTaken 26 = .ok (.aload_n 0, 1) := by decide +kernel
theorem dX8_isTaken_27 : decode cX8_isTaken 27 = .ok (.iload 5, 2) := by decide +kernel
theorem dX8_isTaken_29 : decode cX8_isTaken 29 = .ok (.iconst 0, 1) := by decide +kernel
theorem dX8_isTaken_30 : decode cX8_isTaken 30 = .ok (.invokevirtual 47, 3) := by decide +kernel
theorem dX8_isTaken_33 : decode cX8_isTaken 33 = .ok (.iload_n 1, 1) := by decide +kernel
theorem dX8_isTaken_34 : decode cX8_isTaken 34 = .ok (.if_icmp .ne 18, 3) := by decide +kernel
theorem dX8_isTaken_37 : decode cX8_isTaken 37 = .ok (.aload_n 0, 1) := by decide +kernel
theorem dX8_isTaken_38 : decode cX8_isTaken 38 = .ok (.iload 5, 2) := by decide +kernel
theorem dX8_isTaken_40 : decode cX8_isTaken 40 = .ok (.iconst 2, 1) := by decide +kernel
theorem dX8_isTaken_41 : decode cX8_isTaken 41 = .ok (.invokevirtual 47, 3) := by decide +kernel
theorem dX8_isTaken_44 : decode cX8_isTaken 44 = .ok (.iload_n 2, 1) := by decide +kernel
theorem dX8_isTaken_45 : decode cX8_isTaken 45 = .ok (.if_icmp .ne 7, 3) := by decide +kernel
theorem dX8_isTaken_48 : decode cX8_isTaken 48 = .ok (.iconst 1, 1) := by decide +kernel
theorem dX8_isTaken_49 : decode cX8_isTaken 49 = .ok (.goto 4, 3) := by decide +kernel
theorem dX8_isTaken_52 : decode cX8_isTaken 52 = .ok (.iconst 0, 1) := by decide +kernel
theorem dX8_isTaken_53 : decode cX8_isTaken 53 = .ok (.ior, 1) := by decide +kernel
theorem dX8_isTaken_54 : decode cX8_isTaken 54 = .ok (.istore 4, 2) := by decide +kernel
theorem dX8_isTaken_56 : decode cX8_isTaken 56 = .ok (.iinc 5 1, 3) := by decide +kernel
theorem dX8_isTaken_59 : decode cX8_isTaken 59 = .ok (.goto (-53), 3) := by decide +kernel
theorem dX8_isTaken_62 : decode cX8_isTaken 62 = .ok (.iload 4, 2) := by decide +kernel
theorem dX8_isTaken_64 : decode cX8_isTaken 64 = .ok (.ireturn, 1) := by decide +kernel
theorem dX8_addSubscriber_0 : decode cX8_addSubscriber 0 = .ok (.iload_n 2, 1) := by decide +kernel
theorem dX8_addSubscriber_1 : decode cX8_addSubscriber 1 = .ok (.iconst 1, 1) := by decide +kernel
theorem dX8_addSubscriber_2 : decode cX8_addSubscriber 2 = .ok (.bipush 12, 2) := by decide +kernel
theorem dX8_addSubscriber_4 : decode cX8_addSubscriber 4 = .ok (.invokestatic 36, 3) := by decide +kernel
theorem dX8_addSubscriber_7 : decode cX8_addSubscriber 7 = .ok (.ifCond .eq 17, 3) := by decide +kernel
theorem dX8_addSubscriber_10 : decode cX8_addSubscriber 10 = .ok (.iload_n 3, 1) := by decide +kernel
theorem dX8_addSubscriber_11 : decode cX8_addSubscriber 11 = .ok (.iconst 1, 1) := by decide +kernel
theorem dX8_addSubscriber_12 : decode cX8_addSubscriber 12 = .ok (.bipush 14, 2) := by decide +kernel
theorem dX8_addSubscriber_14 : decode cX8_addSubscriber 14 = .ok (.invokestatic 36, 3) := by decide +kernel
theorem dX8_addSubscriber_17 : decode cX8_addSubscriber 17 = .ok (.ifCond .eq 7, 3) := by decide +kernel
theorem dX8_addSubscriber_20 : decode cX8_addSubscriber 20 = .ok (.iconst 1, 1) := by decide +kernel
theorem dX8_addSubscriber_21 : decode cX8_addSubscriber 21 = .ok (.goto 4, 3) := by decide +kernel
theorem dX8_addSubscriber_24 : decode cX8_addSubscriber 24 = .ok (.iconst 0, 1) := by decide +kernel
theorem dX8_addSubscriber_25 : decode cX8_addSubscriber 25 = .ok (.istore 4, 2) := by decide +kernel
theorem dX8_addSubscriber_27 : decode cX8_addSubscriber 27 = .ok (.aload_n 0, 1) := by decide +kernel
theorem dX8_addSubscriber_28 : decode cX8_addSubscriber 28 = .ok (.aload_n 0, 1) := by decide +kernel
theorem dX8_addSubscriber_29 : decode cX8_addSubscriber 29 = .ok (.iload_n 1, 1) := by decide +kernel
theorem dX8_addSubscriber_30 : decode cX8_addSubscriber 30 = .ok (.invokevirtual 51, 3) := by decide +kernel
theorem dX8_addSubscriber_33 : decode cX8_addSubscriber 33 = .ok (.ifCond .ne 7, 3) := by decide +kernel
theorem dX8_addSubscriber_36 : decode cX8_addSubscriber 36 = .ok (.iconst 1, 1) := by decide +kernel
theorem dX8_addSubscriber_37 : decode cX8_addSubscriber 37 = .ok (.goto 39, 3) := by decide +kernel
theorem dX8_addSubscriber_40 : decode cX8_addSubscriber 40 = .ok (.iload 4, 2) := by decide +kernel
theorem dX8_addSubscriber_42 : decode cX8_addSubscriber 42 = .ok (.ifCond .ne 7, 3) := by decide +kernel
theorem dX8_addSubscriber_45 : decode cX8_addSubscriber 45 = .ok (.iconst 2, 1) := by decide +kernel
theorem dX8_addSubscriber_46 : decode cX8_addSubscriber 46 = .ok (.goto 30, 3) := by decide +kernel
theorem dX8_addSubscriber_49 : decode cX8_addSubscriber 49 = .ok (.aload_n 0, 1) := by decide +kernel
theorem dX8_addSubscriber_50 : decode cX8_addSubscriber 50 = .ok (.getfield 7, 3) := by decide +kernel
theorem dX8_addSubscriber_53 : decode cX8_addSubscriber 53 = .ok (.bipush 101, 2) := by decide +kernel
theorem dX8_addSubscriber_55 : decode cX8_addSubscriber 55 = .ok (.iaload, 1) := by decide +kernel
theorem dX8_addSubscriber_56 : decode cX8_addSubscriber 56 = .ok (.bipush 16, 2) := by decide +kernel
theorem dX8_addSubscriber_58 : decode cX8_addSubscriber 58 = .ok (.if_icmp .eq 13, 3) := by decide +kernel
theorem dX8_addSubscriber_61 : decode cX8_addSubscriber 61 = .ok (.aload_n 0, 1) := by decide +kernel
theorem dX8_addSubscriber_62 : decode cX8_addSubscriber 62 = .ok (.iload_n 1, 1) := by decide +kernel
theorem dX8_addSubscriber_63 : decode cX8_addSubscriber 63 = .ok (.iload_n 3, 1) := by decide +kernel
theorem dX8_addSubscriber_64 : decode cX8_addSubscriber 64 = .ok (.iconst (-1), 1) := by decide +kernel
theorem dX8_addSubscriber_65 : decode cX8_addSubscriber 65 = .ok (.invokevirtual 54, 3) := by decide +kernel
theorem dX8_addSubscriber_68 : decode cX8_addSubscriber 68 = .ok (.ifCond .eq 7, 3) := by decide +kernel
theorem dX8_addSubscriber_71 : decode cX8_addSubscriber 71 = .ok (.iconst 3, 1) := by decide +kernel
theorem dX8_addSubscriber_72 : decode cX8_addSubscriber 72 = .ok (.goto 4, 3) := by decide +kernel
theorem dX8_addSubscriber_75 : decode cX8_addSubscriber 75 = .ok (.iconst 0, 1) := by decide +kernel
theorem dX8_addSubscriber_76 : decode cX8_addSubscriber 76 = .ok (.invokevirtual 32, 3) := by decide +kernel
theorem dX8_addSubscriber_79 : decode cX8_addSubscriber 79 = .ok (.ifCond .eq 5, 3) := by decide +kernel
theorem dX8_addSubscriber_82 : decode cX8_addSubscriber 82 = .ok (.iconst 0, 1) := by decide +kernel
theorem dX8_addSubscriber_83 : decode cX8_addSubscriber 83 = .ok (.ireturn, 1) := by decide +kernel
theorem dX8_addSubscriber_84 : decode cX8_addSubscriber 84 = .ok (.aload_n 0, 1) := by decide +kernel
theorem dX8_addSubscriber_85 : decode cX8_addSubscriber 85 = .ok (.invokevirtual 44, 3) := by decide +kernel
theorem dX8_addSubscriber_88 : decode cX8_addSubscriber 88 = .ok (.aload_n 0, 1) := by decide +kernel
theorem dX8_addSubscriber_89 : decode cX8_addSubscriber 89 = .ok (.getfield 7, 3) := by decide +kernel
theorem dX8_addSubscriber_92 : decode cX8_addSubscriber 92 = .ok (.bipush 101, 2) := by decide +kernel
theorem dX8_addSubscriber_94 : decode cX8_addSubscriber 94 = .ok (.iaload, 1) := by decide +kernel
theorem dX8_addSubscriber_95 : decode cX8_addSubscriber 95 = .ok (.istore 5, 2) := by decide +kernel
theorem dX8_addSubscriber_97 : decode cX8_addSubscriber 97 = .ok (.aload_n 0, 1) := by decide +kernel
theorem dX8_addSubscriber_98 : decode cX8_addSubscriber 98 = .ok (.getfield 7, 3) := by decide +kernel
theorem dX8_addSubscriber_101 : decode cX8_addSubscriber 101 = .ok (.bipush 101, 2) := by decide +kernel
theorem dX8_addSubscriber_103 : decode cX8_addSubscriber 103 = .ok (.dup2, 1) := by decide +kernel
theorem dX8_addSubscriber_104 : decode cX8_addSubscriber 104 = .ok (.iaload, 1) := by decide +kernel
theorem dX8_addSubscriber_105 : decode cX8_addSubscriber 105 = .ok (.iconst 1, 1) := by decide +kernel
theorem dX8_addSubscriber_106 : decode cX8_addSubscriber 106 = .ok (.iadd, 1) := by decide +kernel
theorem dX8_addSubscriber_107 : decode cX8_addSubscriber 107 = .ok (.iastore, 1) := by decide +kernel
theorem dX8_addSubscriber_108 : decode cX8_addSubscriber 108 = .ok (.aload_n 0, 1) := by decide +kernel
theorem dX8_addSubscriber_109 : decode cX8_addSubscriber 109 = .ok (.iload 5, 2) := by decide +kernel
theorem dX8_addSubscriber_111 : decode cX8_addSubscriber 111 = .ok (.iconst 0, 1) := by decide +kernel
theorem dX8_addSubscriber_112 : decode cX8_addSubscriber 112 = .ok (.iload_n 1, 1) := by decide +kernel
theorem dX8_addSubscriber_113 : decode cX8_addSubscriber 113 = .ok (.invokevirtual 57, 3) := by decide +kernel
theorem dX8_addSubscriber_116 : decode cX8_addSubscriber 116 = .ok (.aload_n 0, 1) := by decide +kernel
theorem dX8_addSubscriber_117 : decode cX8_addSubscriber 117 = .ok (.iload 5, 2) := by decide +kernel
theorem dX8_addSubscriber_119 : decode cX8_addSubscriber 119 = .ok (.iconst 1, 1) := by decide +kernel
theorem dX8_addSubscriber_120 : decode cX8_addSubscriber 120 = .ok (.iload_n 2, 1) := by decide +kernel
theorem dX8_addSubscriber_121 : decode cX8_addSubscriber 121 = .ok (.invokevirtual 57, 3) := by decide +kernel
theorem dX8_addSubscriber_124 : decode cX8_addSubscriber 124 = .ok (.aload_n 0, 1) := by decide +kernel
theorem dX8_addSubscriber_125 : decode cX8_addSubscriber 125 = .ok (.iload 5, 2) := by decide +kernel
theorem dX8_addSubscriber_127 : decode cX8_addSubscriber 127 = .ok (.iconst 2, 1) := by decide +kernel
theorem dX8_addSubscriber_128 : decode cX8_addSubscriber 128 = .ok (.iload_n 3, 1) := by decide +kernel
theorem dX8_addSubscriber_129 : decode cX8_addSubscriber 129 = .ok (.invokevirtual 57, 3) := by decide +kernel
theorem dX8_addSubscriber_132 : decode cX8_addSubscriber 132 = .ok (.aload_n 0, 1) := by decide +kernel
theorem dX8_addSubscriber_133 : decode cX8_addSubscriber 133 = .ok (.iload 5, 2) := by decide +kernel
theorem dX8_addSubscriber_135 : decode cX8_addSubscriber 135 = .ok (.iconst 3, 1) := by decide +kernel
theorem dX8_addSubscriber_136 : decode cX8_addSubscriber 136 = .ok (.iconst 0, 1) := by decide +kernel
theorem dX8_addSubscriber_137 : decode cX8_addSubscriber 137 = .ok (.invokevirtual 57, 3) := by decide +kernel
theorem dX8_addSubscriber_140 : decode cX8_addSubscriber 140 = .ok (.aload_n 0, 1) := by decide +kernel
theorem dX8_addSubscriber_141 : decode cX8_addSubscriber 141 = .ok (.iload 5, 2) := by decide +kernel
theorem dX8_addSubscriber_143 : decode cX8_addSubscriber 143 = .ok (.iconst 4, 1) := by decide +kernel
theorem dX8_addSubscriber_144 : decode cX8_addSubscriber 144 = .ok (.iconst 1, 1) := by decide +kernel
theorem dX8_addSubscriber_145 : decode cX8_addSubscriber 145 = .ok (.invokevirtual 57, 3) := by decide +kernel
theorem dX8_addSubscriber_148 : decode cX8_addSubscriber 148 = .ok (.aload_n 0, 1) := by decide +kernel
theorem dX8_addSubscriber_149 : decode cX8_addSubscriber 149 = .ok (.iload 5, 2) := by decide +kernel
theorem dX8_addSubscriber_151 : decode cX8_addSubscriber 151 = .ok (.iconst 5, 1) := by decide +kernel
theorem dX8_addSubscriber_152 : decode cX8_addSubscriber 152 = .ok (.iconst 0, 1) := by decide +kernel
theorem dX8_addSubscriber_153 : decode cX8_addSubscriber 153 = .ok (.invokevirtual 57, 3) := by decide +kernel
theorem dX8_addSubscriber_156 : decode cX8_addSubscriber 156 = .ok (.aload_n 0, 1) := by decide +kernel
theorem dX8_addSubscriber_157 : decode cX8_addSubscriber 157 = .ok (.iload 5, 2) := by decide +kernel
theorem dX8_addSubscriber_159 : decode cX8_addSubscriber 159 = .ok (.bipush 6, 2) := by decide +kernel
theorem dX8_addSubscriber_161 : decode cX8_addSubscriber 161 = .ok (.iconst 0, 1) := by decide +kernel
theorem dX8_addSubscriber_162 : decode cX8_addSubscriber 162 = .ok (.invokevirtual 57, 3) := by decide +kernel
theorem dX8_addSubscriber_165 : decode cX8_addSubscriber 165 = .ok (.aload_n 0, 1) := by decide +kernel
theorem dX8_addSubscriber_166 : decode cX8_addSubscriber 166 = .ok (.iload 5, 2) := by decide +kernel
theorem dX8_addSubscriber_168 : decode cX8_addSubscriber 168 = .ok (.bipush 7, 2) := by decide +kernel
theorem dX8_addSubscriber_170 : decode cX8_addSubscriber 170 = .ok (.iconst 0, 1) := by decide +kernel
theorem dX8_addSubscriber_171 : decode cX8_addSubscriber 171 = .ok (.invokevirtual 57, 3) := by decide +kernel
theorem dX8_addSubscriber_174 : decode cX8_addSubscriber 174 = .ok (.iload 5, 2) := by decide +kernel
theorem dX8_addSubscriber_176 : decode cX8_addSubscriber 176 = .ok (.ireturn, 1) := by decide +kernel
theorem dX8_isRung_0 : decode cX8_isRung 0 = .ok (.aload_n 0, 1) := by decide +kernel
theorem dX8_isRung_1 : decode cX8_isRung 1 = .ok (.iload_n 1, 1) := by decide +kernel
theorem dX8_isRung_2 : decode cX8_isRung 2 = .ok (.iconst 0, 1) := by decide +kernel
theorem dX8_isRung_3 : decode cX8_isRung 3 = .ok (.invokevirtual 60, 3) := by decide +kernel
theorem dX8_isRung_6 : decode cX8_isRung 6 = .ok (.iconst 3, 1) := by decide +kernel
theorem dX8_isRung_7 : decode cX8_isRung 7 = .ok (.if_icmp .eq 14, 3) := by decide +kernel
theorem dX8_isRung_10 : decode cX8_isRung 10 = .ok (.aload_n 0, 1) := by decide +kernel
theorem dX8_isRung_11 : decode cX8_isRung 11 = .ok (.iload_n 1, 1) := by decide +kernel
theorem dX8_isRung_12 : decode cX8_isRung 12 = .ok (.iconst 0, 1) := by decide +kernel
theorem dX8_isRung_13 : decode cX8_isRung 13 = .ok (.invokevirtual 60, 3) := by decide +kernel
theorem dX8_isRung_16 : decode cX8_isRung 16 = .ok (.bipush 7, 2) := by decide +kernel
theorem dX8_isRung_18 : decode cX8_isRung 18 = .ok (.if_icmp .ne 7, 3) := by decide +kernel
theorem dX8_isRung_21 : decode cX8_isRung 21 = .ok (.iconst 1, 1) := by decide +kernel
theorem dX8_isRung_22 : decode cX8_isRung 22 = .ok (.goto 4, 3) := by decide +kernel
theorem dX8_isRung_25 : decode cX8_isRung 25 = .ok (.iconst 0, 1) := by decide +kernel
theorem dX8_isRung_26 : decode cX8_isRung 26 = .ok (.ireturn, 1) := by decide +kernel
theorem dX8_set_0 : decode cX8_set 0 = .ok (.aload_n 0, 1) := by decide +kernel
theorem dX8_set_1 : decode cX8_set 1 = .ok (.iload_n 1, 1) := by decide +kernel
theorem dX8_set_2 : decode cX8_set 2 = .ok (.invokevirtual 63, 3) := by decide +kernel
theorem dX8_set_5 : decode cX8_set 5 = .ok (.istore 4, 2) := by decide +kernel
theorem dX8_set_7 : decode cX8_set 7 = .ok (.iload_n 2, 1) := by decide +kernel
theorem dX8_set_8 : decode cX8_set 8 = .ok (.ifCond .ne 13, 3) := by decide +kernel
theorem dX8_set_11 : decode cX8_set 11 = .ok (.iload_n 3, 1) := by decide +kernel
theorem dX8_set_12 : decode cX8_set 12 = .ok (.iconst 1, 1) := by decide +kernel
theorem dX8_set_13 : decode cX8_set 13 = .ok (.bipush 14, 2) := by decide +kernel
theorem dX8_set_15 : decode cX8_set 15 = .ok (.invokestatic 36, 3) := by decide +kernel
theorem dX8_set_18 : decode cX8_set 18 = .ok (.goto 37, 3) := by decide +kernel
theorem dX8_set_21 : decode cX8_set 21 = .ok (.iload_n 2, 1) := by decide +kernel
theorem dX8_set_22 : decode cX8_set 22 = .ok (.iconst 1, 1) := by decide +kernel
theorem dX8_set_23 : decode cX8_set 23 = .ok (.if_icmp .ne 12, 3) := by decide +kernel
theorem dX8_set_26 : decode cX8_set 26 = .ok (.iload_n 3, 1) := by decide +kernel
theorem dX8_set_27 : decode cX8_set 27 = .ok (.iconst 0, 1) := by decide +kernel
theorem dX8_set_28 : decode cX8_set 28 = .ok (.iconst 1, 1) := by decide +kernel
theorem dX8_set_29 : decode cX8_set 29 = .ok (.invokestatic 36, 3) := by decide +kernel
theorem dX8_set_32 : decode cX8_set 32 = .ok (.goto 23, 3) := by decide +kernel
theorem dX8_set_35 : decode cX8_set 35 = .ok (.iload_n 2, 1) := by decide +kernel
theorem dX8_set_36 : decode cX8_set 36 = .ok (.iconst 2, 1) := by decide +kernel
theorem dX8_set_37 : decode cX8_set 37 = .ok (.if_icmp .ne 17, 3) := by decide +kernel
theorem dX8_set_40 : decode cX8_set 40 = .ok (.iload_n 3, 1) := by decide +kernel
theorem dX8_set_41 : decode cX8_set 41 = .ok (.iconst 0, 1) := by decide +kernel
theorem dX8_set_42 : decode cX8_set 42 = .ok (.bipush 99, 2) := by decide +kernel
theorem dX8_set_44 : decode cX8_set 44 = .ok (.invokestatic 36, 3) := by decide +kernel
theorem dX8_set_47 : decode cX8_set 47 = .ok (.ifCond .eq 7, 3) := by decide +kernel
theorem dX8_set_50 : decode cX8_set 50 = .ok (.iconst 1, 1) := by decide +kernel
theorem dX8_set_51 : decode cX8_set 51 = .ok (.goto 4, 3) := by decide +kernel
theorem dX8_set_54 : decode cX8_set 54 = .ok (.iconst 0, 1) := by decide +kernel
theorem dX8_set_55 : decode cX8_set 55 = .ok (.istore 5, 2) := by decide +kernel
theorem dX8_set_57 : decode cX8_set 57 = .ok (.aload_n 0, 1) := by decide +kernel
theorem dX8_set_58 : decode cX8_set 58 = .ok (.iload 4, 2) := by decide +kernel
theorem dX8_set_60 : decode cX8_set 60 = .ok (.ifCond .ne 7, 3) := by decide +kernel
theorem dX8_set_63 : decode cX8_set 63 = .ok (.iconst 1, 1) := by decide +kernel
theorem dX8_set_64 : decode cX8_set 64 = .ok (.goto 49, 3) := by decide +kernel
theorem dX8_set_67 : decode cX8_set 67 = .ok (.iload 5, 2) := by decide +kernel
theorem dX8_set_69 : decode cX8_set 69 = .ok (.ifCond .ne 7, 3) := by decide +kernel
theorem dX8_set_72 : decode cX8_set 72 = .ok (.iconst 2, 1) := by decide +kernel
theorem dX8_set_73 : decode cX8_set 73 = .ok (.goto 40, 3) := by decide +kernel
theorem dX8_set_76 : decode cX8_set 76 = .ok (.iload_n 2, 1) := by decide +kernel
theorem dX8_set_77 : decode cX8_set 77 = .ok (.ifCond .ne 35, 3) := by decide +kernel
theorem dX8_set_80 : decode cX8_set 80 = .ok (.aload_n 0, 1) := by decide +kernel
theorem dX8_set_81 : decode cX8_set 81 = .ok (.aload_n 0, 1) := by decide +kernel
theorem dX8_set_82 : decode cX8_set 82 = .ok (.iload_n 1, 1) := by decide +kernel
theorem dX8_set_83 : decode cX8_set 83 = .ok (.iconst 0, 1) := by decide +kernel
theorem dX8_set_84 : decode cX8_set 84 = .ok (.invokevirtual 47, 3) := by decide +kernel
theorem dX8_set_87 : decode cX8_set 87 = .ok (.iload_n 3, 1) := by decide +kernel
theorem dX8_set_88 : decode cX8_set 88 = .ok (.iload_n 1, 1) := by decide +kernel
theorem dX8_set_89 : decode cX8_set 89 = .ok (.invokevirtual 54, 3) := by decide +kernel
theorem dX8_set_92 : decode cX8_set 92 = .ok (.ifCond .ne 16, 3) := by decide +kernel
theorem dX8_set_95 : decode cX8_set 95 = .ok (.aload_n 0, 1) := by decide +kernel
theorem dX8_set_96 : decode cX8_set 96 = .ok (.aload_n 0, 1) := by decide +kernel
theorem dX8_set_97 : decode cX8_set 97 = .ok (.iload_n 1, 1) := by decide +kernel
theorem dX8_set_98 : decode cX8_set 98 = .ok (.iconst 0, 1) := by decide +kernel
theorem dX8_set_99 : decode cX8_set 99 = .ok (.invokevirtual 47, 3) := by decide +kernel
theorem dX8_set_102 : decode cX8_set 102 = .ok (.invokevirtual 66, 3) := by decide +kernel
theorem dX8_set_105 : decode cX8_set 105 = .ok (.ifCond .eq 7, 3) := by decide +kernel
theorem dX8_set_108 : decode cX8_set 108 = .ok (.iconst 3, 1) := by decide +kernel
theorem dX8_set_109 : decode cX8_set 109 = .ok (.goto 4, 3) := by decide +kernel
theorem dX8_set_112 : decode cX8_set 112 = .ok (.iconst 0, 1) := by decide +kernel
theorem dX8_set_113 : decode cX8_set 113 = .ok (.invokevirtual 32, 3) := by decide +kernel
theorem dX8_set_116 : decode cX8_set 116 = .ok (.ifCond .eq 5, 3) := by decide +kernel
theorem dX8_set_119 : decode cX8_set 119 = .ok (.iconst 0, 1) := by decide +kernel
theorem dX8_set_120 : decode cX8_set 120 = .ok (.ireturn, 1) := by decide +kernel
theorem dX8_set_121 : decode cX8_set 121 = .ok (.aload_n 0, 1) := by decide +kernel
theorem dX8_set_122 : decode cX8_set 122 = .ok (.invokevirtual 44, 3) := by decide +kernel
theorem dX8_set_125 : decode cX8_set 125 = .ok (.aload_n 0, 1) := by decide +kernel
theorem dX8_set_126 : decode cX8_set 126 = .ok (.iload_n 1, 1) := by decide +kernel
theorem dX8_set_127 : decode cX8_set 127 = .ok (.iconst 2, 1) := by decide +kernel
theorem dX8_set_128 : decode cX8_set 128 = .ok (.iload_n 2, 1) := by decide +kernel
theorem dX8_set_129 : decode cX8_set 129 = .ok (.iadd, 1) := by decide +kernel
theorem dX8_set_130 : decode cX8_set 130 = .ok (.invokevirtual 47, 3) := by decide +kernel
theorem dX8_set_133 : decode cX8_set 133 = .ok (.istore 6, 2) := by decide +kernel
theorem dX8_set_135 : decode cX8_set 135 = .ok (.aload_n 0, 1) := by decide +kernel
theorem dX8_set_136 : decode cX8_set 136 = .ok (.iload_n 1, 1) := by decide +kernel
theorem dX8_set_137 : decode cX8_set 137 = .ok (.iconst 2, 1) := by decide +kernel
theorem dX8_set_138 : decode cX8_set 138 = .ok (.iload_n 2, 1) := by decide +kernel
theorem dX8_set_139 : decode cX8_set 139 = .ok (.iadd, 1) := by decide +kernel
theorem dX8_set_140 : decode cX8_set 140 = .ok (.iload_n 3, 1) := by decide +kernel
theorem dX8_set_141 : decode cX8_set 141 = .ok (.invokevirtual 57, 3) := by decide +kernel
theorem dX8_set_144 : decode cX8_set 144 = .ok (.iload 6, 2) := by decide +kernel
theorem dX8_set_146 : decode cX8_set 146 = .ok (.ireturn, 1) := by decide +kernel
theorem dX8_loops_0 : decode cX8_loops 0 = .ok (.aload_n 0, 1) := by decide +kernel
theorem dX8_loops_1 : decode cX8_loops 1 = .ok (.iconst 0, 1) := by decide +kernel
theorem dX8_loops_2 : decode cX8_loops 2 = .ok (.putfield 25, 3) := by decide +kernel
theorem dX8_loops_5 : decode cX8_loops 5 = .ok (.aload_n 0, 1) := by decide +kernel
theorem dX8_loops_6 : decode cX8_loops 6 = .ok (.getfield 7, 3) := by decide +kernel
theorem dX8_loops_9 : decode cX8_loops 9 = .ok (.iconst 0, 1) := by decide +kernel
theorem dX8_loops_10 : decode cX8_loops 10 = .ok (.iaload, 1) := by decide +kernel
theorem dX8_loops_11 : decode cX8_loops 11 = .ok (.ireturn, 1) := by decide +kernel
theorem dX8_subscribers_0 : decode cX8_subscribers 0 = .ok (.aload_n 0, 1) := by decide +kernel
theorem dX8_subscribers_1 : decode cX8_subscribers 1 = .ok (.iconst 0, 1) := by decide +kernel
theorem dX8_subscribers_2 : decode cX8_subscribers 2 = .ok (.putfield 25, 3) := by decide +kernel
theorem dX8_subscribers_5 : decode cX8_subscribers 5 = .ok (.aload_n 0, 1) := by decide +kernel
theorem dX8_subscribers_6 : decode cX8_subscribers 6 = .ok (.getfield 7, 3) := by decide +kernel
theorem dX8_subscribers_9 : decode cX8_subscribers 9 = .ok (.bipush 101, 2) := by decide +kernel
theorem dX8_subscribers_11 : decode cX8_subscribers 11 = .ok (.iaload, 1) := by decide +kernel
theorem dX8_subscribers_12 : decode cX8_subscribers 12 = .ok (.ireturn, 1) := by decide +kernel
theorem dX8_cut_0 : decode cX8_cut 0 = .ok (.aload_n 0, 1) := by decide +kernel
theorem dX8_cut_1 : decode cX8_cut 1 = .ok (.iload_n 1, 1) := by decide +kernel
theorem dX8_cut_2 : decode cX8_cut 2 = .ok (.iconst 0, 1) := by decide +kernel
theorem dX8_cut_3 : decode cX8_cut 3 = .ok (.invokevirtual 47, 3) := by decide +kernel
theorem dX8_cut_6 : decode cX8_cut 6 = .ok (.istore_n 2, 1) := by decide +kernel
theorem dX8_cut_7 : decode cX8_cut 7 = .ok (.aload_n 0, 1) := by decide +kernel
theorem dX8_cut_8 : decode cX8_cut 8 = .ok (.iload_n 2, 1) := by decide +kernel
theorem dX8_cut_9 : decode cX8_cut 9 = .ok (.bipush 6, 2) := by decide +kernel
theorem dX8_cut_11 : decode cX8_cut 11 = .ok (.invokevirtual 60, 3) := by decide +kernel
theorem dX8_cut_14 : decode cX8_cut 14 = .ok (.iconst (-1), 1) := by decide +kernel
theorem dX8_cut_15 : decode cX8_cut 15 = .ok (.if_icmp .eq 34, 3) := by decide +kernel
theorem dX8_cut_18 : decode cX8_cut 18 = .ok (.aload_n 0, 1) := by decide +kernel
theorem dX8_cut_19 : decode cX8_cut 19 = .ok (.iload_n 2, 1) := by decide +kernel
theorem dX8_cut_20 : decode cX8_cut 20 = .ok (.bipush 7, 2) := by decide +kernel
theorem dX8_cut_22 : decode cX8_cut 22 = .ok (.invokevirtual 60, 3) := by decide +kernel
theorem dX8_cut_25 : decode cX8_cut 25 = .ok (.iconst 1, 1) := by decide +kernel
theorem dX8_cut_26 : decode cX8_cut 26 = .ok (.if_icmp .eq 19, 3) := by decide +kernel
theorem dX8_cut_29 : decode cX8_cut 29 = .ok (.aload_n 0, 1) := by decide +kernel
theorem dX8_cut_30 : decode cX8_cut 30 = .ok (.iload_n 1, 1) := by decide +kernel
theorem dX8_cut_31 : decode cX8_cut 31 = .ok (.iconst 1, 1) := by decide +kernel
theorem dX8_cut_32 : decode cX8_cut 32 = .ok (.invokevirtual 47, 3) := by decide +kernel
theorem dX8_cut_35 : decode cX8_cut 35 = .ok (.aload_n 0, 1) := by decide +kernel
theorem dX8_cut_36 : decode cX8_cut 36 = .ok (.iload_n 2, 1) := by decide +kernel
theorem dX8_cut_37 : decode cX8_cut 37 = .ok (.bipush 6, 2) := by decide +kernel
theorem dX8_cut_39 : decode cX8_cut 39 = .ok (.invokevirtual 60, 3) := by decide +kernel
theorem dX8_cut_42 : decode cX8_cut 42 = .ok (.if_icmp .lt 7, 3) := by decide +kernel
theorem dX8_cut_45 : decode cX8_cut 45 = .ok (.iconst 1, 1) := by decide +kernel
theorem dX8_cut_46 : decode cX8_cut 46 = .ok (.goto 4, 3) := by decide +kernel
theorem dX8_cut_49 : decode cX8_cut 49 = .ok (.iconst 0, 1) := by decide +kernel
theorem dX8_cut_50 : decode cX8_cut 50 = .ok (.ireturn, 1) := by decide +kernel
theorem dX8_state_0 : decode cX8_state 0 = .ok (.aload_n 0, 1) := by decide +kernel
theorem dX8_state_1 : decode cX8_state 1 = .ok (.iload_n 1, 1) := by decide +kernel
theorem dX8_state_2 : decode cX8_state 2 = .ok (.iconst 5, 1) := by decide +kernel
theorem dX8_state_3 : decode cX8_state 3 = .ok (.invokevirtual 47, 3) := by decide +kernel
theorem dX8_state_6 : decode cX8_state 6 = .ok (.ifCond .ne 5, 3) := by decide +kernel
theorem dX8_state_9 : decode cX8_state 9 = .ok (.iconst 0, 1) := by decide +kernel
theorem dX8_state_10 : decode cX8_state 10 = .ok (.ireturn, 1) := by decide +kernel
theorem dX8_state_11 : decode cX8_state 11 = .ok (.aload_n 0, 1) := by decide +kernel
theorem dX8_state_12 : decode cX8_state 12 = .ok (.iload_n 1, 1) := by decide +kernel
theorem dX8_state_13 : decode cX8_state 13 = .ok (.invokevirtual 69, 3) := by decide +kernel
theorem dX8_state_16 : decode cX8_state 16 = .ok (.ifCond .eq 7, 3) := by decide +kernel
theorem dX8_state_19 : decode cX8_state 19 = .ok (.iconst 1, 1) := by decide +kernel
theorem dX8_state_20 : decode cX8_state 20 = .ok (.goto 24, 3) := by decide +kernel
theorem dX8_state_23 : decode cX8_state 23 = .ok (.aload_n 0, 1) := by decide +kernel
theorem dX8_state_24 : decode cX8_state 24 = .ok (.iload_n 1, 1) := by decide +kernel
theorem dX8_state_25 : decode cX8_state 25 = .ok (.bipush 6, 2) := by decide +kernel
theorem dX8_state_27 : decode cX8_state 27 = .ok (.invokevirtual 47, 3) := by decide +kernel
theorem dX8_state_30 : decode cX8_state 30 = .ok (.ifCond .le 13, 3) := by decide +kernel
theorem dX8_state_33 : decode cX8_state 33 = .ok (.aload_n 0, 1) := by decide +kernel
theorem dX8_state_34 : decode cX8_state 34 = .ok (.iload_n 1, 1) := by decide +kernel
theorem dX8_state_35 : decode cX8_state 35 = .ok (.bipush 6, 2) := by decide +kernel
theorem dX8_state_37 : decode cX8_state 37 = .ok (.invokevirtual 47, 3) := by decide +kernel
theorem dX8_state_40 : decode cX8_state 40 = .ok (.goto 4, 3) := by decide +kernel
theorem dX8_state_43 : decode cX8_state 43 = .ok (.iconst 2, 1) := by decide +kernel
theorem dX8_state_44 : decode cX8_state 44 = .ok (.ireturn, 1) := by decide +kernel
theorem dX8_told_0 : decode cX8_told 0 = .ok (.iload_n 2, 1) := by decide +kernel
theorem dX8_told_1 : decode cX8_told 1 = .ok (.tableswitch 79 0 6 #[43, 43, 43, 52, 59, 66, 73], 43) := by decide +kernel
theorem dX8_told_44 : decode cX8_told 44 = .ok (.aload_n 0, 1) := by decide +kernel
theorem dX8_told_45 : decode cX8_told 45 = .ok (.iload_n 1, 1) := by decide +kernel
theorem dX8_told_46 : decode cX8_told 46 = .ok (.iconst 2, 1) := by decide +kernel
theorem dX8_told_47 : decode cX8_told 47 = .ok (.iload_n 2, 1) := by decide +kernel
theorem dX8_told_48 : decode cX8_told 48 = .ok (.iadd, 1) := by decide +kernel
theorem dX8_told_49 : decode cX8_told 49 = .ok (.invokevirtual 47, 3) := by decide +kernel
theorem dX8_told_52 : decode cX8_told 52 = .ok (.ireturn, 1) := by decide +kernel
theorem dX8_told_53 : decode cX8_told 53 = .ok (.aload_n 0, 1) := by decide +kernel
theorem dX8_told_54 : decode cX8_told 54 = .ok (.iload_n 1, 1) := by decide +kernel
theorem dX8_told_55 : decode cX8_told 55 = .ok (.iconst 0, 1) := by decide +kernel
theorem dX8_told_56 : decode cX8_told 56 = .ok (.invokevirtual 47, 3) := by decide +kernel
theorem dX8_told_59 : decode cX8_told 59 = .ok (.ireturn, 1) := by decide +kernel
theorem dX8_told_60 : decode cX8_told 60 = .ok (.aload_n 0, 1) := by decide +kernel
theorem dX8_told_61 : decode cX8_told 61 = .ok (.iload_n 1, 1) := by decide +kernel
theorem dX8_told_62 : decode cX8_told 62 = .ok (.iconst 1, 1) := by decide +kernel
theorem dX8_told_63 : decode cX8_told 63 = .ok (.invokevirtual 47, 3) := by decide +kernel
theorem dX8_told_66 : decode cX8_told 66 = .ok (.ireturn, 1) := by decide +kernel
theorem dX8_told_67 : decode cX8_told 67 = .ok (.aload_n 0, 1) := by decide +kernel
theorem dX8_told_68 : decode cX8_told 68 = .ok (.iload_n 1, 1) := by decide +kernel
theorem dX8_told_69 : decode cX8_told 69 = .ok (.iconst 5, 1) := by decide +kernel
theorem dX8_told_70 : decode cX8_told 70 = .ok (.invokevirtual 47, 3) := by decide +kernel
theorem dX8_told_73 : decode cX8_told 73 = .ok (.ireturn, 1) := by decide +kernel
theorem dX8_told_74 : decode cX8_told 74 = .ok (.aload_n 0, 1) := by decide +kernel
theorem dX8_told_75 : decode cX8_told 75 = .ok (.iload_n 1, 1) := by decide +kernel
theorem dX8_told_76 : decode cX8_told 76 = .ok (.invokevirtual 72, 3) := by decide +kernel
theorem dX8_told_79 : decode cX8_told 79 = .ok (.ireturn, 1) := by decide +kernel
theorem dX8_told_80 : decode cX8_told 80 = .ok (.aload_n 0, 1) := by decide +kernel
theorem dX8_told_81 : decode cX8_told 81 = .ok (.iload_n 1, 1) := by decide +kernel
theorem dX8_told_82 : decode cX8_told 82 = .ok (.bipush 7, 2) := by decide +kernel
theorem dX8_told_84 : decode cX8_told 84 = .ok (.invokevirtual 47, 3) := by decide +kernel
theorem dX8_told_87 : decode cX8_told 87 = .ok (.ireturn, 1) := by decide +kernel
theorem dX8_subscriber_0 : decode cX8_subscriber 0 = .ok (.aload_n 0, 1) := by decide +kernel
theorem dX8_subscriber_1 : decode cX8_subscriber 1 = .ok (.aload_n 0, 1) := by decide +kernel
theorem dX8_subscriber_2 : decode cX8_subscriber 2 = .ok (.iload_n 1, 1) := by decide +kernel
theorem dX8_subscriber_3 : decode cX8_subscriber 3 = .ok (.invokevirtual 63, 3) := by decide +kernel
theorem dX8_subscriber_6 : decode cX8_subscriber 6 = .ok (.ifCond .ne 7, 3) := by decide +kernel
theorem dX8_subscriber_9 : decode cX8_subscriber 9 = .ok (.iconst 1, 1) := by decide +kernel
theorem dX8_subscriber_10 : decode cX8_subscriber 10 = .ok (.goto 18, 3) := by decide +kernel
theorem dX8_subscriber_13 : decode cX8_subscriber 13 = .ok (.iload_n 2, 1) := by decide +kernel
theorem dX8_subscriber_14 : decode cX8_subscriber 14 = .ok (.iconst 0, 1) := by decide +kernel
theorem dX8_subscriber_15 : decode cX8_subscriber 15 = .ok (.bipush 7, 2) := by decide +kernel
theorem dX8_subscriber_17 : decode cX8_subscriber 17 = .ok (.invokestatic 36, 3) := by decide +kernel
theorem dX8_subscriber_20 : decode cX8_subscriber 20 = .ok (.ifCond .ne 7, 3) := by decide +kernel
theorem dX8_subscriber_23 : decode cX8_subscriber 23 = .ok (.iconst 2, 1) := by decide +kernel
theorem dX8_subscriber_24 : decode cX8_subscriber 24 = .ok (.goto 4, 3) := by decide +kernel
theorem dX8_subscriber_27 : decode cX8_subscriber 27 = .ok (.iconst 0, 1) := by decide +kernel
theorem dX8_subscriber_28 : decode cX8_subscriber 28 = .ok (.invokevirtual 32, 3) := by decide +kernel
theorem dX8_subscriber_31 : decode cX8_subscriber 31 = .ok (.ifCond .eq 7, 3) := by decide +kernel
theorem dX8_subscriber_34 : decode cX8_subscriber 34 = .ok (.iconst 0, 1) := by decide +kernel
theorem dX8_subscriber_35 : decode cX8_subscriber 35 = .ok (.goto 9, 3) := by decide +kernel
theorem dX8_subscriber_38 : decode cX8_subscriber 38 = .ok (.aload_n 0, 1) := by decide +kernel
theorem dX8_subscriber_39 : decode cX8_subscriber 39 = .ok (.iload_n 1, 1) := by decide +kernel
theorem dX8_subscriber_40 : decode cX8_subscriber 40 = .ok (.iload_n 2, 1) := by decide +kernel
theorem dX8_subscriber_41 : decode cX8_subscriber 41 = .ok (.invokevirtual 76, 3) := by decide +kernel
theorem dX8_subscriber_44 : decode cX8_subscriber 44 = .ok (.ireturn, 1) := by decide +kernel
theorem dX8_toldLoop_0 : decode cX8_toldLoop 0 = .ok (.iload_n 2, 1) := by decide +kernel
theorem dX8_toldLoop_1 : decode cX8_toldLoop 1 = .ok (.bipush 8, 2) := by decide +kernel
theorem dX8_toldLoop_3 : decode cX8_toldLoop 3 = .ok (.if_icmp .ge 10, 3) := by decide +kernel
theorem dX8_toldLoop_6 : decode cX8_toldLoop 6 = .ok (.aload_n 0, 1) := by decide +kernel
theorem dX8_toldLoop_7 : decode cX8_toldLoop 7 = .ok (.iload_n 1, 1) := by decide +kernel
theorem dX8_toldLoop_8 : decode cX8_toldLoop 8 = .ok (.iload_n 2, 1) := by decide +kernel
theorem dX8_toldLoop_9 : decode cX8_toldLoop 9 = .ok (.invokevirtual 60, 3) := by decide +kernel
theorem dX8_toldLoop_12 : decode cX8_toldLoop 12 = .ok (.ireturn, 1) := by decide +kernel
theorem dX8_toldLoop_13 : decode cX8_toldLoop 13 = .ok (.iconst 0, 1) := by decide +kernel
theorem dX8_toldLoop_14 : decode cX8_toldLoop 14 = .ok (.istore_n 3, 1) := by decide +kernel
theorem dX8_toldLoop_15 : decode cX8_toldLoop 15 = .ok (.iconst 0, 1) := by decide +kernel
theorem dX8_toldLoop_16 : decode cX8_toldLoop 16 = .ok (.istore 4, 2) := by decide +kernel
theorem dX8_toldLoop_18 : decode cX8_toldLoop 18 = .ok (.iload 4, 2) := by decide +kernel
theorem dX8_toldLoop_20 : decode cX8_toldLoop 20 = .ok (.aload_n 0, 1) := by decide +kernel
theorem dX8_toldLoop_21 : decode cX8_toldLoop 21 = .ok (.getfield 7, 3) := by decide +kernel
theorem dX8_toldLoop_24 : decode cX8_toldLoop 24 = .ok (.bipush 101, 2) := by decide +kernel
theorem dX8_toldLoop_26 : decode cX8_toldLoop 26 = .ok (.iaload, 1) := by decide +kernel
theorem dX8_toldLoop_27 : decode cX8_toldLoop 27 = .ok (.if_icmp .ge 28, 3) := by decide +kernel
theorem dX8_toldLoop_30 : decode cX8_toldLoop 30 = .ok (.iload_n 3, 1) := by decide +kernel
theorem dX8_toldLoop_31 : decode cX8_toldLoop 31 = .ok (.aload_n 0, 1) := by decide +kernel
theorem dX8_toldLoop_32 : decode cX8_toldLoop 32 = .ok (.iload 4, 2) := by decide +kernel
theorem dX8_toldLoop_34 : decode cX8_toldLoop 34 = .ok (.iconst 0, 1) := by decide +kernel
theorem dX8_toldLoop_35 : decode cX8_toldLoop 35 = .ok (.invokevirtual 47, 3) := by decide +kernel
theorem dX8_toldLoop_38 : decode cX8_toldLoop 38 = .ok (.iload_n 1, 1) := by decide +kernel
theorem dX8_toldLoop_39 : decode cX8_toldLoop 39 = .ok (.if_icmp .ne 7, 3) := by decide +kernel
theorem dX8_toldLoop_42 : decode cX8_toldLoop 42 = .ok (.iconst 1, 1) := by decide +kernel
theorem dX8_toldLoop_43 : decode cX8_toldLoop 43 = .ok (.goto 4, 3) := by decide +kernel
theorem dX8_toldLoop_46 : decode cX8_toldLoop 46 = .ok (.iconst 0, 1) := by decide +kernel
theorem dX8_toldLoop_47 : decode cX8_toldLoop 47 = .ok (.iadd, 1) := by decide +kernel
theorem dX8_toldLoop_48 : decode cX8_toldLoop 48 = .ok (.istore_n 3, 1) := by decide +kernel
theorem dX8_toldLoop_49 : decode cX8_toldLoop 49 = .ok (.iinc 4 1, 3) := by decide +kernel
theorem dX8_toldLoop_52 : decode cX8_toldLoop 52 = .ok (.goto (-34), 3) := by decide +kernel
theorem dX8_toldLoop_55 : decode cX8_toldLoop 55 = .ok (.iload_n 3, 1) := by decide +kernel
theorem dX8_toldLoop_56 : decode cX8_toldLoop 56 = .ok (.ireturn, 1) := by decide +kernel
theorem dX8_loop_0 : decode cX8_loop 0 = .ok (.aload_n 0, 1) := by decide +kernel
theorem dX8_loop_1 : decode cX8_loop 1 = .ok (.aload_n 0, 1) := by decide +kernel
theorem dX8_loop_2 : decode cX8_loop 2 = .ok (.iload_n 1, 1) := by decide +kernel
theorem dX8_loop_3 : decode cX8_loop 3 = .ok (.invokevirtual 51, 3) := by decide +kernel
theorem dX8_loop_6 : decode cX8_loop 6 = .ok (.ifCond .ne 7, 3) := by decide +kernel
theorem dX8_loop_9 : decode cX8_loop 9 = .ok (.iconst 1, 1) := by decide +kernel
theorem dX8_loop_10 : decode cX8_loop 10 = .ok (.goto 18, 3) := by decide +kernel
theorem dX8_loop_13 : decode cX8_loop 13 = .ok (.iload_n 2, 1) := by decide +kernel
theorem dX8_loop_14 : decode cX8_loop 14 = .ok (.iconst 0, 1) := by decide +kernel
theorem dX8_loop_15 : decode cX8_loop 15 = .ok (.bipush 8, 2) := by decide +kernel
theorem dX8_loop_17 : decode cX8_loop 17 = .ok (.invokestatic 36, 3) := by decide +kernel
theorem dX8_loop_20 : decode cX8_loop 20 = .ok (.ifCond .ne 7, 3) := by decide +kernel
theorem dX8_loop_23 : decode cX8_loop 23 = .ok (.iconst 2, 1) := by decide +kernel
theorem dX8_loop_24 : decode cX8_loop 24 = .ok (.goto 4, 3) := by decide +kernel
theorem dX8_loop_27 : decode cX8_loop 27 = .ok (.iconst 0, 1) := by decide +kernel
theorem dX8_loop_28 : decode cX8_loop 28 = .ok (.invokevirtual 32, 3) := by decide +kernel
theorem dX8_loop_31 : decode cX8_loop 31 = .ok (.ifCond .eq 7, 3) := by decide +kernel
theorem dX8_loop_34 : decode cX8_loop 34 = .ok (.iconst 0, 1) := by decide +kernel
theorem dX8_loop_35 : decode cX8_loop 35 = .ok (.goto 9, 3) := by decide +kernel
theorem dX8_loop_38 : decode cX8_loop 38 = .ok (.aload_n 0, 1) := by decide +kernel
theorem dX8_loop_39 : decode cX8_loop 39 = .ok (.iload_n 1, 1) := by decide +kernel
theorem dX8_loop_40 : decode cX8_loop 40 = .ok (.iload_n 2, 1) := by decide +kernel
theorem dX8_loop_41 : decode cX8_loop 41 = .ok (.invokevirtual 79, 3) := by decide +kernel
theorem dX8_loop_44 : decode cX8_loop 44 = .ok (.ireturn, 1) := by decide +kernel
theorem dX8_comes_0 : decode cX8_comes 0 = .ok (.aload_n 0, 1) := by decide +kernel
theorem dX8_comes_1 : decode cX8_comes 1 = .ok (.iload_n 1, 1) := by decide +kernel
theorem dX8_comes_2 : decode cX8_comes 2 = .ok (.iconst 0, 1) := by decide +kernel
theorem dX8_comes_3 : decode cX8_comes 3 = .ok (.iload_n 2, 1) := by decide +kernel
theorem dX8_comes_4 : decode cX8_comes 4 = .ok (.invokevirtual 40, 3) := by decide +kernel
theorem dX8_comes_7 : decode cX8_comes 7 = .ok (.aload_n 0, 1) := by decide +kernel
theorem dX8_comes_8 : decode cX8_comes 8 = .ok (.iload_n 1, 1) := by decide +kernel
theorem dX8_comes_9 : decode cX8_comes 9 = .ok (.iconst 1, 1) := by decide +kernel
theorem dX8_comes_10 : decode cX8_comes 10 = .ok (.iconst 0, 1) := by decide +kernel
theorem dX8_comes_11 : decode cX8_comes 11 = .ok (.invokevirtual 40, 3) := by decide +kernel
theorem dX8_comes_14 : decode cX8_comes 14 = .ok (.aload_n 0, 1) := by decide +kernel
theorem dX8_comes_15 : decode cX8_comes 15 = .ok (.iload_n 1, 1) := by decide +kernel
theorem dX8_comes_16 : decode cX8_comes 16 = .ok (.iconst 2, 1) := by decide +kernel
theorem dX8_comes_17 : decode cX8_comes 17 = .ok (.iload_n 3, 1) := by decide +kernel
theorem dX8_comes_18 : decode cX8_comes 18 = .ok (.invokevirtual 40, 3) := by decide +kernel
theorem dX8_comes_21 : decode cX8_comes 21 = .ok (.aload_n 0, 1) := by decide +kernel
theorem dX8_comes_22 : decode cX8_comes 22 = .ok (.iload_n 1, 1) := by decide +kernel
theorem dX8_comes_23 : decode cX8_comes 23 = .ok (.iconst 3, 1) := by decide +kernel
theorem dX8_comes_24 : decode cX8_comes 24 = .ok (.iload 4, 2) := by decide +kernel
theorem dX8_comes_26 : decode cX8_comes 26 = .ok (.invokevirtual 40, 3) := by decide +kernel
theorem dX8_comes_29 : decode cX8_comes 29 = .ok (.aload_n 0, 1) := by decide +kernel
theorem dX8_comes_30 : decode cX8_comes 30 = .ok (.iload_n 1, 1) := by decide +kernel
theorem dX8_comes_31 : decode cX8_comes 31 = .ok (.iconst 4, 1) := by decide +kernel
theorem dX8_comes_32 : decode cX8_comes 32 = .ok (.iload 5, 2) := by decide +kernel
theorem dX8_comes_34 : decode cX8_comes 34 = .ok (.invokevirtual 40, 3) := by decide +kernel
theorem dX8_comes_37 : decode cX8_comes 37 = .ok (.aload_n 0, 1) := by decide +kernel
theorem dX8_comes_38 : decode cX8_comes 38 = .ok (.iload_n 1, 1) := by decide +kernel
theorem dX8_comes_39 : decode cX8_comes 39 = .ok (.iconst 5, 1) := by decide +kernel
theorem dX8_comes_40 : decode cX8_comes 40 = .ok (.iconst 0, 1) := by decide +kernel
theorem dX8_comes_41 : decode cX8_comes 41 = .ok (.invokevirtual 40, 3) := by decide +kernel
theorem dX8_comes_44 : decode cX8_comes 44 = .ok (.return_, 1) := by decide +kernel
theorem dX8_isOn_0 : decode cX8_isOn 0 = .ok (.aload_n 0, 1) := by decide +kernel
theorem dX8_isOn_1 : decode cX8_isOn 1 = .ok (.iload_n 1, 1) := by decide +kernel
theorem dX8_isOn_2 : decode cX8_isOn 2 = .ok (.iconst 0, 1) := by decide +kernel
theorem dX8_isOn_3 : decode cX8_isOn 3 = .ok (.invokevirtual 47, 3) := by decide +kernel
theorem dX8_isOn_6 : decode cX8_isOn 6 = .ok (.iload_n 2, 1) := by decide +kernel
theorem dX8_isOn_7 : decode cX8_isOn 7 = .ok (.if_icmp .ne 25, 3) := by decide +kernel
theorem dX8_isOn_10 : decode cX8_isOn 10 = .ok (.aload_n 0, 1) := by decide +kernel
theorem dX8_isOn_11 : decode cX8_isOn 11 = .ok (.iload_n 1, 1) := by decide +kernel
theorem dX8_isOn_12 : decode cX8_isOn 12 = .ok (.iconst 5, 1) := by decide +kernel
theorem dX8_isOn_13 : decode cX8_isOn 13 = .ok (.invokevirtual 47, 3) := by decide +kernel
