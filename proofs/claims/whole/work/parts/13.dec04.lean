theorem dX8_placeOf_32 : decode cX8_placeOf 32 = .ok (.iconst 4, 1) := by decide +kernel
theorem dX8_placeOf_33 : decode cX8_placeOf 33 = .ok (.invokevirtual 47, 3) := by decide +kernel
theorem dX8_placeOf_36 : decode cX8_placeOf 36 = .ok (.aload_n 0, 1) := by decide +kernel
theorem dX8_placeOf_37 : decode cX8_placeOf 37 = .ok (.iload_n 1, 1) := by decide +kernel
theorem dX8_placeOf_38 : decode cX8_placeOf 38 = .ok (.iconst 4, 1) := by decide +kernel
theorem dX8_placeOf_39 : decode cX8_placeOf 39 = .ok (.invokevirtual 47, 3) := by decide +kernel
theorem dX8_placeOf_42 : decode cX8_placeOf 42 = .ok (.if_icmp .ne 12, 3) := by decide +kernel
theorem dX8_placeOf_45 : decode cX8_placeOf 45 = .ok (.iload_n 3, 1) := by decide +kernel
theorem dX8_placeOf_46 : decode cX8_placeOf 46 = .ok (.iload_n 1, 1) := by decide +kernel
theorem dX8_placeOf_47 : decode cX8_placeOf 47 = .ok (.if_icmp .ge 7, 3) := by decide +kernel
theorem dX8_placeOf_50 : decode cX8_placeOf 50 = .ok (.iconst 1, 1) := by decide +kernel
theorem dX8_placeOf_51 : decode cX8_placeOf 51 = .ok (.goto 4, 3) := by decide +kernel
theorem dX8_placeOf_54 : decode cX8_placeOf 54 = .ok (.iconst 0, 1) := by decide +kernel
theorem dX8_placeOf_55 : decode cX8_placeOf 55 = .ok (.istore 4, 2) := by decide +kernel
theorem dX8_placeOf_57 : decode cX8_placeOf 57 = .ok (.iload_n 2, 1) := by decide +kernel
theorem dX8_placeOf_58 : decode cX8_placeOf 58 = .ok (.aload_n 0, 1) := by decide +kernel
theorem dX8_placeOf_59 : decode cX8_placeOf 59 = .ok (.iload_n 3, 1) := by decide +kernel
theorem dX8_placeOf_60 : decode cX8_placeOf 60 = .ok (.iconst 0, 1) := by decide +kernel
theorem dX8_placeOf_61 : decode cX8_placeOf 61 = .ok (.invokevirtual 47, 3) := by decide +kernel
theorem dX8_placeOf_64 : decode cX8_placeOf 64 = .ok (.aload_n 0, 1) := by decide +kernel
theorem dX8_placeOf_65 : decode cX8_placeOf 65 = .ok (.iload_n 1, 1) := by decide +kernel
theorem dX8_placeOf_66 : decode cX8_placeOf 66 = .ok (.iconst 0, 1) := by decide +kernel
theorem dX8_placeOf_67 : decode cX8_placeOf 67 = .ok (.invokevirtual 47, 3) := by decide +kernel
theorem dX8_placeOf_70 : decode cX8_placeOf 70 = .ok (.if_icmp .ne 12, 3) := by decide +kernel
theorem dX8_placeOf_73 : decode cX8_placeOf 73 = .ok (.iload 4, 2) := by decide +kernel
theorem dX8_placeOf_75 : decode cX8_placeOf 75 = .ok (.ifCond .eq 7, 3) := by decide +kernel
theorem dX8_placeOf_78 : decode cX8_placeOf 78 = .ok (.iconst 1, 1) := by decide +kernel
theorem dX8_placeOf_79 : decode cX8_placeOf 79 = .ok (.goto 4, 3) := by decide +kernel
theorem dX8_placeOf_82 : decode cX8_placeOf 82 = .ok (.iconst 0, 1) := by decide +kernel
theorem dX8_placeOf_83 : decode cX8_placeOf 83 = .ok (.iadd, 1) := by decide +kernel
theorem dX8_placeOf_84 : decode cX8_placeOf 84 = .ok (.istore_n 2, 1) := by decide +kernel
theorem dX8_placeOf_85 : decode cX8_placeOf 85 = .ok (.iinc 3 1, 3) := by decide +kernel
theorem dX8_placeOf_88 : decode cX8_placeOf 88 = .ok (.goto (-84), 3) := by decide +kernel
theorem dX8_placeOf_91 : decode cX8_placeOf 91 = .ok (.iload_n 2, 1) := by decide +kernel
theorem dX8_placeOf_92 : decode cX8_placeOf 92 = .ok (.ireturn, 1) := by decide +kernel
theorem dX8_bestCodes_0 : decode cX8_bestCodes 0 = .ok (.aload_n 0, 1) := by decide +kernel
theorem dX8_bestCodes_1 : decode cX8_bestCodes 1 = .ok (.aload_n 0, 1) := by decide +kernel
theorem dX8_bestCodes_2 : decode cX8_bestCodes 2 = .ok (.aload_n 0, 1) := by decide +kernel
theorem dX8_bestCodes_3 : decode cX8_bestCodes 3 = .ok (.iload_n 1, 1) := by decide +kernel
theorem dX8_bestCodes_4 : decode cX8_bestCodes 4 = .ok (.invokevirtual 51, 3) := by decide +kernel
theorem dX8_bestCodes_7 : decode cX8_bestCodes 7 = .ok (.invokevirtual 109, 3) := by decide +kernel
theorem dX8_bestCodes_10 : decode cX8_bestCodes 10 = .ok (.invokevirtual 32, 3) := by decide +kernel
theorem dX8_bestCodes_13 : decode cX8_bestCodes 13 = .ok (.ifCond .eq 5, 3) := by decide +kernel
theorem dX8_bestCodes_16 : decode cX8_bestCodes 16 = .ok (.iconst 0, 1) := by decide +kernel
theorem dX8_bestCodes_17 : decode cX8_bestCodes 17 = .ok (.ireturn, 1) := by decide +kernel
theorem dX8_bestCodes_18 : decode cX8_bestCodes 18 = .ok (.iconst 0, 1) := by decide +kernel
theorem dX8_bestCodes_19 : decode cX8_bestCodes 19 = .ok (.istore_n 2, 1) := by decide +kernel
theorem dX8_bestCodes_20 : decode cX8_bestCodes 20 = .ok (.iconst 0, 1) := by decide +kernel
theorem dX8_bestCodes_21 : decode cX8_bestCodes 21 = .ok (.istore_n 3, 1) := by decide +kernel
theorem dX8_bestCodes_22 : decode cX8_bestCodes 22 = .ok (.iload_n 3, 1) := by decide +kernel
theorem dX8_bestCodes_23 : decode cX8_bestCodes 23 = .ok (.aload_n 0, 1) := by decide +kernel
theorem dX8_bestCodes_24 : decode cX8_bestCodes 24 = .ok (.getfield 7, 3) := by decide +kernel
theorem dX8_bestCodes_27 : decode cX8_bestCodes 27 = .ok (.bipush 101, 2) := by decide +kernel
theorem dX8_bestCodes_29 : decode cX8_bestCodes 29 = .ok (.iaload, 1) := by decide +kernel
theorem dX8_bestCodes_30 : decode cX8_bestCodes 30 = .ok (.if_icmp .ge 44, 3) := by decide +kernel
theorem dX8_bestCodes_33 : decode cX8_bestCodes 33 = .ok (.iload_n 2, 1) := by decide +kernel
theorem dX8_bestCodes_34 : decode cX8_bestCodes 34 = .ok (.aload_n 0, 1) := by decide +kernel
theorem dX8_bestCodes_35 : decode cX8_bestCodes 35 = .ok (.iload_n 3, 1) := by decide +kernel
theorem dX8_bestCodes_36 : decode cX8_bestCodes 36 = .ok (.iconst 0, 1) := by decide +kernel
theorem dX8_bestCodes_37 : decode cX8_bestCodes 37 = .ok (.invokevirtual 47, 3) := by decide +kernel
theorem dX8_bestCodes_40 : decode cX8_bestCodes 40 = .ok (.iload_n 1, 1) := by decide +kernel
theorem dX8_bestCodes_41 : decode cX8_bestCodes 41 = .ok (.if_icmp .ne 24, 3) := by decide +kernel
theorem dX8_bestCodes_44 : decode cX8_bestCodes 44 = .ok (.aload_n 0, 1) := by decide +kernel
theorem dX8_bestCodes_45 : decode cX8_bestCodes 45 = .ok (.iload_n 3, 1) := by decide +kernel
theorem dX8_bestCodes_46 : decode cX8_bestCodes 46 = .ok (.iconst 4, 1) := by decide +kernel
theorem dX8_bestCodes_47 : decode cX8_bestCodes 47 = .ok (.invokevirtual 47, 3) := by decide +kernel
theorem dX8_bestCodes_50 : decode cX8_bestCodes 50 = .ok (.aload_n 0, 1) := by decide +kernel
theorem dX8_bestCodes_51 : decode cX8_bestCodes 51 = .ok (.iload_n 3, 1) := by decide +kernel
theorem dX8_bestCodes_52 : decode cX8_bestCodes 52 = .ok (.invokevirtual 143, 3) := by decide +kernel
theorem dX8_bestCodes_55 : decode cX8_bestCodes 55 = .ok (.invokestatic 146, 3) := by decide +kernel
theorem dX8_bestCodes_58 : decode cX8_bestCodes 58 = .ok (.invokestatic 113, 3) := by decide +kernel
theorem dX8_bestCodes_61 : decode cX8_bestCodes 61 = .ok (.imul, 1) := by decide +kernel
theorem dX8_bestCodes_62 : decode cX8_bestCodes 62 = .ok (.goto 4, 3) := by decide +kernel
theorem dX8_bestCodes_65 : decode cX8_bestCodes 65 = .ok (.iconst 0, 1) := by decide +kernel
theorem dX8_bestCodes_66 : decode cX8_bestCodes 66 = .ok (.iadd, 1) := by decide +kernel
theorem dX8_bestCodes_67 : decode cX8_bestCodes 67 = .ok (.istore_n 2, 1) := by decide +kernel
theorem dX8_bestCodes_68 : decode cX8_bestCodes 68 = .ok (.iinc 3 1, 3) := by decide +kernel
theorem dX8_bestCodes_71 : decode cX8_bestCodes 71 = .ok (.goto (-49), 3) := by decide +kernel
theorem dX8_bestCodes_74 : decode cX8_bestCodes 74 = .ok (.iload_n 2, 1) := by decide +kernel
theorem dX8_bestCodes_75 : decode cX8_bestCodes 75 = .ok (.ireturn, 1) := by decide +kernel
theorem dX8_assignCodes_0 : decode cX8_assignCodes 0 = .ok (.aload_n 0, 1) := by decide +kernel
theorem dX8_assignCodes_1 : decode cX8_assignCodes 1 = .ok (.iload_n 1, 1) := by decide +kernel
theorem dX8_assignCodes_2 : decode cX8_assignCodes 2 = .ok (.invokevirtual 51, 3) := by decide +kernel
theorem dX8_assignCodes_5 : decode cX8_assignCodes 5 = .ok (.istore_n 2, 1) := by decide +kernel
theorem dX8_assignCodes_6 : decode cX8_assignCodes 6 = .ok (.aload_n 0, 1) := by decide +kernel
theorem dX8_assignCodes_7 : decode cX8_assignCodes 7 = .ok (.iload_n 2, 1) := by decide +kernel
theorem dX8_assignCodes_8 : decode cX8_assignCodes 8 = .ok (.ifCond .ne 7, 3) := by decide +kernel
theorem dX8_assignCodes_11 : decode cX8_assignCodes 11 = .ok (.iconst 1, 1) := by decide +kernel
theorem dX8_assignCodes_12 : decode cX8_assignCodes 12 = .ok (.goto 16, 3) := by decide +kernel
theorem dX8_assignCodes_15 : decode cX8_assignCodes 15 = .ok (.aload_n 0, 1) := by decide +kernel
theorem dX8_assignCodes_16 : decode cX8_assignCodes 16 = .ok (.iload_n 1, 1) := by decide +kernel
theorem dX8_assignCodes_17 : decode cX8_assignCodes 17 = .ok (.invokevirtual 66, 3) := by decide +kernel
theorem dX8_assignCodes_20 : decode cX8_assignCodes 20 = .ok (.ifCond .eq 7, 3) := by decide +kernel
theorem dX8_assignCodes_23 : decode cX8_assignCodes 23 = .ok (.iconst 2, 1) := by decide +kernel
theorem dX8_assignCodes_24 : decode cX8_assignCodes 24 = .ok (.goto 4, 3) := by decide +kernel
theorem dX8_assignCodes_27 : decode cX8_assignCodes 27 = .ok (.iconst 0, 1) := by decide +kernel
theorem dX8_assignCodes_28 : decode cX8_assignCodes 28 = .ok (.invokevirtual 32, 3) := by decide +kernel
theorem dX8_assignCodes_31 : decode cX8_assignCodes 31 = .ok (.ifCond .eq 5, 3) := by decide +kernel
theorem dX8_assignCodes_34 : decode cX8_assignCodes 34 = .ok (.iconst 0, 1) := by decide +kernel
theorem dX8_assignCodes_35 : decode cX8_assignCodes 35 = .ok (.ireturn, 1) := by decide +kernel
theorem dX8_assignCodes_36 : decode cX8_assignCodes 36 = .ok (.aload_n 0, 1) := by decide +kernel
theorem dX8_assignCodes_37 : decode cX8_assignCodes 37 = .ok (.invokevirtual 44, 3) := by decide +kernel
theorem dX8_assignCodes_40 : decode cX8_assignCodes 40 = .ok (.iconst 0, 1) := by decide +kernel
theorem dX8_assignCodes_41 : decode cX8_assignCodes 41 = .ok (.istore_n 3, 1) := by decide +kernel
theorem dX8_assignCodes_42 : decode cX8_assignCodes 42 = .ok (.iconst 0, 1) := by decide +kernel
theorem dX8_assignCodes_43 : decode cX8_assignCodes 43 = .ok (.istore 4, 2) := by decide +kernel
theorem dX8_assignCodes_45 : decode cX8_assignCodes 45 = .ok (.iload 4, 2) := by decide +kernel
theorem dX8_assignCodes_47 : decode cX8_assignCodes 47 = .ok (.aload_n 0, 1) := by decide +kernel
theorem dX8_assignCodes_48 : decode cX8_assignCodes 48 = .ok (.getfield 7, 3) := by decide +kernel
theorem dX8_assignCodes_51 : decode cX8_assignCodes 51 = .ok (.bipush 101, 2) := by decide +kernel
theorem dX8_assignCodes_53 : decode cX8_assignCodes 53 = .ok (.iaload, 1) := by decide +kernel
theorem dX8_assignCodes_54 : decode cX8_assignCodes 54 = .ok (.if_icmp .ge 60, 3) := by decide +kernel
theorem dX8_assignCodes_57 : decode cX8_assignCodes 57 = .ok (.aload_n 0, 1) := by decide +kernel
theorem dX8_assignCodes_58 : decode cX8_assignCodes 58 = .ok (.iload 4, 2) := by decide +kernel
theorem dX8_assignCodes_60 : decode cX8_assignCodes 60 = .ok (.iconst 0, 1) := by decide +kernel
theorem dX8_assignCodes_61 : decode cX8_assignCodes 61 = .ok (.invokevirtual 47, 3) := by decide +kernel
theorem dX8_assignCodes_64 : decode cX8_assignCodes 64 = .ok (.iload_n 1, 1) := by decide +kernel
theorem dX8_assignCodes_65 : decode cX8_assignCodes 65 = .ok (.if_icmp .ne 43, 3) := by decide +kernel
theorem dX8_assignCodes_68 : decode cX8_assignCodes 68 = .ok (.aload_n 0, 1) := by decide +kernel
theorem dX8_assignCodes_69 : decode cX8_assignCodes 69 = .ok (.iload 4, 2) := by decide +kernel
theorem dX8_assignCodes_71 : decode cX8_assignCodes 71 = .ok (.invokevirtual 143, 3) := by decide +kernel
theorem dX8_assignCodes_74 : decode cX8_assignCodes 74 = .ok (.invokestatic 146, 3) := by decide +kernel
theorem dX8_assignCodes_77 : decode cX8_assignCodes 77 = .ok (.istore 5, 2) := by decide +kernel
theorem dX8_assignCodes_79 : decode cX8_assignCodes 79 = .ok (.iload_n 3, 1) := by decide +kernel
theorem dX8_assignCodes_80 : decode cX8_assignCodes 80 = .ok (.iload 5, 2) := by decide +kernel
theorem dX8_assignCodes_82 : decode cX8_assignCodes 82 = .ok (.aload_n 0, 1) := by decide +kernel
theorem dX8_assignCodes_83 : decode cX8_assignCodes 83 = .ok (.iload 4, 2) := by decide +kernel
theorem dX8_assignCodes_85 : decode cX8_assignCodes 85 = .ok (.iconst 2, 1) := by decide +kernel
theorem dX8_assignCodes_86 : decode cX8_assignCodes 86 = .ok (.invokevirtual 47, 3) := by decide +kernel
theorem dX8_assignCodes_89 : decode cX8_assignCodes 89 = .ok (.if_icmp .ne 7, 3) := by decide +kernel
theorem dX8_assignCodes_92 : decode cX8_assignCodes 92 = .ok (.iconst 0, 1) := by decide +kernel
theorem dX8_assignCodes_93 : decode cX8_assignCodes 93 = .ok (.goto 4, 3) := by decide +kernel
theorem dX8_assignCodes_96 : decode cX8_assignCodes 96 = .ok (.iconst 1, 1) := by decide +kernel
theorem dX8_assignCodes_97 : decode cX8_assignCodes 97 = .ok (.iadd, 1) := by decide +kernel
theorem dX8_assignCodes_98 : decode cX8_assignCodes 98 = .ok (.istore_n 3, 1) := by decide +kernel
theorem dX8_assignCodes_99 : decode cX8_assignCodes 99 = .ok (.aload_n 0, 1) := by decide +kernel
theorem dX8_assignCodes_100 : decode cX8_assignCodes 100 = .ok (.iload 4, 2) := by decide +kernel
theorem dX8_assignCodes_102 : decode cX8_assignCodes 102 = .ok (.iconst 2, 1) := by decide +kernel
theorem dX8_assignCodes_103 : decode cX8_assignCodes 103 = .ok (.iload 5, 2) := by decide +kernel
theorem dX8_assignCodes_105 : decode cX8_assignCodes 105 = .ok (.invokevirtual 57, 3) := by decide +kernel
theorem dX8_assignCodes_108 : decode cX8_assignCodes 108 = .ok (.iinc 4 1, 3) := by decide +kernel
theorem dX8_assignCodes_111 : decode cX8_assignCodes 111 = .ok (.goto (-66), 3) := by decide +kernel
theorem dX8_assignCodes_114 : decode cX8_assignCodes 114 = .ok (.iload_n 3, 1) := by decide +kernel
theorem dX8_assignCodes_115 : decode cX8_assignCodes 115 = .ok (.ireturn, 1) := by decide +kernel
theorem dX8_fault_0 : decode cX8_fault 0 = .ok (.aload_n 0, 1) := by decide +kernel
theorem dX8_fault_1 : decode cX8_fault 1 = .ok (.iload_n 1, 1) := by decide +kernel
theorem dX8_fault_2 : decode cX8_fault 2 = .ok (.invokevirtual 51, 3) := by decide +kernel
theorem dX8_fault_5 : decode cX8_fault 5 = .ok (.ifCond .eq 17, 3) := by decide +kernel
theorem dX8_fault_8 : decode cX8_fault 8 = .ok (.iload_n 2, 1) := by decide +kernel
theorem dX8_fault_9 : decode cX8_fault 9 = .ok (.iconst 1, 1) := by decide +kernel
theorem dX8_fault_10 : decode cX8_fault 10 = .ok (.bipush 12, 2) := by decide +kernel
theorem dX8_fault_12 : decode cX8_fault 12 = .ok (.invokestatic 36, 3) := by decide +kernel
theorem dX8_fault_15 : decode cX8_fault 15 = .ok (.ifCond .eq 7, 3) := by decide +kernel
theorem dX8_fault_18 : decode cX8_fault 18 = .ok (.iconst 1, 1) := by decide +kernel
theorem dX8_fault_19 : decode cX8_fault 19 = .ok (.goto 4, 3) := by decide +kernel
theorem dX8_fault_22 : decode cX8_fault 22 = .ok (.iconst 0, 1) := by decide +kernel
theorem dX8_fault_23 : decode cX8_fault 23 = .ok (.istore 4, 2) := by decide +kernel
theorem dX8_fault_25 : decode cX8_fault 25 = .ok (.aload_n 0, 1) := by decide +kernel
theorem dX8_fault_26 : decode cX8_fault 26 = .ok (.iload 4, 2) := by decide +kernel
theorem dX8_fault_28 : decode cX8_fault 28 = .ok (.ifCond .ne 7, 3) := by decide +kernel
theorem dX8_fault_31 : decode cX8_fault 31 = .ok (.iconst 1, 1) := by decide +kernel
theorem dX8_fault_32 : decode cX8_fault 32 = .ok (.goto 19, 3) := by decide +kernel
theorem dX8_fault_35 : decode cX8_fault 35 = .ok (.aload_n 0, 1) := by decide +kernel
theorem dX8_fault_36 : decode cX8_fault 36 = .ok (.iload_n 1, 1) := by decide +kernel
theorem dX8_fault_37 : decode cX8_fault 37 = .ok (.bipush 6, 2) := by decide +kernel
theorem dX8_fault_39 : decode cX8_fault 39 = .ok (.invokevirtual 60, 3) := by decide +kernel
theorem dX8_fault_42 : decode cX8_fault 42 = .ok (.iconst (-1), 1) := by decide +kernel
theorem dX8_fault_43 : decode cX8_fault 43 = .ok (.if_icmp .eq 7, 3) := by decide +kernel
theorem dX8_fault_46 : decode cX8_fault 46 = .ok (.iconst 2, 1) := by decide +kernel
theorem dX8_fault_47 : decode cX8_fault 47 = .ok (.goto 4, 3) := by decide +kernel
theorem dX8_fault_50 : decode cX8_fault 50 = .ok (.iconst 0, 1) := by decide +kernel
theorem dX8_fault_51 : decode cX8_fault 51 = .ok (.invokevirtual 32, 3) := by decide +kernel
theorem dX8_fault_54 : decode cX8_fault 54 = .ok (.ifCond .eq 5, 3) := by decide +kernel
theorem dX8_fault_57 : decode cX8_fault 57 = .ok (.iconst 0, 1) := by decide +kernel
theorem dX8_fault_58 : decode cX8_fault 58 = .ok (.ireturn, 1) := by decide +kernel
theorem dX8_fault_59 : decode cX8_fault 59 = .ok (.aload_n 0, 1) := by decide +kernel
theorem dX8_fault_60 : decode cX8_fault 60 = .ok (.invokevirtual 44, 3) := by decide +kernel
theorem dX8_fault_63 : decode cX8_fault 63 = .ok (.aload_n 0, 1) := by decide +kernel
theorem dX8_fault_64 : decode cX8_fault 64 = .ok (.iload_n 1, 1) := by decide +kernel
theorem dX8_fault_65 : decode cX8_fault 65 = .ok (.bipush 6, 2) := by decide +kernel
theorem dX8_fault_67 : decode cX8_fault 67 = .ok (.iload_n 2, 1) := by decide +kernel
theorem dX8_fault_68 : decode cX8_fault 68 = .ok (.invokevirtual 40, 3) := by decide +kernel
theorem dX8_fault_71 : decode cX8_fault 71 = .ok (.aload_n 0, 1) := by decide +kernel
theorem dX8_fault_72 : decode cX8_fault 72 = .ok (.iload_n 1, 1) := by decide +kernel
theorem dX8_fault_73 : decode cX8_fault 73 = .ok (.bipush 7, 2) := by decide +kernel
theorem dX8_fault_75 : decode cX8_fault 75 = .ok (.iload_n 3, 1) := by decide +kernel
theorem dX8_fault_76 : decode cX8_fault 76 = .ok (.ifCond .eq 7, 3) := by decide +kernel
theorem dX8_fault_79 : decode cX8_fault 79 = .ok (.iconst 1, 1) := by decide +kernel
theorem dX8_fault_80 : decode cX8_fault 80 = .ok (.goto 4, 3) := by decide +kernel
theorem dX8_fault_83 : decode cX8_fault 83 = .ok (.iconst 0, 1) := by decide +kernel
theorem dX8_fault_84 : decode cX8_fault 84 = .ok (.invokevirtual 40, 3) := by decide +kernel
theorem dX8_fault_87 : decode cX8_fault 87 = .ok (.aload_n 0, 1) := by decide +kernel
theorem dX8_fault_88 : decode cX8_fault 88 = .ok (.iload_n 1, 1) := by decide +kernel
theorem dX8_fault_89 : decode cX8_fault 89 = .ok (.invokevirtual 103, 3) := by decide +kernel
theorem dX8_fault_92 : decode cX8_fault 92 = .ok (.iconst 0, 1) := by decide +kernel
theorem dX8_fault_93 : decode cX8_fault 93 = .ok (.istore 5, 2) := by decide +kernel
theorem dX8_fault_95 : decode cX8_fault 95 = .ok (.iconst 0, 1) := by decide +kernel
theorem dX8_fault_96 : decode cX8_fault 96 = .ok (.istore 6, 2) := by decide +kernel
theorem dX8_fault_98 : decode cX8_fault 98 = .ok (.iload 6, 2) := by decide +kernel
theorem dX8_fault_100 : decode cX8_fault 100 = .ok (.aload_n 0, 1) := by decide +kernel
theorem dX8_fault_101 : decode cX8_fault 101 = .ok (.getfield 7, 3) := by decide +kernel
theorem dX8_fault_104 : decode cX8_fault 104 = .ok (.bipush 101, 2) := by decide +kernel
theorem dX8_fault_106 : decode cX8_fault 106 = .ok (.iaload, 1) := by decide +kernel
theorem dX8_fault_107 : decode cX8_fault 107 = .ok (.if_icmp .ge 41, 3) := by decide +kernel
theorem dX8_fault_110 : decode cX8_fault 110 = .ok (.aload_n 0, 1) := by decide +kernel
theorem dX8_fault_111 : decode cX8_fault 111 = .ok (.iload 6, 2) := by decide +kernel
theorem dX8_fault_113 : decode cX8_fault 113 = .ok (.iconst 0, 1) := by decide +kernel
theorem dX8_fault_114 : decode cX8_fault 114 = .ok (.invokevirtual 47, 3) := by decide +kernel
theorem dX8_fault_117 : decode cX8_fault 117 = .ok (.iload_n 1, 1) := by decide +kernel
theorem dX8_fault_118 : decode cX8_fault 118 = .ok (.if_icmp .ne 24, 3) := by decide +kernel
theorem dX8_fault_121 : decode cX8_fault 121 = .ok (.aload_n 0, 1) := by decide +kernel
theorem dX8_fault_122 : decode cX8_fault 122 = .ok (.iload 6, 2) := by decide +kernel
theorem dX8_fault_124 : decode cX8_fault 124 = .ok (.invokevirtual 69, 3) := by decide +kernel
theorem dX8_fault_127 : decode cX8_fault 127 = .ok (.ifCond .eq 15, 3) := by decide +kernel
theorem dX8_fault_130 : decode cX8_fault 130 = .ok (.aload_n 0, 1) := by decide +kernel
theorem dX8_fault_131 : decode cX8_fault 131 = .ok (.iload 6, 2) := by decide +kernel
theorem dX8_fault_133 : decode cX8_fault 133 = .ok (.bipush 6, 2) := by decide +kernel
theorem dX8_fault_135 : decode cX8_fault 135 = .ok (.iconst 0, 1) := by decide +kernel
theorem dX8_fault_136 : decode cX8_fault 136 = .ok (.invokevirtual 57, 3) := by decide +kernel
theorem dX8_fault_139 : decode cX8_fault 139 = .ok (.iinc 5 1, 3) := by decide +kernel
theorem dX8_fault_142 : decode cX8_fault 142 = .ok (.iinc 6 1, 3) := by decide +kernel
theorem dX8_fault_145 : decode cX8_fault 145 = .ok (.goto (-47), 3) := by decide +kernel
theorem dX8_fault_148 : decode cX8_fault 148 = .ok (.iload 5, 2) := by decide +kernel
theorem dX8_fault_150 : decode cX8_fault 150 = .ok (.ireturn, 1) := by decide +kernel
theorem dX8_mend_0 : decode cX8_mend 0 = .ok (.aload_n 0, 1) := by decide +kernel
theorem dX8_mend_1 : decode cX8_mend 1 = .ok (.iload_n 1, 1) := by decide +kernel
theorem dX8_mend_2 : decode cX8_mend 2 = .ok (.invokevirtual 51, 3) := by decide +kernel
theorem dX8_mend_5 : decode cX8_mend 5 = .ok (.istore_n 2, 1) := by decide +kernel
theorem dX8_mend_6 : decode cX8_mend 6 = .ok (.aload_n 0, 1) := by decide +kernel
theorem dX8_mend_7 : decode cX8_mend 7 = .ok (.iload_n 2, 1) := by decide +kernel
theorem dX8_mend_8 : decode cX8_mend 8 = .ok (.ifCond .ne 7, 3) := by decide +kernel
theorem dX8_mend_11 : decode cX8_mend 11 = .ok (.iconst 1, 1) := by decide +kernel
theorem dX8_mend_12 : decode cX8_mend 12 = .ok (.goto 19, 3) := by decide +kernel
theorem dX8_mend_15 : decode cX8_mend 15 = .ok (.aload_n 0, 1) := by decide +kernel
theorem dX8_mend_16 : decode cX8_mend 16 = .ok (.iload_n 1, 1) := by decide +kernel
theorem dX8_mend_17 : decode cX8_mend 17 = .ok (.bipush 6, 2) := by decide +kernel
theorem dX8_mend_19 : decode cX8_mend 19 = .ok (.invokevirtual 60, 3) := by decide +kernel
theorem dX8_mend_22 : decode cX8_mend 22 = .ok (.iconst (-1), 1) := by decide +kernel
theorem dX8_mend_23 : decode cX8_mend 23 = .ok (.if_icmp .ne 7, 3) := by decide +kernel
theorem dX8_mend_26 : decode cX8_mend 26 = .ok (.iconst 2, 1) := by decide +kernel
theorem dX8_mend_27 : decode cX8_mend 27 = .ok (.goto 4, 3) := by decide +kernel
theorem dX8_mend_30 : decode cX8_mend 30 = .ok (.iconst 0, 1) := by decide +kernel
theorem dX8_mend_31 : decode cX8_mend 31 = .ok (.invokevirtual 32, 3) := by decide +kernel
theorem dX8_mend_34 : decode cX8_mend 34 = .ok (.ifCond .eq 5, 3) := by decide +kernel
theorem dX8_mend_37 : decode cX8_mend 37 = .ok (.iconst 0, 1) := by decide +kernel
theorem dX8_mend_38 : decode cX8_mend 38 = .ok (.ireturn, 1) := by decide +kernel
theorem dX8_mend_39 : decode cX8_mend 39 = .ok (.aload_n 0, 1) := by decide +kernel
theorem dX8_mend_40 : decode cX8_mend 40 = .ok (.invokevirtual 44, 3) := by decide +kernel
theorem dX8_mend_43 : decode cX8_mend 43 = .ok (.aload_n 0, 1) := by decide +kernel
theorem dX8_mend_44 : decode cX8_mend 44 = .ok (.iload_n 1, 1) := by decide +kernel
theorem dX8_mend_45 : decode cX8_mend 45 = .ok (.bipush 6, 2) := by decide +kernel
theorem dX8_mend_47 : decode cX8_mend 47 = .ok (.invokevirtual 60, 3) := by decide +kernel
theorem dX8_mend_50 : decode cX8_mend 50 = .ok (.istore_n 3, 1) := by decide +kernel
theorem dX8_mend_51 : decode cX8_mend 51 = .ok (.iconst 0, 1) := by decide +kernel
theorem dX8_mend_52 : decode cX8_mend 52 = .ok (.istore 4, 2) := by decide +kernel
theorem dX8_mend_54 : decode cX8_mend 54 = .ok (.iconst 0, 1) := by decide +kernel
theorem dX8_mend_55 : decode cX8_mend 55 = .ok (.istore 5, 2) := by decide +kernel
theorem dX8_mend_57 : decode cX8_mend 57 = .ok (.iload 5, 2) := by decide +kernel
theorem dX8_mend_59 : decode cX8_mend 59 = .ok (.aload_n 0, 1) := by decide +kernel
theorem dX8_mend_60 : decode cX8_mend 60 = .ok (.getfield 7, 3) := by decide +kernel
theorem dX8_mend_63 : decode cX8_mend 63 = .ok (.bipush 101, 2) := by decide +kernel
theorem dX8_mend_65 : decode cX8_mend 65 = .ok (.iaload, 1) := by decide +kernel
theorem dX8_mend_66 : decode cX8_mend 66 = .ok (.if_icmp .ge 52, 3) := by decide +kernel
theorem dX8_mend_69 : decode cX8_mend 69 = .ok (.aload_n 0, 1) := by decide +kernel
theorem dX8_mend_70 : decode cX8_mend 70 = .ok (.iload 5, 2) := by decide +kernel
theorem dX8_mend_72 : decode cX8_mend 72 = .ok (.iconst 0, 1) := by decide +kernel
theorem dX8_mend_73 : decode cX8_mend 73 = .ok (.invokevirtual 47, 3) := by decide +kernel
theorem dX8_mend_76 : decode cX8_mend 76 = .ok (.iload_n 1, 1) := by decide +kernel
theorem dX8_mend_77 : decode cX8_mend 77 = .ok (.if_icmp .ne 35, 3) := by decide +kernel
theorem dX8_mend_80 : decode cX8_mend 80 = .ok (.aload_n 0, 1) := by decide +kernel
theorem dX8_mend_81 : decode cX8_mend 81 = .ok (.iload 5, 2) := by decide +kernel
theorem dX8_mend_83 : decode cX8_mend 83 = .ok (.iconst 5, 1) := by decide +kernel
theorem dX8_mend_84 : decode cX8_mend 84 = .ok (.invokevirtual 47, 3) := by decide +kernel
theorem dX8_mend_87 : decode cX8_mend 87 = .ok (.iconst 1, 1) := by decide +kernel
theorem dX8_mend_88 : decode cX8_mend 88 = .ok (.if_icmp .ne 24, 3) := by decide +kernel
theorem dX8_mend_91 : decode cX8_mend 91 = .ok (.aload_n 0, 1) := by decide +kernel
theorem dX8_mend_92 : decode cX8_mend 92 = .ok (.iload 5, 2) := by decide +kernel
theorem dX8_mend_94 : decode cX8_mend 94 = .ok (.invokevirtual 69, 3) := by decide +kernel
theorem dX8_mend_97 : decode cX8_mend 97 = .ok (.ifCond .eq 15, 3) := by decide +kernel
theorem dX8_mend_100 : decode cX8_mend 100 = .ok (.aload_n 0, 1) := by decide +kernel
theorem dX8_mend_101 : decode cX8_mend 101 = .ok (.iload 5, 2) := by decide +kernel
theorem dX8_mend_103 : decode cX8_mend 103 = .ok (.bipush 6, 2) := by decide +kernel
theorem dX8_mend_105 : decode cX8_mend 105 = .ok (.iconst 3, 1) := by decide +kernel
theorem dX8_mend_106 : decode cX8_mend 106 = .ok (.invokevirtual 57, 3) := by decide +kernel
theorem dX8_mend_109 : decode cX8_mend 109 = .ok (.iconst 1, 1) := by decide +kernel
theorem dX8_mend_110 : decode cX8_mend 110 = .ok (.istore 4, 2) := by decide +kernel
theorem dX8_mend_112 : decode cX8_mend 112 = .ok (.iinc 5 1, 3) := by decide +kernel
theorem dX8_mend_115 : decode cX8_mend 115 = .ok (.goto (-58), 3) := by decide +kernel
theorem dX8_mend_118 : decode cX8_mend 118 = .ok (.aload_n 0, 1) := by decide +kernel
theorem dX8_mend_119 : decode cX8_mend 119 = .ok (.iload_n 1, 1) := by decide +kernel
theorem dX8_mend_120 : decode cX8_mend 120 = .ok (.bipush 6, 2) := by decide +kernel
theorem dX8_mend_122 : decode cX8_mend 122 = .ok (.iconst (-1), 1) := by decide +kernel
theorem dX8_mend_123 : decode cX8_mend 123 = .ok (.invokevirtual 40, 3) := by decide +kernel
theorem dX8_mend_126 : decode cX8_mend 126 = .ok (.aload_n 0, 1) := by decide +kernel
theorem dX8_mend_127 : decode cX8_mend 127 = .ok (.iload_n 1, 1) := by decide +kernel
theorem dX8_mend_128 : decode cX8_mend 128 = .ok (.bipush 7, 2) := by decide +kernel
theorem dX8_mend_130 : decode cX8_mend 130 = .ok (.iconst 0, 1) := by decide +kernel
theorem dX8_mend_131 : decode cX8_mend 131 = .ok (.invokevirtual 40, 3) := by decide +kernel
theorem dX8_mend_134 : decode cX8_mend 134 = .ok (.aload_n 0, 1) := by decide +kernel
theorem dX8_mend_135 : decode cX8_mend 135 = .ok (.iload_n 1, 1) := by decide +kernel
theorem dX8_mend_136 : decode cX8_mend 136 = .ok (.iconst 0, 1) := by decide +kernel
theorem dX8_mend_137 : decode cX8_mend 137 = .ok (.invokevirtual 60, 3) := by decide +kernel
theorem dX8_mend_140 : decode cX8_mend 140 = .ok (.istore 5, 2) := by decide +kernel
theorem dX8_mend_142 : decode cX8_mend 142 = .ok (.iload 4, 2) := by decide +kernel
theorem dX8_mend_144 : decode cX8_mend 144 = .ok (.ifCond .eq 26, 3) := by decide +kernel
theorem dX8_mend_147 : decode cX8_mend 147 = .ok (.iload 5, 2) := by decide +kernel
theorem dX8_mend_149 : decode cX8_mend 149 = .ok (.iconst 3, 1) := by decide +kernel
theorem dX8_mend_150 : decode cX8_mend 150 = .ok (.if_icmp .eq 15, 3) := by decide +kernel
theorem dX8_mend_153 : decode cX8_mend 153 = .ok (.iload 5, 2) := by decide +kernel
theorem dX8_mend_155 : decode cX8_mend 155 = .ok (.ifCond .eq 10, 3) := by decide +kernel
theorem dX8_mend_158 : decode cX8_mend 158 = .ok (.iload 5, 2) := by decide +kernel
theorem dX8_mend_160 : decode cX8_mend 160 = .ok (.bipush 7, 2) := by decide +kernel
theorem dX8_mend_162 : decode cX8_mend 162 = .ok (.if_icmp .ne 8, 3) := by decide +kernel
theorem dX8_mend_165 : decode cX8_mend 165 = .ok (.aload_n 0, 1) := by decide +kernel
theorem dX8_mend_166 : decode cX8_mend 166 = .ok (.iload_n 1, 1) := by decide +kernel
theorem dX8_mend_167 : decode cX8_mend 167 = .ok (.invokevirtual 103, 3) := by decide +kernel
theorem dX8_mend_170 : decode cX8_mend 170 = .ok (.iload_n 3, 1) := by decide +kernel
theorem dX8_mend_171 : decode cX8_mend 171 = .ok (.ireturn, 1) := by decide +kernel
theorem dX8_isCut_0 : decode cX8_isCut 0 = .ok (.aload_n 0, 1) := by decide +kernel
theorem dX8_isCut_1 : decode cX8_isCut 1 = .ok (.aload_n 0, 1) := by decide +kernel
theorem dX8_isCut_2 : decode cX8_isCut 2 = .ok (.aload_n 0, 1) := by decide +kernel
theorem dX8_isCut_3 : decode cX8_isCut 3 = .ok (.iload_n 1, 1) := by decide +kernel
theorem dX8_isCut_4 : decode cX8_isCut 4 = .ok (.invokevirtual 63, 3) := by decide +kernel
theorem dX8_isCut_7 : decode cX8_isCut 7 = .ok (.invokevirtual 109, 3) := by decide +kernel
theorem dX8_isCut_10 : decode cX8_isCut 10 = .ok (.invokevirtual 32, 3) := by decide +kernel
theorem dX8_isCut_13 : decode cX8_isCut 13 = .ok (.ifCond .ne 15, 3) := by decide +kernel
theorem dX8_isCut_16 : decode cX8_isCut 16 = .ok (.aload_n 0, 1) := by decide +kernel
theorem dX8_isCut_17 : decode cX8_isCut 17 = .ok (.iload_n 1, 1) := by decide +kernel
theorem dX8_isCut_18 : decode cX8_isCut 18 = .ok (.invokevirtual 69, 3) := by decide +kernel
theorem dX8_isCut_21 : decode cX8_isCut 21 = .ok (.ifCond .eq 7, 3) := by decide +kernel
theorem dX8_isCut_24 : decode cX8_isCut 24 = .ok (.iconst 1, 1) := by decide +kernel
theorem dX8_isCut_25 : decode cX8_isCut 25 = .ok (.goto 4, 3) := by decide +kernel
theorem dX8_isCut_28 : decode cX8_isCut 28 = .ok (.iconst 0, 1) := by decide +kernel
theorem dX8_isCut_29 : decode cX8_isCut 29 = .ok (.ireturn, 1) := by decide +kernel
theorem dX8_setRisk_0 : decode cX8_setRisk 0 = .ok (.aload_n 0, 1) := by decide +kernel
theorem dX8_setRisk_1 : decode cX8_setRisk 1 = .ok (.iload_n 1, 1) := by decide +kernel
theorem dX8_setRisk_2 : decode cX8_setRisk 2 = .ok (.invokevirtual 51, 3) := by decide +kernel
theorem dX8_setRisk_5 : decode cX8_setRisk 5 = .ok (.ifCond .eq 17, 3) := by decide +kernel
theorem dX8_setRisk_8 : decode cX8_setRisk 8 = .ok (.iload_n 2, 1) := by decide +kernel
theorem dX8_setRisk_9 : decode cX8_setRisk 9 = .ok (.iconst 1, 1) := by decide +kernel
theorem dX8_setRisk_10 : decode cX8_setRisk 10 = .ok (.bipush 12, 2) := by decide +kernel
theorem dX8_setRisk_12 : decode cX8_setRisk 12 = .ok (.invokestatic 36, 3) := by decide +kernel
theorem dX8_setRisk_15 : decode cX8_setRisk 15 = .ok (.ifCond .eq 7, 3) := by decide +kernel
theorem dX8_setRisk_18 : decode cX8_setRisk 18 = .ok (.iconst 1, 1) := by decide +kernel
theorem dX8_setRisk_19 : decode cX8_setRisk 19 = .ok (.goto 4, 3) := by decide +kernel
theorem dX8_setRisk_22 : decode cX8_setRisk 22 = .ok (.iconst 0, 1) := by decide +kernel
theorem dX8_setRisk_23 : decode cX8_setRisk 23 = .ok (.istore 4, 2) := by decide +kernel
theorem dX8_setRisk_25 : decode cX8_setRisk 25 = .ok (.aload_n 0, 1) := by decide +kernel
theorem dX8_setRisk_26 : decode cX8_setRisk 26 = .ok (.iload 4, 2) := by decide +kernel
theorem dX8_setRisk_28 : decode cX8_setRisk 28 = .ok (.ifCond .ne 7, 3) := by decide +kernel
theorem dX8_setRisk_31 : decode cX8_setRisk 31 = .ok (.iconst 1, 1) := by decide +kernel
theorem dX8_setRisk_32 : decode cX8_setRisk 32 = .ok (.goto 18, 3) := by decide +kernel
theorem dX8_setRisk_35 : decode cX8_setRisk 35 = .ok (.iload_n 3, 1) := by decide +kernel
theorem dX8_setRisk_36 : decode cX8_setRisk 36 = .ok (.iconst 1, 1) := by decide +kernel
theorem dX8_setRisk_37 : decode cX8_setRisk 37 = .ok (.bipush 9, 2) := by decide +kernel
theorem dX8_setRisk_39 : decode cX8_setRisk 39 = .ok (.invokestatic 36, 3) := by decide +kernel
theorem dX8_setRisk_42 : decode cX8_setRisk 42 = .ok (.ifCond .ne 7, 3) := by decide +kernel
theorem dX8_setRisk_45 : decode cX8_setRisk 45 = .ok (.iconst 2, 1) := by decide +kernel
theorem dX8_setRisk_46 : decode cX8_setRisk 46 = .ok (.goto 4, 3) := by decide +kernel
theorem dX8_setRisk_49 : decode cX8_setRisk 49 = .ok (.iconst 0, 1) := by decide +kernel
theorem dX8_setRisk_50 : decode cX8_setRisk 50 = .ok (.invokevirtual 32, 3) := by decide +kernel
theorem dX8_setRisk_53 : decode cX8_setRisk 53 = .ok (.ifCond .eq 5, 3) := by decide +kernel
theorem dX8_setRisk_56 : decode cX8_setRisk 56 = .ok (.iconst 0, 1) := by decide +kernel
theorem dX8_setRisk_57 : decode cX8_setRisk 57 = .ok (.ireturn, 1) := by decide +kernel
theorem dX8_setRisk_58 : decode cX8_setRisk 58 = .ok (.aload_n 0, 1) := by decide +kernel
theorem dX8_setRisk_59 : decode cX8_setRisk 59 = .ok (.invokevirtual 44, 3) := by decide +kernel
theorem dX8_setRisk_62 : decode cX8_setRisk 62 = .ok (.aload_n 0, 1) := by decide +kernel
theorem dX8_setRisk_63 : decode cX8_setRisk 63 = .ok (.iload_n 1, 1) := by decide +kernel
theorem dX8_setRisk_64 : decode cX8_setRisk 64 = .ok (.bipush 8, 2) := by decide +kernel
theorem dX8_setRisk_66 : decode cX8_setRisk 66 = .ok (.iload_n 2, 1) := by decide +kernel
theorem dX8_setRisk_67 : decode cX8_setRisk 67 = .ok (.iadd, 1) := by decide +kernel
theorem dX8_setRisk_68 : decode cX8_setRisk 68 = .ok (.iconst 1, 1) := by decide +kernel
theorem dX8_setRisk_69 : decode cX8_setRisk 69 = .ok (.isub, 1) := by decide +kernel
theorem dX8_setRisk_70 : decode cX8_setRisk 70 = .ok (.invokevirtual 60, 3) := by decide +kernel
theorem dX8_setRisk_73 : decode cX8_setRisk 73 = .ok (.istore 5, 2) := by decide +kernel
theorem dX8_setRisk_75 : decode cX8_setRisk 75 = .ok (.aload_n 0, 1) := by decide +kernel
theorem dX8_setRisk_76 : decode cX8_setRisk 76 = .ok (.iload_n 1, 1) := by decide +kernel
theorem dX8_setRisk_77 : decode cX8_setRisk 77 = .ok (.bipush 8, 2) := by decide +kernel
theorem dX8_setRisk_79 : decode cX8_setRisk 79 = .ok (.iload_n 2, 1) := by decide +kernel
theorem dX8_setRisk_80 : decode cX8_setRisk 80 = .ok (.iadd, 1) := by decide +kernel
theorem dX8_setRisk_81 : decode cX8_setRisk 81 = .ok (.iconst 1, 1) := by decide +kernel
theorem dX8_setRisk_82 : decode cX8_setRisk 82 = .ok (.isub, 1) := by decide +kernel
theorem dX8_setRisk_83 : decode cX8_setRisk 83 = .ok (.iload_n 3, 1) := by decide +kernel
theorem dX8_setRisk_84 : decode cX8_setRisk 84 = .ok (.invokevirtual 40, 3) := by decide +kernel
theorem dX8_setRisk_87 : decode cX8_setRisk 87 = .ok (.iload 5, 2) := by decide +kernel
theorem dX8_setRisk_89 : decode cX8_setRisk 89 = .ok (.ireturn, 1) := by decide +kernel
theorem dX8_test_0 : decode cX8_test 0 = .ok (.aload_n 0, 1) := by decide +kernel
theorem dX8_test_1 : decode cX8_test 1 = .ok (.iload_n 1, 1) := by decide +kernel
theorem dX8_test_2 : decode cX8_test 2 = .ok (.invokevirtual 51, 3) := by decide +kernel
theorem dX8_test_5 : decode cX8_test 5 = .ok (.istore_n 3, 1) := by decide +kernel
theorem dX8_test_6 : decode cX8_test 6 = .ok (.aload_n 0, 1) := by decide +kernel
theorem dX8_test_7 : decode cX8_test 7 = .ok (.iload_n 3, 1) := by decide +kernel
theorem dX8_test_8 : decode cX8_test 8 = .ok (.ifCond .ne 7, 3) := by decide +kernel
theorem dX8_test_11 : decode cX8_test 11 = .ok (.iconst 1, 1) := by decide +kernel
theorem dX8_test_12 : decode cX8_test 12 = .ok (.goto 33, 3) := by decide +kernel
theorem dX8_test_15 : decode cX8_test 15 = .ok (.iload_n 2, 1) := by decide +kernel
theorem dX8_test_16 : decode cX8_test 16 = .ok (.iconst 1, 1) := by decide +kernel
theorem dX8_test_17 : decode cX8_test 17 = .ok (.bipush 11, 2) := by decide +kernel
theorem dX8_test_19 : decode cX8_test 19 = .ok (.invokestatic 36, 3) := by decide +kernel
theorem dX8_test_22 : decode cX8_test 22 = .ok (.ifCond .ne 7, 3) := by decide +kernel
theorem dX8_test_25 : decode cX8_test 25 = .ok (.iconst 2, 1) := by decide +kernel
theorem dX8_test_26 : decode cX8_test 26 = .ok (.goto 19, 3) := by decide +kernel
theorem dX8_test_29 : decode cX8_test 29 = .ok (.aload_n 0, 1) := by decide +kernel
theorem dX8_test_30 : decode cX8_test 30 = .ok (.iload_n 1, 1) := by decide +kernel
theorem dX8_test_31 : decode cX8_test 31 = .ok (.bipush 6, 2) := by decide +kernel
theorem dX8_test_33 : decode cX8_test 33 = .ok (.invokevirtual 60, 3) := by decide +kernel
theorem dX8_test_36 : decode cX8_test 36 = .ok (.iconst (-1), 1) := by decide +kernel
theorem dX8_test_37 : decode cX8_test 37 = .ok (.if_icmp .ne 7, 3) := by decide +kernel
theorem dX8_test_40 : decode cX8_test 40 = .ok (.iconst 3, 1) := by decide +kernel
theorem dX8_test_41 : decode cX8_test 41 = .ok (.goto 4, 3) := by decide +kernel
theorem dX8_test_44 : decode cX8_test 44 = .ok (.iconst 0, 1) := by decide +kernel
theorem dX8_test_45 : decode cX8_test 45 = .ok (.invokevirtual 32, 3) := by decide +kernel
theorem dX8_test_48 : decode cX8_test 48 = .ok (.ifCond .eq 5, 3) := by decide +kernel
theorem dX8_test_51 : decode cX8_test 51 = .ok (.iconst 0, 1) := by decide +kernel
theorem dX8_test_52 : decode cX8_test 52 = .ok (.ireturn, 1) := by decide +kernel
theorem dX8_test_53 : decode cX8_test 53 = .ok (.aload_n 0, 1) := by decide +kernel
theorem dX8_test_54 : decode cX8_test 54 = .ok (.iload_n 1, 1) := by decide +kernel
theorem dX8_test_55 : decode cX8_test 55 = .ok (.bipush 6, 2) := by decide +kernel
theorem dX8_test_57 : decode cX8_test 57 = .ok (.invokevirtual 60, 3) := by decide +kernel
theorem dX8_test_60 : decode cX8_test 60 = .ok (.iload_n 2, 1) := by decide +kernel
theorem dX8_test_61 : decode cX8_test 61 = .ok (.if_icmp .gt 7, 3) := by decide +kernel
theorem dX8_test_64 : decode cX8_test 64 = .ok (.iconst 1, 1) := by decide +kernel
theorem dX8_test_65 : decode cX8_test 65 = .ok (.goto 4, 3) := by decide +kernel
theorem dX8_test_68 : decode cX8_test 68 = .ok (.iconst 0, 1) := by decide +kernel
theorem dX8_test_69 : decode cX8_test 69 = .ok (.ireturn, 1) := by decide +kernel
theorem dX8_laysTests_0 : decode cX8_laysTests 0 = .ok (.iconst 0, 1) := by decide +kernel
theorem dX8_laysTests_1 : decode cX8_laysTests 1 = .ok (.istore_n 2, 1) := by decide +kernel
theorem dX8_laysTests_2 : decode cX8_laysTests 2 = .ok (.iload_n 2, 1) := by decide +kernel
theorem dX8_laysTests_3 : decode cX8_laysTests 3 = .ok (.bipush 12, 2) := by decide +kernel
theorem dX8_laysTests_5 : decode cX8_laysTests 5 = .ok (.if_icmp .ge 178, 3) := by decide +kernel
theorem dX8_laysTests_8 : decode cX8_laysTests 8 = .ok (.iconst 1, 1) := by decide +kernel
theorem dX8_laysTests_9 : decode cX8_laysTests 9 = .ok (.istore_n 3, 1) := by decide +kernel
theorem dX8_laysTests_10 : decode cX8_laysTests 10 = .ok (.iload_n 3, 1) := by decide +kernel
theorem dX8_laysTests_11 : decode cX8_laysTests 11 = .ok (.iload_n 2, 1) := by decide +kernel
theorem dX8_laysTests_12 : decode cX8_laysTests 12 = .ok (.iadd, 1) := by decide +kernel
theorem dX8_laysTests_13 : decode cX8_laysTests 13 = .ok (.bipush 12, 2) := by decide +kernel
theorem dX8_laysTests_15 : decode cX8_laysTests 15 = .ok (.if_icmp .gt 162, 3) := by decide +kernel
theorem dX8_laysTests_18 : decode cX8_laysTests 18 = .ok (.iload_n 3, 1) := by decide +kernel
theorem dX8_laysTests_19 : decode cX8_laysTests 19 = .ok (.iload_n 2, 1) := by decide +kernel
theorem dX8_laysTests_20 : decode cX8_laysTests 20 = .ok (.iadd, 1) := by decide +kernel
theorem dX8_laysTests_21 : decode cX8_laysTests 21 = .ok (.istore 4, 2) := by decide +kernel
theorem dX8_laysTests_23 : decode cX8_laysTests 23 = .ok (.iconst 0, 1) := by decide +kernel
theorem dX8_laysTests_24 : decode cX8_laysTests 24 = .ok (.istore 5, 2) := by decide +kernel
theorem dX8_laysTests_26 : decode cX8_laysTests 26 = .ok (.iload_n 3, 1) := by decide +kernel
theorem dX8_laysTests_27 : decode cX8_laysTests 27 = .ok (.istore 6, 2) := by decide +kernel
theorem dX8_laysTests_29 : decode cX8_laysTests 29 = .ok (.iload 6, 2) := by decide +kernel
theorem dX8_laysTests_31 : decode cX8_laysTests 31 = .ok (.iload 4, 2) := by decide +kernel
theorem dX8_laysTests_33 : decode cX8_laysTests 33 = .ok (.if_icmp .gt 26, 3) := by decide +kernel
theorem dX8_laysTests_36 : decode cX8_laysTests 36 = .ok (.iload 5, 2) := by decide +kernel
theorem dX8_laysTests_38 : decode cX8_laysTests 38 = .ok (.aload_n 0, 1) := by decide +kernel
theorem dX8_laysTests_39 : decode cX8_laysTests 39 = .ok (.iload_n 1, 1) := by decide +kernel
theorem dX8_laysTests_40 : decode cX8_laysTests 40 = .ok (.bipush 8, 2) := by decide +kernel
theorem dX8_laysTests_42 : decode cX8_laysTests 42 = .ok (.iload 6, 2) := by decide +kernel
theorem dX8_laysTests_44 : decode cX8_laysTests 44 = .ok (.iadd, 1) := by decide +kernel
theorem dX8_laysTests_45 : decode cX8_laysTests 45 = .ok (.iconst 1, 1) := by decide +kernel
theorem dX8_laysTests_46 : decode cX8_laysTests 46 = .ok (.isub, 1) := by decide +kernel
theorem dX8_laysTests_47 : decode cX8_laysTests 47 = .ok (.invokevirtual 60, 3) := by decide +kernel
theorem dX8_laysTests_50 : decode cX8_laysTests 50 = .ok (.iadd, 1) := by decide +kernel
theorem dX8_laysTests_51 : decode cX8_laysTests 51 = .ok (.istore 5, 2) := by decide +kernel
theorem dX8_laysTests_53 : decode cX8_laysTests 53 = .ok (.iinc 6 1, 3) := by decide +kernel
theorem dX8_laysTests_56 : decode cX8_laysTests 56 = .ok (.goto (-27), 3) := by decide +kernel
theorem dX8_laysTests_59 : decode cX8_laysTests 59 = .ok (.iconst (-1), 1) := by decide +kernel
theorem dX8_laysTests_60 : decode cX8_laysTests 60 = .ok (.istore 6, 2) := by decide +kernel
theorem dX8_laysTests_62 : decode cX8_laysTests 62 = .ok (.iconst 0, 1) := by decide +kernel
theorem dX8_laysTests_63 : decode cX8_laysTests 63 = .ok (.istore 7, 2) := by decide +kernel
theorem dX8_laysTests_65 : decode cX8_laysTests 65 = .ok (.iload_n 3, 1) := by decide +kernel
theorem dX8_laysTests_66 : decode cX8_laysTests 66 = .ok (.istore 8, 2) := by decide +kernel
theorem dX8_laysTests_68 : decode cX8_laysTests 68 = .ok (.iload 8, 2) := by decide +kernel
theorem dX8_laysTests_70 : decode cX8_laysTests 70 = .ok (.iload 4, 2) := by decide +kernel
theorem dX8_laysTests_72 : decode cX8_laysTests 72 = .ok (.if_icmp .ge 60, 3) := by decide +kernel
theorem dX8_laysTests_75 : decode cX8_laysTests 75 = .ok (.aload_n 0, 1) := by decide +kernel
theorem dX8_laysTests_76 : decode cX8_laysTests 76 = .ok (.getfield 16, 3) := by decide +kernel
theorem dX8_laysTests_79 : decode cX8_laysTests 79 = .ok (.bipush 13, 2) := by decide +kernel
theorem dX8_laysTests_81 : decode cX8_laysTests 81 = .ok (.iload_n 3, 1) := by decide +kernel
theorem dX8_laysTests_82 : decode cX8_laysTests 82 = .ok (.imul, 1) := by decide +kernel
theorem dX8_laysTests_83 : decode cX8_laysTests 83 = .ok (.iload 8, 2) := by decide +kernel
theorem dX8_laysTests_85 : decode cX8_laysTests 85 = .ok (.iadd, 1) := by decide +kernel
theorem dX8_laysTests_86 : decode cX8_laysTests 86 = .ok (.iaload, 1) := by decide +kernel
theorem dX8_laysTests_87 : decode cX8_laysTests 87 = .ok (.aload_n 0, 1) := by decide +kernel
theorem dX8_laysTests_88 : decode cX8_laysTests 88 = .ok (.getfield 16, 3) := by decide +kernel
theorem dX8_laysTests_91 : decode cX8_laysTests 91 = .ok (.bipush 13, 2) := by decide +kernel
theorem dX8_laysTests_93 : decode cX8_laysTests 93 = .ok (.iload 8, 2) := by decide +kernel
theorem dX8_laysTests_95 : decode cX8_laysTests 95 = .ok (.iconst 1, 1) := by decide +kernel
theorem dX8_laysTests_96 : decode cX8_laysTests 96 = .ok (.iadd, 1) := by decide +kernel
theorem dX8_laysTests_97 : decode cX8_laysTests 97 = .ok (.imul, 1) := by decide +kernel
theorem dX8_laysTests_98 : decode cX8_laysTests 98 = .ok (.iload 4, 2) := by decide +kernel
theorem dX8_laysTests_100 : decode cX8_laysTests 100 = .ok (.iadd, 1) := by decide +kernel
theorem dX8_laysTests_101 : decode cX8_laysTests 101 = .ok (.iaload, 1) := by decide +kernel
theorem dX8_laysTests_102 : decode cX8_laysTests 102 = .ok (.iadd, 1) := by decide +kernel
theorem dX8_laysTests_103 : decode cX8_laysTests 103 = .ok (.istore 9, 2) := by decide +kernel
theorem dX8_laysTests_105 : decode cX8_laysTests 105 = .ok (.iload 6, 2) := by decide +kernel
theorem dX8_laysTests_107 : decode cX8_laysTests 107 = .ok (.iconst (-1), 1) := by decide +kernel
theorem dX8_laysTests_108 : decode cX8_laysTests 108 = .ok (.if_icmp .eq 10, 3) := by decide +kernel
theorem dX8_laysTests_111 : decode cX8_laysTests 111 = .ok (.iload 9, 2) := by decide +kernel
theorem dX8_laysTests_113 : decode cX8_laysTests 113 = .ok (.iload 7, 2) := by decide +kernel
theorem dX8_laysTests_115 : decode cX8_laysTests 115 = .ok (.if_icmp .ge 11, 3) := by decide +kernel
theorem dX8_laysTests_118 : decode cX8_laysTests 118 = .ok (.iload 8, 2) := by decide +kernel
theorem dX8_laysTests_120 : decode cX8_laysTests 120 = .ok (.istore 6, 2) := by decide +kernel
theorem dX8_laysTests_122 : decode cX8_laysTests 122 = .ok (.iload 9, 2) := by decide +kernel
theorem dX8_laysTests_124 : decode cX8_laysTests 124 = .ok (.istore 7, 2) := by decide +kernel
theorem dX8_laysTests_126 : decode cX8_laysTests 126 = .ok (.iinc 8 1, 3) := by decide +kernel
theorem dX8_laysTests_129 : decode cX8_laysTests 129 = .ok (.goto (-61), 3) := by decide +kernel
theorem dX8_laysTests_132 : decode cX8_laysTests 132 = .ok (.aload_n 0, 1) := by decide +kernel
theorem dX8_laysTests_133 : decode cX8_laysTests 133 = .ok (.getfield 16, 3) := by decide +kernel
theorem dX8_laysTests_136 : decode cX8_laysTests 136 = .ok (.bipush 13, 2) := by decide +kernel
theorem dX8_laysTests_138 : decode cX8_laysTests 138 = .ok (.iload_n 3, 1) := by decide +kernel
theorem dX8_laysTests_139 : decode cX8_laysTests 139 = .ok (.imul, 1) := by decide +kernel
theorem dX8_laysTests_140 : decode cX8_laysTests 140 = .ok (.iload 4, 2) := by decide +kernel
theorem dX8_laysTests_142 : decode cX8_laysTests 142 = .ok (.iadd, 1) := by decide +kernel
theorem dX8_laysTests_143 : decode cX8_laysTests 143 = .ok (.iload_n 2, 1) := by decide +kernel
theorem dX8_laysTests_144 : decode cX8_laysTests 144 = .ok (.ifCond .ne 7, 3) := by decide +kernel
theorem dX8_laysTests_147 : decode cX8_laysTests 147 = .ok (.iconst 0, 1) := by decide +kernel
theorem dX8_laysTests_148 : decode cX8_laysTests 148 = .ok (.goto 8, 3) := by decide +kernel
theorem dX8_laysTests_151 : decode cX8_laysTests 151 = .ok (.iload 5, 2) := by decide +kernel
theorem dX8_laysTests_153 : decode cX8_laysTests 153 = .ok (.iload 7, 2) := by decide +kernel
theorem dX8_laysTests_155 : decode cX8_laysTests 155 = .ok (.iadd, 1) := by decide +kernel
theorem dX8_laysTests_156 : decode cX8_laysTests 156 = .ok (.iastore, 1) := by decide +kernel
theorem dX8_laysTests_157 : decode cX8_laysTests 157 = .ok (.aload_n 0, 1) := by decide +kernel
theorem dX8_laysTests_158 : decode cX8_laysTests 158 = .ok (.getfield 19, 3) := by decide +kernel
theorem dX8_laysTests_161 : decode cX8_laysTests 161 = .ok (.bipush 13, 2) := by decide +kernel
theorem dX8_laysTests_163 : decode cX8_laysTests 163 = .ok (.iload_n 3, 1) := by decide +kernel
theorem dX8_laysTests_164 : decode cX8_laysTests 164 = .ok (.imul, 1) := by decide +kernel
theorem dX8_laysTests_165 : decode cX8_laysTests 165 = .ok (.iload 4, 2) := by decide +kernel
theorem dX8_laysTests_167 : decode cX8_laysTests 167 = .ok (.iadd, 1) := by decide +kernel
theorem dX8_laysTests_168 : decode cX8_laysTests 168 = .ok (.iload 6, 2) := by decide +kernel
theorem dX8_laysTests_170 : decode cX8_laysTests 170 = .ok (.iastore, 1) := by decide +kernel
theorem dX8_laysTests_171 : decode cX8_laysTests 171 = .ok (.iinc 3 1, 3) := by decide +kernel
theorem dX8_laysTests_174 : decode cX8_laysTests 174 = .ok (.goto (-164), 3) := by decide +kernel
theorem dX8_laysTests_177 : decode cX8_laysTests 177 = .ok (.iinc 2 1, 3) := by decide +kernel
theorem dX8_laysTests_180 : decode cX8_laysTests 180 = .ok (.goto (-178), 3) := by decide +kernel
theorem dX8_laysTests_183 : decode cX8_laysTests 183 = .ok (.return_, 1) := by decide +kernel
theorem dX8_testRefusal_0 : decode cX8_testRefusal 0 = .ok (.aload_n 0, 1) := by decide +kernel
theorem dX8_testRefusal_1 : decode cX8_testRefusal 1 = .ok (.iload_n 1, 1) := by decide +kernel
theorem dX8_testRefusal_2 : decode cX8_testRefusal 2 = .ok (.invokevirtual 51, 3) := by decide +kernel
theorem dX8_testRefusal_5 : decode cX8_testRefusal 5 = .ok (.ifCond .ne 7, 3) := by decide +kernel
theorem dX8_testRefusal_8 : decode cX8_testRefusal 8 = .ok (.iconst 1, 1) := by decide +kernel
theorem dX8_testRefusal_9 : decode cX8_testRefusal 9 = .ok (.goto 24, 3) := by decide +kernel
theorem dX8_testRefusal_12 : decode cX8_testRefusal 12 = .ok (.iload_n 2, 1) := by decide +kernel
theorem dX8_testRefusal_13 : decode cX8_testRefusal 13 = .ok (.iconst 1, 1) := by decide +kernel
theorem dX8_testRefusal_14 : decode cX8_testRefusal 14 = .ok (.if_icmp .lt 14, 3) := by decide +kernel
theorem dX8_testRefusal_17 : decode cX8_testRefusal 17 = .ok (.iload_n 2, 1) := by decide +kernel
theorem dX8_testRefusal_18 : decode cX8_testRefusal 18 = .ok (.iload_n 3, 1) := by decide +kernel
theorem dX8_testRefusal_19 : decode cX8_testRefusal 19 = .ok (.if_icmp .gt 9, 3) := by decide +kernel
theorem dX8_testRefusal_22 : decode cX8_testRefusal 22 = .ok (.iload_n 3, 1) := by decide +kernel
theorem dX8_testRefusal_23 : decode cX8_testRefusal 23 = .ok (.bipush 12, 2) := by decide +kernel
theorem dX8_testRefusal_25 : decode cX8_testRefusal 25 = .ok (.if_icmp .le 7, 3) := by decide +kernel
theorem dX8_testRefusal_28 : decode cX8_testRefusal 28 = .ok (.iconst 2, 1) := by decide +kernel
theorem dX8_testRefusal_29 : decode cX8_testRefusal 29 = .ok (.goto 4, 3) := by decide +kernel
theorem dX8_testRefusal_32 : decode cX8_testRefusal 32 = .ok (.iconst 0, 1) := by decide +kernel
theorem dX8_testRefusal_33 : decode cX8_testRefusal 33 = .ok (.ireturn, 1) := by decide +kernel
theorem dX8_testCost_0 : decode cX8_testCost 0 = .ok (.aload_n 0, 1) := by decide +kernel
theorem dX8_testCost_1 : decode cX8_testCost 1 = .ok (.aload_n 0, 1) := by decide +kernel
theorem dX8_testCost_2 : decode cX8_testCost 2 = .ok (.iload_n 1, 1) := by decide +kernel
theorem dX8_testCost_3 : decode cX8_testCost 3 = .ok (.iload_n 2, 1) := by decide +kernel
theorem dX8_testCost_4 : decode cX8_testCost 4 = .ok (.iload_n 3, 1) := by decide +kernel
theorem dX8_testCost_5 : decode cX8_testCost 5 = .ok (.invokevirtual 149, 3) := by decide +kernel
theorem dX8_testCost_8 : decode cX8_testCost 8 = .ok (.invokevirtual 32, 3) := by decide +kernel
theorem dX8_testCost_11 : decode cX8_testCost 11 = .ok (.ifCond .eq 5, 3) := by decide +kernel
theorem dX8_testCost_14 : decode cX8_testCost 14 = .ok (.iconst 0, 1) := by decide +kernel
theorem dX8_testCost_15 : decode cX8_testCost 15 = .ok (.ireturn, 1) := by decide +kernel
theorem dX8_testCost_16 : decode cX8_testCost 16 = .ok (.aload_n 0, 1) := by decide +kernel
theorem dX8_testCost_17 : decode cX8_testCost 17 = .ok (.iload_n 1, 1) := by decide +kernel
theorem dX8_testCost_18 : decode cX8_testCost 18 = .ok (.invokevirtual 153, 3) := by decide +kernel
theorem dX8_testCost_21 : decode cX8_testCost 21 = .ok (.aload_n 0, 1) := by decide +kernel
theorem dX8_testCost_22 : decode cX8_testCost 22 = .ok (.getfield 16, 3) := by decide +kernel
theorem dX8_testCost_25 : decode cX8_testCost 25 = .ok (.bipush 13, 2) := by decide +kernel
theorem dX8_testCost_27 : decode cX8_testCost 27 = .ok (.iload_n 2, 1) := by decide +kernel
theorem dX8_testCost_28 : decode cX8_testCost 28 = .ok (.imul, 1) := by decide +kernel
theorem dX8_testCost_29 : decode cX8_testCost 29 = .ok (.iload_n 3, 1) := by decide +kernel
theorem dX8_testCost_30 : decode cX8_testCost 30 = .ok (.iadd, 1) := by decide +kernel
theorem dX8_testCost_31 : decode cX8_testCost 31 = .ok (.iaload, 1) := by decide +kernel
theorem dX8_testCost_32 : decode cX8_testCost 32 = .ok (.ireturn, 1) := by decide +kernel
theorem dX8_bestTest_0 : decode cX8_bestTest 0 = .ok (.aload_n 0, 1) := by decide +kernel
theorem dX8_bestTest_1 : decode cX8_bestTest 1 = .ok (.aload_n 0, 1) := by decide +kernel
theorem dX8_bestTest_2 : decode cX8_bestTest 2 = .ok (.iload_n 1, 1) := by decide +kernel
theorem dX8_bestTest_3 : decode cX8_bestTest 3 = .ok (.iload_n 2, 1) := by decide +kernel
theorem dX8_bestTest_4 : decode cX8_bestTest 4 = .ok (.iload_n 3, 1) := by decide +kernel
theorem dX8_bestTest_5 : decode cX8_bestTest 5 = .ok (.invokevirtual 149, 3) := by decide +kernel
theorem dX8_bestTest_8 : decode cX8_bestTest 8 = .ok (.invokevirtual 32, 3) := by decide +kernel
theorem dX8_bestTest_11 : decode cX8_bestTest 11 = .ok (.ifCond .eq 5, 3) := by decide +kernel
theorem dX8_bestTest_14 : decode cX8_bestTest 14 = .ok (.iconst 0, 1) := by decide +kernel
theorem dX8_bestTest_15 : decode cX8_bestTest 15 = .ok (.ireturn, 1) := by decide +kernel
theorem dX8_bestTest_16 : decode cX8_bestTest 16 = .ok (.aload_n 0, 1) := by decide +kernel
theorem dX8_bestTest_17 : decode cX8_bestTest 17 = .ok (.iload_n 1, 1) := by decide +kernel
theorem dX8_bestTest_18 : decode cX8_bestTest 18 = .ok (.invokevirtual 153, 3) := by decide +kernel
theorem dX8_bestTest_21 : decode cX8_bestTest 21 = .ok (.aload_n 0, 1) := by decide +kernel
theorem dX8_bestTest_22 : decode cX8_bestTest 22 = .ok (.getfield 19, 3) := by decide +kernel
theorem dX8_bestTest_25 : decode cX8_bestTest 25 = .ok (.bipush 13, 2) := by decide +kernel
theorem dX8_bestTest_27 : decode cX8_bestTest 27 = .ok (.iload_n 2, 1) := by decide +kernel
theorem dX8_bestTest_28 : decode cX8_bestTest 28 = .ok (.imul, 1) := by decide +kernel
theorem dX8_bestTest_29 : decode cX8_bestTest 29 = .ok (.iload_n 3, 1) := by decide +kernel
theorem dX8_bestTest_30 : decode cX8_bestTest 30 = .ok (.iadd, 1) := by decide +kernel
theorem dX8_bestTest_31 : decode cX8_bestTest 31 = .ok (.iaload, 1) := by decide +kernel
theorem dX8_bestTest_32 : decode cX8_bestTest 32 = .ok (.ireturn, 1) := by decide +kernel
theorem dX8_testsNeeded_0 : decode cX8_testsNeeded 0 = .ok (.aload_n 0, 1) := by decide +kernel
theorem dX8_testsNeeded_1 : decode cX8_testsNeeded 1 = .ok (.iload_n 1, 1) := by decide +kernel
theorem dX8_testsNeeded_2 : decode cX8_testsNeeded 2 = .ok (.invokevirtual 51, 3) := by decide +kernel
theorem dX8_testsNeeded_5 : decode cX8_testsNeeded 5 = .ok (.istore_n 2, 1) := by decide +kernel
theorem dX8_testsNeeded_6 : decode cX8_testsNeeded 6 = .ok (.aload_n 0, 1) := by decide +kernel
theorem dX8_testsNeeded_7 : decode cX8_testsNeeded 7 = .ok (.iload_n 2, 1) := by decide +kernel
theorem dX8_testsNeeded_8 : decode cX8_testsNeeded 8 = .ok (.ifCond .ne 7, 3) := by decide +kernel
theorem dX8_testsNeeded_11 : decode cX8_testsNeeded 11 = .ok (.iconst 1, 1) := by decide +kernel
theorem dX8_testsNeeded_12 : decode cX8_testsNeeded 12 = .ok (.goto 19, 3) := by decide +kernel
theorem dX8_testsNeeded_15 : decode cX8_testsNeeded 15 = .ok (.aload_n 0, 1) := by decide +kernel
theorem dX8_testsNeeded_16 : decode cX8_testsNeeded 16 = .ok (.iload_n 1, 1) := by decide +kernel
theorem dX8_testsNeeded_17 : decode cX8_testsNeeded 17 = .ok (.bipush 6, 2) := by decide +kernel
theorem dX8_testsNeeded_19 : decode cX8_testsNeeded 19 = .ok (.invokevirtual 60, 3) := by decide +kernel
theorem dX8_testsNeeded_22 : decode cX8_testsNeeded 22 = .ok (.iconst (-1), 1) := by decide +kernel
theorem dX8_testsNeeded_23 : decode cX8_testsNeeded 23 = .ok (.if_icmp .ne 7, 3) := by decide +kernel
theorem dX8_testsNeeded_26 : decode cX8_testsNeeded 26 = .ok (.iconst 2, 1) := by decide +kernel
theorem dX8_testsNeeded_27 : decode cX8_testsNeeded 27 = .ok (.goto 4, 3) := by decide +kernel
theorem dX8_testsNeeded_30 : decode cX8_testsNeeded 30 = .ok (.iconst 0, 1) := by decide +kernel
theorem dX8_testsNeeded_31 : decode cX8_testsNeeded 31 = .ok (.invokevirtual 32, 3) := by decide +kernel
theorem dX8_testsNeeded_34 : decode cX8_testsNeeded 34 = .ok (.ifCond .eq 5, 3) := by decide +kernel
theorem dX8_testsNeeded_37 : decode cX8_testsNeeded 37 = .ok (.iconst 0, 1) := by decide +kernel
theorem dX8_testsNeeded_38 : decode cX8_testsNeeded 38 = .ok (.ireturn, 1) := by decide +kernel
theorem dX8_testsNeeded_39 : decode cX8_testsNeeded 39 = .ok (.aload_n 0, 1) := by decide +kernel
theorem dX8_testsNeeded_40 : decode cX8_testsNeeded 40 = .ok (.iload_n 1, 1) := by decide +kernel
theorem dX8_testsNeeded_41 : decode cX8_testsNeeded 41 = .ok (.invokevirtual 153, 3) := by decide +kernel
theorem dX8_testsNeeded_44 : decode cX8_testsNeeded 44 = .ok (.iconst 1, 1) := by decide +kernel
theorem dX8_testsNeeded_45 : decode cX8_testsNeeded 45 = .ok (.istore_n 3, 1) := by decide +kernel
theorem dX8_testsNeeded_46 : decode cX8_testsNeeded 46 = .ok (.bipush 12, 2) := by decide +kernel
theorem dX8_testsNeeded_48 : decode cX8_testsNeeded 48 = .ok (.istore 4, 2) := by decide +kernel
theorem dX8_testsNeeded_50 : decode cX8_testsNeeded 50 = .ok (.iconst 0, 1) := by decide +kernel
theorem dX8_testsNeeded_51 : decode cX8_testsNeeded 51 = .ok (.istore 5, 2) := by decide +kernel
theorem dX8_testsNeeded_53 : decode cX8_testsNeeded 53 = .ok (.iload_n 3, 1) := by decide +kernel
theorem dX8_testsNeeded_54 : decode cX8_testsNeeded 54 = .ok (.iload 4, 2) := by decide +kernel
theorem dX8_testsNeeded_56 : decode cX8_testsNeeded 56 = .ok (.if_icmp .ge 47, 3) := by decide +kernel
theorem dX8_testsNeeded_59 : decode cX8_testsNeeded 59 = .ok (.aload_n 0, 1) := by decide +kernel
theorem dX8_testsNeeded_60 : decode cX8_testsNeeded 60 = .ok (.getfield 19, 3) := by decide +kernel
theorem dX8_testsNeeded_63 : decode cX8_testsNeeded 63 = .ok (.bipush 13, 2) := by decide +kernel
theorem dX8_testsNeeded_65 : decode cX8_testsNeeded 65 = .ok (.iload_n 3, 1) := by decide +kernel
theorem dX8_testsNeeded_66 : decode cX8_testsNeeded 66 = .ok (.imul, 1) := by decide +kernel
theorem dX8_testsNeeded_67 : decode cX8_testsNeeded 67 = .ok (.iload 4, 2) := by decide +kernel
theorem dX8_testsNeeded_69 : decode cX8_testsNeeded 69 = .ok (.iadd, 1) := by decide +kernel
theorem dX8_testsNeeded_70 : decode cX8_testsNeeded 70 = .ok (.iaload, 1) := by decide +kernel
theorem dX8_testsNeeded_71 : decode cX8_testsNeeded 71 = .ok (.istore 6, 2) := by decide +kernel
theorem dX8_testsNeeded_73 : decode cX8_testsNeeded 73 = .ok (.iinc 5 1, 3) := by decide +kernel
theorem dX8_testsNeeded_76 : decode cX8_testsNeeded 76 = .ok (.aload_n 0, 1) := by decide +kernel
theorem dX8_testsNeeded_77 : decode cX8_testsNeeded 77 = .ok (.iload_n 1, 1) := by decide +kernel
theorem dX8_testsNeeded_78 : decode cX8_testsNeeded 78 = .ok (.bipush 6, 2) := by decide +kernel
theorem dX8_testsNeeded_80 : decode cX8_testsNeeded 80 = .ok (.invokevirtual 60, 3) := by decide +kernel
theorem dX8_testsNeeded_83 : decode cX8_testsNeeded 83 = .ok (.iload 6, 2) := by decide +kernel
theorem dX8_testsNeeded_85 : decode cX8_testsNeeded 85 = .ok (.if_icmp .gt 10, 3) := by decide +kernel
theorem dX8_testsNeeded_88 : decode cX8_testsNeeded 88 = .ok (.iload 6, 2) := by decide +kernel
theorem dX8_testsNeeded_90 : decode cX8_testsNeeded 90 = .ok (.istore 4, 2) := by decide +kernel
theorem dX8_testsNeeded_92 : decode cX8_testsNeeded 92 = .ok (.goto 8, 3) := by decide +kernel
theorem dX8_testsNeeded_95 : decode cX8_testsNeeded 95 = .ok (.iload 6, 2) := by decide +kernel
theorem dX8_testsNeeded_97 : decode cX8_testsNeeded 97 = .ok (.iconst 1, 1) := by decide +kernel
theorem dX8_testsNeeded_98 : decode cX8_testsNeeded 98 = .ok (.iadd, 1) := by decide +kernel
theorem dX8_testsNeeded_99 : decode cX8_testsNeeded 99 = .ok (.istore_n 3, 1) := by decide +kernel
theorem dX8_testsNeeded_100 : decode cX8_testsNeeded 100 = .ok (.goto (-47), 3) := by decide +kernel
theorem dX8_testsNeeded_103 : decode cX8_testsNeeded 103 = .ok (.iload 5, 2) := by decide +kernel
theorem dX8_testsNeeded_105 : decode cX8_testsNeeded 105 = .ok (.ireturn, 1) := by decide +kernel
theorem dX8_mix_0 : decode cX8_mix 0 = .ok (.aload_n 0, 1) := by decide +kernel
theorem dX8_mix_1 : decode cX8_mix 1 = .ok (.ldc2_w 156, 3) := by decide +kernel
theorem dX8_mix_4 : decode cX8_mix 4 = .ok (.aload_n 0, 1) := by decide +kernel
theorem dX8_mix_5 : decode cX8_mix 5 = .ok (.getfield 158, 3) := by decide +kernel
theorem dX8_mix_8 : decode cX8_mix 8 = .ok (.lmul, 1) := by decide +kernel
theorem dX8_mix_9 : decode cX8_mix 9 = .ok (.iload_n 1, 1) := by decide +kernel
theorem dX8_mix_10 : decode cX8_mix 10 = .ok (.i2l, 1) := by decide +kernel
theorem dX8_mix_11 : decode cX8_mix 11 = .ok (.ladd, 1) := by decide +kernel
theorem dX8_mix_12 : decode cX8_mix 12 = .ok (.putfield 158, 3) := by decide +kernel
theorem dX8_mix_15 : decode cX8_mix 15 = .ok (.return_, 1) := by decide +kernel
theorem dX8_digest_0 : decode cX8_digest 0 = .ok (.aload_n 0, 1) := by decide +kernel
theorem dX8_digest_1 : decode cX8_digest 1 = .ok (.iconst 0, 1) := by decide +kernel
theorem dX8_digest_2 : decode cX8_digest 2 = .ok (.putfield 25, 3) := by decide +kernel
theorem dX8_digest_5 : decode cX8_digest 5 = .ok (.aload_n 0, 1) := by decide +kernel
theorem dX8_digest_6 : decode cX8_digest 6 = .ok (.ldc2_w 162, 3) := by decide +kernel
theorem dX8_digest_9 : decode cX8_digest 9 = .ok (.putfield 158, 3) := by decide +kernel
theorem dX8_digest_12 : decode cX8_digest 12 = .ok (.aload_n 0, 1) := by decide +kernel
theorem dX8_digest_13 : decode cX8_digest 13 = .ok (.aload_n 0, 1) := by decide +kernel
theorem dX8_digest_14 : decode cX8_digest 14 = .ok (.getfield 7, 3) := by decide +kernel
theorem dX8_digest_17 : decode cX8_digest 17 = .ok (.iconst 0, 1) := by decide +kernel
theorem dX8_digest_18 : decode cX8_digest 18 = .ok (.iaload, 1) := by decide +kernel
theorem dX8_digest_19 : decode cX8_digest 19 = .ok (.invokevirtual 164, 3) := by decide +kernel
theorem dX8_digest_22 : decode cX8_digest 22 = .ok (.iconst 0, 1) := by decide +kernel
theorem dX8_digest_23 : decode cX8_digest 23 = .ok (.istore_n 1, 1) := by decide +kernel
theorem dX8_digest_24 : decode cX8_digest 24 = .ok (.iload_n 1, 1) := by decide +kernel
theorem dX8_digest_25 : decode cX8_digest 25 = .ok (.aload_n 0, 1) := by decide +kernel
theorem dX8_digest_26 : decode cX8_digest 26 = .ok (.getfield 7, 3) := by decide +kernel
theorem dX8_digest_29 : decode cX8_digest 29 = .ok (.iconst 0, 1) := by decide +kernel
theorem dX8_digest_30 : decode cX8_digest 30 = .ok (.iaload, 1) := by decide +kernel
theorem dX8_digest_31 : decode cX8_digest 31 = .ok (.if_icmp .ge 78, 3) := by decide +kernel
theorem dX8_digest_34 : decode cX8_digest 34 = .ok (.iconst 0, 1) := by decide +kernel
theorem dX8_digest_35 : decode cX8_digest 35 = .ok (.istore_n 2, 1) := by decide +kernel
theorem dX8_digest_36 : decode cX8_digest 36 = .ok (.iload_n 2, 1) := by decide +kernel
theorem dX8_digest_37 : decode cX8_digest 37 = .ok (.bipush 9, 2) := by decide +kernel
theorem dX8_digest_39 : decode cX8_digest 39 = .ok (.if_icmp .ge 19, 3) := by decide +kernel
theorem dX8_digest_42 : decode cX8_digest 42 = .ok (.aload_n 0, 1) := by decide +kernel
theorem dX8_digest_43 : decode cX8_digest 43 = .ok (.aload_n 0, 1) := by decide +kernel
theorem dX8_digest_44 : decode cX8_digest 44 = .ok (.iload_n 1, 1) := by decide +kernel
theorem dX8_digest_45 : decode cX8_digest 45 = .ok (.iload_n 2, 1) := by decide +kernel
theorem dX8_digest_46 : decode cX8_digest 46 = .ok (.invokevirtual 79, 3) := by decide +kernel
theorem dX8_digest_49 : decode cX8_digest 49 = .ok (.invokevirtual 164, 3) := by decide +kernel
theorem dX8_digest_52 : decode cX8_digest 52 = .ok (.iinc 2 1, 3) := by decide +kernel
theorem dX8_digest_55 : decode cX8_digest 55 = .ok (.goto (-19), 3) := by decide +kernel
theorem dX8_digest_58 : decode cX8_digest 58 = .ok (.aload_n 0, 1) := by decide +kernel
theorem dX8_digest_59 : decode cX8_digest 59 = .ok (.aload_n 0, 1) := by decide +kernel
theorem dX8_digest_60 : decode cX8_digest 60 = .ok (.iload_n 1, 1) := by decide +kernel
theorem dX8_digest_61 : decode cX8_digest 61 = .ok (.invokevirtual 134, 3) := by decide +kernel
theorem dX8_digest_64 : decode cX8_digest 64 = .ok (.invokevirtual 164, 3) := by decide +kernel
theorem dX8_digest_67 : decode cX8_digest 67 = .ok (.aload_n 0, 1) := by decide +kernel
theorem dX8_digest_68 : decode cX8_digest 68 = .ok (.aload_n 0, 1) := by decide +kernel
theorem dX8_digest_69 : decode cX8_digest 69 = .ok (.iload_n 1, 1) := by decide +kernel
theorem dX8_digest_70 : decode cX8_digest 70 = .ok (.invokevirtual 140, 3) := by decide +kernel
theorem dX8_digest_73 : decode cX8_digest 73 = .ok (.invokevirtual 164, 3) := by decide +kernel
theorem dX8_digest_76 : decode cX8_digest 76 = .ok (.iconst 0, 1) := by decide +kernel
theorem dX8_digest_77 : decode cX8_digest 77 = .ok (.istore_n 2, 1) := by decide +kernel
theorem dX8_digest_78 : decode cX8_digest 78 = .ok (.iload_n 2, 1) := by decide +kernel
theorem dX8_digest_79 : decode cX8_digest 79 = .ok (.bipush 12, 2) := by decide +kernel
theorem dX8_digest_81 : decode cX8_digest 81 = .ok (.if_icmp .ge 22, 3) := by decide +kernel
theorem dX8_digest_84 : decode cX8_digest 84 = .ok (.aload_n 0, 1) := by decide +kernel
theorem dX8_digest_85 : decode cX8_digest 85 = .ok (.aload_n 0, 1) := by decide +kernel
theorem dX8_digest_86 : decode cX8_digest 86 = .ok (.iload_n 1, 1) := by decide +kernel
theorem dX8_digest_87 : decode cX8_digest 87 = .ok (.bipush 8, 2) := by decide +kernel
theorem dX8_digest_89 : decode cX8_digest 89 = .ok (.iload_n 2, 1) := by decide +kernel
theorem dX8_digest_90 : decode cX8_digest 90 = .ok (.iadd, 1) := by decide +kernel
theorem dX8_digest_91 : decode cX8_digest 91 = .ok (.invokevirtual 60, 3) := by decide +kernel
theorem dX8_digest_94 : decode cX8_digest 94 = .ok (.invokevirtual 164, 3) := by decide +kernel
theorem dX8_digest_97 : decode cX8_digest 97 = .ok (.iinc 2 1, 3) := by decide +kernel
theorem dX8_digest_100 : decode cX8_digest 100 = .ok (.goto (-22), 3) := by decide +kernel
theorem dX8_digest_103 : decode cX8_digest 103 = .ok (.iinc 1 1, 3) := by decide +kernel
theorem dX8_digest_106 : decode cX8_digest 106 = .ok (.goto (-82), 3) := by decide +kernel
theorem dX8_digest_109 : decode cX8_digest 109 = .ok (.aload_n 0, 1) := by decide +kernel
theorem dX8_digest_110 : decode cX8_digest 110 = .ok (.aload_n 0, 1) := by decide +kernel
theorem dX8_digest_111 : decode cX8_digest 111 = .ok (.getfield 7, 3) := by decide +kernel
theorem dX8_digest_114 : decode cX8_digest 114 = .ok (.bipush 101, 2) := by decide +kernel
theorem dX8_digest_116 : decode cX8_digest 116 = .ok (.iaload, 1) := by decide +kernel
theorem dX8_digest_117 : decode cX8_digest 117 = .ok (.invokevirtual 164, 3) := by decide +kernel
theorem dX8_digest_120 : decode cX8_digest 120 = .ok (.iconst 0, 1) := by decide +kernel
theorem dX8_digest_121 : decode cX8_digest 121 = .ok (.istore_n 1, 1) := by decide +kernel
theorem dX8_digest_122 : decode cX8_digest 122 = .ok (.iload_n 1, 1) := by decide +kernel
theorem dX8_digest_123 : decode cX8_digest 123 = .ok (.aload_n 0, 1) := by decide +kernel
theorem dX8_digest_124 : decode cX8_digest 124 = .ok (.getfield 7, 3) := by decide +kernel
theorem dX8_digest_127 : decode cX8_digest 127 = .ok (.bipush 101, 2) := by decide +kernel
theorem dX8_digest_129 : decode cX8_digest 129 = .ok (.iaload, 1) := by decide +kernel
theorem dX8_digest_130 : decode cX8_digest 130 = .ok (.if_icmp .ge 33, 3) := by decide +kernel
theorem dX8_digest_133 : decode cX8_digest 133 = .ok (.iconst 0, 1) := by decide +kernel
theorem dX8_digest_134 : decode cX8_digest 134 = .ok (.istore_n 2, 1) := by decide +kernel
theorem dX8_digest_135 : decode cX8_digest 135 = .ok (.iload_n 2, 1) := by decide +kernel
theorem dX8_digest_136 : decode cX8_digest 136 = .ok (.bipush 8, 2) := by decide +kernel
theorem dX8_digest_138 : decode cX8_digest 138 = .ok (.if_icmp .ge 19, 3) := by decide +kernel
theorem dX8_digest_141 : decode cX8_digest 141 = .ok (.aload_n 0, 1) := by decide +kernel
theorem dX8_digest_142 : decode cX8_digest 142 = .ok (.aload_n 0, 1) := by decide +kernel
theorem dX8_digest_143 : decode cX8_digest 143 = .ok (.iload_n 1, 1) := by decide +kernel
theorem dX8_digest_144 : decode cX8_digest 144 = .ok (.iload_n 2, 1) := by decide +kernel
theorem dX8_digest_145 : decode cX8_digest 145 = .ok (.invokevirtual 76, 3) := by decide +kernel
theorem dX8_digest_148 : decode cX8_digest 148 = .ok (.invokevirtual 164, 3) := by decide +kernel
theorem dX8_digest_151 : decode cX8_digest 151 = .ok (.iinc 2 1, 3) := by decide +kernel
theorem dX8_digest_154 : decode cX8_digest 154 = .ok (.goto (-19), 3) := by decide +kernel
theorem dX8_digest_157 : decode cX8_digest 157 = .ok (.iinc 1 1, 3) := by decide +kernel
theorem dX8_digest_160 : decode cX8_digest 160 = .ok (.goto (-38), 3) := by decide +kernel
theorem dX8_digest_163 : decode cX8_digest 163 = .ok (.aload_n 0, 1) := by decide +kernel
theorem dX8_digest_164 : decode cX8_digest 164 = .ok (.aload_n 0, 1) := by decide +kernel
theorem dX8_digest_165 : decode cX8_digest 165 = .ok (.getfield 7, 3) := by decide +kernel
theorem dX8_digest_168 : decode cX8_digest 168 = .ok (.sipush 230, 3) := by decide +kernel
theorem dX8_digest_171 : decode cX8_digest 171 = .ok (.iaload, 1) := by decide +kernel
theorem dX8_digest_172 : decode cX8_digest 172 = .ok (.invokevirtual 164, 3) := by decide +kernel
theorem dX8_digest_175 : decode cX8_digest 175 = .ok (.iconst 0, 1) := by decide +kernel
theorem dX8_digest_176 : decode cX8_digest 176 = .ok (.istore_n 1, 1) := by decide +kernel
theorem dX8_digest_177 : decode cX8_digest 177 = .ok (.iload_n 1, 1) := by decide +kernel
theorem dX8_digest_178 : decode cX8_digest 178 = .ok (.bipush 6, 2) := by decide +kernel
theorem dX8_digest_180 : decode cX8_digest 180 = .ok (.if_icmp .ge 23, 3) := by decide +kernel
theorem dX8_digest_183 : decode cX8_digest 183 = .ok (.aload_n 0, 1) := by decide +kernel
theorem dX8_digest_184 : decode cX8_digest 184 = .ok (.aload_n 0, 1) := by decide +kernel
theorem dX8_digest_185 : decode cX8_digest 185 = .ok (.getfield 7, 3) := by decide +kernel
theorem dX8_digest_188 : decode cX8_digest 188 = .ok (.sipush 231, 3) := by decide +kernel
theorem dX8_digest_191 : decode cX8_digest 191 = .ok (.iload_n 1, 1) := by decide +kernel
theorem dX8_digest_192 : decode cX8_digest 192 = .ok (.iadd, 1) := by decide +kernel
theorem dX8_digest_193 : decode cX8_digest 193 = .ok (.iaload, 1) := by decide +kernel
theorem dX8_digest_194 : decode cX8_digest 194 = .ok (.invokevirtual 164, 3) := by decide +kernel
theorem dX8_digest_197 : decode cX8_digest 197 = .ok (.iinc 1 1, 3) := by decide +kernel
theorem dX8_digest_200 : decode cX8_digest 200 = .ok (.goto (-23), 3) := by decide +kernel
theorem dX8_digest_203 : decode cX8_digest 203 = .ok (.aload_n 0, 1) := by decide +kernel
theorem dX8_digest_204 : decode cX8_digest 204 = .ok (.aload_n 0, 1) := by decide +kernel
theorem dX8_digest_205 : decode cX8_digest 205 = .ok (.getfield 29, 3) := by decide +kernel
theorem dX8_digest_208 : decode cX8_digest 208 = .ok (.invokevirtual 164, 3) := by decide +kernel
theorem dX8_digest_211 : decode cX8_digest 211 = .ok (.aload_n 0, 1) := by decide +kernel
theorem dX8_digest_212 : decode cX8_digest 212 = .ok (.getfield 158, 3) := by decide +kernel
theorem dX8_digest_215 : decode cX8_digest 215 = .ok (.lreturn, 1) := by decide +kernel
theorem dL_addLoop_0 : decode cL_addLoop 0 = .ok (.aload_n 1, 1) := by decide +kernel
theorem dL_addLoop_1 : decode cL_addLoop 1 = .ok (.iconst 0, 1) := by decide +kernel
theorem dL_addLoop_2 : decode cL_addLoop 2 = .ok (.aload_n 0, 1) := by decide +kernel
theorem dL_addLoop_3 : decode cL_addLoop 3 = .ok (.invokevirtual 7, 3) := by decide +kernel
theorem dL_addLoop_6 : decode cL_addLoop 6 = .ok (.i2l, 1) := by decide +kernel
theorem dL_addLoop_7 : decode cL_addLoop 7 = .ok (.lastore, 1) := by decide +kernel
theorem dL_addLoop_8 : decode cL_addLoop 8 = .ok (.goto 6, 3) := by decide +kernel
theorem dL_addLoop_11 : decode cL_addLoop 11 = .ok (.astore_n 2, 1) := by decide +kernel
theorem dL_addLoop_12 : decode cL_addLoop 12 = .ok (.iconst 1, 1) := by decide +kernel
theorem dL_addLoop_13 : decode cL_addLoop 13 = .ok (.ireturn, 1) := by decide +kernel
theorem dL_addLoop_14 : decode cL_addLoop 14 = .ok (.iconst 0, 1) := by decide +kernel
theorem dL_addLoop_15 : decode cL_addLoop 15 = .ok (.ireturn, 1) := by decide +kernel
theorem dL_addSubscriber_0 : decode cL_addSubscriber 0 = .ok (.aload 4, 2) := by decide +kernel
theorem dL_addSubscriber_2 : decode cL_addSubscriber 2 = .ok (.iconst 0, 1) := by decide +kernel
theorem dL_addSubscriber_3 : decode cL_addSubscriber 3 = .ok (.aload_n 0, 1) := by decide +kernel
theorem dL_addSubscriber_4 : decode cL_addSubscriber 4 = .ok (.iload_n 1, 1) := by decide +kernel
theorem dL_addSubscriber_5 : decode cL_addSubscriber 5 = .ok (.iload_n 2, 1) := by decide +kernel
theorem dL_addSubscriber_6 : decode cL_addSubscriber 6 = .ok (.iload_n 3, 1) := by decide +kernel
theorem dL_addSubscriber_7 : decode cL_addSubscriber 7 = .ok (.invokevirtual 15, 3) := by decide +kernel
theorem dL_addSubscriber_10 : decode cL_addSubscriber 10 = .ok (.i2l, 1) := by decide +kernel
theorem dL_addSubscriber_11 : decode cL_addSubscriber 11 = .ok (.lastore, 1) := by decide +kernel
theorem dL_addSubscriber_12 : decode cL_addSubscriber 12 = .ok (.goto 15, 3) := by decide +kernel
theorem dL_addSubscriber_15 : decode cL_addSubscriber 15 = .ok (.astore 5, 2) := by decide +kernel
theorem dL_addSubscriber_17 : decode cL_addSubscriber 17 = .ok (.iconst 1, 1) := by decide +kernel
theorem dL_addSubscriber_18 : decode cL_addSubscriber 18 = .ok (.ireturn, 1) := by decide +kernel
theorem dL_addSubscriber_19 : decode cL_addSubscriber 19 = .ok (.astore 5, 2) := by decide +kernel
theorem dL_addSubscriber_21 : decode cL_addSubscriber 21 = .ok (.iconst 2, 1) := by decide +kernel
theorem dL_addSubscriber_22 : decode cL_addSubscriber 22 = .ok (.ireturn, 1) := by decide +kernel
theorem dL_addSubscriber_23 : decode cL_addSubscriber 23 = .ok (.astore 5, 2) := by decide +kernel
theorem dL_addSubscriber_25 : decode cL_addSubscriber 25 = .ok (.iconst 3, 1) := by decide +kernel
theorem dL_addSubscriber_26 : decode cL_addSubscriber 26 = .ok (.ireturn, 1) := by decide +kernel
theorem dL_addSubscriber_27 : decode cL_addSubscriber 27 = .ok (.iconst 0, 1) := by decide +kernel
theorem dL_addSubscriber_28 : decode cL_addSubscriber 28 = .ok (.ireturn, 1) := by decide +kernel
theorem dL_set_0 : decode cL_set 0 = .ok (.aload 4, 2) := by decide +kernel
theorem dL_set_2 : decode cL_set 2 = .ok (.iconst 0, 1) := by decide +kernel
theorem dL_set_3 : decode cL_set 3 = .ok (.aload_n 0, 1) := by decide +kernel
theorem dL_set_4 : decode cL_set 4 = .ok (.iload_n 1, 1) := by decide +kernel
theorem dL_set_5 : decode cL_set 5 = .ok (.iload_n 2, 1) := by decide +kernel
theorem dL_set_6 : decode cL_set 6 = .ok (.iload_n 3, 1) := by decide +kernel
theorem dL_set_7 : decode cL_set 7 = .ok (.invokevirtual 23, 3) := by decide +kernel
theorem dL_set_10 : decode cL_set 10 = .ok (.i2l, 1) := by decide +kernel
theorem dL_set_11 : decode cL_set 11 = .ok (.lastore, 1) := by decide +kernel
theorem dL_set_12 : decode cL_set 12 = .ok (.goto 15, 3) := by decide +kernel
theorem dL_set_15 : decode cL_set 15 = .ok (.astore 5, 2) := by decide +kernel
theorem dL_set_17 : decode cL_set 17 = .ok (.iconst 1, 1) := by decide +kernel
theorem dL_set_18 : decode cL_set 18 = .ok (.ireturn, 1) := by decide +kernel
theorem dL_set_19 : decode cL_set 19 = .ok (.astore 5, 2) := by decide +kernel
theorem dL_set_21 : decode cL_set 21 = .ok (.iconst 2, 1) := by decide +kernel
theorem dL_set_22 : decode cL_set 22 = .ok (.ireturn, 1) := by decide +kernel
theorem dL_set_23 : decode cL_set 23 = .ok (.astore 5, 2) := by decide +kernel
theorem dL_set_25 : decode cL_set 25 = .ok (.iconst 3, 1) := by decide +kernel
theorem dL_set_26 : decode cL_set 26 = .ok (.ireturn, 1) := by decide +kernel
theorem dL_set_27 : decode cL_set 27 = .ok (.iconst 0, 1) := by decide +kernel
theorem dL_set_28 : decode cL_set 28 = .ok (.ireturn, 1) := by decide +kernel
theorem dL_subscriber_0 : decode cL_subscriber 0 = .ok (.aload_n 3, 1) := by decide +kernel
theorem dL_subscriber_1 : decode cL_subscriber 1 = .ok (.iconst 0, 1) := by decide +kernel
theorem dL_subscriber_2 : decode cL_subscriber 2 = .ok (.aload_n 0, 1) := by decide +kernel
theorem dL_subscriber_3 : decode cL_subscriber 3 = .ok (.iload_n 1, 1) := by decide +kernel
theorem dL_subscriber_4 : decode cL_subscriber 4 = .ok (.iload_n 2, 1) := by decide +kernel
theorem dL_subscriber_5 : decode cL_subscriber 5 = .ok (.invokevirtual 26, 3) := by decide +kernel
theorem dL_subscriber_8 : decode cL_subscriber 8 = .ok (.i2l, 1) := by decide +kernel
theorem dL_subscriber_9 : decode cL_subscriber 9 = .ok (.lastore, 1) := by decide +kernel
theorem dL_subscriber_10 : decode cL_subscriber 10 = .ok (.goto 11, 3) := by decide +kernel
theorem dL_subscriber_13 : decode cL_subscriber 13 = .ok (.astore 4, 2) := by decide +kernel
theorem dL_subscriber_15 : decode cL_subscriber 15 = .ok (.iconst 1, 1) := by decide +kernel
theorem dL_subscriber_16 : decode cL_subscriber 16 = .ok (.ireturn, 1) := by decide +kernel
theorem dL_subscriber_17 : decode cL_subscriber 17 = .ok (.astore 4, 2) := by decide +kernel
theorem dL_subscriber_19 : decode cL_subscriber 19 = .ok (.iconst 2, 1) := by decide +kernel
theorem dL_subscriber_20 : decode cL_subscriber 20 = .ok (.ireturn, 1) := by decide +kernel
theorem dL_subscriber_21 : decode cL_subscriber 21 = .ok (.iconst 0, 1) := by decide +kernel
theorem dL_subscriber_22 : decode cL_subscriber 22 = .ok (.ireturn, 1) := by decide +kernel
theorem dL_loop_0 : decode cL_loop 0 = .ok (.aload_n 3, 1) := by decide +kernel
theorem dL_loop_1 : decode cL_loop 1 = .ok (.iconst 0, 1) := by decide +kernel
theorem dL_loop_2 : decode cL_loop 2 = .ok (.aload_n 0, 1) := by decide +kernel
theorem dL_loop_3 : decode cL_loop 3 = .ok (.iload_n 1, 1) := by decide +kernel
theorem dL_loop_4 : decode cL_loop 4 = .ok (.iload_n 2, 1) := by decide +kernel
theorem dL_loop_5 : decode cL_loop 5 = .ok (.invokevirtual 30, 3) := by decide +kernel
theorem dL_loop_8 : decode cL_loop 8 = .ok (.i2l, 1) := by decide +kernel
theorem dL_loop_9 : decode cL_loop 9 = .ok (.lastore, 1) := by decide +kernel
theorem dL_loop_10 : decode cL_loop 10 = .ok (.goto 11, 3) := by decide +kernel
theorem dL_loop_13 : decode cL_loop 13 = .ok (.astore 4, 2) := by decide +kernel
theorem dL_loop_15 : decode cL_loop 15 = .ok (.iconst 1, 1) := by decide +kernel
theorem dL_loop_16 : decode cL_loop 16 = .ok (.ireturn, 1) := by decide +kernel
theorem dL_loop_17 : decode cL_loop 17 = .ok (.astore 4, 2) := by decide +kernel
theorem dL_loop_19 : decode cL_loop 19 = .ok (.iconst 2, 1) := by decide +kernel
theorem dL_loop_20 : decode cL_loop 20 = .ok (.ireturn, 1) := by decide +kernel
theorem dL_loop_21 : decode cL_loop 21 = .ok (.iconst 0, 1) := by decide +kernel
theorem dL_loop_22 : decode cL_loop 22 = .ok (.ireturn, 1) := by decide +kernel
theorem dL_lift_0 : decode cL_lift 0 = .ok (.aload_n 2, 1) := by decide +kernel
theorem dL_lift_1 : decode cL_lift 1 = .ok (.iconst 0, 1) := by decide +kernel
theorem dL_lift_2 : decode cL_lift 2 = .ok (.aload_n 0, 1) := by decide +kernel
theorem dL_lift_3 : decode cL_lift 3 = .ok (.iload_n 1, 1) := by decide +kernel
theorem dL_lift_4 : decode cL_lift 4 = .ok (.invokevirtual 33, 3) := by decide +kernel
theorem dL_lift_7 : decode cL_lift 7 = .ok (.i2l, 1) := by decide +kernel
theorem dL_lift_8 : decode cL_lift 8 = .ok (.lastore, 1) := by decide +kernel
theorem dL_lift_9 : decode cL_lift 9 = .ok (.goto 9, 3) := by decide +kernel
theorem dL_lift_12 : decode cL_lift 12 = .ok (.astore_n 3, 1) := by decide +kernel
theorem dL_lift_13 : decode cL_lift 13 = .ok (.iconst 1, 1) := by decide +kernel
theorem dL_lift_14 : decode cL_lift 14 = .ok (.ireturn, 1) := by decide +kernel
theorem dL_lift_15 : decode cL_lift 15 = .ok (.astore_n 3, 1) := by decide +kernel
theorem dL_lift_16 : decode cL_lift 16 = .ok (.iconst 2, 1) := by decide +kernel
theorem dL_lift_17 : decode cL_lift 17 = .ok (.ireturn, 1) := by decide +kernel
theorem dL_lift_18 : decode cL_lift 18 = .ok (.iconst 0, 1) := by decide +kernel
theorem dL_lift_19 : decode cL_lift 19 = .ok (.ireturn, 1) := by decide +kernel
theorem dL_hang_0 : decode cL_hang 0 = .ok (.aload_n 2, 1) := by decide +kernel
theorem dL_hang_1 : decode cL_hang 1 = .ok (.iconst 0, 1) := by decide +kernel
theorem dL_hang_2 : decode cL_hang 2 = .ok (.aload_n 0, 1) := by decide +kernel
theorem dL_hang_3 : decode cL_hang 3 = .ok (.iload_n 1, 1) := by decide +kernel
theorem dL_hang_4 : decode cL_hang 4 = .ok (.invokevirtual 37, 3) := by decide +kernel
theorem dL_hang_7 : decode cL_hang 7 = .ok (.i2l, 1) := by decide +kernel
theorem dL_hang_8 : decode cL_hang 8 = .ok (.lastore, 1) := by decide +kernel
theorem dL_hang_9 : decode cL_hang 9 = .ok (.goto 9, 3) := by decide +kernel
theorem dL_hang_12 : decode cL_hang 12 = .ok (.astore_n 3, 1) := by decide +kernel
theorem dL_hang_13 : decode cL_hang 13 = .ok (.iconst 1, 1) := by decide +kernel
theorem dL_hang_14 : decode cL_hang 14 = .ok (.ireturn, 1) := by decide +kernel
theorem dL_hang_15 : decode cL_hang 15 = .ok (.astore_n 3, 1) := by decide +kernel
theorem dL_hang_16 : decode cL_hang 16 = .ok (.iconst 2, 1) := by decide +kernel
theorem dL_hang_17 : decode cL_hang 17 = .ok (.ireturn, 1) := by decide +kernel
theorem dL_hang_18 : decode cL_hang 18 = .ok (.iconst 0, 1) := by decide +kernel
theorem dL_hang_19 : decode cL_hang 19 = .ok (.ireturn, 1) := by decide +kernel
theorem dL_dial_0 : decode cL_dial 0 = .ok (.aload_n 3, 1) := by decide +kernel
theorem dL_dial_1 : decode cL_dial 1 = .ok (.iconst 0, 1) := by decide +kernel
theorem dL_dial_2 : decode cL_dial 2 = .ok (.aload_n 0, 1) := by decide +kernel
theorem dL_dial_3 : decode cL_dial 3 = .ok (.iload_n 1, 1) := by decide +kernel
theorem dL_dial_4 : decode cL_dial 4 = .ok (.iload_n 2, 1) := by decide +kernel
theorem dL_dial_5 : decode cL_dial 5 = .ok (.invokevirtual 40, 3) := by decide +kernel
theorem dL_dial_8 : decode cL_dial 8 = .ok (.i2l, 1) := by decide +kernel
theorem dL_dial_9 : decode cL_dial 9 = .ok (.lastore, 1) := by decide +kernel
theorem dL_dial_10 : decode cL_dial 10 = .ok (.goto 11, 3) := by decide +kernel
theorem dL_dial_13 : decode cL_dial 13 = .ok (.astore 4, 2) := by decide +kernel
theorem dL_dial_15 : decode cL_dial 15 = .ok (.iconst 1, 1) := by decide +kernel
theorem dL_dial_16 : decode cL_dial 16 = .ok (.ireturn, 1) := by decide +kernel
theorem dL_dial_17 : decode cL_dial 17 = .ok (.astore 4, 2) := by decide +kernel
theorem dL_dial_19 : decode cL_dial 19 = .ok (.iconst 2, 1) := by decide +kernel
theorem dL_dial_20 : decode cL_dial 20 = .ok (.ireturn, 1) := by decide +kernel
theorem dL_dial_21 : decode cL_dial 21 = .ok (.iconst 0, 1) := by decide +kernel
theorem dL_dial_22 : decode cL_dial 22 = .ok (.ireturn, 1) := by decide +kernel
theorem dL_tick_0 : decode cL_tick 0 = .ok (.aload_n 2, 1) := by decide +kernel
theorem dL_tick_1 : decode cL_tick 1 = .ok (.iconst 0, 1) := by decide +kernel
theorem dL_tick_2 : decode cL_tick 2 = .ok (.aload_n 0, 1) := by decide +kernel
theorem dL_tick_3 : decode cL_tick 3 = .ok (.iload_n 1, 1) := by decide +kernel
theorem dL_tick_4 : decode cL_tick 4 = .ok (.invokevirtual 43, 3) := by decide +kernel
theorem dL_tick_7 : decode cL_tick 7 = .ok (.i2l, 1) := by decide +kernel
theorem dL_tick_8 : decode cL_tick 8 = .ok (.lastore, 1) := by decide +kernel
theorem dL_tick_9 : decode cL_tick 9 = .ok (.goto 6, 3) := by decide +kernel
theorem dL_tick_12 : decode cL_tick 12 = .ok (.astore_n 3, 1) := by decide +kernel
theorem dL_tick_13 : decode cL_tick 13 = .ok (.iconst 1, 1) := by decide +kernel
theorem dL_tick_14 : decode cL_tick 14 = .ok (.ireturn, 1) := by decide +kernel
theorem dL_tick_15 : decode cL_tick 15 = .ok (.iconst 0, 1) := by decide +kernel
theorem dL_tick_16 : decode cL_tick 16 = .ok (.ireturn, 1) := by decide +kernel
theorem dL_setLimit_0 : decode cL_setLimit 0 = .ok (.aload_n 2, 1) := by decide +kernel
theorem dL_setLimit_1 : decode cL_setLimit 1 = .ok (.iconst 0, 1) := by decide +kernel
theorem dL_setLimit_2 : decode cL_setLimit 2 = .ok (.aload_n 0, 1) := by decide +kernel
theorem dL_setLimit_3 : decode cL_setLimit 3 = .ok (.iload_n 1, 1) := by decide +kernel
theorem dL_setLimit_4 : decode cL_setLimit 4 = .ok (.invokevirtual 46, 3) := by decide +kernel
theorem dL_setLimit_7 : decode cL_setLimit 7 = .ok (.i2l, 1) := by decide +kernel
theorem dL_setLimit_8 : decode cL_setLimit 8 = .ok (.lastore, 1) := by decide +kernel
theorem dL_setLimit_9 : decode cL_setLimit 9 = .ok (.goto 6, 3) := by decide +kernel
theorem dL_setLimit_12 : decode cL_setLimit 12 = .ok (.astore_n 3, 1) := by decide +kernel
theorem dL_setLimit_13 : decode cL_setLimit 13 = .ok (.iconst 1, 1) := by decide +kernel
theorem dL_setLimit_14 : decode cL_setLimit 14 = .ok (.ireturn, 1) := by decide +kernel
theorem dL_setLimit_15 : decode cL_setLimit 15 = .ok (.iconst 0, 1) := by decide +kernel
theorem dL_setLimit_16 : decode cL_setLimit 16 = .ok (.ireturn, 1) := by decide +kernel
theorem dL_rings_0 : decode cL_rings 0 = .ok (.aload_n 2, 1) := by decide +kernel
theorem dL_rings_1 : decode cL_rings 1 = .ok (.iconst 0, 1) := by decide +kernel
theorem dL_rings_2 : decode cL_rings 2 = .ok (.aload_n 0, 1) := by decide +kernel
theorem dL_rings_3 : decode cL_rings 3 = .ok (.iload_n 1, 1) := by decide +kernel
theorem dL_rings_4 : decode cL_rings 4 = .ok (.invokevirtual 49, 3) := by decide +kernel
theorem dL_rings_7 : decode cL_rings 7 = .ok (.i2l, 1) := by decide +kernel
theorem dL_rings_8 : decode cL_rings 8 = .ok (.lastore, 1) := by decide +kernel
theorem dL_rings_9 : decode cL_rings 9 = .ok (.goto 6, 3) := by decide +kernel
theorem dL_rings_12 : decode cL_rings 12 = .ok (.astore_n 3, 1) := by decide +kernel
theorem dL_rings_13 : decode cL_rings 13 = .ok (.iconst 1, 1) := by decide +kernel
theorem dL_rings_14 : decode cL_rings 14 = .ok (.ireturn, 1) := by decide +kernel
theorem dL_rings_15 : decode cL_rings 15 = .ok (.iconst 0, 1) := by decide +kernel
theorem dL_rings_16 : decode cL_rings 16 = .ok (.ireturn, 1) := by decide +kernel
theorem dL_wouldDial_0 : decode cL_wouldDial 0 = .ok (.aload_n 3, 1) := by decide +kernel
theorem dL_wouldDial_1 : decode cL_wouldDial 1 = .ok (.iconst 0, 1) := by decide +kernel
theorem dL_wouldDial_2 : decode cL_wouldDial 2 = .ok (.aload_n 0, 1) := by decide +kernel
theorem dL_wouldDial_3 : decode cL_wouldDial 3 = .ok (.iload_n 1, 1) := by decide +kernel
theorem dL_wouldDial_4 : decode cL_wouldDial 4 = .ok (.iload_n 2, 1) := by decide +kernel
theorem dL_wouldDial_5 : decode cL_wouldDial 5 = .ok (.invokevirtual 52, 3) := by decide +kernel
theorem dL_wouldDial_8 : decode cL_wouldDial 8 = .ok (.i2l, 1) := by decide +kernel
theorem dL_wouldDial_9 : decode cL_wouldDial 9 = .ok (.lastore, 1) := by decide +kernel
theorem dL_wouldDial_10 : decode cL_wouldDial 10 = .ok (.goto 7, 3) := by decide +kernel
theorem dL_wouldDial_13 : decode cL_wouldDial 13 = .ok (.astore 4, 2) := by decide +kernel
theorem dL_wouldDial_15 : decode cL_wouldDial 15 = .ok (.iconst 1, 1) := by decide +kernel
theorem dL_wouldDial_16 : decode cL_wouldDial 16 = .ok (.ireturn, 1) := by decide +kernel
theorem dL_wouldDial_17 : decode cL_wouldDial 17 = .ok (.iconst 0, 1) := by decide +kernel
theorem dL_wouldDial_18 : decode cL_wouldDial 18 = .ok (.ireturn, 1) := by decide +kernel
theorem dL_told_0 : decode cL_told 0 = .ok (.aload_n 2, 1) := by decide +kernel
theorem dL_told_1 : decode cL_told 1 = .ok (.iconst 0, 1) := by decide +kernel
theorem dL_told_2 : decode cL_told 2 = .ok (.aload_n 0, 1) := by decide +kernel
theorem dL_told_3 : decode cL_told 3 = .ok (.iload_n 1, 1) := by decide +kernel
theorem dL_told_4 : decode cL_told 4 = .ok (.invokevirtual 55, 3) := by decide +kernel
theorem dL_told_7 : decode cL_told 7 = .ok (.i2l, 1) := by decide +kernel
theorem dL_told_8 : decode cL_told 8 = .ok (.lastore, 1) := by decide +kernel
theorem dL_told_9 : decode cL_told 9 = .ok (.goto 6, 3) := by decide +kernel
theorem dL_told_12 : decode cL_told 12 = .ok (.astore_n 3, 1) := by decide +kernel
theorem dL_told_13 : decode cL_told 13 = .ok (.iconst 1, 1) := by decide +kernel
theorem dL_told_14 : decode cL_told 14 = .ok (.ireturn, 1) := by decide +kernel
theorem dL_told_15 : decode cL_told 15 = .ok (.iconst 0, 1) := by decide +kernel
theorem dL_told_16 : decode cL_told 16 = .ok (.ireturn, 1) := by decide +kernel
theorem dL_codeLength_0 : decode cL_codeLength 0 = .ok (.aload_n 2, 1) := by decide +kernel
theorem dL_codeLength_1 : decode cL_codeLength 1 = .ok (.iconst 0, 1) := by decide +kernel
theorem dL_codeLength_2 : decode cL_codeLength 2 = .ok (.aload_n 0, 1) := by decide +kernel
theorem dL_codeLength_3 : decode cL_codeLength 3 = .ok (.iload_n 1, 1) := by decide +kernel
theorem dL_codeLength_4 : decode cL_codeLength 4 = .ok (.invokevirtual 58, 3) := by decide +kernel
theorem dL_codeLength_7 : decode cL_codeLength 7 = .ok (.i2l, 1) := by decide +kernel
theorem dL_codeLength_8 : decode cL_codeLength 8 = .ok (.lastore, 1) := by decide +kernel
theorem dL_codeLength_9 : decode cL_codeLength 9 = .ok (.goto 6, 3) := by decide +kernel
theorem dL_codeLength_12 : decode cL_codeLength 12 = .ok (.astore_n 3, 1) := by decide +kernel
theorem dL_codeLength_13 : decode cL_codeLength 13 = .ok (.iconst 1, 1) := by decide +kernel
theorem dL_codeLength_14 : decode cL_codeLength 14 = .ok (.ireturn, 1) := by decide +kernel
theorem dL_codeLength_15 : decode cL_codeLength 15 = .ok (.iconst 0, 1) := by decide +kernel
theorem dL_codeLength_16 : decode cL_codeLength 16 = .ok (.ireturn, 1) := by decide +kernel
theorem dL_codeRing_0 : decode cL_codeRing 0 = .ok (.aload_n 3, 1) := by decide +kernel
theorem dL_codeRing_1 : decode cL_codeRing 1 = .ok (.iconst 0, 1) := by decide +kernel
theorem dL_codeRing_2 : decode cL_codeRing 2 = .ok (.aload_n 0, 1) := by decide +kernel
theorem dL_codeRing_3 : decode cL_codeRing 3 = .ok (.iload_n 1, 1) := by decide +kernel
theorem dL_codeRing_4 : decode cL_codeRing 4 = .ok (.iload_n 2, 1) := by decide +kernel
theorem dL_codeRing_5 : decode cL_codeRing 5 = .ok (.invokevirtual 61, 3) := by decide +kernel
theorem dL_codeRing_8 : decode cL_codeRing 8 = .ok (.i2l, 1) := by decide +kernel
theorem dL_codeRing_9 : decode cL_codeRing 9 = .ok (.lastore, 1) := by decide +kernel
theorem dL_codeRing_10 : decode cL_codeRing 10 = .ok (.goto 7, 3) := by decide +kernel
theorem dL_codeRing_13 : decode cL_codeRing 13 = .ok (.astore 4, 2) := by decide +kernel
theorem dL_codeRing_15 : decode cL_codeRing 15 = .ok (.iconst 1, 1) := by decide +kernel
theorem dL_codeRing_16 : decode cL_codeRing 16 = .ok (.ireturn, 1) := by decide +kernel
theorem dL_codeRing_17 : decode cL_codeRing 17 = .ok (.iconst 0, 1) := by decide +kernel
theorem dL_codeRing_18 : decode cL_codeRing 18 = .ok (.ireturn, 1) := by decide +kernel
theorem dL_codeCost_0 : decode cL_codeCost 0 = .ok (.aload_n 2, 1) := by decide +kernel
theorem dL_codeCost_1 : decode cL_codeCost 1 = .ok (.iconst 0, 1) := by decide +kernel
theorem dL_codeCost_2 : decode cL_codeCost 2 = .ok (.aload_n 0, 1) := by decide +kernel
theorem dL_codeCost_3 : decode cL_codeCost 3 = .ok (.iload_n 1, 1) := by decide +kernel
theorem dL_codeCost_4 : decode cL_codeCost 4 = .ok (.invokevirtual 64, 3) := by decide +kernel
theorem dL_codeCost_7 : decode cL_codeCost 7 = .ok (.i2l, 1) := by decide +kernel
theorem dL_codeCost_8 : decode cL_codeCost 8 = .ok (.lastore, 1) := by decide +kernel
theorem dL_codeCost_9 : decode cL_codeCost 9 = .ok (.goto 6, 3) := by decide +kernel
theorem dL_codeCost_12 : decode cL_codeCost 12 = .ok (.astore_n 3, 1) := by decide +kernel
theorem dL_codeCost_13 : decode cL_codeCost 13 = .ok (.iconst 1, 1) := by decide +kernel
theorem dL_codeCost_14 : decode cL_codeCost 14 = .ok (.ireturn, 1) := by decide +kernel
theorem dL_codeCost_15 : decode cL_codeCost 15 = .ok (.iconst 0, 1) := by decide +kernel
theorem dL_codeCost_16 : decode cL_codeCost 16 = .ok (.ireturn, 1) := by decide +kernel
theorem dL_bestCodes_0 : decode cL_bestCodes 0 = .ok (.aload_n 2, 1) := by decide +kernel
theorem dL_bestCodes_1 : decode cL_bestCodes 1 = .ok (.iconst 0, 1) := by decide +kernel
theorem dL_bestCodes_2 : decode cL_bestCodes 2 = .ok (.aload_n 0, 1) := by decide +kernel
theorem dL_bestCodes_3 : decode cL_bestCodes 3 = .ok (.iload_n 1, 1) := by decide +kernel
theorem dL_bestCodes_4 : decode cL_bestCodes 4 = .ok (.invokevirtual 67, 3) := by decide +kernel
theorem dL_bestCodes_7 : decode cL_bestCodes 7 = .ok (.i2l, 1) := by decide +kernel
theorem dL_bestCodes_8 : decode cL_bestCodes 8 = .ok (.lastore, 1) := by decide +kernel
theorem dL_bestCodes_9 : decode cL_bestCodes 9 = .ok (.goto 6, 3) := by decide +kernel
theorem dL_bestCodes_12 : decode cL_bestCodes 12 = .ok (.astore_n 3, 1) := by decide +kernel
theorem dL_bestCodes_13 : decode cL_bestCodes 13 = .ok (.iconst 1, 1) := by decide +kernel
theorem dL_bestCodes_14 : decode cL_bestCodes 14 = .ok (.ireturn, 1) := by decide +kernel
theorem dL_bestCodes_15 : decode cL_bestCodes 15 = .ok (.iconst 0, 1) := by decide +kernel
theorem dL_bestCodes_16 : decode cL_bestCodes 16 = .ok (.ireturn, 1) := by decide +kernel
theorem dL_assignCodes_0 : decode cL_assignCodes 0 = .ok (.aload_n 2, 1) := by decide +kernel
theorem dL_assignCodes_1 : decode cL_assignCodes 1 = .ok (.iconst 0, 1) := by decide +kernel
theorem dL_assignCodes_2 : decode cL_assignCodes 2 = .ok (.aload_n 0, 1) := by decide +kernel
theorem dL_assignCodes_3 : decode cL_assignCodes 3 = .ok (.iload_n 1, 1) := by decide +kernel
theorem dL_assignCodes_4 : decode cL_assignCodes 4 = .ok (.invokevirtual 70, 3) := by decide +kernel
theorem dL_assignCodes_7 : decode cL_assignCodes 7 = .ok (.i2l, 1) := by decide +kernel
theorem dL_assignCodes_8 : decode cL_assignCodes 8 = .ok (.lastore, 1) := by decide +kernel
theorem dL_assignCodes_9 : decode cL_assignCodes 9 = .ok (.goto 9, 3) := by decide +kernel
theorem dL_assignCodes_12 : decode cL_assignCodes 12 = .ok (.astore_n 3, 1) := by decide +kernel
theorem dL_assignCodes_13 : decode cL_assignCodes 13 = .ok (.iconst 1, 1) := by decide +kernel
theorem dL_assignCodes_14 : decode cL_assignCodes 14 = .ok (.ireturn, 1) := by decide +kernel
theorem dL_assignCodes_15 : decode cL_assignCodes 15 = .ok (.astore_n 3, 1) := by decide +kernel
theorem dL_assignCodes_16 : decode cL_assignCodes 16 = .ok (.iconst 2, 1) := by decide +kernel
theorem dL_assignCodes_17 : decode cL_assignCodes 17 = .ok (.ireturn, 1) := by decide +kernel
theorem dL_assignCodes_18 : decode cL_assignCodes 18 = .ok (.iconst 0, 1) := by decide +kernel
theorem dL_assignCodes_19 : decode cL_assignCodes 19 = .ok (.ireturn, 1) := by decide +kernel
theorem dL_fault_0 : decode cL_fault 0 = .ok (.aload 4, 2) := by decide +kernel
theorem dL_fault_2 : decode cL_fault 2 = .ok (.iconst 0, 1) := by decide +kernel
theorem dL_fault_3 : decode cL_fault 3 = .ok (.aload_n 0, 1) := by decide +kernel
theorem dL_fault_4 : decode cL_fault 4 = .ok (.iload_n 1, 1) := by decide +kernel
theorem dL_fault_5 : decode cL_fault 5 = .ok (.iload_n 2, 1) := by decide +kernel
theorem dL_fault_6 : decode cL_fault 6 = .ok (.iload_n 3, 1) := by decide +kernel
theorem dL_fault_7 : decode cL_fault 7 = .ok (.invokevirtual 73, 3) := by decide +kernel
theorem dL_fault_10 : decode cL_fault 10 = .ok (.i2l, 1) := by decide +kernel
theorem dL_fault_11 : decode cL_fault 11 = .ok (.lastore, 1) := by decide +kernel
theorem dL_fault_12 : decode cL_fault 12 = .ok (.goto 11, 3) := by decide +kernel
theorem dL_fault_15 : decode cL_fault 15 = .ok (.astore 5, 2) := by decide +kernel
theorem dL_fault_17 : decode cL_fault 17 = .ok (.iconst 1, 1) := by decide +kernel
theorem dL_fault_18 : decode cL_fault 18 = .ok (.ireturn, 1) := by decide +kernel
theorem dL_fault_19 : decode cL_fault 19 = .ok (.astore 5, 2) := by decide +kernel
theorem dL_fault_21 : decode cL_fault 21 = .ok (.iconst 2, 1) := by decide +kernel
theorem dL_fault_22 : decode cL_fault 22 = .ok (.ireturn, 1) := by decide +kernel
theorem dL_fault_23 : decode cL_fault 23 = .ok (.iconst 0, 1) := by decide +kernel
theorem dL_fault_24 : decode cL_fault 24 = .ok (.ireturn, 1) := by decide +kernel
theorem dL_mend_0 : decode cL_mend 0 = .ok (.aload_n 2, 1) := by decide +kernel
theorem dL_mend_1 : decode cL_mend 1 = .ok (.iconst 0, 1) := by decide +kernel
theorem dL_mend_2 : decode cL_mend 2 = .ok (.aload_n 0, 1) := by decide +kernel
theorem dL_mend_3 : decode cL_mend 3 = .ok (.iload_n 1, 1) := by decide +kernel
theorem dL_mend_4 : decode cL_mend 4 = .ok (.invokevirtual 77, 3) := by decide +kernel
theorem dL_mend_7 : decode cL_mend 7 = .ok (.i2l, 1) := by decide +kernel
theorem dL_mend_8 : decode cL_mend 8 = .ok (.lastore, 1) := by decide +kernel
theorem dL_mend_9 : decode cL_mend 9 = .ok (.goto 9, 3) := by decide +kernel
theorem dL_mend_12 : decode cL_mend 12 = .ok (.astore_n 3, 1) := by decide +kernel
theorem dL_mend_13 : decode cL_mend 13 = .ok (.iconst 1, 1) := by decide +kernel
theorem dL_mend_14 : decode cL_mend 14 = .ok (.ireturn, 1) := by decide +kernel
theorem dL_mend_15 : decode cL_mend 15 = .ok (.astore_n 3, 1) := by decide +kernel
theorem dL_mend_16 : decode cL_mend 16 = .ok (.iconst 2, 1) := by decide +kernel
theorem dL_mend_17 : decode cL_mend 17 = .ok (.ireturn, 1) := by decide +kernel
theorem dL_mend_18 : decode cL_mend 18 = .ok (.iconst 0, 1) := by decide +kernel
theorem dL_mend_19 : decode cL_mend 19 = .ok (.ireturn, 1) := by decide +kernel
theorem dL_isCut_0 : decode cL_isCut 0 = .ok (.aload_n 2, 1) := by decide +kernel
theorem dL_isCut_1 : decode cL_isCut 1 = .ok (.iconst 0, 1) := by decide +kernel
theorem dL_isCut_2 : decode cL_isCut 2 = .ok (.aload_n 0, 1) := by decide +kernel
theorem dL_isCut_3 : decode cL_isCut 3 = .ok (.iload_n 1, 1) := by decide +kernel
theorem dL_isCut_4 : decode cL_isCut 4 = .ok (.invokevirtual 80, 3) := by decide +kernel
theorem dL_isCut_7 : decode cL_isCut 7 = .ok (.ifCond .eq 7, 3) := by decide +kernel
theorem dL_isCut_10 : decode cL_isCut 10 = .ok (.lconst 1, 1) := by decide +kernel
theorem dL_isCut_11 : decode cL_isCut 11 = .ok (.goto 4, 3) := by decide +kernel
theorem dL_isCut_14 : decode cL_isCut 14 = .ok (.lconst 0, 1) := by decide +kernel
theorem dL_isCut_15 : decode cL_isCut 15 = .ok (.lastore, 1) := by decide +kernel
theorem dL_isCut_16 : decode cL_isCut 16 = .ok (.goto 6, 3) := by decide +kernel
theorem dL_isCut_19 : decode cL_isCut 19 = .ok (.astore_n 3, 1) := by decide +kernel
theorem dL_isCut_20 : decode cL_isCut 20 = .ok (.iconst 1, 1) := by decide +kernel
theorem dL_isCut_21 : decode cL_isCut 21 = .ok (.ireturn, 1) := by decide +kernel
theorem dL_isCut_22 : decode cL_isCut 22 = .ok (.iconst 0, 1) := by decide +kernel
theorem dL_isCut_23 : decode cL_isCut 23 = .ok (.ireturn, 1) := by decide +kernel
theorem dL_setRisk_0 : decode cL_setRisk 0 = .ok (.aload 4, 2) := by decide +kernel
theorem dL_setRisk_2 : decode cL_setRisk 2 = .ok (.iconst 0, 1) := by decide +kernel
theorem dL_setRisk_3 : decode cL_setRisk 3 = .ok (.aload_n 0, 1) := by decide +kernel
theorem dL_setRisk_4 : decode cL_setRisk 4 = .ok (.iload_n 1, 1) := by decide +kernel
theorem dL_setRisk_5 : decode cL_setRisk 5 = .ok (.iload_n 2, 1) := by decide +kernel
theorem dL_setRisk_6 : decode cL_setRisk 6 = .ok (.iload_n 3, 1) := by decide +kernel
theorem dL_setRisk_7 : decode cL_setRisk 7 = .ok (.invokevirtual 84, 3) := by decide +kernel
theorem dL_setRisk_10 : decode cL_setRisk 10 = .ok (.i2l, 1) := by decide +kernel
theorem dL_setRisk_11 : decode cL_setRisk 11 = .ok (.lastore, 1) := by decide +kernel
theorem dL_setRisk_12 : decode cL_setRisk 12 = .ok (.goto 11, 3) := by decide +kernel
theorem dL_setRisk_15 : decode cL_setRisk 15 = .ok (.astore 5, 2) := by decide +kernel
theorem dL_setRisk_17 : decode cL_setRisk 17 = .ok (.iconst 1, 1) := by decide +kernel
theorem dL_setRisk_18 : decode cL_setRisk 18 = .ok (.ireturn, 1) := by decide +kernel
theorem dL_setRisk_19 : decode cL_setRisk 19 = .ok (.astore 5, 2) := by decide +kernel
theorem dL_setRisk_21 : decode cL_setRisk 21 = .ok (.iconst 2, 1) := by decide +kernel
theorem dL_setRisk_22 : decode cL_setRisk 22 = .ok (.ireturn, 1) := by decide +kernel
theorem dL_setRisk_23 : decode cL_setRisk 23 = .ok (.iconst 0, 1) := by decide +kernel
theorem dL_setRisk_24 : decode cL_setRisk 24 = .ok (.ireturn, 1) := by decide +kernel
theorem dL_test_0 : decode cL_test 0 = .ok (.aload_n 3, 1) := by decide +kernel
theorem dL_test_1 : decode cL_test 1 = .ok (.iconst 0, 1) := by decide +kernel
theorem dL_test_2 : decode cL_test 2 = .ok (.aload_n 0, 1) := by decide +kernel
theorem dL_test_3 : decode cL_test 3 = .ok (.iload_n 1, 1) := by decide +kernel
theorem dL_test_4 : decode cL_test 4 = .ok (.iload_n 2, 1) := by decide +kernel
theorem dL_test_5 : decode cL_test 5 = .ok (.invokevirtual 87, 3) := by decide +kernel
theorem dL_test_8 : decode cL_test 8 = .ok (.ifCond .eq 7, 3) := by decide +kernel
theorem dL_test_11 : decode cL_test 11 = .ok (.lconst 1, 1) := by decide +kernel
theorem dL_test_12 : decode cL_test 12 = .ok (.goto 4, 3) := by decide +kernel
theorem dL_test_15 : decode cL_test 15 = .ok (.lconst 0, 1) := by decide +kernel
theorem dL_test_16 : decode cL_test 16 = .ok (.lastore, 1) := by decide +kernel
theorem dL_test_17 : decode cL_test 17 = .ok (.goto 15, 3) := by decide +kernel
theorem dL_test_20 : decode cL_test 20 = .ok (.astore 4, 2) := by decide +kernel
theorem dL_test_22 : decode cL_test 22 = .ok (.iconst 1, 1) := by decide +kernel
theorem dL_test_23 : decode cL_test 23 = .ok (.ireturn, 1) := by decide +kernel
theorem dL_test_24 : decode cL_test 24 = .ok (.astore 4, 2) := by decide +kernel
theorem dL_test_26 : decode cL_test 26 = .ok (.iconst 2, 1) := by decide +kernel
theorem dL_test_27 : decode cL_test 27 = .ok (.ireturn, 1) := by decide +kernel
theorem dL_test_28 : decode cL_test 28 = .ok (.astore 4, 2) := by decide +kernel
theorem dL_test_30 : decode cL_test 30 = .ok (.iconst 3, 1) := by decide +kernel
theorem dL_test_31 : decode cL_test 31 = .ok (.ireturn, 1) := by decide +kernel
theorem dL_test_32 : decode cL_test 32 = .ok (.iconst 0, 1) := by decide +kernel
theorem dL_test_33 : decode cL_test 33 = .ok (.ireturn, 1) := by decide +kernel
theorem dL_testCost_0 : decode cL_testCost 0 = .ok (.aload 4, 2) := by decide +kernel
theorem dL_testCost_2 : decode cL_testCost 2 = .ok (.iconst 0, 1) := by decide +kernel
theorem dL_testCost_3 : decode cL_testCost 3 = .ok (.aload_n 0, 1) := by decide +kernel
theorem dL_testCost_4 : decode cL_testCost 4 = .ok (.iload_n 1, 1) := by decide +kernel
theorem dL_testCost_5 : decode cL_testCost 5 = .ok (.iload_n 2, 1) := by decide +kernel
theorem dL_testCost_6 : decode cL_testCost 6 = .ok (.iload_n 3, 1) := by decide +kernel
theorem dL_testCost_7 : decode cL_testCost 7 = .ok (.invokevirtual 91, 3) := by decide +kernel
theorem dL_testCost_10 : decode cL_testCost 10 = .ok (.i2l, 1) := by decide +kernel
theorem dL_testCost_11 : decode cL_testCost 11 = .ok (.lastore, 1) := by decide +kernel
theorem dL_testCost_12 : decode cL_testCost 12 = .ok (.goto 11, 3) := by decide +kernel
theorem dL_testCost_15 : decode cL_testCost 15 = .ok (.astore 5, 2) := by decide +kernel
theorem dL_testCost_17 : decode cL_testCost 17 = .ok (.iconst 1, 1) := by decide +kernel
theorem dL_testCost_18 : decode cL_testCost 18 = .ok (.ireturn, 1) := by decide +kernel
theorem dL_testCost_19 : decode cL_testCost 19 = .ok (.astore 5, 2) := by decide +kernel
theorem dL_testCost_21 : decode cL_testCost 21 = .ok (.iconst 2, 1) := by decide +kernel
theorem dL_testCost_22 : decode cL_testCost 22 = .ok (.ireturn, 1) := by decide +kernel
theorem dL_testCost_23 : decode cL_testCost 23 = .ok (.iconst 0, 1) := by decide +kernel
theorem dL_testCost_24 : decode cL_testCost 24 = .ok (.ireturn, 1) := by decide +kernel
theorem dL_bestTest_0 : decode cL_bestTest 0 = .ok (.aload 4, 2) := by decide +kernel
theorem dL_bestTest_2 : decode cL_bestTest 2 = .ok (.iconst 0, 1) := by decide +kernel
theorem dL_bestTest_3 : decode cL_bestTest 3 = .ok (.aload_n 0, 1) := by decide +kernel
theorem dL_bestTest_4 : decode cL_bestTest 4 = .ok (.iload_n 1, 1) := by decide +kernel
theorem dL_bestTest_5 : decode cL_bestTest 5 = .ok (.iload_n 2, 1) := by decide +kernel
theorem dL_bestTest_6 : decode cL_bestTest 6 = .ok (.iload_n 3, 1) := by decide +kernel
theorem dL_bestTest_7 : decode cL_bestTest 7 = .ok (.invokevirtual 94, 3) := by decide +kernel
theorem dL_bestTest_10 : decode cL_bestTest 10 = .ok (.i2l, 1) := by decide +kernel
theorem dL_bestTest_11 : decode cL_bestTest 11 = .ok (.lastore, 1) := by decide +kernel
theorem dL_bestTest_12 : decode cL_bestTest 12 = .ok (.goto 11, 3) := by decide +kernel
theorem dL_bestTest_15 : decode cL_bestTest 15 = .ok (.astore 5, 2) := by decide +kernel
theorem dL_bestTest_17 : decode cL_bestTest 17 = .ok (.iconst 1, 1) := by decide +kernel
theorem dL_bestTest_18 : decode cL_bestTest 18 = .ok (.ireturn, 1) := by decide +kernel
theorem dL_bestTest_19 : decode cL_bestTest 19 = .ok (.astore 5, 2) := by decide +kernel
theorem dL_bestTest_21 : decode cL_bestTest 21 = .ok (.iconst 2, 1) := by decide +kernel
theorem dL_bestTest_22 : decode cL_bestTest 22 = .ok (.ireturn, 1) := by decide +kernel
theorem dL_bestTest_23 : decode cL_bestTest 23 = .ok (.iconst 0, 1) := by decide +kernel
theorem dL_bestTest_24 : decode cL_bestTest 24 = .ok (.ireturn, 1) := by decide +kernel
theorem dL_testsNeeded_0 : decode cL_testsNeeded 0 = .ok (.aload_n 2, 1) := by decide +kernel
theorem dL_testsNeeded_1 : decode cL_testsNeeded 1 = .ok (.iconst 0, 1) := by decide +kernel
theorem dL_testsNeeded_2 : decode cL_testsNeeded 2 = .ok (.aload_n 0, 1) := by decide +kernel
theorem dL_testsNeeded_3 : decode cL_testsNeeded 3 = .ok (.iload_n 1, 1) := by decide +kernel
theorem dL_testsNeeded_4 : decode cL_testsNeeded 4 = .ok (.invokevirtual 97, 3) := by decide +kernel
theorem dL_testsNeeded_7 : decode cL_testsNeeded 7 = .ok (.i2l, 1) := by decide +kernel
theorem dL_testsNeeded_8 : decode cL_testsNeeded 8 = .ok (.lastore, 1) := by decide +kernel
theorem dL_testsNeeded_9 : decode cL_testsNeeded 9 = .ok (.goto 9, 3) := by decide +kernel
theorem dL_testsNeeded_12 : decode cL_testsNeeded 12 = .ok (.astore_n 3, 1) := by decide +kernel
theorem dL_testsNeeded_13 : decode cL_testsNeeded 13 = .ok (.iconst 1, 1) := by decide +kernel
theorem dL_testsNeeded_14 : decode cL_testsNeeded 14 = .ok (.ireturn, 1) := by decide +kernel
theorem dL_testsNeeded_15 : decode cL_testsNeeded 15 = .ok (.astore_n 3, 1) := by decide +kernel
theorem dL_testsNeeded_16 : decode cL_testsNeeded 16 = .ok (.iconst 2, 1) := by decide +kernel
theorem dL_testsNeeded_17 : decode cL_testsNeeded 17 = .ok (.ireturn, 1) := by decide +kernel
theorem dL_testsNeeded_18 : decode cL_testsNeeded 18 = .ok (.iconst 0, 1) := by decide +kernel
theorem dL_testsNeeded_19 : decode cL_testsNeeded 19 = .ok (.ireturn, 1) := by decide +kernel
theorem dL_undo_0 : decode cL_undo 0 = .ok (.aload_n 1, 1) := by decide +kernel
theorem dL_undo_1 : decode cL_undo 1 = .ok (.iconst 0, 1) := by decide +kernel
theorem dL_undo_2 : decode cL_undo 2 = .ok (.aload_n 0, 1) := by decide +kernel
theorem dL_undo_3 : decode cL_undo 3 = .ok (.invokevirtual 100, 3) := by decide +kernel
