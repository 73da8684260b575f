theorem dX8_isOn_16 : decode cX8_isOn 16 = .ok (.iconst 1, 1) := by decide +kernel
theorem dX8_isOn_17 : decode cX8_isOn 17 = .ok (.if_icmp .ne 15, 3) := by decide +kernel
theorem dX8_isOn_20 : decode cX8_isOn 20 = .ok (.aload_n 0, 1) := by decide +kernel
theorem dX8_isOn_21 : decode cX8_isOn 21 = .ok (.iload_n 1, 1) := by decide +kernel
theorem dX8_isOn_22 : decode cX8_isOn 22 = .ok (.invokevirtual 69, 3) := by decide +kernel
theorem dX8_isOn_25 : decode cX8_isOn 25 = .ok (.ifCond .ne 7, 3) := by decide +kernel
theorem dX8_isOn_28 : decode cX8_isOn 28 = .ok (.iconst 1, 1) := by decide +kernel
theorem dX8_isOn_29 : decode cX8_isOn 29 = .ok (.goto 4, 3) := by decide +kernel
theorem dX8_isOn_32 : decode cX8_isOn 32 = .ok (.iconst 0, 1) := by decide +kernel
theorem dX8_isOn_33 : decode cX8_isOn 33 = .ok (.ireturn, 1) := by decide +kernel
theorem dX8_leaves_0 : decode cX8_leaves 0 = .ok (.iconst (-1), 1) := by decide +kernel
theorem dX8_leaves_1 : decode cX8_leaves 1 = .ok (.istore_n 2, 1) := by decide +kernel
theorem dX8_leaves_2 : decode cX8_leaves 2 = .ok (.aload_n 0, 1) := by decide +kernel
theorem dX8_leaves_3 : decode cX8_leaves 3 = .ok (.getfield 7, 3) := by decide +kernel
theorem dX8_leaves_6 : decode cX8_leaves 6 = .ok (.bipush 101, 2) := by decide +kernel
theorem dX8_leaves_8 : decode cX8_leaves 8 = .ok (.iaload, 1) := by decide +kernel
theorem dX8_leaves_9 : decode cX8_leaves 9 = .ok (.iconst 1, 1) := by decide +kernel
theorem dX8_leaves_10 : decode cX8_leaves 10 = .ok (.isub, 1) := by decide +kernel
theorem dX8_leaves_11 : decode cX8_leaves 11 = .ok (.istore_n 3, 1) := by decide +kernel
theorem dX8_leaves_12 : decode cX8_leaves 12 = .ok (.iload_n 3, 1) := by decide +kernel
theorem dX8_leaves_13 : decode cX8_leaves 13 = .ok (.ifCond .lt 28, 3) := by decide +kernel
theorem dX8_leaves_16 : decode cX8_leaves 16 = .ok (.aload_n 0, 1) := by decide +kernel
theorem dX8_leaves_17 : decode cX8_leaves 17 = .ok (.iload_n 3, 1) := by decide +kernel
theorem dX8_leaves_18 : decode cX8_leaves 18 = .ok (.iload_n 1, 1) := by decide +kernel
theorem dX8_leaves_19 : decode cX8_leaves 19 = .ok (.invokevirtual 82, 3) := by decide +kernel
theorem dX8_leaves_22 : decode cX8_leaves 22 = .ok (.ifCond .eq 13, 3) := by decide +kernel
theorem dX8_leaves_25 : decode cX8_leaves 25 = .ok (.aload_n 0, 1) := by decide +kernel
theorem dX8_leaves_26 : decode cX8_leaves 26 = .ok (.iload_n 3, 1) := by decide +kernel
theorem dX8_leaves_27 : decode cX8_leaves 27 = .ok (.bipush 6, 2) := by decide +kernel
theorem dX8_leaves_29 : decode cX8_leaves 29 = .ok (.iconst 3, 1) := by decide +kernel
theorem dX8_leaves_30 : decode cX8_leaves 30 = .ok (.invokevirtual 57, 3) := by decide +kernel
theorem dX8_leaves_33 : decode cX8_leaves 33 = .ok (.iload_n 3, 1) := by decide +kernel
theorem dX8_leaves_34 : decode cX8_leaves 34 = .ok (.istore_n 2, 1) := by decide +kernel
theorem dX8_leaves_35 : decode cX8_leaves 35 = .ok (.iinc 3 (-1), 3) := by decide +kernel
theorem dX8_leaves_38 : decode cX8_leaves 38 = .ok (.goto (-26), 3) := by decide +kernel
theorem dX8_leaves_41 : decode cX8_leaves 41 = .ok (.iload_n 2, 1) := by decide +kernel
theorem dX8_leaves_42 : decode cX8_leaves 42 = .ok (.iconst (-1), 1) := by decide +kernel
theorem dX8_leaves_43 : decode cX8_leaves 43 = .ok (.if_icmp .ne 15, 3) := by decide +kernel
theorem dX8_leaves_46 : decode cX8_leaves 46 = .ok (.aload_n 0, 1) := by decide +kernel
theorem dX8_leaves_47 : decode cX8_leaves 47 = .ok (.iload_n 1, 1) := by decide +kernel
theorem dX8_leaves_48 : decode cX8_leaves 48 = .ok (.iconst 0, 1) := by decide +kernel
theorem dX8_leaves_49 : decode cX8_leaves 49 = .ok (.iconst (-1), 1) := by decide +kernel
theorem dX8_leaves_50 : decode cX8_leaves 50 = .ok (.iconst (-1), 1) := by decide +kernel
theorem dX8_leaves_51 : decode cX8_leaves 51 = .ok (.iconst (-1), 1) := by decide +kernel
theorem dX8_leaves_52 : decode cX8_leaves 52 = .ok (.invokevirtual 86, 3) := by decide +kernel
theorem dX8_leaves_55 : decode cX8_leaves 55 = .ok (.goto 20, 3) := by decide +kernel
theorem dX8_leaves_58 : decode cX8_leaves 58 = .ok (.aload_n 0, 1) := by decide +kernel
theorem dX8_leaves_59 : decode cX8_leaves 59 = .ok (.iload_n 2, 1) := by decide +kernel
theorem dX8_leaves_60 : decode cX8_leaves 60 = .ok (.bipush 6, 2) := by decide +kernel
theorem dX8_leaves_62 : decode cX8_leaves 62 = .ok (.iconst 0, 1) := by decide +kernel
theorem dX8_leaves_63 : decode cX8_leaves 63 = .ok (.invokevirtual 57, 3) := by decide +kernel
theorem dX8_leaves_66 : decode cX8_leaves 66 = .ok (.aload_n 0, 1) := by decide +kernel
theorem dX8_leaves_67 : decode cX8_leaves 67 = .ok (.iload_n 1, 1) := by decide +kernel
theorem dX8_leaves_68 : decode cX8_leaves 68 = .ok (.iconst 5, 1) := by decide +kernel
theorem dX8_leaves_69 : decode cX8_leaves 69 = .ok (.iload_n 2, 1) := by decide +kernel
theorem dX8_leaves_70 : decode cX8_leaves 70 = .ok (.iconst (-1), 1) := by decide +kernel
theorem dX8_leaves_71 : decode cX8_leaves 71 = .ok (.iconst (-1), 1) := by decide +kernel
theorem dX8_leaves_72 : decode cX8_leaves 72 = .ok (.invokevirtual 86, 3) := by decide +kernel
theorem dX8_leaves_75 : decode cX8_leaves 75 = .ok (.return_, 1) := by decide +kernel
theorem dX8_ends_0 : decode cX8_ends 0 = .ok (.aload_n 0, 1) := by decide +kernel
theorem dX8_ends_1 : decode cX8_ends 1 = .ok (.iload_n 1, 1) := by decide +kernel
theorem dX8_ends_2 : decode cX8_ends 2 = .ok (.iconst 4, 1) := by decide +kernel
theorem dX8_ends_3 : decode cX8_ends 3 = .ok (.invokevirtual 60, 3) := by decide +kernel
theorem dX8_ends_6 : decode cX8_ends 6 = .ok (.istore_n 2, 1) := by decide +kernel
theorem dX8_ends_7 : decode cX8_ends 7 = .ok (.iload_n 2, 1) := by decide +kernel
theorem dX8_ends_8 : decode cX8_ends 8 = .ok (.iconst (-1), 1) := by decide +kernel
theorem dX8_ends_9 : decode cX8_ends 9 = .ok (.if_icmp .eq 49, 3) := by decide +kernel
theorem dX8_ends_12 : decode cX8_ends 12 = .ok (.aload_n 0, 1) := by decide +kernel
theorem dX8_ends_13 : decode cX8_ends 13 = .ok (.iload_n 2, 1) := by decide +kernel
theorem dX8_ends_14 : decode cX8_ends 14 = .ok (.iconst 0, 1) := by decide +kernel
theorem dX8_ends_15 : decode cX8_ends 15 = .ok (.invokevirtual 60, 3) := by decide +kernel
theorem dX8_ends_18 : decode cX8_ends 18 = .ok (.iconst 3, 1) := by decide +kernel
theorem dX8_ends_19 : decode cX8_ends 19 = .ok (.if_icmp .ne 7, 3) := by decide +kernel
theorem dX8_ends_22 : decode cX8_ends 22 = .ok (.iconst 1, 1) := by decide +kernel
theorem dX8_ends_23 : decode cX8_ends 23 = .ok (.goto 4, 3) := by decide +kernel
theorem dX8_ends_26 : decode cX8_ends 26 = .ok (.iconst 0, 1) := by decide +kernel
theorem dX8_ends_27 : decode cX8_ends 27 = .ok (.istore_n 3, 1) := by decide +kernel
theorem dX8_ends_28 : decode cX8_ends 28 = .ok (.aload_n 0, 1) := by decide +kernel
theorem dX8_ends_29 : decode cX8_ends 29 = .ok (.iload_n 2, 1) := by decide +kernel
theorem dX8_ends_30 : decode cX8_ends 30 = .ok (.iload_n 3, 1) := by decide +kernel
theorem dX8_ends_31 : decode cX8_ends 31 = .ok (.ifCond .eq 7, 3) := by decide +kernel
theorem dX8_ends_34 : decode cX8_ends 34 = .ok (.iconst 0, 1) := by decide +kernel
theorem dX8_ends_35 : decode cX8_ends 35 = .ok (.goto 4, 3) := by decide +kernel
theorem dX8_ends_38 : decode cX8_ends 38 = .ok (.iconst 5, 1) := by decide +kernel
theorem dX8_ends_39 : decode cX8_ends 39 = .ok (.iload_n 3, 1) := by decide +kernel
theorem dX8_ends_40 : decode cX8_ends 40 = .ok (.ifCond .eq 7, 3) := by decide +kernel
theorem dX8_ends_43 : decode cX8_ends 43 = .ok (.iconst (-1), 1) := by decide +kernel
theorem dX8_ends_44 : decode cX8_ends 44 = .ok (.goto 9, 3) := by decide +kernel
theorem dX8_ends_47 : decode cX8_ends 47 = .ok (.aload_n 0, 1) := by decide +kernel
theorem dX8_ends_48 : decode cX8_ends 48 = .ok (.iload_n 2, 1) := by decide +kernel
theorem dX8_ends_49 : decode cX8_ends 49 = .ok (.iconst 2, 1) := by decide +kernel
theorem dX8_ends_50 : decode cX8_ends 50 = .ok (.invokevirtual 60, 3) := by decide +kernel
theorem dX8_ends_53 : decode cX8_ends 53 = .ok (.iconst (-1), 1) := by decide +kernel
theorem dX8_ends_54 : decode cX8_ends 54 = .ok (.iconst (-1), 1) := by decide +kernel
theorem dX8_ends_55 : decode cX8_ends 55 = .ok (.invokevirtual 86, 3) := by decide +kernel
theorem dX8_ends_58 : decode cX8_ends 58 = .ok (.aload_n 0, 1) := by decide +kernel
theorem dX8_ends_59 : decode cX8_ends 59 = .ok (.iload_n 1, 1) := by decide +kernel
theorem dX8_ends_60 : decode cX8_ends 60 = .ok (.invokevirtual 90, 3) := by decide +kernel
theorem dX8_ends_63 : decode cX8_ends 63 = .ok (.return_, 1) := by decide +kernel
theorem dX8_isPrivate_0 : decode cX8_isPrivate 0 = .ok (.iload_n 1, 1) := by decide +kernel
theorem dX8_isPrivate_1 : decode cX8_isPrivate 1 = .ok (.iconst (-1), 1) := by decide +kernel
theorem dX8_isPrivate_2 : decode cX8_isPrivate 2 = .ok (.if_icmp .eq 17, 3) := by decide +kernel
theorem dX8_isPrivate_5 : decode cX8_isPrivate 5 = .ok (.aload_n 0, 1) := by decide +kernel
theorem dX8_isPrivate_6 : decode cX8_isPrivate 6 = .ok (.iload_n 1, 1) := by decide +kernel
theorem dX8_isPrivate_7 : decode cX8_isPrivate 7 = .ok (.iconst 3, 1) := by decide +kernel
theorem dX8_isPrivate_8 : decode cX8_isPrivate 8 = .ok (.invokevirtual 47, 3) := by decide +kernel
theorem dX8_isPrivate_11 : decode cX8_isPrivate 11 = .ok (.iconst 1, 1) := by decide +kernel
theorem dX8_isPrivate_12 : decode cX8_isPrivate 12 = .ok (.if_icmp .ne 7, 3) := by decide +kernel
theorem dX8_isPrivate_15 : decode cX8_isPrivate 15 = .ok (.iconst 1, 1) := by decide +kernel
theorem dX8_isPrivate_16 : decode cX8_isPrivate 16 = .ok (.goto 4, 3) := by decide +kernel
theorem dX8_isPrivate_19 : decode cX8_isPrivate 19 = .ok (.iconst 0, 1) := by decide +kernel
theorem dX8_isPrivate_20 : decode cX8_isPrivate 20 = .ok (.ireturn, 1) := by decide +kernel
theorem dX8_lifts_0 : decode cX8_lifts 0 = .ok (.aload_n 0, 1) := by decide +kernel
theorem dX8_lifts_1 : decode cX8_lifts 1 = .ok (.iload_n 1, 1) := by decide +kernel
theorem dX8_lifts_2 : decode cX8_lifts 2 = .ok (.iconst 0, 1) := by decide +kernel
theorem dX8_lifts_3 : decode cX8_lifts 3 = .ok (.invokevirtual 47, 3) := by decide +kernel
theorem dX8_lifts_6 : decode cX8_lifts 6 = .ok (.istore_n 2, 1) := by decide +kernel
theorem dX8_lifts_7 : decode cX8_lifts 7 = .ok (.aload_n 0, 1) := by decide +kernel
theorem dX8_lifts_8 : decode cX8_lifts 8 = .ok (.iload_n 2, 1) := by decide +kernel
theorem dX8_lifts_9 : decode cX8_lifts 9 = .ok (.iconst 0, 1) := by decide +kernel
theorem dX8_lifts_10 : decode cX8_lifts 10 = .ok (.invokevirtual 60, 3) := by decide +kernel
theorem dX8_lifts_13 : decode cX8_lifts 13 = .ok (.istore_n 3, 1) := by decide +kernel
theorem dX8_lifts_14 : decode cX8_lifts 14 = .ok (.aload_n 0, 1) := by decide +kernel
theorem dX8_lifts_15 : decode cX8_lifts 15 = .ok (.iload_n 2, 1) := by decide +kernel
theorem dX8_lifts_16 : decode cX8_lifts 16 = .ok (.iconst 2, 1) := by decide +kernel
theorem dX8_lifts_17 : decode cX8_lifts 17 = .ok (.invokevirtual 60, 3) := by decide +kernel
theorem dX8_lifts_20 : decode cX8_lifts 20 = .ok (.istore 4, 2) := by decide +kernel
theorem dX8_lifts_22 : decode cX8_lifts 22 = .ok (.aload_n 0, 1) := by decide +kernel
theorem dX8_lifts_23 : decode cX8_lifts 23 = .ok (.iload_n 1, 1) := by decide +kernel
theorem dX8_lifts_24 : decode cX8_lifts 24 = .ok (.iconst 5, 1) := by decide +kernel
theorem dX8_lifts_25 : decode cX8_lifts 25 = .ok (.iconst 1, 1) := by decide +kernel
theorem dX8_lifts_26 : decode cX8_lifts 26 = .ok (.invokevirtual 57, 3) := by decide +kernel
theorem dX8_lifts_29 : decode cX8_lifts 29 = .ok (.aload_n 0, 1) := by decide +kernel
theorem dX8_lifts_30 : decode cX8_lifts 30 = .ok (.iload_n 1, 1) := by decide +kernel
theorem dX8_lifts_31 : decode cX8_lifts 31 = .ok (.bipush 6, 2) := by decide +kernel
theorem dX8_lifts_33 : decode cX8_lifts 33 = .ok (.iconst 0, 1) := by decide +kernel
theorem dX8_lifts_34 : decode cX8_lifts 34 = .ok (.invokevirtual 57, 3) := by decide +kernel
theorem dX8_lifts_37 : decode cX8_lifts 37 = .ok (.aload_n 0, 1) := by decide +kernel
theorem dX8_lifts_38 : decode cX8_lifts 38 = .ok (.iload_n 1, 1) := by decide +kernel
theorem dX8_lifts_39 : decode cX8_lifts 39 = .ok (.invokevirtual 69, 3) := by decide +kernel
theorem dX8_lifts_42 : decode cX8_lifts 42 = .ok (.ifCond .eq 4, 3) := by decide +kernel
theorem dX8_lifts_45 : decode cX8_lifts 45 = .ok (.return_, 1) := by decide +kernel
theorem dX8_lifts_46 : decode cX8_lifts 46 = .ok (.iload_n 3, 1) := by decide +kernel
theorem dX8_lifts_47 : decode cX8_lifts 47 = .ok (.ifCond .ne 15, 3) := by decide +kernel
theorem dX8_lifts_50 : decode cX8_lifts 50 = .ok (.aload_n 0, 1) := by decide +kernel
theorem dX8_lifts_51 : decode cX8_lifts 51 = .ok (.iload_n 2, 1) := by decide +kernel
theorem dX8_lifts_52 : decode cX8_lifts 52 = .ok (.iconst 1, 1) := by decide +kernel
theorem dX8_lifts_53 : decode cX8_lifts 53 = .ok (.iload_n 1, 1) := by decide +kernel
theorem dX8_lifts_54 : decode cX8_lifts 54 = .ok (.iconst (-1), 1) := by decide +kernel
theorem dX8_lifts_55 : decode cX8_lifts 55 = .ok (.iconst (-1), 1) := by decide +kernel
theorem dX8_lifts_56 : decode cX8_lifts 56 = .ok (.invokevirtual 86, 3) := by decide +kernel
theorem dX8_lifts_59 : decode cX8_lifts 59 = .ok (.goto 213, 3) := by decide +kernel
theorem dX8_lifts_62 : decode cX8_lifts 62 = .ok (.iload_n 3, 1) := by decide +kernel
theorem dX8_lifts_63 : decode cX8_lifts 63 = .ok (.iconst 3, 1) := by decide +kernel
theorem dX8_lifts_64 : decode cX8_lifts 64 = .ok (.if_icmp .ne 60, 3) := by decide +kernel
theorem dX8_lifts_67 : decode cX8_lifts 67 = .ok (.aload_n 0, 1) := by decide +kernel
theorem dX8_lifts_68 : decode cX8_lifts 68 = .ok (.iload_n 2, 1) := by decide +kernel
theorem dX8_lifts_69 : decode cX8_lifts 69 = .ok (.iconst 4, 1) := by decide +kernel
theorem dX8_lifts_70 : decode cX8_lifts 70 = .ok (.invokevirtual 60, 3) := by decide +kernel
theorem dX8_lifts_73 : decode cX8_lifts 73 = .ok (.istore 5, 2) := by decide +kernel
theorem dX8_lifts_75 : decode cX8_lifts 75 = .ok (.aload_n 0, 1) := by decide +kernel
theorem dX8_lifts_76 : decode cX8_lifts 76 = .ok (.iload_n 2, 1) := by decide +kernel
theorem dX8_lifts_77 : decode cX8_lifts 77 = .ok (.iconst 4, 1) := by decide +kernel
theorem dX8_lifts_78 : decode cX8_lifts 78 = .ok (.iload_n 1, 1) := by decide +kernel
theorem dX8_lifts_79 : decode cX8_lifts 79 = .ok (.iconst (-1), 1) := by decide +kernel
theorem dX8_lifts_80 : decode cX8_lifts 80 = .ok (.iload 5, 2) := by decide +kernel
theorem dX8_lifts_82 : decode cX8_lifts 82 = .ok (.invokevirtual 86, 3) := by decide +kernel
theorem dX8_lifts_85 : decode cX8_lifts 85 = .ok (.aload_n 0, 1) := by decide +kernel
theorem dX8_lifts_86 : decode cX8_lifts 86 = .ok (.iload 5, 2) := by decide +kernel
theorem dX8_lifts_88 : decode cX8_lifts 88 = .ok (.iconst 4, 1) := by decide +kernel
theorem dX8_lifts_89 : decode cX8_lifts 89 = .ok (.aload_n 0, 1) := by decide +kernel
theorem dX8_lifts_90 : decode cX8_lifts 90 = .ok (.iload 5, 2) := by decide +kernel
theorem dX8_lifts_92 : decode cX8_lifts 92 = .ok (.iconst 2, 1) := by decide +kernel
theorem dX8_lifts_93 : decode cX8_lifts 93 = .ok (.invokevirtual 60, 3) := by decide +kernel
theorem dX8_lifts_96 : decode cX8_lifts 96 = .ok (.iconst (-1), 1) := by decide +kernel
theorem dX8_lifts_97 : decode cX8_lifts 97 = .ok (.iload_n 2, 1) := by decide +kernel
theorem dX8_lifts_98 : decode cX8_lifts 98 = .ok (.invokevirtual 86, 3) := by decide +kernel
theorem dX8_lifts_101 : decode cX8_lifts 101 = .ok (.aload_n 0, 1) := by decide +kernel
theorem dX8_lifts_102 : decode cX8_lifts 102 = .ok (.iload 5, 2) := by decide +kernel
theorem dX8_lifts_104 : decode cX8_lifts 104 = .ok (.iconst 5, 1) := by decide +kernel
theorem dX8_lifts_105 : decode cX8_lifts 105 = .ok (.iconst 1, 1) := by decide +kernel
theorem dX8_lifts_106 : decode cX8_lifts 106 = .ok (.invokevirtual 40, 3) := by decide +kernel
theorem dX8_lifts_109 : decode cX8_lifts 109 = .ok (.aload_n 0, 1) := by decide +kernel
theorem dX8_lifts_110 : decode cX8_lifts 110 = .ok (.getfield 7, 3) := by decide +kernel
theorem dX8_lifts_113 : decode cX8_lifts 113 = .ok (.sipush 231, 3) := by decide +kernel
theorem dX8_lifts_116 : decode cX8_lifts 116 = .ok (.dup2, 1) := by decide +kernel
theorem dX8_lifts_117 : decode cX8_lifts 117 = .ok (.iaload, 1) := by decide +kernel
theorem dX8_lifts_118 : decode cX8_lifts 118 = .ok (.iconst 1, 1) := by decide +kernel
theorem dX8_lifts_119 : decode cX8_lifts 119 = .ok (.iadd, 1) := by decide +kernel
theorem dX8_lifts_120 : decode cX8_lifts 120 = .ok (.iastore, 1) := by decide +kernel
theorem dX8_lifts_121 : decode cX8_lifts 121 = .ok (.goto 151, 3) := by decide +kernel
theorem dX8_lifts_124 : decode cX8_lifts 124 = .ok (.iload_n 3, 1) := by decide +kernel
theorem dX8_lifts_125 : decode cX8_lifts 125 = .ok (.bipush 7, 2) := by decide +kernel
theorem dX8_lifts_127 : decode cX8_lifts 127 = .ok (.if_icmp .ne 21, 3) := by decide +kernel
theorem dX8_lifts_130 : decode cX8_lifts 130 = .ok (.iload_n 1, 1) := by decide +kernel
theorem dX8_lifts_131 : decode cX8_lifts 131 = .ok (.iload 4, 2) := by decide +kernel
theorem dX8_lifts_133 : decode cX8_lifts 133 = .ok (.if_icmp .ne 15, 3) := by decide +kernel
theorem dX8_lifts_136 : decode cX8_lifts 136 = .ok (.aload_n 0, 1) := by decide +kernel
theorem dX8_lifts_137 : decode cX8_lifts 137 = .ok (.iload_n 2, 1) := by decide +kernel
theorem dX8_lifts_138 : decode cX8_lifts 138 = .ok (.iconst 1, 1) := by decide +kernel
theorem dX8_lifts_139 : decode cX8_lifts 139 = .ok (.iload_n 1, 1) := by decide +kernel
theorem dX8_lifts_140 : decode cX8_lifts 140 = .ok (.iconst (-1), 1) := by decide +kernel
theorem dX8_lifts_141 : decode cX8_lifts 141 = .ok (.iconst (-1), 1) := by decide +kernel
theorem dX8_lifts_142 : decode cX8_lifts 142 = .ok (.invokevirtual 86, 3) := by decide +kernel
theorem dX8_lifts_145 : decode cX8_lifts 145 = .ok (.goto 127, 3) := by decide +kernel
theorem dX8_lifts_148 : decode cX8_lifts 148 = .ok (.iload_n 3, 1) := by decide +kernel
theorem dX8_lifts_149 : decode cX8_lifts 149 = .ok (.bipush 7, 2) := by decide +kernel
theorem dX8_lifts_151 : decode cX8_lifts 151 = .ok (.if_icmp .ne 29, 3) := by decide +kernel
theorem dX8_lifts_154 : decode cX8_lifts 154 = .ok (.aload_n 0, 1) := by decide +kernel
theorem dX8_lifts_155 : decode cX8_lifts 155 = .ok (.iload_n 2, 1) := by decide +kernel
theorem dX8_lifts_156 : decode cX8_lifts 156 = .ok (.bipush 8, 2) := by decide +kernel
theorem dX8_lifts_158 : decode cX8_lifts 158 = .ok (.iload 4, 2) := by decide +kernel
theorem dX8_lifts_160 : decode cX8_lifts 160 = .ok (.iload_n 1, 1) := by decide +kernel
theorem dX8_lifts_161 : decode cX8_lifts 161 = .ok (.iconst (-1), 1) := by decide +kernel
theorem dX8_lifts_162 : decode cX8_lifts 162 = .ok (.invokevirtual 86, 3) := by decide +kernel
theorem dX8_lifts_165 : decode cX8_lifts 165 = .ok (.aload_n 0, 1) := by decide +kernel
theorem dX8_lifts_166 : decode cX8_lifts 166 = .ok (.getfield 7, 3) := by decide +kernel
theorem dX8_lifts_169 : decode cX8_lifts 169 = .ok (.sipush 232, 3) := by decide +kernel
theorem dX8_lifts_172 : decode cX8_lifts 172 = .ok (.dup2, 1) := by decide +kernel
theorem dX8_lifts_173 : decode cX8_lifts 173 = .ok (.iaload, 1) := by decide +kernel
theorem dX8_lifts_174 : decode cX8_lifts 174 = .ok (.iconst 1, 1) := by decide +kernel
theorem dX8_lifts_175 : decode cX8_lifts 175 = .ok (.iadd, 1) := by decide +kernel
theorem dX8_lifts_176 : decode cX8_lifts 176 = .ok (.iastore, 1) := by decide +kernel
theorem dX8_lifts_177 : decode cX8_lifts 177 = .ok (.goto 95, 3) := by decide +kernel
theorem dX8_lifts_180 : decode cX8_lifts 180 = .ok (.iload_n 3, 1) := by decide +kernel
theorem dX8_lifts_181 : decode cX8_lifts 181 = .ok (.bipush 8, 2) := by decide +kernel
theorem dX8_lifts_183 : decode cX8_lifts 183 = .ok (.if_icmp .ne 9, 3) := by decide +kernel
theorem dX8_lifts_186 : decode cX8_lifts 186 = .ok (.iload_n 1, 1) := by decide +kernel
theorem dX8_lifts_187 : decode cX8_lifts 187 = .ok (.iload 4, 2) := by decide +kernel
theorem dX8_lifts_189 : decode cX8_lifts 189 = .ok (.if_icmp .eq 83, 3) := by decide +kernel
theorem dX8_lifts_192 : decode cX8_lifts 192 = .ok (.iload_n 3, 1) := by decide +kernel
theorem dX8_lifts_193 : decode cX8_lifts 193 = .ok (.iconst 4, 1) := by decide +kernel
theorem dX8_lifts_194 : decode cX8_lifts 194 = .ok (.if_icmp .eq 9, 3) := by decide +kernel
theorem dX8_lifts_197 : decode cX8_lifts 197 = .ok (.iload_n 3, 1) := by decide +kernel
theorem dX8_lifts_198 : decode cX8_lifts 198 = .ok (.bipush 8, 2) := by decide +kernel
theorem dX8_lifts_200 : decode cX8_lifts 200 = .ok (.if_icmp .ne 29, 3) := by decide +kernel
theorem dX8_lifts_203 : decode cX8_lifts 203 = .ok (.aload_n 0, 1) := by decide +kernel
theorem dX8_lifts_204 : decode cX8_lifts 204 = .ok (.iload 4, 2) := by decide +kernel
theorem dX8_lifts_206 : decode cX8_lifts 206 = .ok (.invokevirtual 94, 3) := by decide +kernel
theorem dX8_lifts_209 : decode cX8_lifts 209 = .ok (.ifCond .ne 16, 3) := by decide +kernel
theorem dX8_lifts_212 : decode cX8_lifts 212 = .ok (.aload_n 0, 1) := by decide +kernel
theorem dX8_lifts_213 : decode cX8_lifts 213 = .ok (.aload_n 0, 1) := by decide +kernel
theorem dX8_lifts_214 : decode cX8_lifts 214 = .ok (.iload_n 2, 1) := by decide +kernel
theorem dX8_lifts_215 : decode cX8_lifts 215 = .ok (.iconst 3, 1) := by decide +kernel
theorem dX8_lifts_216 : decode cX8_lifts 216 = .ok (.invokevirtual 60, 3) := by decide +kernel
theorem dX8_lifts_219 : decode cX8_lifts 219 = .ok (.invokevirtual 94, 3) := by decide +kernel
theorem dX8_lifts_222 : decode cX8_lifts 222 = .ok (.ifCond .eq 7, 3) := by decide +kernel
theorem dX8_lifts_225 : decode cX8_lifts 225 = .ok (.iconst 1, 1) := by decide +kernel
theorem dX8_lifts_226 : decode cX8_lifts 226 = .ok (.goto 4, 3) := by decide +kernel
theorem dX8_lifts_229 : decode cX8_lifts 229 = .ok (.iconst 0, 1) := by decide +kernel
theorem dX8_lifts_230 : decode cX8_lifts 230 = .ok (.istore 5, 2) := by decide +kernel
theorem dX8_lifts_232 : decode cX8_lifts 232 = .ok (.aload_n 0, 1) := by decide +kernel
theorem dX8_lifts_233 : decode cX8_lifts 233 = .ok (.iload_n 1, 1) := by decide +kernel
theorem dX8_lifts_234 : decode cX8_lifts 234 = .ok (.bipush 6, 2) := by decide +kernel
theorem dX8_lifts_236 : decode cX8_lifts 236 = .ok (.iload 5, 2) := by decide +kernel
theorem dX8_lifts_238 : decode cX8_lifts 238 = .ok (.ifCond .eq 7, 3) := by decide +kernel
theorem dX8_lifts_241 : decode cX8_lifts 241 = .ok (.iconst 4, 1) := by decide +kernel
theorem dX8_lifts_242 : decode cX8_lifts 242 = .ok (.goto 4, 3) := by decide +kernel
theorem dX8_lifts_245 : decode cX8_lifts 245 = .ok (.iconst 3, 1) := by decide +kernel
theorem dX8_lifts_246 : decode cX8_lifts 246 = .ok (.invokevirtual 57, 3) := by decide +kernel
theorem dX8_lifts_249 : decode cX8_lifts 249 = .ok (.aload_n 0, 1) := by decide +kernel
theorem dX8_lifts_250 : decode cX8_lifts 250 = .ok (.getfield 7, 3) := by decide +kernel
theorem dX8_lifts_253 : decode cX8_lifts 253 = .ok (.sipush 231, 3) := by decide +kernel
theorem dX8_lifts_256 : decode cX8_lifts 256 = .ok (.iload 5, 2) := by decide +kernel
theorem dX8_lifts_258 : decode cX8_lifts 258 = .ok (.ifCond .eq 7, 3) := by decide +kernel
theorem dX8_lifts_261 : decode cX8_lifts 261 = .ok (.iconst 5, 1) := by decide +kernel
theorem dX8_lifts_262 : decode cX8_lifts 262 = .ok (.goto 4, 3) := by decide +kernel
theorem dX8_lifts_265 : decode cX8_lifts 265 = .ok (.iconst 4, 1) := by decide +kernel
theorem dX8_lifts_266 : decode cX8_lifts 266 = .ok (.iadd, 1) := by decide +kernel
theorem dX8_lifts_267 : decode cX8_lifts 267 = .ok (.dup2, 1) := by decide +kernel
theorem dX8_lifts_268 : decode cX8_lifts 268 = .ok (.iaload, 1) := by decide +kernel
theorem dX8_lifts_269 : decode cX8_lifts 269 = .ok (.iconst 1, 1) := by decide +kernel
theorem dX8_lifts_270 : decode cX8_lifts 270 = .ok (.iadd, 1) := by decide +kernel
theorem dX8_lifts_271 : decode cX8_lifts 271 = .ok (.iastore, 1) := by decide +kernel
theorem dX8_lifts_272 : decode cX8_lifts 272 = .ok (.return_, 1) := by decide +kernel
theorem dX8_lift_0 : decode cX8_lift 0 = .ok (.aload_n 0, 1) := by decide +kernel
theorem dX8_lift_1 : decode cX8_lift 1 = .ok (.iload_n 1, 1) := by decide +kernel
theorem dX8_lift_2 : decode cX8_lift 2 = .ok (.invokevirtual 63, 3) := by decide +kernel
theorem dX8_lift_5 : decode cX8_lift 5 = .ok (.istore_n 2, 1) := by decide +kernel
theorem dX8_lift_6 : decode cX8_lift 6 = .ok (.aload_n 0, 1) := by decide +kernel
theorem dX8_lift_7 : decode cX8_lift 7 = .ok (.iload_n 2, 1) := by decide +kernel
theorem dX8_lift_8 : decode cX8_lift 8 = .ok (.ifCond .ne 7, 3) := by decide +kernel
theorem dX8_lift_11 : decode cX8_lift 11 = .ok (.iconst 1, 1) := by decide +kernel
theorem dX8_lift_12 : decode cX8_lift 12 = .ok (.goto 18, 3) := by decide +kernel
theorem dX8_lift_15 : decode cX8_lift 15 = .ok (.aload_n 0, 1) := by decide +kernel
theorem dX8_lift_16 : decode cX8_lift 16 = .ok (.iload_n 1, 1) := by decide +kernel
theorem dX8_lift_17 : decode cX8_lift 17 = .ok (.iconst 5, 1) := by decide +kernel
theorem dX8_lift_18 : decode cX8_lift 18 = .ok (.invokevirtual 47, 3) := by decide +kernel
theorem dX8_lift_21 : decode cX8_lift 21 = .ok (.iconst 1, 1) := by decide +kernel
theorem dX8_lift_22 : decode cX8_lift 22 = .ok (.if_icmp .ne 7, 3) := by decide +kernel
theorem dX8_lift_25 : decode cX8_lift 25 = .ok (.iconst 2, 1) := by decide +kernel
theorem dX8_lift_26 : decode cX8_lift 26 = .ok (.goto 4, 3) := by decide +kernel
theorem dX8_lift_29 : decode cX8_lift 29 = .ok (.iconst 0, 1) := by decide +kernel
theorem dX8_lift_30 : decode cX8_lift 30 = .ok (.invokevirtual 32, 3) := by decide +kernel
theorem dX8_lift_33 : decode cX8_lift 33 = .ok (.ifCond .eq 5, 3) := by decide +kernel
theorem dX8_lift_36 : decode cX8_lift 36 = .ok (.iconst 0, 1) := by decide +kernel
theorem dX8_lift_37 : decode cX8_lift 37 = .ok (.ireturn, 1) := by decide +kernel
theorem dX8_lift_38 : decode cX8_lift 38 = .ok (.aload_n 0, 1) := by decide +kernel
theorem dX8_lift_39 : decode cX8_lift 39 = .ok (.invokevirtual 44, 3) := by decide +kernel
theorem dX8_lift_42 : decode cX8_lift 42 = .ok (.aload_n 0, 1) := by decide +kernel
theorem dX8_lift_43 : decode cX8_lift 43 = .ok (.iload_n 1, 1) := by decide +kernel
theorem dX8_lift_44 : decode cX8_lift 44 = .ok (.invokevirtual 97, 3) := by decide +kernel
theorem dX8_lift_47 : decode cX8_lift 47 = .ok (.aload_n 0, 1) := by decide +kernel
theorem dX8_lift_48 : decode cX8_lift 48 = .ok (.aload_n 0, 1) := by decide +kernel
theorem dX8_lift_49 : decode cX8_lift 49 = .ok (.iload_n 1, 1) := by decide +kernel
theorem dX8_lift_50 : decode cX8_lift 50 = .ok (.iconst 0, 1) := by decide +kernel
theorem dX8_lift_51 : decode cX8_lift 51 = .ok (.invokevirtual 47, 3) := by decide +kernel
theorem dX8_lift_54 : decode cX8_lift 54 = .ok (.iconst 0, 1) := by decide +kernel
theorem dX8_lift_55 : decode cX8_lift 55 = .ok (.invokevirtual 60, 3) := by decide +kernel
theorem dX8_lift_58 : decode cX8_lift 58 = .ok (.ireturn, 1) := by decide +kernel
theorem dX8_isAnyOn_0 : decode cX8_isAnyOn 0 = .ok (.iconst 0, 1) := by decide +kernel
theorem dX8_isAnyOn_1 : decode cX8_isAnyOn 1 = .ok (.istore_n 2, 1) := by decide +kernel
theorem dX8_isAnyOn_2 : decode cX8_isAnyOn 2 = .ok (.iconst 0, 1) := by decide +kernel
theorem dX8_isAnyOn_3 : decode cX8_isAnyOn 3 = .ok (.istore_n 3, 1) := by decide +kernel
theorem dX8_isAnyOn_4 : decode cX8_isAnyOn 4 = .ok (.iload_n 3, 1) := by decide +kernel
theorem dX8_isAnyOn_5 : decode cX8_isAnyOn 5 = .ok (.aload_n 0, 1) := by decide +kernel
theorem dX8_isAnyOn_6 : decode cX8_isAnyOn 6 = .ok (.getfield 7, 3) := by decide +kernel
theorem dX8_isAnyOn_9 : decode cX8_isAnyOn 9 = .ok (.bipush 101, 2) := by decide +kernel
theorem dX8_isAnyOn_11 : decode cX8_isAnyOn 11 = .ok (.iaload, 1) := by decide +kernel
theorem dX8_isAnyOn_12 : decode cX8_isAnyOn 12 = .ok (.if_icmp .ge 18, 3) := by decide +kernel
theorem dX8_isAnyOn_15 : decode cX8_isAnyOn 15 = .ok (.iload_n 2, 1) := by decide +kernel
theorem dX8_isAnyOn_16 : decode cX8_isAnyOn 16 = .ok (.aload_n 0, 1) := by decide +kernel
theorem dX8_isAnyOn_17 : decode cX8_isAnyOn 17 = .ok (.iload_n 3, 1) := by decide +kernel
theorem dX8_isAnyOn_18 : decode cX8_isAnyOn 18 = .ok (.iload_n 1, 1) := by decide +kernel
theorem dX8_isAnyOn_19 : decode cX8_isAnyOn 19 = .ok (.invokevirtual 82, 3) := by decide +kernel
theorem dX8_isAnyOn_22 : decode cX8_isAnyOn 22 = .ok (.ior, 1) := by decide +kernel
theorem dX8_isAnyOn_23 : decode cX8_isAnyOn 23 = .ok (.istore_n 2, 1) := by decide +kernel
theorem dX8_isAnyOn_24 : decode cX8_isAnyOn 24 = .ok (.iinc 3 1, 3) := by decide +kernel
theorem dX8_isAnyOn_27 : decode cX8_isAnyOn 27 = .ok (.goto (-23), 3) := by decide +kernel
theorem dX8_isAnyOn_30 : decode cX8_isAnyOn 30 = .ok (.iload_n 2, 1) := by decide +kernel
theorem dX8_isAnyOn_31 : decode cX8_isAnyOn 31 = .ok (.ireturn, 1) := by decide +kernel
theorem dX8_hang_0 : decode cX8_hang 0 = .ok (.aload_n 0, 1) := by decide +kernel
theorem dX8_hang_1 : decode cX8_hang 1 = .ok (.iload_n 1, 1) := by decide +kernel
theorem dX8_hang_2 : decode cX8_hang 2 = .ok (.invokevirtual 63, 3) := by decide +kernel
theorem dX8_hang_5 : decode cX8_hang 5 = .ok (.istore_n 2, 1) := by decide +kernel
theorem dX8_hang_6 : decode cX8_hang 6 = .ok (.aload_n 0, 1) := by decide +kernel
theorem dX8_hang_7 : decode cX8_hang 7 = .ok (.iload_n 2, 1) := by decide +kernel
theorem dX8_hang_8 : decode cX8_hang 8 = .ok (.ifCond .ne 7, 3) := by decide +kernel
theorem dX8_hang_11 : decode cX8_hang 11 = .ok (.iconst 1, 1) := by decide +kernel
theorem dX8_hang_12 : decode cX8_hang 12 = .ok (.goto 17, 3) := by decide +kernel
theorem dX8_hang_15 : decode cX8_hang 15 = .ok (.aload_n 0, 1) := by decide +kernel
theorem dX8_hang_16 : decode cX8_hang 16 = .ok (.iload_n 1, 1) := by decide +kernel
theorem dX8_hang_17 : decode cX8_hang 17 = .ok (.iconst 5, 1) := by decide +kernel
theorem dX8_hang_18 : decode cX8_hang 18 = .ok (.invokevirtual 47, 3) := by decide +kernel
theorem dX8_hang_21 : decode cX8_hang 21 = .ok (.ifCond .ne 7, 3) := by decide +kernel
theorem dX8_hang_24 : decode cX8_hang 24 = .ok (.iconst 2, 1) := by decide +kernel
theorem dX8_hang_25 : decode cX8_hang 25 = .ok (.goto 4, 3) := by decide +kernel
theorem dX8_hang_28 : decode cX8_hang 28 = .ok (.iconst 0, 1) := by decide +kernel
theorem dX8_hang_29 : decode cX8_hang 29 = .ok (.invokevirtual 32, 3) := by decide +kernel
theorem dX8_hang_32 : decode cX8_hang 32 = .ok (.ifCond .eq 5, 3) := by decide +kernel
theorem dX8_hang_35 : decode cX8_hang 35 = .ok (.iconst 0, 1) := by decide +kernel
theorem dX8_hang_36 : decode cX8_hang 36 = .ok (.ireturn, 1) := by decide +kernel
theorem dX8_hang_37 : decode cX8_hang 37 = .ok (.aload_n 0, 1) := by decide +kernel
theorem dX8_hang_38 : decode cX8_hang 38 = .ok (.invokevirtual 44, 3) := by decide +kernel
theorem dX8_hang_41 : decode cX8_hang 41 = .ok (.aload_n 0, 1) := by decide +kernel
theorem dX8_hang_42 : decode cX8_hang 42 = .ok (.iload_n 1, 1) := by decide +kernel
theorem dX8_hang_43 : decode cX8_hang 43 = .ok (.iconst 0, 1) := by decide +kernel
theorem dX8_hang_44 : decode cX8_hang 44 = .ok (.invokevirtual 47, 3) := by decide +kernel
theorem dX8_hang_47 : decode cX8_hang 47 = .ok (.istore_n 3, 1) := by decide +kernel
theorem dX8_hang_48 : decode cX8_hang 48 = .ok (.aload_n 0, 1) := by decide +kernel
theorem dX8_hang_49 : decode cX8_hang 49 = .ok (.iload_n 3, 1) := by decide +kernel
theorem dX8_hang_50 : decode cX8_hang 50 = .ok (.iconst 0, 1) := by decide +kernel
theorem dX8_hang_51 : decode cX8_hang 51 = .ok (.invokevirtual 60, 3) := by decide +kernel
theorem dX8_hang_54 : decode cX8_hang 54 = .ok (.istore 4, 2) := by decide +kernel
theorem dX8_hang_56 : decode cX8_hang 56 = .ok (.aload_n 0, 1) := by decide +kernel
theorem dX8_hang_57 : decode cX8_hang 57 = .ok (.iload_n 1, 1) := by decide +kernel
theorem dX8_hang_58 : decode cX8_hang 58 = .ok (.invokevirtual 72, 3) := by decide +kernel
theorem dX8_hang_61 : decode cX8_hang 61 = .ok (.iconst 2, 1) := by decide +kernel
theorem dX8_hang_62 : decode cX8_hang 62 = .ok (.if_icmp .ne 7, 3) := by decide +kernel
theorem dX8_hang_65 : decode cX8_hang 65 = .ok (.iconst 1, 1) := by decide +kernel
theorem dX8_hang_66 : decode cX8_hang 66 = .ok (.goto 4, 3) := by decide +kernel
theorem dX8_hang_69 : decode cX8_hang 69 = .ok (.iconst 0, 1) := by decide +kernel
theorem dX8_hang_70 : decode cX8_hang 70 = .ok (.istore 5, 2) := by decide +kernel
theorem dX8_hang_72 : decode cX8_hang 72 = .ok (.aload_n 0, 1) := by decide +kernel
theorem dX8_hang_73 : decode cX8_hang 73 = .ok (.iload_n 1, 1) := by decide +kernel
theorem dX8_hang_74 : decode cX8_hang 74 = .ok (.iconst 5, 1) := by decide +kernel
theorem dX8_hang_75 : decode cX8_hang 75 = .ok (.iconst 0, 1) := by decide +kernel
theorem dX8_hang_76 : decode cX8_hang 76 = .ok (.invokevirtual 57, 3) := by decide +kernel
theorem dX8_hang_79 : decode cX8_hang 79 = .ok (.aload_n 0, 1) := by decide +kernel
theorem dX8_hang_80 : decode cX8_hang 80 = .ok (.iload_n 1, 1) := by decide +kernel
theorem dX8_hang_81 : decode cX8_hang 81 = .ok (.bipush 6, 2) := by decide +kernel
theorem dX8_hang_83 : decode cX8_hang 83 = .ok (.iconst 0, 1) := by decide +kernel
theorem dX8_hang_84 : decode cX8_hang 84 = .ok (.invokevirtual 57, 3) := by decide +kernel
theorem dX8_hang_87 : decode cX8_hang 87 = .ok (.iload 5, 2) := by decide +kernel
theorem dX8_hang_89 : decode cX8_hang 89 = .ok (.ifCond .eq 46, 3) := by decide +kernel
theorem dX8_hang_92 : decode cX8_hang 92 = .ok (.iload 4, 2) := by decide +kernel
theorem dX8_hang_94 : decode cX8_hang 94 = .ok (.bipush 6, 2) := by decide +kernel
theorem dX8_hang_96 : decode cX8_hang 96 = .ok (.if_icmp .ne 34, 3) := by decide +kernel
theorem dX8_hang_99 : decode cX8_hang 99 = .ok (.aload_n 0, 1) := by decide +kernel
theorem dX8_hang_100 : decode cX8_hang 100 = .ok (.iload_n 3, 1) := by decide +kernel
theorem dX8_hang_101 : decode cX8_hang 101 = .ok (.invokevirtual 100, 3) := by decide +kernel
theorem dX8_hang_104 : decode cX8_hang 104 = .ok (.ifCond .ne 26, 3) := by decide +kernel
theorem dX8_hang_107 : decode cX8_hang 107 = .ok (.aload_n 0, 1) := by decide +kernel
theorem dX8_hang_108 : decode cX8_hang 108 = .ok (.iload_n 3, 1) := by decide +kernel
theorem dX8_hang_109 : decode cX8_hang 109 = .ok (.bipush 7, 2) := by decide +kernel
theorem dX8_hang_111 : decode cX8_hang 111 = .ok (.aload_n 0, 1) := by decide +kernel
theorem dX8_hang_112 : decode cX8_hang 112 = .ok (.iload_n 3, 1) := by decide +kernel
theorem dX8_hang_113 : decode cX8_hang 113 = .ok (.iconst 2, 1) := by decide +kernel
theorem dX8_hang_114 : decode cX8_hang 114 = .ok (.invokevirtual 60, 3) := by decide +kernel
theorem dX8_hang_117 : decode cX8_hang 117 = .ok (.aload_n 0, 1) := by decide +kernel
theorem dX8_hang_118 : decode cX8_hang 118 = .ok (.iload_n 3, 1) := by decide +kernel
theorem dX8_hang_119 : decode cX8_hang 119 = .ok (.iconst 3, 1) := by decide +kernel
theorem dX8_hang_120 : decode cX8_hang 120 = .ok (.invokevirtual 60, 3) := by decide +kernel
theorem dX8_hang_123 : decode cX8_hang 123 = .ok (.iconst (-1), 1) := by decide +kernel
theorem dX8_hang_124 : decode cX8_hang 124 = .ok (.invokevirtual 86, 3) := by decide +kernel
theorem dX8_hang_127 : decode cX8_hang 127 = .ok (.goto 8, 3) := by decide +kernel
theorem dX8_hang_130 : decode cX8_hang 130 = .ok (.aload_n 0, 1) := by decide +kernel
theorem dX8_hang_131 : decode cX8_hang 131 = .ok (.iload_n 3, 1) := by decide +kernel
theorem dX8_hang_132 : decode cX8_hang 132 = .ok (.invokevirtual 103, 3) := by decide +kernel
theorem dX8_hang_135 : decode cX8_hang 135 = .ok (.aload_n 0, 1) := by decide +kernel
theorem dX8_hang_136 : decode cX8_hang 136 = .ok (.iload_n 3, 1) := by decide +kernel
theorem dX8_hang_137 : decode cX8_hang 137 = .ok (.iconst 0, 1) := by decide +kernel
theorem dX8_hang_138 : decode cX8_hang 138 = .ok (.invokevirtual 60, 3) := by decide +kernel
theorem dX8_hang_141 : decode cX8_hang 141 = .ok (.ireturn, 1) := by decide +kernel
theorem dX8_leadsTo_0 : decode cX8_leadsTo 0 = .ok (.aload_n 0, 1) := by decide +kernel
theorem dX8_leadsTo_1 : decode cX8_leadsTo 1 = .ok (.iload_n 2, 1) := by decide +kernel
theorem dX8_leadsTo_2 : decode cX8_leadsTo 2 = .ok (.invokevirtual 63, 3) := by decide +kernel
theorem dX8_leadsTo_5 : decode cX8_leadsTo 5 = .ok (.ifCond .eq 16, 3) := by decide +kernel
theorem dX8_leadsTo_8 : decode cX8_leadsTo 8 = .ok (.iload_n 2, 1) := by decide +kernel
theorem dX8_leadsTo_9 : decode cX8_leadsTo 9 = .ok (.iload_n 1, 1) := by decide +kernel
theorem dX8_leadsTo_10 : decode cX8_leadsTo 10 = .ok (.if_icmp .eq 11, 3) := by decide +kernel
theorem dX8_leadsTo_13 : decode cX8_leadsTo 13 = .ok (.aload_n 0, 1) := by decide +kernel
theorem dX8_leadsTo_14 : decode cX8_leadsTo 14 = .ok (.iload_n 2, 1) := by decide +kernel
theorem dX8_leadsTo_15 : decode cX8_leadsTo 15 = .ok (.invokevirtual 69, 3) := by decide +kernel
theorem dX8_leadsTo_18 : decode cX8_leadsTo 18 = .ok (.ifCond .eq 5, 3) := by decide +kernel
theorem dX8_leadsTo_21 : decode cX8_leadsTo 21 = .ok (.iconst 5, 1) := by decide +kernel
theorem dX8_leadsTo_22 : decode cX8_leadsTo 22 = .ok (.ireturn, 1) := by decide +kernel
theorem dX8_leadsTo_23 : decode cX8_leadsTo 23 = .ok (.aload_n 0, 1) := by decide +kernel
theorem dX8_leadsTo_24 : decode cX8_leadsTo 24 = .ok (.iload_n 2, 1) := by decide +kernel
theorem dX8_leadsTo_25 : decode cX8_leadsTo 25 = .ok (.iconst 0, 1) := by decide +kernel
theorem dX8_leadsTo_26 : decode cX8_leadsTo 26 = .ok (.invokevirtual 47, 3) := by decide +kernel
theorem dX8_leadsTo_29 : decode cX8_leadsTo 29 = .ok (.istore_n 3, 1) := by decide +kernel
theorem dX8_leadsTo_30 : decode cX8_leadsTo 30 = .ok (.iload_n 3, 1) := by decide +kernel
theorem dX8_leadsTo_31 : decode cX8_leadsTo 31 = .ok (.aload_n 0, 1) := by decide +kernel
theorem dX8_leadsTo_32 : decode cX8_leadsTo 32 = .ok (.iload_n 1, 1) := by decide +kernel
theorem dX8_leadsTo_33 : decode cX8_leadsTo 33 = .ok (.iconst 0, 1) := by decide +kernel
theorem dX8_leadsTo_34 : decode cX8_leadsTo 34 = .ok (.invokevirtual 47, 3) := by decide +kernel
theorem dX8_leadsTo_37 : decode cX8_leadsTo 37 = .ok (.if_icmp .ne 8, 3) := by decide +kernel
theorem dX8_leadsTo_40 : decode cX8_leadsTo 40 = .ok (.bipush 6, 2) := by decide +kernel
theorem dX8_leadsTo_42 : decode cX8_leadsTo 42 = .ok (.goto 17, 3) := by decide +kernel
theorem dX8_leadsTo_45 : decode cX8_leadsTo 45 = .ok (.aload_n 0, 1) := by decide +kernel
theorem dX8_leadsTo_46 : decode cX8_leadsTo 46 = .ok (.iload_n 3, 1) := by decide +kernel
theorem dX8_leadsTo_47 : decode cX8_leadsTo 47 = .ok (.iconst 0, 1) := by decide +kernel
theorem dX8_leadsTo_48 : decode cX8_leadsTo 48 = .ok (.invokevirtual 60, 3) := by decide +kernel
theorem dX8_leadsTo_51 : decode cX8_leadsTo 51 = .ok (.ifCond .ne 7, 3) := by decide +kernel
theorem dX8_leadsTo_54 : decode cX8_leadsTo 54 = .ok (.iconst 2, 1) := by decide +kernel
theorem dX8_leadsTo_55 : decode cX8_leadsTo 55 = .ok (.goto 4, 3) := by decide +kernel
theorem dX8_leadsTo_58 : decode cX8_leadsTo 58 = .ok (.iconst 5, 1) := by decide +kernel
theorem dX8_leadsTo_59 : decode cX8_leadsTo 59 = .ok (.ireturn, 1) := by decide +kernel
theorem dX8_dial_0 : decode cX8_dial 0 = .ok (.aload_n 0, 1) := by decide +kernel
theorem dX8_dial_1 : decode cX8_dial 1 = .ok (.iload_n 1, 1) := by decide +kernel
theorem dX8_dial_2 : decode cX8_dial 2 = .ok (.invokevirtual 63, 3) := by decide +kernel
theorem dX8_dial_5 : decode cX8_dial 5 = .ok (.istore_n 3, 1) := by decide +kernel
theorem dX8_dial_6 : decode cX8_dial 6 = .ok (.iload_n 3, 1) := by decide +kernel
theorem dX8_dial_7 : decode cX8_dial 7 = .ok (.ifCond .eq 37, 3) := by decide +kernel
theorem dX8_dial_10 : decode cX8_dial 10 = .ok (.aload_n 0, 1) := by decide +kernel
theorem dX8_dial_11 : decode cX8_dial 11 = .ok (.aload_n 0, 1) := by decide +kernel
theorem dX8_dial_12 : decode cX8_dial 12 = .ok (.iload_n 1, 1) := by decide +kernel
theorem dX8_dial_13 : decode cX8_dial 13 = .ok (.iconst 0, 1) := by decide +kernel
theorem dX8_dial_14 : decode cX8_dial 14 = .ok (.invokevirtual 47, 3) := by decide +kernel
theorem dX8_dial_17 : decode cX8_dial 17 = .ok (.iconst 0, 1) := by decide +kernel
theorem dX8_dial_18 : decode cX8_dial 18 = .ok (.invokevirtual 60, 3) := by decide +kernel
theorem dX8_dial_21 : decode cX8_dial 21 = .ok (.iconst 1, 1) := by decide +kernel
theorem dX8_dial_22 : decode cX8_dial 22 = .ok (.if_icmp .ne 22, 3) := by decide +kernel
theorem dX8_dial_25 : decode cX8_dial 25 = .ok (.aload_n 0, 1) := by decide +kernel
theorem dX8_dial_26 : decode cX8_dial 26 = .ok (.aload_n 0, 1) := by decide +kernel
theorem dX8_dial_27 : decode cX8_dial 27 = .ok (.iload_n 1, 1) := by decide +kernel
theorem dX8_dial_28 : decode cX8_dial 28 = .ok (.iconst 0, 1) := by decide +kernel
theorem dX8_dial_29 : decode cX8_dial 29 = .ok (.invokevirtual 47, 3) := by decide +kernel
theorem dX8_dial_32 : decode cX8_dial 32 = .ok (.iconst 2, 1) := by decide +kernel
theorem dX8_dial_33 : decode cX8_dial 33 = .ok (.invokevirtual 60, 3) := by decide +kernel
theorem dX8_dial_36 : decode cX8_dial 36 = .ok (.iload_n 1, 1) := by decide +kernel
theorem dX8_dial_37 : decode cX8_dial 37 = .ok (.if_icmp .ne 7, 3) := by decide +kernel
theorem dX8_dial_40 : decode cX8_dial 40 = .ok (.iconst 1, 1) := by decide +kernel
theorem dX8_dial_41 : decode cX8_dial 41 = .ok (.goto 4, 3) := by decide +kernel
theorem dX8_dial_44 : decode cX8_dial 44 = .ok (.iconst 0, 1) := by decide +kernel
theorem dX8_dial_45 : decode cX8_dial 45 = .ok (.istore 4, 2) := by decide +kernel
theorem dX8_dial_47 : decode cX8_dial 47 = .ok (.aload_n 0, 1) := by decide +kernel
theorem dX8_dial_48 : decode cX8_dial 48 = .ok (.iload_n 3, 1) := by decide +kernel
theorem dX8_dial_49 : decode cX8_dial 49 = .ok (.ifCond .ne 7, 3) := by decide +kernel
theorem dX8_dial_52 : decode cX8_dial 52 = .ok (.iconst 1, 1) := by decide +kernel
theorem dX8_dial_53 : decode cX8_dial 53 = .ok (.goto 13, 3) := by decide +kernel
theorem dX8_dial_56 : decode cX8_dial 56 = .ok (.iload 4, 2) := by decide +kernel
theorem dX8_dial_58 : decode cX8_dial 58 = .ok (.ifCond .ne 7, 3) := by decide +kernel
theorem dX8_dial_61 : decode cX8_dial 61 = .ok (.iconst 2, 1) := by decide +kernel
theorem dX8_dial_62 : decode cX8_dial 62 = .ok (.goto 4, 3) := by decide +kernel
theorem dX8_dial_65 : decode cX8_dial 65 = .ok (.iconst 0, 1) := by decide +kernel
theorem dX8_dial_66 : decode cX8_dial 66 = .ok (.invokevirtual 32, 3) := by decide +kernel
theorem dX8_dial_69 : decode cX8_dial 69 = .ok (.ifCond .eq 5, 3) := by decide +kernel
theorem dX8_dial_72 : decode cX8_dial 72 = .ok (.iconst 0, 1) := by decide +kernel
theorem dX8_dial_73 : decode cX8_dial 73 = .ok (.ireturn, 1) := by decide +kernel
theorem dX8_dial_74 : decode cX8_dial 74 = .ok (.aload_n 0, 1) := by decide +kernel
theorem dX8_dial_75 : decode cX8_dial 75 = .ok (.invokevirtual 44, 3) := by decide +kernel
theorem dX8_dial_78 : decode cX8_dial 78 = .ok (.aload_n 0, 1) := by decide +kernel
theorem dX8_dial_79 : decode cX8_dial 79 = .ok (.iload_n 1, 1) := by decide +kernel
theorem dX8_dial_80 : decode cX8_dial 80 = .ok (.iconst 0, 1) := by decide +kernel
theorem dX8_dial_81 : decode cX8_dial 81 = .ok (.invokevirtual 47, 3) := by decide +kernel
theorem dX8_dial_84 : decode cX8_dial 84 = .ok (.istore 5, 2) := by decide +kernel
theorem dX8_dial_86 : decode cX8_dial 86 = .ok (.aload_n 0, 1) := by decide +kernel
theorem dX8_dial_87 : decode cX8_dial 87 = .ok (.iload_n 1, 1) := by decide +kernel
theorem dX8_dial_88 : decode cX8_dial 88 = .ok (.iload_n 2, 1) := by decide +kernel
theorem dX8_dial_89 : decode cX8_dial 89 = .ok (.invokevirtual 106, 3) := by decide +kernel
theorem dX8_dial_92 : decode cX8_dial 92 = .ok (.istore 6, 2) := by decide +kernel
theorem dX8_dial_94 : decode cX8_dial 94 = .ok (.iload 6, 2) := by decide +kernel
theorem dX8_dial_96 : decode cX8_dial 96 = .ok (.iconst 2, 1) := by decide +kernel
theorem dX8_dial_97 : decode cX8_dial 97 = .ok (.if_icmp .ne 36, 3) := by decide +kernel
theorem dX8_dial_100 : decode cX8_dial 100 = .ok (.aload_n 0, 1) := by decide +kernel
theorem dX8_dial_101 : decode cX8_dial 101 = .ok (.iload_n 2, 1) := by decide +kernel
theorem dX8_dial_102 : decode cX8_dial 102 = .ok (.iconst 0, 1) := by decide +kernel
theorem dX8_dial_103 : decode cX8_dial 103 = .ok (.invokevirtual 47, 3) := by decide +kernel
theorem dX8_dial_106 : decode cX8_dial 106 = .ok (.istore 7, 2) := by decide +kernel
theorem dX8_dial_108 : decode cX8_dial 108 = .ok (.aload_n 0, 1) := by decide +kernel
theorem dX8_dial_109 : decode cX8_dial 109 = .ok (.iload 7, 2) := by decide +kernel
theorem dX8_dial_111 : decode cX8_dial 111 = .ok (.iconst 3, 1) := by decide +kernel
theorem dX8_dial_112 : decode cX8_dial 112 = .ok (.iload_n 2, 1) := by decide +kernel
theorem dX8_dial_113 : decode cX8_dial 113 = .ok (.iconst (-1), 1) := by decide +kernel
theorem dX8_dial_114 : decode cX8_dial 114 = .ok (.iload 5, 2) := by decide +kernel
theorem dX8_dial_116 : decode cX8_dial 116 = .ok (.invokevirtual 86, 3) := by decide +kernel
theorem dX8_dial_119 : decode cX8_dial 119 = .ok (.aload_n 0, 1) := by decide +kernel
theorem dX8_dial_120 : decode cX8_dial 120 = .ok (.iload 5, 2) := by decide +kernel
theorem dX8_dial_122 : decode cX8_dial 122 = .ok (.iconst 2, 1) := by decide +kernel
theorem dX8_dial_123 : decode cX8_dial 123 = .ok (.iload_n 1, 1) := by decide +kernel
theorem dX8_dial_124 : decode cX8_dial 124 = .ok (.iconst (-1), 1) := by decide +kernel
theorem dX8_dial_125 : decode cX8_dial 125 = .ok (.iload 7, 2) := by decide +kernel
theorem dX8_dial_127 : decode cX8_dial 127 = .ok (.invokevirtual 86, 3) := by decide +kernel
theorem dX8_dial_130 : decode cX8_dial 130 = .ok (.goto 47, 3) := by decide +kernel
theorem dX8_dial_133 : decode cX8_dial 133 = .ok (.aload_n 0, 1) := by decide +kernel
theorem dX8_dial_134 : decode cX8_dial 134 = .ok (.iload 5, 2) := by decide +kernel
theorem dX8_dial_136 : decode cX8_dial 136 = .ok (.iload 6, 2) := by decide +kernel
theorem dX8_dial_138 : decode cX8_dial 138 = .ok (.iload_n 1, 1) := by decide +kernel
theorem dX8_dial_139 : decode cX8_dial 139 = .ok (.iload 6, 2) := by decide +kernel
theorem dX8_dial_141 : decode cX8_dial 141 = .ok (.bipush 6, 2) := by decide +kernel
theorem dX8_dial_143 : decode cX8_dial 143 = .ok (.if_icmp .ne 7, 3) := by decide +kernel
theorem dX8_dial_146 : decode cX8_dial 146 = .ok (.iload_n 2, 1) := by decide +kernel
theorem dX8_dial_147 : decode cX8_dial 147 = .ok (.goto 4, 3) := by decide +kernel
theorem dX8_dial_150 : decode cX8_dial 150 = .ok (.iconst (-1), 1) := by decide +kernel
theorem dX8_dial_151 : decode cX8_dial 151 = .ok (.iconst (-1), 1) := by decide +kernel
theorem dX8_dial_152 : decode cX8_dial 152 = .ok (.invokevirtual 86, 3) := by decide +kernel
theorem dX8_dial_155 : decode cX8_dial 155 = .ok (.aload_n 0, 1) := by decide +kernel
theorem dX8_dial_156 : decode cX8_dial 156 = .ok (.getfield 7, 3) := by decide +kernel
theorem dX8_dial_159 : decode cX8_dial 159 = .ok (.sipush 234, 3) := by decide +kernel
theorem dX8_dial_162 : decode cX8_dial 162 = .ok (.dup2, 1) := by decide +kernel
theorem dX8_dial_163 : decode cX8_dial 163 = .ok (.iaload, 1) := by decide +kernel
theorem dX8_dial_164 : decode cX8_dial 164 = .ok (.iload 6, 2) := by decide +kernel
theorem dX8_dial_166 : decode cX8_dial 166 = .ok (.iconst 5, 1) := by decide +kernel
theorem dX8_dial_167 : decode cX8_dial 167 = .ok (.if_icmp .ne 7, 3) := by decide +kernel
theorem dX8_dial_170 : decode cX8_dial 170 = .ok (.iconst 1, 1) := by decide +kernel
theorem dX8_dial_171 : decode cX8_dial 171 = .ok (.goto 4, 3) := by decide +kernel
theorem dX8_dial_174 : decode cX8_dial 174 = .ok (.iconst 0, 1) := by decide +kernel
theorem dX8_dial_175 : decode cX8_dial 175 = .ok (.iadd, 1) := by decide +kernel
theorem dX8_dial_176 : decode cX8_dial 176 = .ok (.iastore, 1) := by decide +kernel
theorem dX8_dial_177 : decode cX8_dial 177 = .ok (.iload 6, 2) := by decide +kernel
theorem dX8_dial_179 : decode cX8_dial 179 = .ok (.ireturn, 1) := by decide +kernel
theorem dX8_wouldDial_0 : decode cX8_wouldDial 0 = .ok (.aload_n 0, 1) := by decide +kernel
theorem dX8_wouldDial_1 : decode cX8_wouldDial 1 = .ok (.aload_n 0, 1) := by decide +kernel
theorem dX8_wouldDial_2 : decode cX8_wouldDial 2 = .ok (.aload_n 0, 1) := by decide +kernel
theorem dX8_wouldDial_3 : decode cX8_wouldDial 3 = .ok (.iload_n 1, 1) := by decide +kernel
theorem dX8_wouldDial_4 : decode cX8_wouldDial 4 = .ok (.invokevirtual 63, 3) := by decide +kernel
theorem dX8_wouldDial_7 : decode cX8_wouldDial 7 = .ok (.invokevirtual 109, 3) := by decide +kernel
theorem dX8_wouldDial_10 : decode cX8_wouldDial 10 = .ok (.invokevirtual 32, 3) := by decide +kernel
theorem dX8_wouldDial_13 : decode cX8_wouldDial 13 = .ok (.ifCond .eq 7, 3) := by decide +kernel
theorem dX8_wouldDial_16 : decode cX8_wouldDial 16 = .ok (.iconst 0, 1) := by decide +kernel
theorem dX8_wouldDial_17 : decode cX8_wouldDial 17 = .ok (.goto 9, 3) := by decide +kernel
theorem dX8_wouldDial_20 : decode cX8_wouldDial 20 = .ok (.aload_n 0, 1) := by decide +kernel
theorem dX8_wouldDial_21 : decode cX8_wouldDial 21 = .ok (.iload_n 1, 1) := by decide +kernel
theorem dX8_wouldDial_22 : decode cX8_wouldDial 22 = .ok (.iload_n 2, 1) := by decide +kernel
theorem dX8_wouldDial_23 : decode cX8_wouldDial 23 = .ok (.invokevirtual 106, 3) := by decide +kernel
theorem dX8_wouldDial_26 : decode cX8_wouldDial 26 = .ok (.ireturn, 1) := by decide +kernel
theorem dX8_isLocked_0 : decode cX8_isLocked 0 = .ok (.iconst 0, 1) := by decide +kernel
theorem dX8_isLocked_1 : decode cX8_isLocked 1 = .ok (.istore_n 2, 1) := by decide +kernel
theorem dX8_isLocked_2 : decode cX8_isLocked 2 = .ok (.iconst 0, 1) := by decide +kernel
theorem dX8_isLocked_3 : decode cX8_isLocked 3 = .ok (.istore_n 3, 1) := by decide +kernel
theorem dX8_isLocked_4 : decode cX8_isLocked 4 = .ok (.iload_n 3, 1) := by decide +kernel
theorem dX8_isLocked_5 : decode cX8_isLocked 5 = .ok (.aload_n 0, 1) := by decide +kernel
theorem dX8_isLocked_6 : decode cX8_isLocked 6 = .ok (.getfield 7, 3) := by decide +kernel
theorem dX8_isLocked_9 : decode cX8_isLocked 9 = .ok (.bipush 101, 2) := by decide +kernel
theorem dX8_isLocked_11 : decode cX8_isLocked 11 = .ok (.iaload, 1) := by decide +kernel
theorem dX8_isLocked_12 : decode cX8_isLocked 12 = .ok (.if_icmp .ge 36, 3) := by decide +kernel
theorem dX8_isLocked_15 : decode cX8_isLocked 15 = .ok (.iload_n 2, 1) := by decide +kernel
theorem dX8_isLocked_16 : decode cX8_isLocked 16 = .ok (.aload_n 0, 1) := by decide +kernel
theorem dX8_isLocked_17 : decode cX8_isLocked 17 = .ok (.iload_n 3, 1) := by decide +kernel
theorem dX8_isLocked_18 : decode cX8_isLocked 18 = .ok (.iconst 0, 1) := by decide +kernel
theorem dX8_isLocked_19 : decode cX8_isLocked 19 = .ok (.invokevirtual 47, 3) := by decide +kernel
theorem dX8_isLocked_22 : decode cX8_isLocked 22 = .ok (.iload_n 1, 1) := by decide +kernel
theorem dX8_isLocked_23 : decode cX8_isLocked 23 = .ok (.if_icmp .ne 16, 3) := by decide +kernel
theorem dX8_isLocked_26 : decode cX8_isLocked 26 = .ok (.aload_n 0, 1) := by decide +kernel
theorem dX8_isLocked_27 : decode cX8_isLocked 27 = .ok (.iload_n 3, 1) := by decide +kernel
theorem dX8_isLocked_28 : decode cX8_isLocked 28 = .ok (.invokevirtual 72, 3) := by decide +kernel
theorem dX8_isLocked_31 : decode cX8_isLocked 31 = .ok (.iconst 4, 1) := by decide +kernel
theorem dX8_isLocked_32 : decode cX8_isLocked 32 = .ok (.if_icmp .ne 7, 3) := by decide +kernel
theorem dX8_isLocked_35 : decode cX8_isLocked 35 = .ok (.iconst 1, 1) := by decide +kernel
theorem dX8_isLocked_36 : decode cX8_isLocked 36 = .ok (.goto 4, 3) := by decide +kernel
theorem dX8_isLocked_39 : decode cX8_isLocked 39 = .ok (.iconst 0, 1) := by decide +kernel
theorem dX8_isLocked_40 : decode cX8_isLocked 40 = .ok (.ior, 1) := by decide +kernel
theorem dX8_isLocked_41 : decode cX8_isLocked 41 = .ok (.istore_n 2, 1) := by decide +kernel
theorem dX8_isLocked_42 : decode cX8_isLocked 42 = .ok (.iinc 3 1, 3) := by decide +kernel
theorem dX8_isLocked_45 : decode cX8_isLocked 45 = .ok (.goto (-41), 3) := by decide +kernel
theorem dX8_isLocked_48 : decode cX8_isLocked 48 = .ok (.iload_n 2, 1) := by decide +kernel
theorem dX8_isLocked_49 : decode cX8_isLocked 49 = .ok (.ireturn, 1) := by decide +kernel
theorem dX8_goesOn_0 : decode cX8_goesOn 0 = .ok (.aload_n 0, 1) := by decide +kernel
theorem dX8_goesOn_1 : decode cX8_goesOn 1 = .ok (.iload_n 1, 1) := by decide +kernel
theorem dX8_goesOn_2 : decode cX8_goesOn 2 = .ok (.iconst 1, 1) := by decide +kernel
theorem dX8_goesOn_3 : decode cX8_goesOn 3 = .ok (.invokevirtual 60, 3) := by decide +kernel
theorem dX8_goesOn_6 : decode cX8_goesOn 6 = .ok (.istore_n 2, 1) := by decide +kernel
theorem dX8_goesOn_7 : decode cX8_goesOn 7 = .ok (.aload_n 0, 1) := by decide +kernel
theorem dX8_goesOn_8 : decode cX8_goesOn 8 = .ok (.iload_n 1, 1) := by decide +kernel
theorem dX8_goesOn_9 : decode cX8_goesOn 9 = .ok (.iconst 2, 1) := by decide +kernel
theorem dX8_goesOn_10 : decode cX8_goesOn 10 = .ok (.invokevirtual 60, 3) := by decide +kernel
theorem dX8_goesOn_13 : decode cX8_goesOn 13 = .ok (.istore_n 3, 1) := by decide +kernel
theorem dX8_goesOn_14 : decode cX8_goesOn 14 = .ok (.aload_n 0, 1) := by decide +kernel
theorem dX8_goesOn_15 : decode cX8_goesOn 15 = .ok (.iload_n 1, 1) := by decide +kernel
theorem dX8_goesOn_16 : decode cX8_goesOn 16 = .ok (.iconst 0, 1) := by decide +kernel
theorem dX8_goesOn_17 : decode cX8_goesOn 17 = .ok (.invokevirtual 60, 3) := by decide +kernel
theorem dX8_goesOn_20 : decode cX8_goesOn 20 = .ok (.tableswitch 242 1 8 #[48, 242, 66, 136, 242, 242, 101, 214], 48) := by decide +kernel
theorem dX8_goesOn_68 : decode cX8_goesOn 68 = .ok (.iload_n 2, 1) := by decide +kernel
theorem dX8_goesOn_69 : decode cX8_goesOn 69 = .ok (.bipush 12, 2) := by decide +kernel
theorem dX8_goesOn_71 : decode cX8_goesOn 71 = .ok (.if_icmp .ne 191, 3) := by decide +kernel
theorem dX8_goesOn_74 : decode cX8_goesOn 74 = .ok (.aload_n 0, 1) := by decide +kernel
theorem dX8_goesOn_75 : decode cX8_goesOn 75 = .ok (.iload_n 1, 1) := by decide +kernel
theorem dX8_goesOn_76 : decode cX8_goesOn 76 = .ok (.iconst 5, 1) := by decide +kernel
theorem dX8_goesOn_77 : decode cX8_goesOn 77 = .ok (.iload_n 3, 1) := by decide +kernel
theorem dX8_goesOn_78 : decode cX8_goesOn 78 = .ok (.iconst (-1), 1) := by decide +kernel
theorem dX8_goesOn_79 : decode cX8_goesOn 79 = .ok (.iconst (-1), 1) := by decide +kernel
theorem dX8_goesOn_80 : decode cX8_goesOn 80 = .ok (.invokevirtual 86, 3) := by decide +kernel
theorem dX8_goesOn_83 : decode cX8_goesOn 83 = .ok (.goto 179, 3) := by decide +kernel
theorem dX8_goesOn_86 : decode cX8_goesOn 86 = .ok (.iload_n 2, 1) := by decide +kernel
theorem dX8_goesOn_87 : decode cX8_goesOn 87 = .ok (.iconst 5, 1) := by decide +kernel
theorem dX8_goesOn_88 : decode cX8_goesOn 88 = .ok (.aload_n 0, 1) := by decide +kernel
theorem dX8_goesOn_89 : decode cX8_goesOn 89 = .ok (.iload_n 3, 1) := by decide +kernel
theorem dX8_goesOn_90 : decode cX8_goesOn 90 = .ok (.iconst 2, 1) := by decide +kernel
theorem dX8_goesOn_91 : decode cX8_goesOn 91 = .ok (.invokevirtual 47, 3) := by decide +kernel
theorem dX8_goesOn_94 : decode cX8_goesOn 94 = .ok (.invokestatic 113, 3) := by decide +kernel
theorem dX8_goesOn_97 : decode cX8_goesOn 97 = .ok (.imul, 1) := by decide +kernel
theorem dX8_goesOn_98 : decode cX8_goesOn 98 = .ok (.if_icmp .ne 164, 3) := by decide +kernel
theorem dX8_goesOn_101 : decode cX8_goesOn 101 = .ok (.aload_n 0, 1) := by decide +kernel
theorem dX8_goesOn_102 : decode cX8_goesOn 102 = .ok (.getfield 7, 3) := by decide +kernel
theorem dX8_goesOn_105 : decode cX8_goesOn 105 = .ok (.sipush 233, 3) := by decide +kernel
theorem dX8_goesOn_108 : decode cX8_goesOn 108 = .ok (.dup2, 1) := by decide +kernel
theorem dX8_goesOn_109 : decode cX8_goesOn 109 = .ok (.iaload, 1) := by decide +kernel
theorem dX8_goesOn_110 : decode cX8_goesOn 110 = .ok (.iconst 1, 1) := by decide +kernel
theorem dX8_goesOn_111 : decode cX8_goesOn 111 = .ok (.iadd, 1) := by decide +kernel
theorem dX8_goesOn_112 : decode cX8_goesOn 112 = .ok (.iastore, 1) := by decide +kernel
theorem dX8_goesOn_113 : decode cX8_goesOn 113 = .ok (.aload_n 0, 1) := by decide +kernel
theorem dX8_goesOn_114 : decode cX8_goesOn 114 = .ok (.iload_n 1, 1) := by decide +kernel
theorem dX8_goesOn_115 : decode cX8_goesOn 115 = .ok (.invokevirtual 103, 3) := by decide +kernel
theorem dX8_goesOn_118 : decode cX8_goesOn 118 = .ok (.goto 144, 3) := by decide +kernel
theorem dX8_goesOn_121 : decode cX8_goesOn 121 = .ok (.iload_n 2, 1) := by decide +kernel
theorem dX8_goesOn_122 : decode cX8_goesOn 122 = .ok (.iconst 4, 1) := by decide +kernel
theorem dX8_goesOn_123 : decode cX8_goesOn 123 = .ok (.aload_n 0, 1) := by decide +kernel
theorem dX8_goesOn_124 : decode cX8_goesOn 124 = .ok (.iload_n 1, 1) := by decide +kernel
theorem dX8_goesOn_125 : decode cX8_goesOn 125 = .ok (.invokevirtual 116, 3) := by decide +kernel
theorem dX8_goesOn_128 : decode cX8_goesOn 128 = .ok (.imul, 1) := by decide +kernel
theorem dX8_goesOn_129 : decode cX8_goesOn 129 = .ok (.if_icmp .ne 133, 3) := by decide +kernel
theorem dX8_goesOn_132 : decode cX8_goesOn 132 = .ok (.aload_n 0, 1) := by decide +kernel
theorem dX8_goesOn_133 : decode cX8_goesOn 133 = .ok (.getfield 7, 3) := by decide +kernel
theorem dX8_goesOn_136 : decode cX8_goesOn 136 = .ok (.sipush 233, 3) := by decide +kernel
theorem dX8_goesOn_139 : decode cX8_goesOn 139 = .ok (.dup2, 1) := by decide +kernel
theorem dX8_goesOn_140 : decode cX8_goesOn 140 = .ok (.iaload, 1) := by decide +kernel
theorem dX8_goesOn_141 : decode cX8_goesOn 141 = .ok (.iconst 1, 1) := by decide +kernel
theorem dX8_goesOn_142 : decode cX8_goesOn 142 = .ok (.iadd, 1) := by decide +kernel
theorem dX8_goesOn_143 : decode cX8_goesOn 143 = .ok (.iastore, 1) := by decide +kernel
theorem dX8_goesOn_144 : decode cX8_goesOn 144 = .ok (.aload_n 0, 1) := by decide +kernel
theorem dX8_goesOn_145 : decode cX8_goesOn 145 = .ok (.iload_n 1, 1) := by decide +kernel
theorem dX8_goesOn_146 : decode cX8_goesOn 146 = .ok (.iconst 0, 1) := by decide +kernel
theorem dX8_goesOn_147 : decode cX8_goesOn 147 = .ok (.iconst (-1), 1) := by decide +kernel
theorem dX8_goesOn_148 : decode cX8_goesOn 148 = .ok (.iconst (-1), 1) := by decide +kernel
theorem dX8_goesOn_149 : decode cX8_goesOn 149 = .ok (.iconst (-1), 1) := by decide +kernel
theorem dX8_goesOn_150 : decode cX8_goesOn 150 = .ok (.invokevirtual 86, 3) := by decide +kernel
theorem dX8_goesOn_153 : decode cX8_goesOn 153 = .ok (.goto 109, 3) := by decide +kernel
theorem dX8_goesOn_156 : decode cX8_goesOn 156 = .ok (.aload_n 0, 1) := by decide +kernel
theorem dX8_goesOn_157 : decode cX8_goesOn 157 = .ok (.iload_n 1, 1) := by decide +kernel
theorem dX8_goesOn_158 : decode cX8_goesOn 158 = .ok (.iconst 5, 1) := by decide +kernel
theorem dX8_goesOn_159 : decode cX8_goesOn 159 = .ok (.invokevirtual 60, 3) := by decide +kernel
theorem dX8_goesOn_162 : decode cX8_goesOn 162 = .ok (.iconst 1, 1) := by decide +kernel
theorem dX8_goesOn_163 : decode cX8_goesOn 163 = .ok (.if_icmp .ne 99, 3) := by decide +kernel
theorem dX8_goesOn_166 : decode cX8_goesOn 166 = .ok (.aload_n 0, 1) := by decide +kernel
theorem dX8_goesOn_167 : decode cX8_goesOn 167 = .ok (.iload_n 3, 1) := by decide +kernel
theorem dX8_goesOn_168 : decode cX8_goesOn 168 = .ok (.bipush 7, 2) := by decide +kernel
theorem dX8_goesOn_170 : decode cX8_goesOn 170 = .ok (.aload_n 0, 1) := by decide +kernel
theorem dX8_goesOn_171 : decode cX8_goesOn 171 = .ok (.iload_n 3, 1) := by decide +kernel
theorem dX8_goesOn_172 : decode cX8_goesOn 172 = .ok (.bipush 7, 2) := by decide +kernel
theorem dX8_goesOn_174 : decode cX8_goesOn 174 = .ok (.invokevirtual 47, 3) := by decide +kernel
theorem dX8_goesOn_177 : decode cX8_goesOn 177 = .ok (.iload_n 2, 1) := by decide +kernel
theorem dX8_goesOn_178 : decode cX8_goesOn 178 = .ok (.bipush 6, 2) := by decide +kernel
theorem dX8_goesOn_180 : decode cX8_goesOn 180 = .ok (.irem, 1) := by decide +kernel
theorem dX8_goesOn_181 : decode cX8_goesOn 181 = .ok (.ifCond .ne 7, 3) := by decide +kernel
theorem dX8_goesOn_184 : decode cX8_goesOn 184 = .ok (.iconst 1, 1) := by decide +kernel
theorem dX8_goesOn_185 : decode cX8_goesOn 185 = .ok (.goto 4, 3) := by decide +kernel
theorem dX8_goesOn_188 : decode cX8_goesOn 188 = .ok (.iconst 0, 1) := by decide +kernel
theorem dX8_goesOn_189 : decode cX8_goesOn 189 = .ok (.iadd, 1) := by decide +kernel
theorem dX8_goesOn_190 : decode cX8_goesOn 190 = .ok (.invokevirtual 57, 3) := by decide +kernel
theorem dX8_goesOn_193 : decode cX8_goesOn 193 = .ok (.iload_n 2, 1) := by decide +kernel
theorem dX8_goesOn_194 : decode cX8_goesOn 194 = .ok (.aload_n 0, 1) := by decide +kernel
theorem dX8_goesOn_195 : decode cX8_goesOn 195 = .ok (.getfield 7, 3) := by decide +kernel
theorem dX8_goesOn_198 : decode cX8_goesOn 198 = .ok (.sipush 230, 3) := by decide +kernel
theorem dX8_goesOn_201 : decode cX8_goesOn 201 = .ok (.iaload, 1) := by decide +kernel
theorem dX8_goesOn_202 : decode cX8_goesOn 202 = .ok (.if_icmp .lt 60, 3) := by decide +kernel
theorem dX8_goesOn_205 : decode cX8_goesOn 205 = .ok (.aload_n 0, 1) := by decide +kernel
theorem dX8_goesOn_206 : decode cX8_goesOn 206 = .ok (.iload_n 1, 1) := by decide +kernel
theorem dX8_goesOn_207 : decode cX8_goesOn 207 = .ok (.invokevirtual 119, 3) := by decide +kernel
theorem dX8_goesOn_210 : decode cX8_goesOn 210 = .ok (.ifCond .ne 16, 3) := by decide +kernel
theorem dX8_goesOn_213 : decode cX8_goesOn 213 = .ok (.aload_n 0, 1) := by decide +kernel
theorem dX8_goesOn_214 : decode cX8_goesOn 214 = .ok (.aload_n 0, 1) := by decide +kernel
theorem dX8_goesOn_215 : decode cX8_goesOn 215 = .ok (.iload_n 1, 1) := by decide +kernel
theorem dX8_goesOn_216 : decode cX8_goesOn 216 = .ok (.iconst 4, 1) := by decide +kernel
theorem dX8_goesOn_217 : decode cX8_goesOn 217 = .ok (.invokevirtual 60, 3) := by decide +kernel
theorem dX8_goesOn_220 : decode cX8_goesOn 220 = .ok (.invokevirtual 119, 3) := by decide +kernel
theorem dX8_goesOn_223 : decode cX8_goesOn 223 = .ok (.ifCond .eq 39, 3) := by decide +kernel
theorem dX8_goesOn_226 : decode cX8_goesOn 226 = .ok (.aload_n 0, 1) := by decide +kernel
theorem dX8_goesOn_227 : decode cX8_goesOn 227 = .ok (.iload_n 1, 1) := by decide +kernel
theorem dX8_goesOn_228 : decode cX8_goesOn 228 = .ok (.invokevirtual 103, 3) := by decide +kernel
theorem dX8_goesOn_231 : decode cX8_goesOn 231 = .ok (.goto 31, 3) := by decide +kernel
theorem dX8_goesOn_234 : decode cX8_goesOn 234 = .ok (.iload_n 2, 1) := by decide +kernel
theorem dX8_goesOn_235 : decode cX8_goesOn 235 = .ok (.aload_n 0, 1) := by decide +kernel
theorem dX8_goesOn_236 : decode cX8_goesOn 236 = .ok (.getfield 7, 3) := by decide +kernel
theorem dX8_goesOn_239 : decode cX8_goesOn 239 = .ok (.sipush 230, 3) := by decide +kernel
theorem dX8_goesOn_242 : decode cX8_goesOn 242 = .ok (.iaload, 1) := by decide +kernel
theorem dX8_goesOn_243 : decode cX8_goesOn 243 = .ok (.if_icmp .lt 19, 3) := by decide +kernel
theorem dX8_goesOn_246 : decode cX8_goesOn 246 = .ok (.aload_n 0, 1) := by decide +kernel
theorem dX8_goesOn_247 : decode cX8_goesOn 247 = .ok (.iload_n 1, 1) := by decide +kernel
theorem dX8_goesOn_248 : decode cX8_goesOn 248 = .ok (.invokevirtual 119, 3) := by decide +kernel
theorem dX8_goesOn_251 : decode cX8_goesOn 251 = .ok (.ifCond .eq 11, 3) := by decide +kernel
theorem dX8_goesOn_254 : decode cX8_goesOn 254 = .ok (.aload_n 0, 1) := by decide +kernel
theorem dX8_goesOn_255 : decode cX8_goesOn 255 = .ok (.iload_n 1, 1) := by decide +kernel
theorem dX8_goesOn_256 : decode cX8_goesOn 256 = .ok (.invokevirtual 103, 3) := by decide +kernel
theorem dX8_goesOn_259 : decode cX8_goesOn 259 = .ok (.goto 3, 3) := by decide +kernel
theorem dX8_goesOn_262 : decode cX8_goesOn 262 = .ok (.return_, 1) := by decide +kernel
theorem dX8_tick_0 : decode cX8_tick 0 = .ok (.aload_n 0, 1) := by decide +kernel
theorem dX8_tick_1 : decode cX8_tick 1 = .ok (.aload_n 0, 1) := by decide +kernel
theorem dX8_tick_2 : decode cX8_tick 2 = .ok (.iload_n 1, 1) := by decide +kernel
theorem dX8_tick_3 : decode cX8_tick 3 = .ok (.iconst 1, 1) := by decide +kernel
theorem dX8_tick_4 : decode cX8_tick 4 = .ok (.sipush 200, 3) := by decide +kernel
theorem dX8_tick_7 : decode cX8_tick 7 = .ok (.invokestatic 36, 3) := by decide +kernel
theorem dX8_tick_10 : decode cX8_tick 10 = .ok (.invokevirtual 109, 3) := by decide +kernel
theorem dX8_tick_13 : decode cX8_tick 13 = .ok (.invokevirtual 32, 3) := by decide +kernel
theorem dX8_tick_16 : decode cX8_tick 16 = .ok (.ifCond .eq 5, 3) := by decide +kernel
theorem dX8_tick_19 : decode cX8_tick 19 = .ok (.iconst 0, 1) := by decide +kernel
theorem dX8_tick_20 : decode cX8_tick 20 = .ok (.ireturn, 1) := by decide +kernel
theorem dX8_tick_21 : decode cX8_tick 21 = .ok (.aload_n 0, 1) := by decide +kernel
theorem dX8_tick_22 : decode cX8_tick 22 = .ok (.invokevirtual 44, 3) := by decide +kernel
theorem dX8_tick_25 : decode cX8_tick 25 = .ok (.iconst 0, 1) := by decide +kernel
theorem dX8_tick_26 : decode cX8_tick 26 = .ok (.istore_n 2, 1) := by decide +kernel
theorem dX8_tick_27 : decode cX8_tick 27 = .ok (.iload_n 2, 1) := by decide +kernel
theorem dX8_tick_28 : decode cX8_tick 28 = .ok (.iload_n 1, 1) := by decide +kernel
theorem dX8_tick_29 : decode cX8_tick 29 = .ok (.if_icmp .ge 64, 3) := by decide +kernel
theorem dX8_tick_32 : decode cX8_tick 32 = .ok (.iconst 0, 1) := by decide +kernel
theorem dX8_tick_33 : decode cX8_tick 33 = .ok (.istore_n 3, 1) := by decide +kernel
theorem dX8_tick_34 : decode cX8_tick 34 = .ok (.iload_n 3, 1) := by decide +kernel
theorem dX8_tick_35 : decode cX8_tick 35 = .ok (.aload_n 0, 1) := by decide +kernel
theorem dX8_tick_36 : decode cX8_tick 36 = .ok (.getfield 7, 3) := by decide +kernel
theorem dX8_tick_39 : decode cX8_tick 39 = .ok (.iconst 0, 1) := by decide +kernel
theorem dX8_tick_40 : decode cX8_tick 40 = .ok (.iaload, 1) := by decide +kernel
theorem dX8_tick_41 : decode cX8_tick 41 = .ok (.if_icmp .ge 23, 3) := by decide +kernel
theorem dX8_tick_44 : decode cX8_tick 44 = .ok (.aload_n 0, 1) := by decide +kernel
theorem dX8_tick_45 : decode cX8_tick 45 = .ok (.iload_n 3, 1) := by decide +kernel
theorem dX8_tick_46 : decode cX8_tick 46 = .ok (.iconst 1, 1) := by decide +kernel
theorem dX8_tick_47 : decode cX8_tick 47 = .ok (.aload_n 0, 1) := by decide +kernel
theorem dX8_tick_48 : decode cX8_tick 48 = .ok (.iload_n 3, 1) := by decide +kernel
theorem dX8_tick_49 : decode cX8_tick 49 = .ok (.iconst 1, 1) := by decide +kernel
theorem dX8_tick_50 : decode cX8_tick 50 = .ok (.invokevirtual 60, 3) := by decide +kernel
theorem dX8_tick_53 : decode cX8_tick 53 = .ok (.iconst 1, 1) := by decide +kernel
theorem dX8_tick_54 : decode cX8_tick 54 = .ok (.iadd, 1) := by decide +kernel
theorem dX8_tick_55 : decode cX8_tick 55 = .ok (.invokevirtual 40, 3) := by decide +kernel
theorem dX8_tick_58 : decode cX8_tick 58 = .ok (.iinc 3 1, 3) := by decide +kernel
theorem dX8_tick_61 : decode cX8_tick 61 = .ok (.goto (-27), 3) := by decide +kernel
theorem dX8_tick_64 : decode cX8_tick 64 = .ok (.iconst 0, 1) := by decide +kernel
theorem dX8_tick_65 : decode cX8_tick 65 = .ok (.istore_n 3, 1) := by decide +kernel
theorem dX8_tick_66 : decode cX8_tick 66 = .ok (.iload_n 3, 1) := by decide +kernel
theorem dX8_tick_67 : decode cX8_tick 67 = .ok (.aload_n 0, 1) := by decide +kernel
theorem dX8_tick_68 : decode cX8_tick 68 = .ok (.getfield 7, 3) := by decide +kernel
theorem dX8_tick_71 : decode cX8_tick 71 = .ok (.iconst 0, 1) := by decide +kernel
theorem dX8_tick_72 : decode cX8_tick 72 = .ok (.iaload, 1) := by decide +kernel
theorem dX8_tick_73 : decode cX8_tick 73 = .ok (.if_icmp .ge 14, 3) := by decide +kernel
theorem dX8_tick_76 : decode cX8_tick 76 = .ok (.aload_n 0, 1) := by decide +kernel
theorem dX8_tick_77 : decode cX8_tick 77 = .ok (.iload_n 3, 1) := by decide +kernel
theorem dX8_tick_78 : decode cX8_tick 78 = .ok (.invokevirtual 122, 3) := by decide +kernel
theorem dX8_tick_81 : decode cX8_tick 81 = .ok (.iinc 3 1, 3) := by decide +kernel
theorem dX8_tick_84 : decode cX8_tick 84 = .ok (.goto (-18), 3) := by decide +kernel
theorem dX8_tick_87 : decode cX8_tick 87 = .ok (.iinc 2 1, 3) := by decide +kernel
theorem dX8_tick_90 : decode cX8_tick 90 = .ok (.goto (-63), 3) := by decide +kernel
theorem dX8_tick_93 : decode cX8_tick 93 = .ok (.iconst 0, 1) := by decide +kernel
theorem dX8_tick_94 : decode cX8_tick 94 = .ok (.istore_n 2, 1) := by decide +kernel
theorem dX8_tick_95 : decode cX8_tick 95 = .ok (.iconst 0, 1) := by decide +kernel
theorem dX8_tick_96 : decode cX8_tick 96 = .ok (.istore_n 3, 1) := by decide +kernel
theorem dX8_tick_97 : decode cX8_tick 97 = .ok (.iload_n 3, 1) := by decide +kernel
theorem dX8_tick_98 : decode cX8_tick 98 = .ok (.aload_n 0, 1) := by decide +kernel
theorem dX8_tick_99 : decode cX8_tick 99 = .ok (.getfield 7, 3) := by decide +kernel
theorem dX8_tick_102 : decode cX8_tick 102 = .ok (.iconst 0, 1) := by decide +kernel
theorem dX8_tick_103 : decode cX8_tick 103 = .ok (.iaload, 1) := by decide +kernel
theorem dX8_tick_104 : decode cX8_tick 104 = .ok (.if_icmp .ge 26, 3) := by decide +kernel
theorem dX8_tick_107 : decode cX8_tick 107 = .ok (.iload_n 2, 1) := by decide +kernel
theorem dX8_tick_108 : decode cX8_tick 108 = .ok (.aload_n 0, 1) := by decide +kernel
theorem dX8_tick_109 : decode cX8_tick 109 = .ok (.iload_n 3, 1) := by decide +kernel
theorem dX8_tick_110 : decode cX8_tick 110 = .ok (.iconst 0, 1) := by decide +kernel
theorem dX8_tick_111 : decode cX8_tick 111 = .ok (.invokevirtual 60, 3) := by decide +kernel
theorem dX8_tick_114 : decode cX8_tick 114 = .ok (.ifCond .ne 7, 3) := by decide +kernel
theorem dX8_tick_117 : decode cX8_tick 117 = .ok (.iconst 0, 1) := by decide +kernel
theorem dX8_tick_118 : decode cX8_tick 118 = .ok (.goto 4, 3) := by decide +kernel
theorem dX8_tick_121 : decode cX8_tick 121 = .ok (.iconst 1, 1) := by decide +kernel
theorem dX8_tick_122 : decode cX8_tick 122 = .ok (.iadd, 1) := by decide +kernel
theorem dX8_tick_123 : decode cX8_tick 123 = .ok (.istore_n 2, 1) := by decide +kernel
theorem dX8_tick_124 : decode cX8_tick 124 = .ok (.iinc 3 1, 3) := by decide +kernel
theorem dX8_tick_127 : decode cX8_tick 127 = .ok (.goto (-30), 3) := by decide +kernel
theorem dX8_tick_130 : decode cX8_tick 130 = .ok (.iload_n 2, 1) := by decide +kernel
theorem dX8_tick_131 : decode cX8_tick 131 = .ok (.ireturn, 1) := by decide +kernel
theorem dX8_setLimit_0 : decode cX8_setLimit 0 = .ok (.aload_n 0, 1) := by decide +kernel
theorem dX8_setLimit_1 : decode cX8_setLimit 1 = .ok (.aload_n 0, 1) := by decide +kernel
theorem dX8_setLimit_2 : decode cX8_setLimit 2 = .ok (.iload_n 1, 1) := by decide +kernel
theorem dX8_setLimit_3 : decode cX8_setLimit 3 = .ok (.bipush 10, 2) := by decide +kernel
theorem dX8_setLimit_5 : decode cX8_setLimit 5 = .ok (.sipush 200, 3) := by decide +kernel
theorem dX8_setLimit_8 : decode cX8_setLimit 8 = .ok (.invokestatic 36, 3) := by decide +kernel
theorem dX8_setLimit_11 : decode cX8_setLimit 11 = .ok (.invokevirtual 109, 3) := by decide +kernel
theorem dX8_setLimit_14 : decode cX8_setLimit 14 = .ok (.invokevirtual 32, 3) := by decide +kernel
theorem dX8_setLimit_17 : decode cX8_setLimit 17 = .ok (.ifCond .eq 5, 3) := by decide +kernel
theorem dX8_setLimit_20 : decode cX8_setLimit 20 = .ok (.iconst 0, 1) := by decide +kernel
theorem dX8_setLimit_21 : decode cX8_setLimit 21 = .ok (.ireturn, 1) := by decide +kernel
theorem dX8_setLimit_22 : decode cX8_setLimit 22 = .ok (.aload_n 0, 1) := by decide +kernel
theorem dX8_setLimit_23 : decode cX8_setLimit 23 = .ok (.invokevirtual 44, 3) := by decide +kernel
theorem dX8_setLimit_26 : decode cX8_setLimit 26 = .ok (.aload_n 0, 1) := by decide +kernel
theorem dX8_setLimit_27 : decode cX8_setLimit 27 = .ok (.getfield 7, 3) := by decide +kernel
theorem dX8_setLimit_30 : decode cX8_setLimit 30 = .ok (.sipush 230, 3) := by decide +kernel
theorem dX8_setLimit_33 : decode cX8_setLimit 33 = .ok (.iaload, 1) := by decide +kernel
theorem dX8_setLimit_34 : decode cX8_setLimit 34 = .ok (.istore_n 2, 1) := by decide +kernel
theorem dX8_setLimit_35 : decode cX8_setLimit 35 = .ok (.aload_n 0, 1) := by decide +kernel
theorem dX8_setLimit_36 : decode cX8_setLimit 36 = .ok (.getfield 7, 3) := by decide +kernel
theorem dX8_setLimit_39 : decode cX8_setLimit 39 = .ok (.sipush 230, 3) := by decide +kernel
theorem dX8_setLimit_42 : decode cX8_setLimit 42 = .ok (.iload_n 1, 1) := by decide +kernel
theorem dX8_setLimit_43 : decode cX8_setLimit 43 = .ok (.iastore, 1) := by decide +kernel
theorem dX8_setLimit_44 : decode cX8_setLimit 44 = .ok (.iload_n 2, 1) := by decide +kernel
theorem dX8_setLimit_45 : decode cX8_setLimit 45 = .ok (.ireturn, 1) := by decide +kernel
theorem dX8_told__0 : decode cX8_told_ 0 = .ok (.aload_n 0, 1) := by decide +kernel
theorem dX8_told__1 : decode cX8_told_ 1 = .ok (.aload_n 0, 1) := by decide +kernel
theorem dX8_told__2 : decode cX8_told_ 2 = .ok (.iload_n 1, 1) := by decide +kernel
theorem dX8_told__3 : decode cX8_told_ 3 = .ok (.iconst 0, 1) := by decide +kernel
theorem dX8_told__4 : decode cX8_told_ 4 = .ok (.iconst 5, 1) := by decide +kernel
theorem dX8_told__5 : decode cX8_told_ 5 = .ok (.invokestatic 36, 3) := by decide +kernel
theorem dX8_told__8 : decode cX8_told_ 8 = .ok (.invokevirtual 109, 3) := by decide +kernel
theorem dX8_told__11 : decode cX8_told_ 11 = .ok (.invokevirtual 32, 3) := by decide +kernel
theorem dX8_told__14 : decode cX8_told_ 14 = .ok (.ifCond .eq 7, 3) := by decide +kernel
theorem dX8_told__17 : decode cX8_told_ 17 = .ok (.iconst 0, 1) := by decide +kernel
theorem dX8_told__18 : decode cX8_told_ 18 = .ok (.goto 13, 3) := by decide +kernel
theorem dX8_told__21 : decode cX8_told_ 21 = .ok (.aload_n 0, 1) := by decide +kernel
theorem dX8_told__22 : decode cX8_told_ 22 = .ok (.getfield 7, 3) := by decide +kernel
theorem dX8_told__25 : decode cX8_told_ 25 = .ok (.sipush 231, 3) := by decide +kernel
theorem dX8_told__28 : decode cX8_told_ 28 = .ok (.iload_n 1, 1) := by decide +kernel
theorem dX8_told__29 : decode cX8_told_ 29 = .ok (.iadd, 1) := by decide +kernel
theorem dX8_told__30 : decode cX8_told_ 30 = .ok (.iaload, 1) := by decide +kernel
theorem dX8_told__31 : decode cX8_told_ 31 = .ok (.ireturn, 1) := by decide +kernel
theorem dX8_ringsOf_0 : decode cX8_ringsOf 0 = .ok (.iconst 0, 1) := by decide +kernel
theorem dX8_ringsOf_1 : decode cX8_ringsOf 1 = .ok (.istore_n 1, 1) := by decide +kernel
theorem dX8_ringsOf_2 : decode cX8_ringsOf 2 = .ok (.iload_n 0, 1) := by decide +kernel
theorem dX8_ringsOf_3 : decode cX8_ringsOf 3 = .ok (.iconst 1, 1) := by decide +kernel
theorem dX8_ringsOf_4 : decode cX8_ringsOf 4 = .ok (.iadd, 1) := by decide +kernel
theorem dX8_ringsOf_5 : decode cX8_ringsOf 5 = .ok (.istore_n 2, 1) := by decide +kernel
theorem dX8_ringsOf_6 : decode cX8_ringsOf 6 = .ok (.iload_n 2, 1) := by decide +kernel
theorem dX8_ringsOf_7 : decode cX8_ringsOf 7 = .ok (.iconst 1, 1) := by decide +kernel
theorem dX8_ringsOf_8 : decode cX8_ringsOf 8 = .ok (.if_icmp .le 13, 3) := by decide +kernel
theorem dX8_ringsOf_11 : decode cX8_ringsOf 11 = .ok (.iinc 1 1, 3) := by decide +kernel
theorem dX8_ringsOf_14 : decode cX8_ringsOf 14 = .ok (.iload_n 2, 1) := by decide +kernel
theorem dX8_ringsOf_15 : decode cX8_ringsOf 15 = .ok (.iconst 2, 1) := by decide +kernel
theorem dX8_ringsOf_16 : decode cX8_ringsOf 16 = .ok (.idiv, 1) := by decide +kernel
theorem dX8_ringsOf_17 : decode cX8_ringsOf 17 = .ok (.istore_n 2, 1) := by decide +kernel
theorem dX8_ringsOf_18 : decode cX8_ringsOf 18 = .ok (.goto (-12), 3) := by decide +kernel
theorem dX8_ringsOf_21 : decode cX8_ringsOf 21 = .ok (.iload_n 1, 1) := by decide +kernel
theorem dX8_ringsOf_22 : decode cX8_ringsOf 22 = .ok (.ireturn, 1) := by decide +kernel
theorem dX8_ringOf_0 : decode cX8_ringOf 0 = .ok (.iload_n 0, 1) := by decide +kernel
theorem dX8_ringOf_1 : decode cX8_ringOf 1 = .ok (.iconst 1, 1) := by decide +kernel
theorem dX8_ringOf_2 : decode cX8_ringOf 2 = .ok (.iadd, 1) := by decide +kernel
theorem dX8_ringOf_3 : decode cX8_ringOf 3 = .ok (.iload_n 0, 1) := by decide +kernel
theorem dX8_ringOf_4 : decode cX8_ringOf 4 = .ok (.invokestatic 125, 3) := by decide +kernel
theorem dX8_ringOf_7 : decode cX8_ringOf 7 = .ok (.iconst 1, 1) := by decide +kernel
theorem dX8_ringOf_8 : decode cX8_ringOf 8 = .ok (.isub, 1) := by decide +kernel
theorem dX8_ringOf_9 : decode cX8_ringOf 9 = .ok (.iload_n 1, 1) := by decide +kernel
theorem dX8_ringOf_10 : decode cX8_ringOf 10 = .ok (.isub, 1) := by decide +kernel
theorem dX8_ringOf_11 : decode cX8_ringOf 11 = .ok (.ishr, 1) := by decide +kernel
theorem dX8_ringOf_12 : decode cX8_ringOf 12 = .ok (.iconst 1, 1) := by decide +kernel
theorem dX8_ringOf_13 : decode cX8_ringOf 13 = .ok (.iand, 1) := by decide +kernel
theorem dX8_ringOf_14 : decode cX8_ringOf 14 = .ok (.ireturn, 1) := by decide +kernel
theorem dX8_lengthOf_0 : decode cX8_lengthOf 0 = .ok (.iload_n 0, 1) := by decide +kernel
theorem dX8_lengthOf_1 : decode cX8_lengthOf 1 = .ok (.invokestatic 125, 3) := by decide +kernel
theorem dX8_lengthOf_4 : decode cX8_lengthOf 4 = .ok (.istore_n 1, 1) := by decide +kernel
theorem dX8_lengthOf_5 : decode cX8_lengthOf 5 = .ok (.iload_n 1, 1) := by decide +kernel
theorem dX8_lengthOf_6 : decode cX8_lengthOf 6 = .ok (.iconst 1, 1) := by decide +kernel
theorem dX8_lengthOf_7 : decode cX8_lengthOf 7 = .ok (.isub, 1) := by decide +kernel
theorem dX8_lengthOf_8 : decode cX8_lengthOf 8 = .ok (.iconst 4, 1) := by decide +kernel
theorem dX8_lengthOf_9 : decode cX8_lengthOf 9 = .ok (.iadd, 1) := by decide +kernel
theorem dX8_lengthOf_10 : decode cX8_lengthOf 10 = .ok (.istore_n 2, 1) := by decide +kernel
theorem dX8_lengthOf_11 : decode cX8_lengthOf 11 = .ok (.iconst 0, 1) := by decide +kernel
theorem dX8_lengthOf_12 : decode cX8_lengthOf 12 = .ok (.istore_n 3, 1) := by decide +kernel
theorem dX8_lengthOf_13 : decode cX8_lengthOf 13 = .ok (.iload_n 3, 1) := by decide +kernel
theorem dX8_lengthOf_14 : decode cX8_lengthOf 14 = .ok (.iload_n 1, 1) := by decide +kernel
theorem dX8_lengthOf_15 : decode cX8_lengthOf 15 = .ok (.if_icmp .ge 26, 3) := by decide +kernel
theorem dX8_lengthOf_18 : decode cX8_lengthOf 18 = .ok (.iload_n 2, 1) := by decide +kernel
theorem dX8_lengthOf_19 : decode cX8_lengthOf 19 = .ok (.iload_n 0, 1) := by decide +kernel
theorem dX8_lengthOf_20 : decode cX8_lengthOf 20 = .ok (.iload_n 3, 1) := by decide +kernel
theorem dX8_lengthOf_21 : decode cX8_lengthOf 21 = .ok (.invokestatic 128, 3) := by decide +kernel
theorem dX8_lengthOf_24 : decode cX8_lengthOf 24 = .ok (.iconst 1, 1) := by decide +kernel
theorem dX8_lengthOf_25 : decode cX8_lengthOf 25 = .ok (.if_icmp .ne 7, 3) := by decide +kernel
theorem dX8_lengthOf_28 : decode cX8_lengthOf 28 = .ok (.iconst 3, 1) := by decide +kernel
theorem dX8_lengthOf_29 : decode cX8_lengthOf 29 = .ok (.goto 4, 3) := by decide +kernel
theorem dX8_lengthOf_32 : decode cX8_lengthOf 32 = .ok (.iconst 1, 1) := by decide +kernel
theorem dX8_lengthOf_33 : decode cX8_lengthOf 33 = .ok (.iadd, 1) := by decide +kernel
theorem dX8_lengthOf_34 : decode cX8_lengthOf 34 = .ok (.istore_n 2, 1) := by decide +kernel
theorem dX8_lengthOf_35 : decode cX8_lengthOf 35 = .ok (.iinc 3 1, 3) := by decide +kernel
theorem dX8_lengthOf_38 : decode cX8_lengthOf 38 = .ok (.goto (-25), 3) := by decide +kernel
theorem dX8_lengthOf_41 : decode cX8_lengthOf 41 = .ok (.iload_n 2, 1) := by decide +kernel
theorem dX8_lengthOf_42 : decode cX8_lengthOf 42 = .ok (.ireturn, 1) := by decide +kernel
theorem dX8_bothLengths_0 : decode cX8_bothLengths 0 = .ok (.aload_n 0, 1) := by decide +kernel
theorem dX8_bothLengths_1 : decode cX8_bothLengths 1 = .ok (.aload_n 0, 1) := by decide +kernel
theorem dX8_bothLengths_2 : decode cX8_bothLengths 2 = .ok (.iload_n 1, 1) := by decide +kernel
theorem dX8_bothLengths_3 : decode cX8_bothLengths 3 = .ok (.iconst 2, 1) := by decide +kernel
theorem dX8_bothLengths_4 : decode cX8_bothLengths 4 = .ok (.invokevirtual 60, 3) := by decide +kernel
theorem dX8_bothLengths_7 : decode cX8_bothLengths 7 = .ok (.iconst 2, 1) := by decide +kernel
theorem dX8_bothLengths_8 : decode cX8_bothLengths 8 = .ok (.invokevirtual 47, 3) := by decide +kernel
theorem dX8_bothLengths_11 : decode cX8_bothLengths 11 = .ok (.invokestatic 113, 3) := by decide +kernel
theorem dX8_bothLengths_14 : decode cX8_bothLengths 14 = .ok (.aload_n 0, 1) := by decide +kernel
theorem dX8_bothLengths_15 : decode cX8_bothLengths 15 = .ok (.aload_n 0, 1) := by decide +kernel
theorem dX8_bothLengths_16 : decode cX8_bothLengths 16 = .ok (.iload_n 1, 1) := by decide +kernel
theorem dX8_bothLengths_17 : decode cX8_bothLengths 17 = .ok (.iconst 3, 1) := by decide +kernel
theorem dX8_bothLengths_18 : decode cX8_bothLengths 18 = .ok (.invokevirtual 60, 3) := by decide +kernel
theorem dX8_bothLengths_21 : decode cX8_bothLengths 21 = .ok (.iconst 2, 1) := by decide +kernel
theorem dX8_bothLengths_22 : decode cX8_bothLengths 22 = .ok (.invokevirtual 47, 3) := by decide +kernel
theorem dX8_bothLengths_25 : decode cX8_bothLengths 25 = .ok (.invokestatic 113, 3) := by decide +kernel
theorem dX8_bothLengths_28 : decode cX8_bothLengths 28 = .ok (.iadd, 1) := by decide +kernel
theorem dX8_bothLengths_29 : decode cX8_bothLengths 29 = .ok (.ireturn, 1) := by decide +kernel
theorem dX8_heard_0 : decode cX8_heard 0 = .ok (.iconst 0, 1) := by decide +kernel
theorem dX8_heard_1 : decode cX8_heard 1 = .ok (.istore_n 2, 1) := by decide +kernel
theorem dX8_heard_2 : decode cX8_heard 2 = .ok (.iconst 0, 1) := by decide +kernel
theorem dX8_heard_3 : decode cX8_heard 3 = .ok (.istore_n 3, 1) := by decide +kernel
theorem dX8_heard_4 : decode cX8_heard 4 = .ok (.iload_n 3, 1) := by decide +kernel
theorem dX8_heard_5 : decode cX8_heard 5 = .ok (.iload_n 0, 1) := by decide +kernel
theorem dX8_heard_6 : decode cX8_heard 6 = .ok (.invokestatic 125, 3) := by decide +kernel
theorem dX8_heard_9 : decode cX8_heard 9 = .ok (.if_icmp .ge 58, 3) := by decide +kernel
theorem dX8_heard_12 : decode cX8_heard 12 = .ok (.iload_n 0, 1) := by decide +kernel
theorem dX8_heard_13 : decode cX8_heard 13 = .ok (.iload_n 3, 1) := by decide +kernel
theorem dX8_heard_14 : decode cX8_heard 14 = .ok (.invokestatic 128, 3) := by decide +kernel
theorem dX8_heard_17 : decode cX8_heard 17 = .ok (.iconst 1, 1) := by decide +kernel
theorem dX8_heard_18 : decode cX8_heard 18 = .ok (.if_icmp .ne 7, 3) := by decide +kernel
theorem dX8_heard_21 : decode cX8_heard 21 = .ok (.iconst 3, 1) := by decide +kernel
theorem dX8_heard_22 : decode cX8_heard 22 = .ok (.goto 4, 3) := by decide +kernel
theorem dX8_heard_25 : decode cX8_heard 25 = .ok (.iconst 1, 1) := by decide +kernel
theorem dX8_heard_26 : decode cX8_heard 26 = .ok (.istore 4, 2) := by decide +kernel
theorem dX8_heard_28 : decode cX8_heard 28 = .ok (.iload_n 1, 1) := by decide +kernel
theorem dX8_heard_29 : decode cX8_heard 29 = .ok (.iload_n 2, 1) := by decide +kernel
theorem dX8_heard_30 : decode cX8_heard 30 = .ok (.iload_n 2, 1) := by decide +kernel
theorem dX8_heard_31 : decode cX8_heard 31 = .ok (.iload 4, 2) := by decide +kernel
theorem dX8_heard_33 : decode cX8_heard 33 = .ok (.iadd, 1) := by decide +kernel
theorem dX8_heard_34 : decode cX8_heard 34 = .ok (.iconst 1, 1) := by decide +kernel
theorem dX8_heard_35 : decode cX8_heard 35 = .ok (.isub, 1) := by decide +kernel
theorem dX8_heard_36 : decode cX8_heard 36 = .ok (.invokestatic 36, 3) := by decide +kernel
theorem dX8_heard_39 : decode cX8_heard 39 = .ok (.ifCond .eq 15, 3) := by decide +kernel
theorem dX8_heard_42 : decode cX8_heard 42 = .ok (.iload 4, 2) := by decide +kernel
theorem dX8_heard_44 : decode cX8_heard 44 = .ok (.iconst 3, 1) := by decide +kernel
theorem dX8_heard_45 : decode cX8_heard 45 = .ok (.if_icmp .ne 7, 3) := by decide +kernel
theorem dX8_heard_48 : decode cX8_heard 48 = .ok (.iconst 2, 1) := by decide +kernel
theorem dX8_heard_49 : decode cX8_heard 49 = .ok (.goto 4, 3) := by decide +kernel
theorem dX8_heard_52 : decode cX8_heard 52 = .ok (.iconst 1, 1) := by decide +kernel
theorem dX8_heard_53 : decode cX8_heard 53 = .ok (.ireturn, 1) := by decide +kernel
theorem dX8_heard_54 : decode cX8_heard 54 = .ok (.iload_n 2, 1) := by decide +kernel
theorem dX8_heard_55 : decode cX8_heard 55 = .ok (.iload 4, 2) := by decide +kernel
theorem dX8_heard_57 : decode cX8_heard 57 = .ok (.iconst 1, 1) := by decide +kernel
theorem dX8_heard_58 : decode cX8_heard 58 = .ok (.iadd, 1) := by decide +kernel
theorem dX8_heard_59 : decode cX8_heard 59 = .ok (.iadd, 1) := by decide +kernel
theorem dX8_heard_60 : decode cX8_heard 60 = .ok (.istore_n 2, 1) := by decide +kernel
theorem dX8_heard_61 : decode cX8_heard 61 = .ok (.iinc 3 1, 3) := by decide +kernel
theorem dX8_heard_64 : decode cX8_heard 64 = .ok (.goto (-60), 3) := by decide +kernel
theorem dX8_heard_67 : decode cX8_heard 67 = .ok (.iconst 0, 1) := by decide +kernel
theorem dX8_heard_68 : decode cX8_heard 68 = .ok (.ireturn, 1) := by decide +kernel
theorem dX8_heardIn_0 : decode cX8_heardIn 0 = .ok (.aload_n 0, 1) := by decide +kernel
theorem dX8_heardIn_1 : decode cX8_heardIn 1 = .ok (.iload_n 1, 1) := by decide +kernel
theorem dX8_heardIn_2 : decode cX8_heardIn 2 = .ok (.iconst 1, 1) := by decide +kernel
theorem dX8_heardIn_3 : decode cX8_heardIn 3 = .ok (.invokevirtual 60, 3) := by decide +kernel
theorem dX8_heardIn_6 : decode cX8_heardIn 6 = .ok (.istore_n 2, 1) := by decide +kernel
theorem dX8_heardIn_7 : decode cX8_heardIn 7 = .ok (.aload_n 0, 1) := by decide +kernel
theorem dX8_heardIn_8 : decode cX8_heardIn 8 = .ok (.iload_n 1, 1) := by decide +kernel
theorem dX8_heardIn_9 : decode cX8_heardIn 9 = .ok (.iconst 0, 1) := by decide +kernel
theorem dX8_heardIn_10 : decode cX8_heardIn 10 = .ok (.invokevirtual 60, 3) := by decide +kernel
theorem dX8_heardIn_13 : decode cX8_heardIn 13 = .ok (.iconst 3, 1) := by decide +kernel
theorem dX8_heardIn_14 : decode cX8_heardIn 14 = .ok (.if_icmp .ne 26, 3) := by decide +kernel
theorem dX8_heardIn_17 : decode cX8_heardIn 17 = .ok (.aload_n 0, 1) := by decide +kernel
theorem dX8_heardIn_18 : decode cX8_heardIn 18 = .ok (.aload_n 0, 1) := by decide +kernel
theorem dX8_heardIn_19 : decode cX8_heardIn 19 = .ok (.iload_n 1, 1) := by decide +kernel
theorem dX8_heardIn_20 : decode cX8_heardIn 20 = .ok (.iconst 2, 1) := by decide +kernel
theorem dX8_heardIn_21 : decode cX8_heardIn 21 = .ok (.invokevirtual 60, 3) := by decide +kernel
theorem dX8_heardIn_24 : decode cX8_heardIn 24 = .ok (.iconst 2, 1) := by decide +kernel
theorem dX8_heardIn_25 : decode cX8_heardIn 25 = .ok (.invokevirtual 47, 3) := by decide +kernel
theorem dX8_heardIn_28 : decode cX8_heardIn 28 = .ok (.istore_n 3, 1) := by decide +kernel
theorem dX8_heardIn_29 : decode cX8_heardIn 29 = .ok (.iload_n 3, 1) := by decide +kernel
theorem dX8_heardIn_30 : decode cX8_heardIn 30 = .ok (.iload_n 2, 1) := by decide +kernel
theorem dX8_heardIn_31 : decode cX8_heardIn 31 = .ok (.iload_n 3, 1) := by decide +kernel
theorem dX8_heardIn_32 : decode cX8_heardIn 32 = .ok (.invokestatic 113, 3) := by decide +kernel
theorem dX8_heardIn_35 : decode cX8_heardIn 35 = .ok (.irem, 1) := by decide +kernel
theorem dX8_heardIn_36 : decode cX8_heardIn 36 = .ok (.invokestatic 131, 3) := by decide +kernel
theorem dX8_heardIn_39 : decode cX8_heardIn 39 = .ok (.ireturn, 1) := by decide +kernel
theorem dX8_heardIn_40 : decode cX8_heardIn 40 = .ok (.aload_n 0, 1) := by decide +kernel
theorem dX8_heardIn_41 : decode cX8_heardIn 41 = .ok (.iload_n 1, 1) := by decide +kernel
theorem dX8_heardIn_42 : decode cX8_heardIn 42 = .ok (.iconst 0, 1) := by decide +kernel
theorem dX8_heardIn_43 : decode cX8_heardIn 43 = .ok (.invokevirtual 60, 3) := by decide +kernel
theorem dX8_heardIn_46 : decode cX8_heardIn 46 = .ok (.bipush 7, 2) := by decide +kernel
theorem dX8_heardIn_48 : decode cX8_heardIn 48 = .ok (.if_icmp .eq 5, 3) := by decide +kernel
theorem dX8_heardIn_51 : decode cX8_heardIn 51 = .ok (.iconst 0, 1) := by decide +kernel
theorem dX8_heardIn_52 : decode cX8_heardIn 52 = .ok (.ireturn, 1) := by decide +kernel
theorem dX8_heardIn_53 : decode cX8_heardIn 53 = .ok (.aload_n 0, 1) := by decide +kernel
theorem dX8_heardIn_54 : decode cX8_heardIn 54 = .ok (.aload_n 0, 1) := by decide +kernel
theorem dX8_heardIn_55 : decode cX8_heardIn 55 = .ok (.iload_n 1, 1) := by decide +kernel
theorem dX8_heardIn_56 : decode cX8_heardIn 56 = .ok (.iconst 3, 1) := by decide +kernel
theorem dX8_heardIn_57 : decode cX8_heardIn 57 = .ok (.invokevirtual 60, 3) := by decide +kernel
theorem dX8_heardIn_60 : decode cX8_heardIn 60 = .ok (.iconst 2, 1) := by decide +kernel
theorem dX8_heardIn_61 : decode cX8_heardIn 61 = .ok (.invokevirtual 47, 3) := by decide +kernel
theorem dX8_heardIn_64 : decode cX8_heardIn 64 = .ok (.istore_n 3, 1) := by decide +kernel
theorem dX8_heardIn_65 : decode cX8_heardIn 65 = .ok (.iload_n 2, 1) := by decide +kernel
theorem dX8_heardIn_66 : decode cX8_heardIn 66 = .ok (.aload_n 0, 1) := by decide +kernel
theorem dX8_heardIn_67 : decode cX8_heardIn 67 = .ok (.iload_n 1, 1) := by decide +kernel
theorem dX8_heardIn_68 : decode cX8_heardIn 68 = .ok (.invokevirtual 116, 3) := by decide +kernel
theorem dX8_heardIn_71 : decode cX8_heardIn 71 = .ok (.irem, 1) := by decide +kernel
theorem dX8_heardIn_72 : decode cX8_heardIn 72 = .ok (.istore 4, 2) := by decide +kernel
theorem dX8_heardIn_74 : decode cX8_heardIn 74 = .ok (.iload 4, 2) := by decide +kernel
theorem dX8_heardIn_76 : decode cX8_heardIn 76 = .ok (.iload_n 3, 1) := by decide +kernel
theorem dX8_heardIn_77 : decode cX8_heardIn 77 = .ok (.invokestatic 113, 3) := by decide +kernel
theorem dX8_heardIn_80 : decode cX8_heardIn 80 = .ok (.if_icmp .ge 12, 3) := by decide +kernel
theorem dX8_heardIn_83 : decode cX8_heardIn 83 = .ok (.iload_n 3, 1) := by decide +kernel
theorem dX8_heardIn_84 : decode cX8_heardIn 84 = .ok (.iload 4, 2) := by decide +kernel
theorem dX8_heardIn_86 : decode cX8_heardIn 86 = .ok (.invokestatic 131, 3) := by decide +kernel
theorem dX8_heardIn_89 : decode cX8_heardIn 89 = .ok (.goto 24, 3) := by decide +kernel
theorem dX8_heardIn_92 : decode cX8_heardIn 92 = .ok (.aload_n 0, 1) := by decide +kernel
theorem dX8_heardIn_93 : decode cX8_heardIn 93 = .ok (.aload_n 0, 1) := by decide +kernel
theorem dX8_heardIn_94 : decode cX8_heardIn 94 = .ok (.iload_n 1, 1) := by decide +kernel
theorem dX8_heardIn_95 : decode cX8_heardIn 95 = .ok (.iconst 2, 1) := by decide +kernel
theorem dX8_heardIn_96 : decode cX8_heardIn 96 = .ok (.invokevirtual 60, 3) := by decide +kernel
theorem dX8_heardIn_99 : decode cX8_heardIn 99 = .ok (.iconst 2, 1) := by decide +kernel
theorem dX8_heardIn_100 : decode cX8_heardIn 100 = .ok (.invokevirtual 47, 3) := by decide +kernel
theorem dX8_heardIn_103 : decode cX8_heardIn 103 = .ok (.iload 4, 2) := by decide +kernel
theorem dX8_heardIn_105 : decode cX8_heardIn 105 = .ok (.iload_n 3, 1) := by decide +kernel
theorem dX8_heardIn_106 : decode cX8_heardIn 106 = .ok (.invokestatic 113, 3) := by decide +kernel
theorem dX8_heardIn_109 : decode cX8_heardIn 109 = .ok (.isub, 1) := by decide +kernel
theorem dX8_heardIn_110 : decode cX8_heardIn 110 = .ok (.invokestatic 131, 3) := by decide +kernel
theorem dX8_heardIn_113 : decode cX8_heardIn 113 = .ok (.ireturn, 1) := by decide +kernel
theorem dX8_rings_0 : decode cX8_rings 0 = .ok (.aload_n 0, 1) := by decide +kernel
theorem dX8_rings_1 : decode cX8_rings 1 = .ok (.aload_n 0, 1) := by decide +kernel
theorem dX8_rings_2 : decode cX8_rings 2 = .ok (.aload_n 0, 1) := by decide +kernel
theorem dX8_rings_3 : decode cX8_rings 3 = .ok (.iload_n 1, 1) := by decide +kernel
theorem dX8_rings_4 : decode cX8_rings 4 = .ok (.invokevirtual 51, 3) := by decide +kernel
theorem dX8_rings_7 : decode cX8_rings 7 = .ok (.invokevirtual 109, 3) := by decide +kernel
theorem dX8_rings_10 : decode cX8_rings 10 = .ok (.invokevirtual 32, 3) := by decide +kernel
theorem dX8_rings_13 : decode cX8_rings 13 = .ok (.ifCond .eq 7, 3) := by decide +kernel
theorem dX8_rings_16 : decode cX8_rings 16 = .ok (.iconst 0, 1) := by decide +kernel
theorem dX8_rings_17 : decode cX8_rings 17 = .ok (.goto 8, 3) := by decide +kernel
theorem dX8_rings_20 : decode cX8_rings 20 = .ok (.aload_n 0, 1) := by decide +kernel
theorem dX8_rings_21 : decode cX8_rings 21 = .ok (.iload_n 1, 1) := by decide +kernel
theorem dX8_rings_22 : decode cX8_rings 22 = .ok (.invokevirtual 134, 3) := by decide +kernel
theorem dX8_rings_25 : decode cX8_rings 25 = .ok (.ireturn, 1) := by decide +kernel
theorem dX8_isCode_0 : decode cX8_isCode 0 = .ok (.iload_n 0, 1) := by decide +kernel
theorem dX8_isCode_1 : decode cX8_isCode 1 = .ok (.iconst 1, 1) := by decide +kernel
theorem dX8_isCode_2 : decode cX8_isCode 2 = .ok (.bipush 14, 2) := by decide +kernel
theorem dX8_isCode_4 : decode cX8_isCode 4 = .ok (.invokestatic 36, 3) := by decide +kernel
theorem dX8_isCode_7 : decode cX8_isCode 7 = .ok (.ireturn, 1) := by decide +kernel
theorem dX8_codeLength_0 : decode cX8_codeLength 0 = .ok (.aload_n 0, 1) := by decide +kernel
theorem dX8_codeLength_1 : decode cX8_codeLength 1 = .ok (.aload_n 0, 1) := by decide +kernel
theorem dX8_codeLength_2 : decode cX8_codeLength 2 = .ok (.iload_n 1, 1) := by decide +kernel
theorem dX8_codeLength_3 : decode cX8_codeLength 3 = .ok (.invokestatic 137, 3) := by decide +kernel
theorem dX8_codeLength_6 : decode cX8_codeLength 6 = .ok (.invokevirtual 109, 3) := by decide +kernel
theorem dX8_codeLength_9 : decode cX8_codeLength 9 = .ok (.invokevirtual 32, 3) := by decide +kernel
theorem dX8_codeLength_12 : decode cX8_codeLength 12 = .ok (.ifCond .eq 7, 3) := by decide +kernel
theorem dX8_codeLength_15 : decode cX8_codeLength 15 = .ok (.iconst 0, 1) := by decide +kernel
theorem dX8_codeLength_16 : decode cX8_codeLength 16 = .ok (.goto 7, 3) := by decide +kernel
theorem dX8_codeLength_19 : decode cX8_codeLength 19 = .ok (.iload_n 1, 1) := by decide +kernel
theorem dX8_codeLength_20 : decode cX8_codeLength 20 = .ok (.invokestatic 113, 3) := by decide +kernel
theorem dX8_codeLength_23 : decode cX8_codeLength 23 = .ok (.ireturn, 1) := by decide +kernel
theorem dX8_codeRing_0 : decode cX8_codeRing 0 = .ok (.aload_n 0, 1) := by decide +kernel
theorem dX8_codeRing_1 : decode cX8_codeRing 1 = .ok (.aload_n 0, 1) := by decide +kernel
theorem dX8_codeRing_2 : decode cX8_codeRing 2 = .ok (.iload_n 1, 1) := by decide +kernel
theorem dX8_codeRing_3 : decode cX8_codeRing 3 = .ok (.invokestatic 137, 3) := by decide +kernel
theorem dX8_codeRing_6 : decode cX8_codeRing 6 = .ok (.invokevirtual 109, 3) := by decide +kernel
theorem dX8_codeRing_9 : decode cX8_codeRing 9 = .ok (.invokevirtual 32, 3) := by decide +kernel
theorem dX8_codeRing_12 : decode cX8_codeRing 12 = .ok (.ifCond .eq 5, 3) := by decide +kernel
theorem dX8_codeRing_15 : decode cX8_codeRing 15 = .ok (.iconst 0, 1) := by decide +kernel
theorem dX8_codeRing_16 : decode cX8_codeRing 16 = .ok (.ireturn, 1) := by decide +kernel
theorem dX8_codeRing_17 : decode cX8_codeRing 17 = .ok (.iload_n 2, 1) := by decide +kernel
theorem dX8_codeRing_18 : decode cX8_codeRing 18 = .ok (.iconst 0, 1) := by decide +kernel
theorem dX8_codeRing_19 : decode cX8_codeRing 19 = .ok (.iload_n 1, 1) := by decide +kernel
theorem dX8_codeRing_20 : decode cX8_codeRing 20 = .ok (.invokestatic 125, 3) := by decide +kernel
theorem dX8_codeRing_23 : decode cX8_codeRing 23 = .ok (.iconst 1, 1) := by decide +kernel
theorem dX8_codeRing_24 : decode cX8_codeRing 24 = .ok (.isub, 1) := by decide +kernel
theorem dX8_codeRing_25 : decode cX8_codeRing 25 = .ok (.invokestatic 36, 3) := by decide +kernel
theorem dX8_codeRing_28 : decode cX8_codeRing 28 = .ok (.ifCond .eq 11, 3) := by decide +kernel
theorem dX8_codeRing_31 : decode cX8_codeRing 31 = .ok (.iload_n 1, 1) := by decide +kernel
theorem dX8_codeRing_32 : decode cX8_codeRing 32 = .ok (.iload_n 2, 1) := by decide +kernel
theorem dX8_codeRing_33 : decode cX8_codeRing 33 = .ok (.invokestatic 128, 3) := by decide +kernel
theorem dX8_codeRing_36 : decode cX8_codeRing 36 = .ok (.goto 4, 3) := by decide +kernel
theorem dX8_codeRing_39 : decode cX8_codeRing 39 = .ok (.iconst (-1), 1) := by decide +kernel
theorem dX8_codeRing_40 : decode cX8_codeRing 40 = .ok (.ireturn, 1) := by decide +kernel
theorem dX8_costOf_0 : decode cX8_costOf 0 = .ok (.iconst 0, 1) := by decide +kernel
theorem dX8_costOf_1 : decode cX8_costOf 1 = .ok (.istore_n 2, 1) := by decide +kernel
theorem dX8_costOf_2 : decode cX8_costOf 2 = .ok (.iconst 0, 1) := by decide +kernel
theorem dX8_costOf_3 : decode cX8_costOf 3 = .ok (.istore_n 3, 1) := by decide +kernel
theorem dX8_costOf_4 : decode cX8_costOf 4 = .ok (.iload_n 3, 1) := by decide +kernel
theorem dX8_costOf_5 : decode cX8_costOf 5 = .ok (.aload_n 0, 1) := by decide +kernel
theorem dX8_costOf_6 : decode cX8_costOf 6 = .ok (.getfield 7, 3) := by decide +kernel
theorem dX8_costOf_9 : decode cX8_costOf 9 = .ok (.bipush 101, 2) := by decide +kernel
theorem dX8_costOf_11 : decode cX8_costOf 11 = .ok (.iaload, 1) := by decide +kernel
theorem dX8_costOf_12 : decode cX8_costOf 12 = .ok (.if_icmp .ge 42, 3) := by decide +kernel
theorem dX8_costOf_15 : decode cX8_costOf 15 = .ok (.iload_n 2, 1) := by decide +kernel
theorem dX8_costOf_16 : decode cX8_costOf 16 = .ok (.aload_n 0, 1) := by decide +kernel
theorem dX8_costOf_17 : decode cX8_costOf 17 = .ok (.iload_n 3, 1) := by decide +kernel
theorem dX8_costOf_18 : decode cX8_costOf 18 = .ok (.iconst 0, 1) := by decide +kernel
theorem dX8_costOf_19 : decode cX8_costOf 19 = .ok (.invokevirtual 47, 3) := by decide +kernel
theorem dX8_costOf_22 : decode cX8_costOf 22 = .ok (.iload_n 1, 1) := by decide +kernel
theorem dX8_costOf_23 : decode cX8_costOf 23 = .ok (.if_icmp .ne 22, 3) := by decide +kernel
theorem dX8_costOf_26 : decode cX8_costOf 26 = .ok (.aload_n 0, 1) := by decide +kernel
theorem dX8_costOf_27 : decode cX8_costOf 27 = .ok (.iload_n 3, 1) := by decide +kernel
theorem dX8_costOf_28 : decode cX8_costOf 28 = .ok (.iconst 4, 1) := by decide +kernel
theorem dX8_costOf_29 : decode cX8_costOf 29 = .ok (.invokevirtual 47, 3) := by decide +kernel
theorem dX8_costOf_32 : decode cX8_costOf 32 = .ok (.aload_n 0, 1) := by decide +kernel
theorem dX8_costOf_33 : decode cX8_costOf 33 = .ok (.iload_n 3, 1) := by decide +kernel
theorem dX8_costOf_34 : decode cX8_costOf 34 = .ok (.iconst 2, 1) := by decide +kernel
theorem dX8_costOf_35 : decode cX8_costOf 35 = .ok (.invokevirtual 47, 3) := by decide +kernel
theorem dX8_costOf_38 : decode cX8_costOf 38 = .ok (.invokestatic 113, 3) := by decide +kernel
theorem dX8_costOf_41 : decode cX8_costOf 41 = .ok (.imul, 1) := by decide +kernel
theorem dX8_costOf_42 : decode cX8_costOf 42 = .ok (.goto 4, 3) := by decide +kernel
theorem dX8_costOf_45 : decode cX8_costOf 45 = .ok (.iconst 0, 1) := by decide +kernel
theorem dX8_costOf_46 : decode cX8_costOf 46 = .ok (.iadd, 1) := by decide +kernel
theorem dX8_costOf_47 : decode cX8_costOf 47 = .ok (.istore_n 2, 1) := by decide +kernel
theorem dX8_costOf_48 : decode cX8_costOf 48 = .ok (.iinc 3 1, 3) := by decide +kernel
theorem dX8_costOf_51 : decode cX8_costOf 51 = .ok (.goto (-47), 3) := by decide +kernel
theorem dX8_costOf_54 : decode cX8_costOf 54 = .ok (.iload_n 2, 1) := by decide +kernel
theorem dX8_costOf_55 : decode cX8_costOf 55 = .ok (.ireturn, 1) := by decide +kernel
theorem dX8_codeCost_0 : decode cX8_codeCost 0 = .ok (.aload_n 0, 1) := by decide +kernel
theorem dX8_codeCost_1 : decode cX8_codeCost 1 = .ok (.aload_n 0, 1) := by decide +kernel
theorem dX8_codeCost_2 : decode cX8_codeCost 2 = .ok (.aload_n 0, 1) := by decide +kernel
theorem dX8_codeCost_3 : decode cX8_codeCost 3 = .ok (.iload_n 1, 1) := by decide +kernel
theorem dX8_codeCost_4 : decode cX8_codeCost 4 = .ok (.invokevirtual 51, 3) := by decide +kernel
theorem dX8_codeCost_7 : decode cX8_codeCost 7 = .ok (.invokevirtual 109, 3) := by decide +kernel
theorem dX8_codeCost_10 : decode cX8_codeCost 10 = .ok (.invokevirtual 32, 3) := by decide +kernel
theorem dX8_codeCost_13 : decode cX8_codeCost 13 = .ok (.ifCond .eq 7, 3) := by decide +kernel
theorem dX8_codeCost_16 : decode cX8_codeCost 16 = .ok (.iconst 0, 1) := by decide +kernel
theorem dX8_codeCost_17 : decode cX8_codeCost 17 = .ok (.goto 8, 3) := by decide +kernel
theorem dX8_codeCost_20 : decode cX8_codeCost 20 = .ok (.aload_n 0, 1) := by decide +kernel
theorem dX8_codeCost_21 : decode cX8_codeCost 21 = .ok (.iload_n 1, 1) := by decide +kernel
theorem dX8_codeCost_22 : decode cX8_codeCost 22 = .ok (.invokevirtual 140, 3) := by decide +kernel
theorem dX8_codeCost_25 : decode cX8_codeCost 25 = .ok (.ireturn, 1) := by decide +kernel
theorem dX8_codeAt_0 : decode cX8_codeAt 0 = .ok (.iconst 0, 1) := by decide +kernel
theorem dX8_codeAt_1 : decode cX8_codeAt 1 = .ok (.istore_n 1, 1) := by decide +kernel
theorem dX8_codeAt_2 : decode cX8_codeAt 2 = .ok (.iconst (-1), 1) := by decide +kernel
theorem dX8_codeAt_3 : decode cX8_codeAt 3 = .ok (.istore_n 2, 1) := by decide +kernel
theorem dX8_codeAt_4 : decode cX8_codeAt 4 = .ok (.iload_n 2, 1) := by decide +kernel
theorem dX8_codeAt_5 : decode cX8_codeAt 5 = .ok (.iload_n 0, 1) := by decide +kernel
theorem dX8_codeAt_6 : decode cX8_codeAt 6 = .ok (.if_icmp .eq 60, 3) := by decide +kernel
theorem dX8_codeAt_9 : decode cX8_codeAt 9 = .ok (.iinc 1 1, 3) := by decide +kernel
theorem dX8_codeAt_12 : decode cX8_codeAt 12 = .ok (.iconst 0, 1) := by decide +kernel
theorem dX8_codeAt_13 : decode cX8_codeAt 13 = .ok (.istore_n 2, 1) := by decide +kernel
theorem dX8_codeAt_14 : decode cX8_codeAt 14 = .ok (.iconst 1, 1) := by decide +kernel
theorem dX8_codeAt_15 : decode cX8_codeAt 15 = .ok (.istore_n 3, 1) := by decide +kernel
theorem dX8_codeAt_16 : decode cX8_codeAt 16 = .ok (.iload_n 3, 1) := by decide +kernel
theorem dX8_codeAt_17 : decode cX8_codeAt 17 = .ok (.bipush 14, 2) := by decide +kernel
theorem dX8_codeAt_19 : decode cX8_codeAt 19 = .ok (.if_icmp .gt 44, 3) := by decide +kernel
theorem dX8_codeAt_22 : decode cX8_codeAt 22 = .ok (.iload_n 2, 1) := by decide +kernel
theorem dX8_codeAt_23 : decode cX8_codeAt 23 = .ok (.iload_n 3, 1) := by decide +kernel
theorem dX8_codeAt_24 : decode cX8_codeAt 24 = .ok (.invokestatic 113, 3) := by decide +kernel
theorem dX8_codeAt_27 : decode cX8_codeAt 27 = .ok (.iload_n 1, 1) := by decide +kernel
theorem dX8_codeAt_28 : decode cX8_codeAt 28 = .ok (.invokestatic 113, 3) := by decide +kernel
theorem dX8_codeAt_31 : decode cX8_codeAt 31 = .ok (.if_icmp .lt 19, 3) := by decide +kernel
theorem dX8_codeAt_34 : decode cX8_codeAt 34 = .ok (.iload_n 3, 1) := by decide +kernel
theorem dX8_codeAt_35 : decode cX8_codeAt 35 = .ok (.invokestatic 113, 3) := by decide +kernel
theorem dX8_codeAt_38 : decode cX8_codeAt 38 = .ok (.iload_n 1, 1) := by decide +kernel
theorem dX8_codeAt_39 : decode cX8_codeAt 39 = .ok (.invokestatic 113, 3) := by decide +kernel
theorem dX8_codeAt_42 : decode cX8_codeAt 42 = .ok (.if_icmp .ne 12, 3) := by decide +kernel
theorem dX8_codeAt_45 : decode cX8_codeAt 45 = .ok (.iload_n 3, 1) := by decide +kernel
theorem dX8_codeAt_46 : decode cX8_codeAt 46 = .ok (.iload_n 1, 1) := by decide +kernel
theorem dX8_codeAt_47 : decode cX8_codeAt 47 = .ok (.if_icmp .ge 7, 3) := by decide +kernel
theorem dX8_codeAt_50 : decode cX8_codeAt 50 = .ok (.iconst 1, 1) := by decide +kernel
theorem dX8_codeAt_51 : decode cX8_codeAt 51 = .ok (.goto 4, 3) := by decide +kernel
theorem dX8_codeAt_54 : decode cX8_codeAt 54 = .ok (.iconst 0, 1) := by decide +kernel
theorem dX8_codeAt_55 : decode cX8_codeAt 55 = .ok (.iadd, 1) := by decide +kernel
theorem dX8_codeAt_56 : decode cX8_codeAt 56 = .ok (.istore_n 2, 1) := by decide +kernel
theorem dX8_codeAt_57 : decode cX8_codeAt 57 = .ok (.iinc 3 1, 3) := by decide +kernel
theorem dX8_codeAt_60 : decode cX8_codeAt 60 = .ok (.goto (-44), 3) := by decide +kernel
theorem dX8_codeAt_63 : decode cX8_codeAt 63 = .ok (.goto (-59), 3) := by decide +kernel
theorem dX8_codeAt_66 : decode cX8_codeAt 66 = .ok (.iload_n 1, 1) := by decide +kernel
theorem dX8_codeAt_67 : decode cX8_codeAt 67 = .ok (.ireturn, 1) := by decide +kernel
theorem dX8_placeOf_0 : decode cX8_placeOf 0 = .ok (.iconst 0, 1) := by decide +kernel
theorem dX8_placeOf_1 : decode cX8_placeOf 1 = .ok (.istore_n 2, 1) := by decide +kernel
theorem dX8_placeOf_2 : decode cX8_placeOf 2 = .ok (.iconst 0, 1) := by decide +kernel
theorem dX8_placeOf_3 : decode cX8_placeOf 3 = .ok (.istore_n 3, 1) := by decide +kernel
theorem dX8_placeOf_4 : decode cX8_placeOf 4 = .ok (.iload_n 3, 1) := by decide +kernel
theorem dX8_placeOf_5 : decode cX8_placeOf 5 = .ok (.aload_n 0, 1) := by decide +kernel
theorem dX8_placeOf_6 : decode cX8_placeOf 6 = .ok (.getfield 7, 3) := by decide +kernel
theorem dX8_placeOf_9 : decode cX8_placeOf 9 = .ok (.bipush 101, 2) := by decide +kernel
theorem dX8_placeOf_11 : decode cX8_placeOf 11 = .ok (.iaload, 1) := by decide +kernel
theorem dX8_placeOf_12 : decode cX8_placeOf 12 = .ok (.if_icmp .ge 79, 3) := by decide +kernel
theorem dX8_placeOf_15 : decode cX8_placeOf 15 = .ok (.aload_n 0, 1) := by decide +kernel
theorem dX8_placeOf_16 : decode cX8_placeOf 16 = .ok (.iload_n 3, 1) := by decide +kernel
theorem dX8_placeOf_17 : decode cX8_placeOf 17 = .ok (.iconst 4, 1) := by decide +kernel
theorem dX8_placeOf_18 : decode cX8_placeOf 18 = .ok (.invokevirtual 47, 3) := by decide +kernel
theorem dX8_placeOf_21 : decode cX8_placeOf 21 = .ok (.aload_n 0, 1) := by decide +kernel
theorem dX8_placeOf_22 : decode cX8_placeOf 22 = .ok (.iload_n 1, 1) := by decide +kernel
theorem dX8_placeOf_23 : decode cX8_placeOf 23 = .ok (.iconst 4, 1) := by decide +kernel
theorem dX8_placeOf_24 : decode cX8_placeOf 24 = .ok (.invokevirtual 47, 3) := by decide +kernel
theorem dX8_placeOf_27 : decode cX8_placeOf 27 = .ok (.if_icmp .gt 23, 3) := by decide +kernel
theorem dX8_placeOf_30 : decode cX8_placeOf 30 = .ok (.aload_n 0, 1) := by decide +kernel
theorem dX8_placeOf_31 : decode cX8_placeOf 31 = .ok (.iload_n 3, 1) := by decide +kernel
