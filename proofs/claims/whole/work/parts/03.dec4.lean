theorem dX9_sent_49 : decode cX9_sent 49 = .ok (.iload_n 2, 1) := by decide +kernel
theorem dX9_sent_50 : decode cX9_sent 50 = .ok (.iload_n 3, 1) := by decide +kernel
theorem dX9_sent_51 : decode cX9_sent 51 = .ok (.invokestatic 258, 3) := by decide +kernel
theorem dX9_sent_54 : decode cX9_sent 54 = .ok (.ifCond .ne 9, 3) := by decide +kernel
theorem dX9_sent_57 : decode cX9_sent 57 = .ok (.iinc 3 1, 3) := by decide +kernel
theorem dX9_sent_60 : decode cX9_sent 60 = .ok (.goto (-11), 3) := by decide +kernel
theorem dX9_sent_63 : decode cX9_sent 63 = .ok (.aload_n 0, 1) := by decide +kernel
theorem dX9_sent_64 : decode cX9_sent 64 = .ok (.getfield 50, 3) := by decide +kernel
theorem dX9_sent_67 : decode cX9_sent 67 = .ok (.iload_n 1, 1) := by decide +kernel
theorem dX9_sent_68 : decode cX9_sent 68 = .ok (.iload_n 3, 1) := by decide +kernel
theorem dX9_sent_69 : decode cX9_sent 69 = .ok (.iastore, 1) := by decide +kernel
theorem dX9_sent_70 : decode cX9_sent 70 = .ok (.aload_n 0, 1) := by decide +kernel
theorem dX9_sent_71 : decode cX9_sent 71 = .ok (.getfield 41, 3) := by decide +kernel
theorem dX9_sent_74 : decode cX9_sent 74 = .ok (.iload_n 3, 1) := by decide +kernel
theorem dX9_sent_75 : decode cX9_sent 75 = .ok (.iload_n 1, 1) := by decide +kernel
theorem dX9_sent_76 : decode cX9_sent 76 = .ok (.iastore, 1) := by decide +kernel
theorem dX9_sent_77 : decode cX9_sent 77 = .ok (.aload_n 0, 1) := by decide +kernel
theorem dX9_sent_78 : decode cX9_sent 78 = .ok (.dup, 1) := by decide +kernel
theorem dX9_sent_79 : decode cX9_sent 79 = .ok (.getfield 236, 3) := by decide +kernel
theorem dX9_sent_82 : decode cX9_sent 82 = .ok (.iconst 1, 1) := by decide +kernel
theorem dX9_sent_83 : decode cX9_sent 83 = .ok (.iadd, 1) := by decide +kernel
theorem dX9_sent_84 : decode cX9_sent 84 = .ok (.putfield 236, 3) := by decide +kernel
theorem dX9_sent_87 : decode cX9_sent 87 = .ok (.aload_n 0, 1) := by decide +kernel
theorem dX9_sent_88 : decode cX9_sent 88 = .ok (.getfield 47, 3) := by decide +kernel
theorem dX9_sent_91 : decode cX9_sent 91 = .ok (.iload_n 1, 1) := by decide +kernel
theorem dX9_sent_92 : decode cX9_sent 92 = .ok (.iaload, 1) := by decide +kernel
theorem dX9_sent_93 : decode cX9_sent 93 = .ok (.ireturn, 1) := by decide +kernel
theorem dX9_takesBit_0 : decode cX9_takesBit 0 = .ok (.aload_n 0, 1) := by decide +kernel
theorem dX9_takesBit_1 : decode cX9_takesBit 1 = .ok (.iload_n 1, 1) := by decide +kernel
theorem dX9_takesBit_2 : decode cX9_takesBit 2 = .ok (.aload_n 0, 1) := by decide +kernel
theorem dX9_takesBit_3 : decode cX9_takesBit 3 = .ok (.getfield 35, 3) := by decide +kernel
theorem dX9_takesBit_6 : decode cX9_takesBit 6 = .ok (.iload_n 1, 1) := by decide +kernel
theorem dX9_takesBit_7 : decode cX9_takesBit 7 = .ok (.iaload, 1) := by decide +kernel
theorem dX9_takesBit_8 : decode cX9_takesBit 8 = .ok (.invokevirtual 202, 3) := by decide +kernel
theorem dX9_takesBit_11 : decode cX9_takesBit 11 = .ok (.istore_n 2, 1) := by decide +kernel
theorem dX9_takesBit_12 : decode cX9_takesBit 12 = .ok (.aload_n 0, 1) := by decide +kernel
theorem dX9_takesBit_13 : decode cX9_takesBit 13 = .ok (.getfield 35, 3) := by decide +kernel
theorem dX9_takesBit_16 : decode cX9_takesBit 16 = .ok (.iload_n 1, 1) := by decide +kernel
theorem dX9_takesBit_17 : decode cX9_takesBit 17 = .ok (.dup2, 1) := by decide +kernel
theorem dX9_takesBit_18 : decode cX9_takesBit 18 = .ok (.iaload, 1) := by decide +kernel
theorem dX9_takesBit_19 : decode cX9_takesBit 19 = .ok (.iconst 1, 1) := by decide +kernel
theorem dX9_takesBit_20 : decode cX9_takesBit 20 = .ok (.iadd, 1) := by decide +kernel
theorem dX9_takesBit_21 : decode cX9_takesBit 21 = .ok (.iastore, 1) := by decide +kernel
theorem dX9_takesBit_22 : decode cX9_takesBit 22 = .ok (.iload_n 2, 1) := by decide +kernel
theorem dX9_takesBit_23 : decode cX9_takesBit 23 = .ok (.ireturn, 1) := by decide +kernel
theorem dX9_goesByCounters_0 : decode cX9_goesByCounters 0 = .ok (.iconst 0, 1) := by decide +kernel
theorem dX9_goesByCounters_1 : decode cX9_goesByCounters 1 = .ok (.istore_n 2, 1) := by decide +kernel
theorem dX9_goesByCounters_2 : decode cX9_goesByCounters 2 = .ok (.iconst 0, 1) := by decide +kernel
theorem dX9_goesByCounters_3 : decode cX9_goesByCounters 3 = .ok (.istore_n 3, 1) := by decide +kernel
theorem dX9_goesByCounters_4 : decode cX9_goesByCounters 4 = .ok (.iload_n 3, 1) := by decide +kernel
theorem dX9_goesByCounters_5 : decode cX9_goesByCounters 5 = .ok (.bipush 10, 2) := by decide +kernel
theorem dX9_goesByCounters_7 : decode cX9_goesByCounters 7 = .ok (.if_icmp .ge 39, 3) := by decide +kernel
theorem dX9_goesByCounters_10 : decode cX9_goesByCounters 10 = .ok (.iload_n 2, 1) := by decide +kernel
theorem dX9_goesByCounters_11 : decode cX9_goesByCounters 11 = .ok (.aload_n 0, 1) := by decide +kernel
theorem dX9_goesByCounters_12 : decode cX9_goesByCounters 12 = .ok (.getfield 243, 3) := by decide +kernel
theorem dX9_goesByCounters_15 : decode cX9_goesByCounters 15 = .ok (.iload_n 3, 1) := by decide +kernel
theorem dX9_goesByCounters_16 : decode cX9_goesByCounters 16 = .ok (.invokestatic 258, 3) := by decide +kernel
theorem dX9_goesByCounters_19 : decode cX9_goesByCounters 19 = .ok (.ifCond .eq 18, 3) := by decide +kernel
theorem dX9_goesByCounters_22 : decode cX9_goesByCounters 22 = .ok (.aload_n 0, 1) := by decide +kernel
theorem dX9_goesByCounters_23 : decode cX9_goesByCounters 23 = .ok (.getfield 38, 3) := by decide +kernel
theorem dX9_goesByCounters_26 : decode cX9_goesByCounters 26 = .ok (.iload_n 3, 1) := by decide +kernel
theorem dX9_goesByCounters_27 : decode cX9_goesByCounters 27 = .ok (.iaload, 1) := by decide +kernel
theorem dX9_goesByCounters_28 : decode cX9_goesByCounters 28 = .ok (.ifCond .ne 9, 3) := by decide +kernel
theorem dX9_goesByCounters_31 : decode cX9_goesByCounters 31 = .ok (.iconst 1, 1) := by decide +kernel
theorem dX9_goesByCounters_32 : decode cX9_goesByCounters 32 = .ok (.iload_n 3, 1) := by decide +kernel
theorem dX9_goesByCounters_33 : decode cX9_goesByCounters 33 = .ok (.ishl, 1) := by decide +kernel
theorem dX9_goesByCounters_34 : decode cX9_goesByCounters 34 = .ok (.goto 4, 3) := by decide +kernel
theorem dX9_goesByCounters_37 : decode cX9_goesByCounters 37 = .ok (.iconst 0, 1) := by decide +kernel
theorem dX9_goesByCounters_38 : decode cX9_goesByCounters 38 = .ok (.ior, 1) := by decide +kernel
theorem dX9_goesByCounters_39 : decode cX9_goesByCounters 39 = .ok (.istore_n 2, 1) := by decide +kernel
theorem dX9_goesByCounters_40 : decode cX9_goesByCounters 40 = .ok (.iinc 3 1, 3) := by decide +kernel
theorem dX9_goesByCounters_43 : decode cX9_goesByCounters 43 = .ok (.goto (-39), 3) := by decide +kernel
theorem dX9_goesByCounters_46 : decode cX9_goesByCounters 46 = .ok (.aload_n 0, 1) := by decide +kernel
theorem dX9_goesByCounters_47 : decode cX9_goesByCounters 47 = .ok (.iload_n 1, 1) := by decide +kernel
theorem dX9_goesByCounters_48 : decode cX9_goesByCounters 48 = .ok (.iload_n 2, 1) := by decide +kernel
theorem dX9_goesByCounters_49 : decode cX9_goesByCounters 49 = .ok (.invokevirtual 261, 3) := by decide +kernel
theorem dX9_goesByCounters_52 : decode cX9_goesByCounters 52 = .ok (.istore_n 3, 1) := by decide +kernel
theorem dX9_goesByCounters_53 : decode cX9_goesByCounters 53 = .ok (.iconst 0, 1) := by decide +kernel
theorem dX9_goesByCounters_54 : decode cX9_goesByCounters 54 = .ok (.istore 4, 2) := by decide +kernel
theorem dX9_goesByCounters_56 : decode cX9_goesByCounters 56 = .ok (.iconst 0, 1) := by decide +kernel
theorem dX9_goesByCounters_57 : decode cX9_goesByCounters 57 = .ok (.istore 5, 2) := by decide +kernel
theorem dX9_goesByCounters_59 : decode cX9_goesByCounters 59 = .ok (.iload 5, 2) := by decide +kernel
theorem dX9_goesByCounters_61 : decode cX9_goesByCounters 61 = .ok (.bipush 10, 2) := by decide +kernel
theorem dX9_goesByCounters_63 : decode cX9_goesByCounters 63 = .ok (.if_icmp .ge 105, 3) := by decide +kernel
theorem dX9_goesByCounters_66 : decode cX9_goesByCounters 66 = .ok (.aload_n 0, 1) := by decide +kernel
theorem dX9_goesByCounters_67 : decode cX9_goesByCounters 67 = .ok (.getfield 243, 3) := by decide +kernel
theorem dX9_goesByCounters_70 : decode cX9_goesByCounters 70 = .ok (.iload 5, 2) := by decide +kernel
theorem dX9_goesByCounters_72 : decode cX9_goesByCounters 72 = .ok (.invokestatic 258, 3) := by decide +kernel
theorem dX9_goesByCounters_75 : decode cX9_goesByCounters 75 = .ok (.ifCond .eq 87, 3) := by decide +kernel
theorem dX9_goesByCounters_78 : decode cX9_goesByCounters 78 = .ok (.aload_n 0, 1) := by decide +kernel
theorem dX9_goesByCounters_79 : decode cX9_goesByCounters 79 = .ok (.getfield 41, 3) := by decide +kernel
theorem dX9_goesByCounters_82 : decode cX9_goesByCounters 82 = .ok (.iload 5, 2) := by decide +kernel
theorem dX9_goesByCounters_84 : decode cX9_goesByCounters 84 = .ok (.iaload, 1) := by decide +kernel
theorem dX9_goesByCounters_85 : decode cX9_goesByCounters 85 = .ok (.iconst (-1), 1) := by decide +kernel
theorem dX9_goesByCounters_86 : decode cX9_goesByCounters 86 = .ok (.if_icmp .eq 6, 3) := by decide +kernel
theorem dX9_goesByCounters_89 : decode cX9_goesByCounters 89 = .ok (.goto 73, 3) := by decide +kernel
theorem dX9_goesByCounters_92 : decode cX9_goesByCounters 92 = .ok (.iload_n 2, 1) := by decide +kernel
theorem dX9_goesByCounters_93 : decode cX9_goesByCounters 93 = .ok (.iload 5, 2) := by decide +kernel
theorem dX9_goesByCounters_95 : decode cX9_goesByCounters 95 = .ok (.invokestatic 258, 3) := by decide +kernel
theorem dX9_goesByCounters_98 : decode cX9_goesByCounters 98 = .ok (.ifCond .eq 28, 3) := by decide +kernel
theorem dX9_goesByCounters_101 : decode cX9_goesByCounters 101 = .ok (.aload_n 0, 1) := by decide +kernel
theorem dX9_goesByCounters_102 : decode cX9_goesByCounters 102 = .ok (.getfield 38, 3) := by decide +kernel
theorem dX9_goesByCounters_105 : decode cX9_goesByCounters 105 = .ok (.iload 5, 2) := by decide +kernel
theorem dX9_goesByCounters_107 : decode cX9_goesByCounters 107 = .ok (.iload_n 3, 1) := by decide +kernel
theorem dX9_goesByCounters_108 : decode cX9_goesByCounters 108 = .ok (.iconst 2, 1) := by decide +kernel
theorem dX9_goesByCounters_109 : decode cX9_goesByCounters 109 = .ok (.if_icmp .ne 12, 3) := by decide +kernel
theorem dX9_goesByCounters_112 : decode cX9_goesByCounters 112 = .ok (.aload_n 0, 1) := by decide +kernel
theorem dX9_goesByCounters_113 : decode cX9_goesByCounters 113 = .ok (.iload 5, 2) := by decide +kernel
theorem dX9_goesByCounters_115 : decode cX9_goesByCounters 115 = .ok (.invokevirtual 264, 3) := by decide +kernel
theorem dX9_goesByCounters_118 : decode cX9_goesByCounters 118 = .ok (.goto 4, 3) := by decide +kernel
theorem dX9_goesByCounters_121 : decode cX9_goesByCounters 121 = .ok (.iconst 0, 1) := by decide +kernel
theorem dX9_goesByCounters_122 : decode cX9_goesByCounters 122 = .ok (.iastore, 1) := by decide +kernel
theorem dX9_goesByCounters_123 : decode cX9_goesByCounters 123 = .ok (.goto 23, 3) := by decide +kernel
theorem dX9_goesByCounters_126 : decode cX9_goesByCounters 126 = .ok (.aload_n 0, 1) := by decide +kernel
theorem dX9_goesByCounters_127 : decode cX9_goesByCounters 127 = .ok (.getfield 38, 3) := by decide +kernel
theorem dX9_goesByCounters_130 : decode cX9_goesByCounters 130 = .ok (.iload 5, 2) := by decide +kernel
theorem dX9_goesByCounters_132 : decode cX9_goesByCounters 132 = .ok (.dup2, 1) := by decide +kernel
theorem dX9_goesByCounters_133 : decode cX9_goesByCounters 133 = .ok (.iaload, 1) := by decide +kernel
theorem dX9_goesByCounters_134 : decode cX9_goesByCounters 134 = .ok (.iload_n 3, 1) := by decide +kernel
theorem dX9_goesByCounters_135 : decode cX9_goesByCounters 135 = .ok (.iconst 2, 1) := by decide +kernel
theorem dX9_goesByCounters_136 : decode cX9_goesByCounters 136 = .ok (.if_icmp .ne 7, 3) := by decide +kernel
theorem dX9_goesByCounters_139 : decode cX9_goesByCounters 139 = .ok (.iconst 1, 1) := by decide +kernel
theorem dX9_goesByCounters_140 : decode cX9_goesByCounters 140 = .ok (.goto 4, 3) := by decide +kernel
theorem dX9_goesByCounters_143 : decode cX9_goesByCounters 143 = .ok (.iconst (-1), 1) := by decide +kernel
theorem dX9_goesByCounters_144 : decode cX9_goesByCounters 144 = .ok (.iadd, 1) := by decide +kernel
theorem dX9_goesByCounters_145 : decode cX9_goesByCounters 145 = .ok (.iastore, 1) := by decide +kernel
theorem dX9_goesByCounters_146 : decode cX9_goesByCounters 146 = .ok (.iload 4, 2) := by decide +kernel
theorem dX9_goesByCounters_148 : decode cX9_goesByCounters 148 = .ok (.aload_n 0, 1) := by decide +kernel
theorem dX9_goesByCounters_149 : decode cX9_goesByCounters 149 = .ok (.getfield 38, 3) := by decide +kernel
theorem dX9_goesByCounters_152 : decode cX9_goesByCounters 152 = .ok (.iload 5, 2) := by decide +kernel
theorem dX9_goesByCounters_154 : decode cX9_goesByCounters 154 = .ok (.iaload, 1) := by decide +kernel
theorem dX9_goesByCounters_155 : decode cX9_goesByCounters 155 = .ok (.iconst 1, 1) := by decide +kernel
theorem dX9_goesByCounters_156 : decode cX9_goesByCounters 156 = .ok (.iadd, 1) := by decide +kernel
theorem dX9_goesByCounters_157 : decode cX9_goesByCounters 157 = .ok (.invokestatic 267, 3) := by decide +kernel
theorem dX9_goesByCounters_160 : decode cX9_goesByCounters 160 = .ok (.istore 4, 2) := by decide +kernel
theorem dX9_goesByCounters_162 : decode cX9_goesByCounters 162 = .ok (.iinc 5 1, 3) := by decide +kernel
theorem dX9_goesByCounters_165 : decode cX9_goesByCounters 165 = .ok (.goto (-106), 3) := by decide +kernel
theorem dX9_goesByCounters_168 : decode cX9_goesByCounters 168 = .ok (.aload_n 0, 1) := by decide +kernel
theorem dX9_goesByCounters_169 : decode cX9_goesByCounters 169 = .ok (.getfield 53, 3) := by decide +kernel
theorem dX9_goesByCounters_172 : decode cX9_goesByCounters 172 = .ok (.iload_n 1, 1) := by decide +kernel
theorem dX9_goesByCounters_173 : decode cX9_goesByCounters 173 = .ok (.iload 4, 2) := by decide +kernel
theorem dX9_goesByCounters_175 : decode cX9_goesByCounters 175 = .ok (.iastore, 1) := by decide +kernel
theorem dX9_goesByCounters_176 : decode cX9_goesByCounters 176 = .ok (.return_, 1) := by decide +kernel
theorem dX9_goesByGroups_0 : decode cX9_goesByGroups 0 = .ok (.aload_n 0, 1) := by decide +kernel
theorem dX9_goesByGroups_1 : decode cX9_goesByGroups 1 = .ok (.getfield 221, 3) := by decide +kernel
theorem dX9_goesByGroups_4 : decode cX9_goesByGroups 4 = .ok (.ifCond .ne 8, 3) := by decide +kernel
theorem dX9_goesByGroups_7 : decode cX9_goesByGroups 7 = .ok (.aload_n 0, 1) := by decide +kernel
theorem dX9_goesByGroups_8 : decode cX9_goesByGroups 8 = .ok (.iload_n 1, 1) := by decide +kernel
theorem dX9_goesByGroups_9 : decode cX9_goesByGroups 9 = .ok (.invokevirtual 270, 3) := by decide +kernel
theorem dX9_goesByGroups_12 : decode cX9_goesByGroups 12 = .ok (.aload_n 0, 1) := by decide +kernel
theorem dX9_goesByGroups_13 : decode cX9_goesByGroups 13 = .ok (.dup, 1) := by decide +kernel
theorem dX9_goesByGroups_14 : decode cX9_goesByGroups 14 = .ok (.getfield 218, 3) := by decide +kernel
theorem dX9_goesByGroups_17 : decode cX9_goesByGroups 17 = .ok (.iconst 1, 1) := by decide +kernel
theorem dX9_goesByGroups_18 : decode cX9_goesByGroups 18 = .ok (.isub, 1) := by decide +kernel
theorem dX9_goesByGroups_19 : decode cX9_goesByGroups 19 = .ok (.putfield 218, 3) := by decide +kernel
theorem dX9_goesByGroups_22 : decode cX9_goesByGroups 22 = .ok (.aload_n 0, 1) := by decide +kernel
theorem dX9_goesByGroups_23 : decode cX9_goesByGroups 23 = .ok (.iload_n 1, 1) := by decide +kernel
theorem dX9_goesByGroups_24 : decode cX9_goesByGroups 24 = .ok (.aload_n 0, 1) := by decide +kernel
theorem dX9_goesByGroups_25 : decode cX9_goesByGroups 25 = .ok (.getfield 26, 3) := by decide +kernel
theorem dX9_goesByGroups_28 : decode cX9_goesByGroups 28 = .ok (.aload_n 0, 1) := by decide +kernel
theorem dX9_goesByGroups_29 : decode cX9_goesByGroups 29 = .ok (.getfield 218, 3) := by decide +kernel
theorem dX9_goesByGroups_32 : decode cX9_goesByGroups 32 = .ok (.iaload, 1) := by decide +kernel
theorem dX9_goesByGroups_33 : decode cX9_goesByGroups 33 = .ok (.invokevirtual 261, 3) := by decide +kernel
theorem dX9_goesByGroups_36 : decode cX9_goesByGroups 36 = .ok (.istore_n 2, 1) := by decide +kernel
theorem dX9_goesByGroups_37 : decode cX9_goesByGroups 37 = .ok (.iload_n 2, 1) := by decide +kernel
theorem dX9_goesByGroups_38 : decode cX9_goesByGroups 38 = .ok (.iconst 2, 1) := by decide +kernel
theorem dX9_goesByGroups_39 : decode cX9_goesByGroups 39 = .ok (.if_icmp .ne 30, 3) := by decide +kernel
theorem dX9_goesByGroups_42 : decode cX9_goesByGroups 42 = .ok (.aload_n 0, 1) := by decide +kernel
theorem dX9_goesByGroups_43 : decode cX9_goesByGroups 43 = .ok (.dup, 1) := by decide +kernel
theorem dX9_goesByGroups_44 : decode cX9_goesByGroups 44 = .ok (.getfield 218, 3) := by decide +kernel
theorem dX9_goesByGroups_47 : decode cX9_goesByGroups 47 = .ok (.iconst 1, 1) := by decide +kernel
theorem dX9_goesByGroups_48 : decode cX9_goesByGroups 48 = .ok (.iadd, 1) := by decide +kernel
theorem dX9_goesByGroups_49 : decode cX9_goesByGroups 49 = .ok (.putfield 218, 3) := by decide +kernel
theorem dX9_goesByGroups_52 : decode cX9_goesByGroups 52 = .ok (.aload_n 0, 1) := by decide +kernel
theorem dX9_goesByGroups_53 : decode cX9_goesByGroups 53 = .ok (.invokevirtual 273, 3) := by decide +kernel
theorem dX9_goesByGroups_56 : decode cX9_goesByGroups 56 = .ok (.aload_n 0, 1) := by decide +kernel
theorem dX9_goesByGroups_57 : decode cX9_goesByGroups 57 = .ok (.iconst 1, 1) := by decide +kernel
theorem dX9_goesByGroups_58 : decode cX9_goesByGroups 58 = .ok (.putfield 224, 3) := by decide +kernel
theorem dX9_goesByGroups_61 : decode cX9_goesByGroups 61 = .ok (.aload_n 0, 1) := by decide +kernel
theorem dX9_goesByGroups_62 : decode cX9_goesByGroups 62 = .ok (.iconst 0, 1) := by decide +kernel
theorem dX9_goesByGroups_63 : decode cX9_goesByGroups 63 = .ok (.putfield 227, 3) := by decide +kernel
theorem dX9_goesByGroups_66 : decode cX9_goesByGroups 66 = .ok (.goto 84, 3) := by decide +kernel
theorem dX9_goesByGroups_69 : decode cX9_goesByGroups 69 = .ok (.iload_n 2, 1) := by decide +kernel
theorem dX9_goesByGroups_70 : decode cX9_goesByGroups 70 = .ok (.iconst 1, 1) := by decide +kernel
theorem dX9_goesByGroups_71 : decode cX9_goesByGroups 71 = .ok (.if_icmp .ne 16, 3) := by decide +kernel
theorem dX9_goesByGroups_74 : decode cX9_goesByGroups 74 = .ok (.aload_n 0, 1) := by decide +kernel
theorem dX9_goesByGroups_75 : decode cX9_goesByGroups 75 = .ok (.iconst 0, 1) := by decide +kernel
theorem dX9_goesByGroups_76 : decode cX9_goesByGroups 76 = .ok (.putfield 224, 3) := by decide +kernel
theorem dX9_goesByGroups_79 : decode cX9_goesByGroups 79 = .ok (.aload_n 0, 1) := by decide +kernel
theorem dX9_goesByGroups_80 : decode cX9_goesByGroups 80 = .ok (.iconst 0, 1) := by decide +kernel
theorem dX9_goesByGroups_81 : decode cX9_goesByGroups 81 = .ok (.putfield 227, 3) := by decide +kernel
theorem dX9_goesByGroups_84 : decode cX9_goesByGroups 84 = .ok (.goto 66, 3) := by decide +kernel
theorem dX9_goesByGroups_87 : decode cX9_goesByGroups 87 = .ok (.aload_n 0, 1) := by decide +kernel
theorem dX9_goesByGroups_88 : decode cX9_goesByGroups 88 = .ok (.getfield 224, 3) := by decide +kernel
theorem dX9_goesByGroups_91 : decode cX9_goesByGroups 91 = .ok (.ifCond .eq 54, 3) := by decide +kernel
theorem dX9_goesByGroups_94 : decode cX9_goesByGroups 94 = .ok (.aload_n 0, 1) := by decide +kernel
theorem dX9_goesByGroups_95 : decode cX9_goesByGroups 95 = .ok (.getfield 209, 3) := by decide +kernel
theorem dX9_goesByGroups_98 : decode cX9_goesByGroups 98 = .ok (.ifCond .eq 47, 3) := by decide +kernel
theorem dX9_goesByGroups_101 : decode cX9_goesByGroups 101 = .ok (.aload_n 0, 1) := by decide +kernel
theorem dX9_goesByGroups_102 : decode cX9_goesByGroups 102 = .ok (.getfield 218, 3) := by decide +kernel
theorem dX9_goesByGroups_105 : decode cX9_goesByGroups 105 = .ok (.ifCond .le 40, 3) := by decide +kernel
theorem dX9_goesByGroups_108 : decode cX9_goesByGroups 108 = .ok (.aload_n 0, 1) := by decide +kernel
theorem dX9_goesByGroups_109 : decode cX9_goesByGroups 109 = .ok (.getfield 227, 3) := by decide +kernel
theorem dX9_goesByGroups_112 : decode cX9_goesByGroups 112 = .ok (.aload_n 0, 1) := by decide +kernel
theorem dX9_goesByGroups_113 : decode cX9_goesByGroups 113 = .ok (.getfield 9, 3) := by decide +kernel
theorem dX9_goesByGroups_116 : decode cX9_goesByGroups 116 = .ok (.iconst 2, 1) := by decide +kernel
theorem dX9_goesByGroups_117 : decode cX9_goesByGroups 117 = .ok (.iaload, 1) := by decide +kernel
theorem dX9_goesByGroups_118 : decode cX9_goesByGroups 118 = .ok (.if_icmp .ge 27, 3) := by decide +kernel
theorem dX9_goesByGroups_121 : decode cX9_goesByGroups 121 = .ok (.aload_n 0, 1) := by decide +kernel
theorem dX9_goesByGroups_122 : decode cX9_goesByGroups 122 = .ok (.invokevirtual 273, 3) := by decide +kernel
theorem dX9_goesByGroups_125 : decode cX9_goesByGroups 125 = .ok (.aload_n 0, 1) := by decide +kernel
theorem dX9_goesByGroups_126 : decode cX9_goesByGroups 126 = .ok (.dup, 1) := by decide +kernel
theorem dX9_goesByGroups_127 : decode cX9_goesByGroups 127 = .ok (.getfield 227, 3) := by decide +kernel
theorem dX9_goesByGroups_130 : decode cX9_goesByGroups 130 = .ok (.iconst 1, 1) := by decide +kernel
theorem dX9_goesByGroups_131 : decode cX9_goesByGroups 131 = .ok (.iadd, 1) := by decide +kernel
theorem dX9_goesByGroups_132 : decode cX9_goesByGroups 132 = .ok (.putfield 227, 3) := by decide +kernel
theorem dX9_goesByGroups_135 : decode cX9_goesByGroups 135 = .ok (.aload_n 0, 1) := by decide +kernel
theorem dX9_goesByGroups_136 : decode cX9_goesByGroups 136 = .ok (.getfield 56, 3) := by decide +kernel
theorem dX9_goesByGroups_139 : decode cX9_goesByGroups 139 = .ok (.iload_n 1, 1) := by decide +kernel
theorem dX9_goesByGroups_140 : decode cX9_goesByGroups 140 = .ok (.iconst 1, 1) := by decide +kernel
theorem dX9_goesByGroups_141 : decode cX9_goesByGroups 141 = .ok (.iastore, 1) := by decide +kernel
theorem dX9_goesByGroups_142 : decode cX9_goesByGroups 142 = .ok (.goto 8, 3) := by decide +kernel
theorem dX9_goesByGroups_145 : decode cX9_goesByGroups 145 = .ok (.aload_n 0, 1) := by decide +kernel
theorem dX9_goesByGroups_146 : decode cX9_goesByGroups 146 = .ok (.iconst 0, 1) := by decide +kernel
theorem dX9_goesByGroups_147 : decode cX9_goesByGroups 147 = .ok (.putfield 224, 3) := by decide +kernel
theorem dX9_goesByGroups_150 : decode cX9_goesByGroups 150 = .ok (.aload_n 0, 1) := by decide +kernel
theorem dX9_goesByGroups_151 : decode cX9_goesByGroups 151 = .ok (.getfield 53, 3) := by decide +kernel
theorem dX9_goesByGroups_154 : decode cX9_goesByGroups 154 = .ok (.iload_n 1, 1) := by decide +kernel
theorem dX9_goesByGroups_155 : decode cX9_goesByGroups 155 = .ok (.aload_n 0, 1) := by decide +kernel
theorem dX9_goesByGroups_156 : decode cX9_goesByGroups 156 = .ok (.getfield 218, 3) := by decide +kernel
theorem dX9_goesByGroups_159 : decode cX9_goesByGroups 159 = .ok (.iastore, 1) := by decide +kernel
theorem dX9_goesByGroups_160 : decode cX9_goesByGroups 160 = .ok (.aload_n 0, 1) := by decide +kernel
theorem dX9_goesByGroups_161 : decode cX9_goesByGroups 161 = .ok (.getfield 218, 3) := by decide +kernel
theorem dX9_goesByGroups_164 : decode cX9_goesByGroups 164 = .ok (.ifCond .ne 8, 3) := by decide +kernel
theorem dX9_goesByGroups_167 : decode cX9_goesByGroups 167 = .ok (.aload_n 0, 1) := by decide +kernel
theorem dX9_goesByGroups_168 : decode cX9_goesByGroups 168 = .ok (.iload_n 1, 1) := by decide +kernel
theorem dX9_goesByGroups_169 : decode cX9_goesByGroups 169 = .ok (.invokevirtual 276, 3) := by decide +kernel
theorem dX9_goesByGroups_172 : decode cX9_goesByGroups 172 = .ok (.return_, 1) := by decide +kernel
theorem dX9_begins_0 : decode cX9_begins 0 = .ok (.aload_n 0, 1) := by decide +kernel
theorem dX9_begins_1 : decode cX9_begins 1 = .ok (.iconst 1, 1) := by decide +kernel
theorem dX9_begins_2 : decode cX9_begins 2 = .ok (.putfield 221, 3) := by decide +kernel
theorem dX9_begins_5 : decode cX9_begins 5 = .ok (.aload_n 0, 1) := by decide +kernel
theorem dX9_begins_6 : decode cX9_begins 6 = .ok (.iconst 0, 1) := by decide +kernel
theorem dX9_begins_7 : decode cX9_begins 7 = .ok (.putfield 224, 3) := by decide +kernel
theorem dX9_begins_10 : decode cX9_begins 10 = .ok (.aload_n 0, 1) := by decide +kernel
theorem dX9_begins_11 : decode cX9_begins 11 = .ok (.iconst 0, 1) := by decide +kernel
theorem dX9_begins_12 : decode cX9_begins 12 = .ok (.putfield 227, 3) := by decide +kernel
theorem dX9_begins_15 : decode cX9_begins 15 = .ok (.aload_n 0, 1) := by decide +kernel
theorem dX9_begins_16 : decode cX9_begins 16 = .ok (.getfield 243, 3) := by decide +kernel
theorem dX9_begins_19 : decode cX9_begins 19 = .ok (.istore_n 2, 1) := by decide +kernel
theorem dX9_begins_20 : decode cX9_begins 20 = .ok (.iconst 0, 1) := by decide +kernel
theorem dX9_begins_21 : decode cX9_begins 21 = .ok (.istore_n 3, 1) := by decide +kernel
theorem dX9_begins_22 : decode cX9_begins 22 = .ok (.iconst 0, 1) := by decide +kernel
theorem dX9_begins_23 : decode cX9_begins 23 = .ok (.istore 4, 2) := by decide +kernel
theorem dX9_begins_25 : decode cX9_begins 25 = .ok (.aload_n 0, 1) := by decide +kernel
theorem dX9_begins_26 : decode cX9_begins 26 = .ok (.getfield 209, 3) := by decide +kernel
theorem dX9_begins_29 : decode cX9_begins 29 = .ok (.iconst 3, 1) := by decide +kernel
theorem dX9_begins_30 : decode cX9_begins 30 = .ok (.if_icmp .ne 52, 3) := by decide +kernel
theorem dX9_begins_33 : decode cX9_begins 33 = .ok (.aload_n 0, 1) := by decide +kernel
theorem dX9_begins_34 : decode cX9_begins 34 = .ok (.getfield 230, 3) := by decide +kernel
theorem dX9_begins_37 : decode cX9_begins 37 = .ok (.istore_n 3, 1) := by decide +kernel
theorem dX9_begins_38 : decode cX9_begins 38 = .ok (.aload_n 0, 1) := by decide +kernel
theorem dX9_begins_39 : decode cX9_begins 39 = .ok (.getfield 230, 3) := by decide +kernel
theorem dX9_begins_42 : decode cX9_begins 42 = .ok (.bipush 16, 2) := by decide +kernel
theorem dX9_begins_44 : decode cX9_begins 44 = .ok (.aload_n 0, 1) := by decide +kernel
theorem dX9_begins_45 : decode cX9_begins 45 = .ok (.getfield 9, 3) := by decide +kernel
theorem dX9_begins_48 : decode cX9_begins 48 = .ok (.iconst 3, 1) := by decide +kernel
theorem dX9_begins_49 : decode cX9_begins 49 = .ok (.iaload, 1) := by decide +kernel
theorem dX9_begins_50 : decode cX9_begins 50 = .ok (.imul, 1) := by decide +kernel
theorem dX9_begins_51 : decode cX9_begins 51 = .ok (.iadd, 1) := by decide +kernel
theorem dX9_begins_52 : decode cX9_begins 52 = .ok (.bipush 16, 2) := by decide +kernel
theorem dX9_begins_54 : decode cX9_begins 54 = .ok (.iload_n 1, 1) := by decide +kernel
theorem dX9_begins_55 : decode cX9_begins 55 = .ok (.imul, 1) := by decide +kernel
theorem dX9_begins_56 : decode cX9_begins 56 = .ok (.bipush 16, 2) := by decide +kernel
theorem dX9_begins_58 : decode cX9_begins 58 = .ok (.iadd, 1) := by decide +kernel
theorem dX9_begins_59 : decode cX9_begins 59 = .ok (.invokestatic 105, 3) := by decide +kernel
theorem dX9_begins_62 : decode cX9_begins 62 = .ok (.istore 4, 2) := by decide +kernel
theorem dX9_begins_64 : decode cX9_begins 64 = .ok (.aload_n 0, 1) := by decide +kernel
theorem dX9_begins_65 : decode cX9_begins 65 = .ok (.iload 4, 2) := by decide +kernel
theorem dX9_begins_67 : decode cX9_begins 67 = .ok (.putfield 230, 3) := by decide +kernel
theorem dX9_begins_70 : decode cX9_begins 70 = .ok (.aload_n 0, 1) := by decide +kernel
theorem dX9_begins_71 : decode cX9_begins 71 = .ok (.aload_n 0, 1) := by decide +kernel
theorem dX9_begins_72 : decode cX9_begins 72 = .ok (.getfield 243, 3) := by decide +kernel
theorem dX9_begins_75 : decode cX9_begins 75 = .ok (.iload_n 3, 1) := by decide +kernel
theorem dX9_begins_76 : decode cX9_begins 76 = .ok (.iload 4, 2) := by decide +kernel
theorem dX9_begins_78 : decode cX9_begins 78 = .ok (.invokevirtual 279, 3) := by decide +kernel
theorem dX9_begins_81 : decode cX9_begins 81 = .ok (.istore_n 2, 1) := by decide +kernel
theorem dX9_begins_82 : decode cX9_begins 82 = .ok (.aload_n 0, 1) := by decide +kernel
theorem dX9_begins_83 : decode cX9_begins 83 = .ok (.getfield 26, 3) := by decide +kernel
theorem dX9_begins_86 : decode cX9_begins 86 = .ok (.iconst 0, 1) := by decide +kernel
theorem dX9_begins_87 : decode cX9_begins 87 = .ok (.iload_n 2, 1) := by decide +kernel
theorem dX9_begins_88 : decode cX9_begins 88 = .ok (.iastore, 1) := by decide +kernel
theorem dX9_begins_89 : decode cX9_begins 89 = .ok (.aload_n 0, 1) := by decide +kernel
theorem dX9_begins_90 : decode cX9_begins 90 = .ok (.getfield 29, 3) := by decide +kernel
theorem dX9_begins_93 : decode cX9_begins 93 = .ok (.iconst 0, 1) := by decide +kernel
theorem dX9_begins_94 : decode cX9_begins 94 = .ok (.iload_n 3, 1) := by decide +kernel
theorem dX9_begins_95 : decode cX9_begins 95 = .ok (.iastore, 1) := by decide +kernel
theorem dX9_begins_96 : decode cX9_begins 96 = .ok (.aload_n 0, 1) := by decide +kernel
theorem dX9_begins_97 : decode cX9_begins 97 = .ok (.getfield 32, 3) := by decide +kernel
theorem dX9_begins_100 : decode cX9_begins 100 = .ok (.iconst 0, 1) := by decide +kernel
theorem dX9_begins_101 : decode cX9_begins 101 = .ok (.iload 4, 2) := by decide +kernel
theorem dX9_begins_103 : decode cX9_begins 103 = .ok (.iastore, 1) := by decide +kernel
theorem dX9_begins_104 : decode cX9_begins 104 = .ok (.aload_n 0, 1) := by decide +kernel
theorem dX9_begins_105 : decode cX9_begins 105 = .ok (.iconst 1, 1) := by decide +kernel
theorem dX9_begins_106 : decode cX9_begins 106 = .ok (.putfield 218, 3) := by decide +kernel
theorem dX9_begins_109 : decode cX9_begins 109 = .ok (.aload_n 0, 1) := by decide +kernel
theorem dX9_begins_110 : decode cX9_begins 110 = .ok (.iload_n 2, 1) := by decide +kernel
theorem dX9_begins_111 : decode cX9_begins 111 = .ok (.ifCond .eq 7, 3) := by decide +kernel
theorem dX9_begins_114 : decode cX9_begins 114 = .ok (.iconst 1, 1) := by decide +kernel
theorem dX9_begins_115 : decode cX9_begins 115 = .ok (.goto 4, 3) := by decide +kernel
theorem dX9_begins_118 : decode cX9_begins 118 = .ok (.iconst 0, 1) := by decide +kernel
theorem dX9_begins_119 : decode cX9_begins 119 = .ok (.putfield 283, 3) := by decide +kernel
theorem dX9_begins_122 : decode cX9_begins 122 = .ok (.aload_n 0, 1) := by decide +kernel
theorem dX9_begins_123 : decode cX9_begins 123 = .ok (.getfield 283, 3) := by decide +kernel
theorem dX9_begins_126 : decode cX9_begins 126 = .ok (.ifCond .eq 43, 3) := by decide +kernel
theorem dX9_begins_129 : decode cX9_begins 129 = .ok (.aload_n 0, 1) := by decide +kernel
theorem dX9_begins_130 : decode cX9_begins 130 = .ok (.getfield 59, 3) := by decide +kernel
theorem dX9_begins_133 : decode cX9_begins 133 = .ok (.aload_n 0, 1) := by decide +kernel
theorem dX9_begins_134 : decode cX9_begins 134 = .ok (.getfield 233, 3) := by decide +kernel
theorem dX9_begins_137 : decode cX9_begins 137 = .ok (.iload_n 1, 1) := by decide +kernel
theorem dX9_begins_138 : decode cX9_begins 138 = .ok (.iastore, 1) := by decide +kernel
theorem dX9_begins_139 : decode cX9_begins 139 = .ok (.aload_n 0, 1) := by decide +kernel
theorem dX9_begins_140 : decode cX9_begins 140 = .ok (.getfield 62, 3) := by decide +kernel
theorem dX9_begins_143 : decode cX9_begins 143 = .ok (.aload_n 0, 1) := by decide +kernel
theorem dX9_begins_144 : decode cX9_begins 144 = .ok (.getfield 233, 3) := by decide +kernel
theorem dX9_begins_147 : decode cX9_begins 147 = .ok (.iconst (-1), 1) := by decide +kernel
theorem dX9_begins_148 : decode cX9_begins 148 = .ok (.iastore, 1) := by decide +kernel
theorem dX9_begins_149 : decode cX9_begins 149 = .ok (.aload_n 0, 1) := by decide +kernel
theorem dX9_begins_150 : decode cX9_begins 150 = .ok (.getfield 65, 3) := by decide +kernel
theorem dX9_begins_153 : decode cX9_begins 153 = .ok (.aload_n 0, 1) := by decide +kernel
theorem dX9_begins_154 : decode cX9_begins 154 = .ok (.getfield 233, 3) := by decide +kernel
theorem dX9_begins_157 : decode cX9_begins 157 = .ok (.iload_n 2, 1) := by decide +kernel
theorem dX9_begins_158 : decode cX9_begins 158 = .ok (.iastore, 1) := by decide +kernel
theorem dX9_begins_159 : decode cX9_begins 159 = .ok (.aload_n 0, 1) := by decide +kernel
theorem dX9_begins_160 : decode cX9_begins 160 = .ok (.dup, 1) := by decide +kernel
theorem dX9_begins_161 : decode cX9_begins 161 = .ok (.getfield 233, 3) := by decide +kernel
theorem dX9_begins_164 : decode cX9_begins 164 = .ok (.iconst 1, 1) := by decide +kernel
theorem dX9_begins_165 : decode cX9_begins 165 = .ok (.iadd, 1) := by decide +kernel
theorem dX9_begins_166 : decode cX9_begins 166 = .ok (.putfield 233, 3) := by decide +kernel
theorem dX9_begins_169 : decode cX9_begins 169 = .ok (.return_, 1) := by decide +kernel
theorem dX9_ends_0 : decode cX9_ends 0 = .ok (.aload_n 0, 1) := by decide +kernel
theorem dX9_ends_1 : decode cX9_ends 1 = .ok (.iconst 0, 1) := by decide +kernel
theorem dX9_ends_2 : decode cX9_ends 2 = .ok (.putfield 221, 3) := by decide +kernel
theorem dX9_ends_5 : decode cX9_ends 5 = .ok (.aload_n 0, 1) := by decide +kernel
theorem dX9_ends_6 : decode cX9_ends 6 = .ok (.getfield 283, 3) := by decide +kernel
theorem dX9_ends_9 : decode cX9_ends 9 = .ok (.ifCond .eq 15, 3) := by decide +kernel
theorem dX9_ends_12 : decode cX9_ends 12 = .ok (.aload_n 0, 1) := by decide +kernel
theorem dX9_ends_13 : decode cX9_ends 13 = .ok (.getfield 62, 3) := by decide +kernel
theorem dX9_ends_16 : decode cX9_ends 16 = .ok (.aload_n 0, 1) := by decide +kernel
theorem dX9_ends_17 : decode cX9_ends 17 = .ok (.getfield 233, 3) := by decide +kernel
theorem dX9_ends_20 : decode cX9_ends 20 = .ok (.iconst 1, 1) := by decide +kernel
theorem dX9_ends_21 : decode cX9_ends 21 = .ok (.isub, 1) := by decide +kernel
theorem dX9_ends_22 : decode cX9_ends 22 = .ok (.iload_n 1, 1) := by decide +kernel
theorem dX9_ends_23 : decode cX9_ends 23 = .ok (.iastore, 1) := by decide +kernel
theorem dX9_ends_24 : decode cX9_ends 24 = .ok (.iconst 0, 1) := by decide +kernel
theorem dX9_ends_25 : decode cX9_ends 25 = .ok (.istore_n 2, 1) := by decide +kernel
theorem dX9_ends_26 : decode cX9_ends 26 = .ok (.iload_n 2, 1) := by decide +kernel
theorem dX9_ends_27 : decode cX9_ends 27 = .ok (.aload_n 0, 1) := by decide +kernel
theorem dX9_ends_28 : decode cX9_ends 28 = .ok (.getfield 9, 3) := by decide +kernel
theorem dX9_ends_31 : decode cX9_ends 31 = .ok (.iconst 4, 1) := by decide +kernel
theorem dX9_ends_32 : decode cX9_ends 32 = .ok (.iaload, 1) := by decide +kernel
theorem dX9_ends_33 : decode cX9_ends 33 = .ok (.if_icmp .ge 81, 3) := by decide +kernel
theorem dX9_ends_36 : decode cX9_ends 36 = .ok (.aload_n 0, 1) := by decide +kernel
theorem dX9_ends_37 : decode cX9_ends 37 = .ok (.getfield 209, 3) := by decide +kernel
theorem dX9_ends_40 : decode cX9_ends 40 = .ok (.iconst 3, 1) := by decide +kernel
theorem dX9_ends_41 : decode cX9_ends 41 = .ok (.if_icmp .ne 73, 3) := by decide +kernel
theorem dX9_ends_44 : decode cX9_ends 44 = .ok (.aload_n 0, 1) := by decide +kernel
theorem dX9_ends_45 : decode cX9_ends 45 = .ok (.getfield 9, 3) := by decide +kernel
theorem dX9_ends_48 : decode cX9_ends 48 = .ok (.bipush 7, 2) := by decide +kernel
theorem dX9_ends_50 : decode cX9_ends 50 = .ok (.iload_n 2, 1) := by decide +kernel
theorem dX9_ends_51 : decode cX9_ends 51 = .ok (.iadd, 1) := by decide +kernel
theorem dX9_ends_52 : decode cX9_ends 52 = .ok (.iaload, 1) := by decide +kernel
theorem dX9_ends_53 : decode cX9_ends 53 = .ok (.iload_n 2, 1) := by decide +kernel
theorem dX9_ends_54 : decode cX9_ends 54 = .ok (.invokestatic 286, 3) := by decide +kernel
theorem dX9_ends_57 : decode cX9_ends 57 = .ok (.istore_n 3, 1) := by decide +kernel
theorem dX9_ends_58 : decode cX9_ends 58 = .ok (.aload_n 0, 1) := by decide +kernel
theorem dX9_ends_59 : decode cX9_ends 59 = .ok (.iload_n 2, 1) := by decide +kernel
theorem dX9_ends_60 : decode cX9_ends 60 = .ok (.aload_n 0, 1) := by decide +kernel
theorem dX9_ends_61 : decode cX9_ends 61 = .ok (.getfield 215, 3) := by decide +kernel
theorem dX9_ends_64 : decode cX9_ends 64 = .ok (.if_icmp .eq 37, 3) := by decide +kernel
theorem dX9_ends_67 : decode cX9_ends 67 = .ok (.aload_n 0, 1) := by decide +kernel
theorem dX9_ends_68 : decode cX9_ends 68 = .ok (.getfield 9, 3) := by decide +kernel
theorem dX9_ends_71 : decode cX9_ends 71 = .ok (.bipush 7, 2) := by decide +kernel
theorem dX9_ends_73 : decode cX9_ends 73 = .ok (.iload_n 2, 1) := by decide +kernel
theorem dX9_ends_74 : decode cX9_ends 74 = .ok (.iadd, 1) := by decide +kernel
theorem dX9_ends_75 : decode cX9_ends 75 = .ok (.iaload, 1) := by decide +kernel
theorem dX9_ends_76 : decode cX9_ends 76 = .ok (.iload_n 1, 1) := by decide +kernel
theorem dX9_ends_77 : decode cX9_ends 77 = .ok (.if_icmp .gt 24, 3) := by decide +kernel
theorem dX9_ends_80 : decode cX9_ends 80 = .ok (.aload_n 0, 1) := by decide +kernel
theorem dX9_ends_81 : decode cX9_ends 81 = .ok (.getfield 41, 3) := by decide +kernel
theorem dX9_ends_84 : decode cX9_ends 84 = .ok (.iload_n 2, 1) := by decide +kernel
theorem dX9_ends_85 : decode cX9_ends 85 = .ok (.iaload, 1) := by decide +kernel
theorem dX9_ends_86 : decode cX9_ends 86 = .ok (.iconst (-1), 1) := by decide +kernel
theorem dX9_ends_87 : decode cX9_ends 87 = .ok (.if_icmp .ne 14, 3) := by decide +kernel
theorem dX9_ends_90 : decode cX9_ends 90 = .ok (.aload_n 0, 1) := by decide +kernel
theorem dX9_ends_91 : decode cX9_ends 91 = .ok (.getfield 230, 3) := by decide +kernel
theorem dX9_ends_94 : decode cX9_ends 94 = .ok (.iload_n 3, 1) := by decide +kernel
theorem dX9_ends_95 : decode cX9_ends 95 = .ok (.invokestatic 105, 3) := by decide +kernel
theorem dX9_ends_98 : decode cX9_ends 98 = .ok (.goto 7, 3) := by decide +kernel
theorem dX9_ends_101 : decode cX9_ends 101 = .ok (.aload_n 0, 1) := by decide +kernel
theorem dX9_ends_102 : decode cX9_ends 102 = .ok (.getfield 230, 3) := by decide +kernel
theorem dX9_ends_105 : decode cX9_ends 105 = .ok (.putfield 230, 3) := by decide +kernel
theorem dX9_ends_108 : decode cX9_ends 108 = .ok (.iinc 2 1, 3) := by decide +kernel
theorem dX9_ends_111 : decode cX9_ends 111 = .ok (.goto (-85), 3) := by decide +kernel
theorem dX9_ends_114 : decode cX9_ends 114 = .ok (.return_, 1) := by decide +kernel
theorem dX9_between_0 : decode cX9_between 0 = .ok (.iconst 0, 1) := by decide +kernel
theorem dX9_between_1 : decode cX9_between 1 = .ok (.istore 4, 2) := by decide +kernel
theorem dX9_between_3 : decode cX9_between 3 = .ok (.iconst 0, 1) := by decide +kernel
theorem dX9_between_4 : decode cX9_between 4 = .ok (.istore 5, 2) := by decide +kernel
theorem dX9_between_6 : decode cX9_between 6 = .ok (.iload 5, 2) := by decide +kernel
theorem dX9_between_8 : decode cX9_between 8 = .ok (.bipush 10, 2) := by decide +kernel
theorem dX9_between_10 : decode cX9_between 10 = .ok (.if_icmp .ge 59, 3) := by decide +kernel
theorem dX9_between_13 : decode cX9_between 13 = .ok (.iload 4, 2) := by decide +kernel
theorem dX9_between_15 : decode cX9_between 15 = .ok (.iload_n 1, 1) := by decide +kernel
theorem dX9_between_16 : decode cX9_between 16 = .ok (.iload 5, 2) := by decide +kernel
theorem dX9_between_18 : decode cX9_between 18 = .ok (.invokestatic 258, 3) := by decide +kernel
theorem dX9_between_21 : decode cX9_between 21 = .ok (.ifCond .eq 38, 3) := by decide +kernel
theorem dX9_between_24 : decode cX9_between 24 = .ok (.aload_n 0, 1) := by decide +kernel
theorem dX9_between_25 : decode cX9_between 25 = .ok (.getfield 9, 3) := by decide +kernel
theorem dX9_between_28 : decode cX9_between 28 = .ok (.bipush 7, 2) := by decide +kernel
theorem dX9_between_30 : decode cX9_between 30 = .ok (.iload 5, 2) := by decide +kernel
theorem dX9_between_32 : decode cX9_between 32 = .ok (.iadd, 1) := by decide +kernel
theorem dX9_between_33 : decode cX9_between 33 = .ok (.iaload, 1) := by decide +kernel
theorem dX9_between_34 : decode cX9_between 34 = .ok (.iload 5, 2) := by decide +kernel
theorem dX9_between_36 : decode cX9_between 36 = .ok (.invokestatic 286, 3) := by decide +kernel
theorem dX9_between_39 : decode cX9_between 39 = .ok (.i2l, 1) := by decide +kernel
theorem dX9_between_40 : decode cX9_between 40 = .ok (.iload_n 2, 1) := by decide +kernel
theorem dX9_between_41 : decode cX9_between 41 = .ok (.i2l, 1) := by decide +kernel
theorem dX9_between_42 : decode cX9_between 42 = .ok (.iload_n 3, 1) := by decide +kernel
theorem dX9_between_43 : decode cX9_between 43 = .ok (.iconst 1, 1) := by decide +kernel
theorem dX9_between_44 : decode cX9_between 44 = .ok (.isub, 1) := by decide +kernel
theorem dX9_between_45 : decode cX9_between 45 = .ok (.i2l, 1) := by decide +kernel
theorem dX9_between_46 : decode cX9_between 46 = .ok (.invokestatic 84, 3) := by decide +kernel
theorem dX9_between_49 : decode cX9_between 49 = .ok (.ifCond .eq 10, 3) := by decide +kernel
theorem dX9_between_52 : decode cX9_between 52 = .ok (.iconst 1, 1) := by decide +kernel
theorem dX9_between_53 : decode cX9_between 53 = .ok (.iload 5, 2) := by decide +kernel
theorem dX9_between_55 : decode cX9_between 55 = .ok (.ishl, 1) := by decide +kernel
theorem dX9_between_56 : decode cX9_between 56 = .ok (.goto 4, 3) := by decide +kernel
theorem dX9_between_59 : decode cX9_between 59 = .ok (.iconst 0, 1) := by decide +kernel
theorem dX9_between_60 : decode cX9_between 60 = .ok (.ior, 1) := by decide +kernel
theorem dX9_between_61 : decode cX9_between 61 = .ok (.istore 4, 2) := by decide +kernel
theorem dX9_between_63 : decode cX9_between 63 = .ok (.iinc 5 1, 3) := by decide +kernel
theorem dX9_between_66 : decode cX9_between 66 = .ok (.goto (-60), 3) := by decide +kernel
theorem dX9_between_69 : decode cX9_between 69 = .ok (.iload 4, 2) := by decide +kernel
theorem dX9_between_71 : decode cX9_between 71 = .ok (.ireturn, 1) := by decide +kernel
theorem dX9_splits_0 : decode cX9_splits 0 = .ok (.aload_n 0, 1) := by decide +kernel
theorem dX9_splits_1 : decode cX9_splits 1 = .ok (.getfield 218, 3) := by decide +kernel
theorem dX9_splits_4 : decode cX9_splits 4 = .ok (.iconst 1, 1) := by decide +kernel
theorem dX9_splits_5 : decode cX9_splits 5 = .ok (.isub, 1) := by decide +kernel
theorem dX9_splits_6 : decode cX9_splits 6 = .ok (.istore_n 1, 1) := by decide +kernel
theorem dX9_splits_7 : decode cX9_splits 7 = .ok (.aload_n 0, 1) := by decide +kernel
theorem dX9_splits_8 : decode cX9_splits 8 = .ok (.getfield 26, 3) := by decide +kernel
theorem dX9_splits_11 : decode cX9_splits 11 = .ok (.iload_n 1, 1) := by decide +kernel
theorem dX9_splits_12 : decode cX9_splits 12 = .ok (.iaload, 1) := by decide +kernel
theorem dX9_splits_13 : decode cX9_splits 13 = .ok (.istore_n 2, 1) := by decide +kernel
theorem dX9_splits_14 : decode cX9_splits 14 = .ok (.iconst 0, 1) := by decide +kernel
theorem dX9_splits_15 : decode cX9_splits 15 = .ok (.istore_n 3, 1) := by decide +kernel
theorem dX9_splits_16 : decode cX9_splits 16 = .ok (.aload_n 0, 1) := by decide +kernel
theorem dX9_splits_17 : decode cX9_splits 17 = .ok (.getfield 29, 3) := by decide +kernel
theorem dX9_splits_20 : decode cX9_splits 20 = .ok (.iload_n 1, 1) := by decide +kernel
theorem dX9_splits_21 : decode cX9_splits 21 = .ok (.iaload, 1) := by decide +kernel
theorem dX9_splits_22 : decode cX9_splits 22 = .ok (.aload_n 0, 1) := by decide +kernel
theorem dX9_splits_23 : decode cX9_splits 23 = .ok (.getfield 32, 3) := by decide +kernel
theorem dX9_splits_26 : decode cX9_splits 26 = .ok (.iload_n 1, 1) := by decide +kernel
theorem dX9_splits_27 : decode cX9_splits 27 = .ok (.iaload, 1) := by decide +kernel
theorem dX9_splits_28 : decode cX9_splits 28 = .ok (.aload_n 0, 1) := by decide +kernel
theorem dX9_splits_29 : decode cX9_splits 29 = .ok (.getfield 29, 3) := by decide +kernel
theorem dX9_splits_32 : decode cX9_splits 32 = .ok (.iload_n 1, 1) := by decide +kernel
theorem dX9_splits_33 : decode cX9_splits 33 = .ok (.iaload, 1) := by decide +kernel
theorem dX9_splits_34 : decode cX9_splits 34 = .ok (.isub, 1) := by decide +kernel
theorem dX9_splits_35 : decode cX9_splits 35 = .ok (.iconst 2, 1) := by decide +kernel
theorem dX9_splits_36 : decode cX9_splits 36 = .ok (.idiv, 1) := by decide +kernel
theorem dX9_splits_37 : decode cX9_splits 37 = .ok (.iadd, 1) := by decide +kernel
theorem dX9_splits_38 : decode cX9_splits 38 = .ok (.istore 4, 2) := by decide +kernel
theorem dX9_splits_40 : decode cX9_splits 40 = .ok (.aload_n 0, 1) := by decide +kernel
theorem dX9_splits_41 : decode cX9_splits 41 = .ok (.getfield 209, 3) := by decide +kernel
theorem dX9_splits_44 : decode cX9_splits 44 = .ok (.iconst 3, 1) := by decide +kernel
theorem dX9_splits_45 : decode cX9_splits 45 = .ok (.if_icmp .ne 20, 3) := by decide +kernel
theorem dX9_splits_48 : decode cX9_splits 48 = .ok (.aload_n 0, 1) := by decide +kernel
theorem dX9_splits_49 : decode cX9_splits 49 = .ok (.iload_n 2, 1) := by decide +kernel
theorem dX9_splits_50 : decode cX9_splits 50 = .ok (.iload 4, 2) := by decide +kernel
theorem dX9_splits_52 : decode cX9_splits 52 = .ok (.aload_n 0, 1) := by decide +kernel
theorem dX9_splits_53 : decode cX9_splits 53 = .ok (.getfield 32, 3) := by decide +kernel
theorem dX9_splits_56 : decode cX9_splits 56 = .ok (.iload_n 1, 1) := by decide +kernel
theorem dX9_splits_57 : decode cX9_splits 57 = .ok (.iaload, 1) := by decide +kernel
theorem dX9_splits_58 : decode cX9_splits 58 = .ok (.invokevirtual 279, 3) := by decide +kernel
theorem dX9_splits_61 : decode cX9_splits 61 = .ok (.istore_n 3, 1) := by decide +kernel
theorem dX9_splits_62 : decode cX9_splits 62 = .ok (.goto 49, 3) := by decide +kernel
theorem dX9_splits_65 : decode cX9_splits 65 = .ok (.iconst 0, 1) := by decide +kernel
theorem dX9_splits_66 : decode cX9_splits 66 = .ok (.istore 5, 2) := by decide +kernel
theorem dX9_splits_68 : decode cX9_splits 68 = .ok (.iload 5, 2) := by decide +kernel
theorem dX9_splits_70 : decode cX9_splits 70 = .ok (.bipush 10, 2) := by decide +kernel
theorem dX9_splits_72 : decode cX9_splits 72 = .ok (.if_icmp .ge 39, 3) := by decide +kernel
theorem dX9_splits_75 : decode cX9_splits 75 = .ok (.iload_n 3, 1) := by decide +kernel
theorem dX9_splits_76 : decode cX9_splits 76 = .ok (.iload_n 2, 1) := by decide +kernel
theorem dX9_splits_77 : decode cX9_splits 77 = .ok (.iload 5, 2) := by decide +kernel
theorem dX9_splits_79 : decode cX9_splits 79 = .ok (.invokestatic 258, 3) := by decide +kernel
theorem dX9_splits_82 : decode cX9_splits 82 = .ok (.ifCond .eq 20, 3) := by decide +kernel
theorem dX9_splits_85 : decode cX9_splits 85 = .ok (.aload_n 0, 1) := by decide +kernel
theorem dX9_splits_86 : decode cX9_splits 86 = .ok (.iload 5, 2) := by decide +kernel
theorem dX9_splits_88 : decode cX9_splits 88 = .ok (.invokevirtual 264, 3) := by decide +kernel
theorem dX9_splits_91 : decode cX9_splits 91 = .ok (.iconst 1, 1) := by decide +kernel
theorem dX9_splits_92 : decode cX9_splits 92 = .ok (.if_icmp .ne 10, 3) := by decide +kernel
theorem dX9_splits_95 : decode cX9_splits 95 = .ok (.iconst 1, 1) := by decide +kernel
theorem dX9_splits_96 : decode cX9_splits 96 = .ok (.iload 5, 2) := by decide +kernel
theorem dX9_splits_98 : decode cX9_splits 98 = .ok (.ishl, 1) := by decide +kernel
theorem dX9_splits_99 : decode cX9_splits 99 = .ok (.goto 4, 3) := by decide +kernel
theorem dX9_splits_102 : decode cX9_splits 102 = .ok (.iconst 0, 1) := by decide +kernel
theorem dX9_splits_103 : decode cX9_splits 103 = .ok (.ior, 1) := by decide +kernel
theorem dX9_splits_104 : decode cX9_splits 104 = .ok (.istore_n 3, 1) := by decide +kernel
theorem dX9_splits_105 : decode cX9_splits 105 = .ok (.iinc 5 1, 3) := by decide +kernel
theorem dX9_splits_108 : decode cX9_splits 108 = .ok (.goto (-40), 3) := by decide +kernel
theorem dX9_splits_111 : decode cX9_splits 111 = .ok (.aload_n 0, 1) := by decide +kernel
theorem dX9_splits_112 : decode cX9_splits 112 = .ok (.getfield 26, 3) := by decide +kernel
theorem dX9_splits_115 : decode cX9_splits 115 = .ok (.iload_n 1, 1) := by decide +kernel
theorem dX9_splits_116 : decode cX9_splits 116 = .ok (.iconst 1, 1) := by decide +kernel
theorem dX9_splits_117 : decode cX9_splits 117 = .ok (.iadd, 1) := by decide +kernel
theorem dX9_splits_118 : decode cX9_splits 118 = .ok (.iload_n 2, 1) := by decide +kernel
theorem dX9_splits_119 : decode cX9_splits 119 = .ok (.iload_n 3, 1) := by decide +kernel
theorem dX9_splits_120 : decode cX9_splits 120 = .ok (.iconst (-1), 1) := by decide +kernel
theorem dX9_splits_121 : decode cX9_splits 121 = .ok (.ixor, 1) := by decide +kernel
theorem dX9_splits_122 : decode cX9_splits 122 = .ok (.iand, 1) := by decide +kernel
theorem dX9_splits_123 : decode cX9_splits 123 = .ok (.iastore, 1) := by decide +kernel
theorem dX9_splits_124 : decode cX9_splits 124 = .ok (.aload_n 0, 1) := by decide +kernel
theorem dX9_splits_125 : decode cX9_splits 125 = .ok (.getfield 29, 3) := by decide +kernel
theorem dX9_splits_128 : decode cX9_splits 128 = .ok (.iload_n 1, 1) := by decide +kernel
theorem dX9_splits_129 : decode cX9_splits 129 = .ok (.iconst 1, 1) := by decide +kernel
theorem dX9_splits_130 : decode cX9_splits 130 = .ok (.iadd, 1) := by decide +kernel
theorem dX9_splits_131 : decode cX9_splits 131 = .ok (.aload_n 0, 1) := by decide +kernel
theorem dX9_splits_132 : decode cX9_splits 132 = .ok (.getfield 29, 3) := by decide +kernel
theorem dX9_splits_135 : decode cX9_splits 135 = .ok (.iload_n 1, 1) := by decide +kernel
theorem dX9_splits_136 : decode cX9_splits 136 = .ok (.iaload, 1) := by decide +kernel
theorem dX9_splits_137 : decode cX9_splits 137 = .ok (.iastore, 1) := by decide +kernel
theorem dX9_splits_138 : decode cX9_splits 138 = .ok (.aload_n 0, 1) := by decide +kernel
theorem dX9_splits_139 : decode cX9_splits 139 = .ok (.getfield 32, 3) := by decide +kernel
theorem dX9_splits_142 : decode cX9_splits 142 = .ok (.iload_n 1, 1) := by decide +kernel
theorem dX9_splits_143 : decode cX9_splits 143 = .ok (.iconst 1, 1) := by decide +kernel
theorem dX9_splits_144 : decode cX9_splits 144 = .ok (.iadd, 1) := by decide +kernel
theorem dX9_splits_145 : decode cX9_splits 145 = .ok (.iload 4, 2) := by decide +kernel
theorem dX9_splits_147 : decode cX9_splits 147 = .ok (.iastore, 1) := by decide +kernel
theorem dX9_splits_148 : decode cX9_splits 148 = .ok (.aload_n 0, 1) := by decide +kernel
theorem dX9_splits_149 : decode cX9_splits 149 = .ok (.getfield 26, 3) := by decide +kernel
theorem dX9_splits_152 : decode cX9_splits 152 = .ok (.iload_n 1, 1) := by decide +kernel
theorem dX9_splits_153 : decode cX9_splits 153 = .ok (.iload_n 3, 1) := by decide +kernel
theorem dX9_splits_154 : decode cX9_splits 154 = .ok (.iastore, 1) := by decide +kernel
theorem dX9_splits_155 : decode cX9_splits 155 = .ok (.aload_n 0, 1) := by decide +kernel
theorem dX9_splits_156 : decode cX9_splits 156 = .ok (.getfield 29, 3) := by decide +kernel
theorem dX9_splits_159 : decode cX9_splits 159 = .ok (.iload_n 1, 1) := by decide +kernel
theorem dX9_splits_160 : decode cX9_splits 160 = .ok (.iload 4, 2) := by decide +kernel
theorem dX9_splits_162 : decode cX9_splits 162 = .ok (.iastore, 1) := by decide +kernel
theorem dX9_splits_163 : decode cX9_splits 163 = .ok (.aload_n 0, 1) := by decide +kernel
theorem dX9_splits_164 : decode cX9_splits 164 = .ok (.dup, 1) := by decide +kernel
theorem dX9_splits_165 : decode cX9_splits 165 = .ok (.getfield 218, 3) := by decide +kernel
theorem dX9_splits_168 : decode cX9_splits 168 = .ok (.iconst 1, 1) := by decide +kernel
theorem dX9_splits_169 : decode cX9_splits 169 = .ok (.iadd, 1) := by decide +kernel
theorem dX9_splits_170 : decode cX9_splits 170 = .ok (.putfield 218, 3) := by decide +kernel
theorem dX9_splits_173 : decode cX9_splits 173 = .ok (.return_, 1) := by decide +kernel
theorem dX9_isSlot_0 : decode cX9_isSlot 0 = .ok (.aload_n 0, 1) := by decide +kernel
theorem dX9_isSlot_1 : decode cX9_isSlot 1 = .ok (.invokevirtual 289, 3) := by decide +kernel
theorem dX9_isSlot_4 : decode cX9_isSlot 4 = .ok (.ifCond .eq 25, 3) := by decide +kernel
theorem dX9_isSlot_7 : decode cX9_isSlot 7 = .ok (.iload_n 1, 1) := by decide +kernel
theorem dX9_isSlot_8 : decode cX9_isSlot 8 = .ok (.i2l, 1) := by decide +kernel
theorem dX9_isSlot_9 : decode cX9_isSlot 9 = .ok (.lconst 0, 1) := by decide +kernel
theorem dX9_isSlot_10 : decode cX9_isSlot 10 = .ok (.aload_n 0, 1) := by decide +kernel
theorem dX9_isSlot_11 : decode cX9_isSlot 11 = .ok (.getfield 9, 3) := by decide +kernel
theorem dX9_isSlot_14 : decode cX9_isSlot 14 = .ok (.iconst 1, 1) := by decide +kernel
theorem dX9_isSlot_15 : decode cX9_isSlot 15 = .ok (.iaload, 1) := by decide +kernel
theorem dX9_isSlot_16 : decode cX9_isSlot 16 = .ok (.iconst 1, 1) := by decide +kernel
theorem dX9_isSlot_17 : decode cX9_isSlot 17 = .ok (.isub, 1) := by decide +kernel
theorem dX9_isSlot_18 : decode cX9_isSlot 18 = .ok (.i2l, 1) := by decide +kernel
theorem dX9_isSlot_19 : decode cX9_isSlot 19 = .ok (.invokestatic 84, 3) := by decide +kernel
theorem dX9_isSlot_22 : decode cX9_isSlot 22 = .ok (.ifCond .eq 7, 3) := by decide +kernel
theorem dX9_isSlot_25 : decode cX9_isSlot 25 = .ok (.iconst 1, 1) := by decide +kernel
theorem dX9_isSlot_26 : decode cX9_isSlot 26 = .ok (.goto 4, 3) := by decide +kernel
theorem dX9_isSlot_29 : decode cX9_isSlot 29 = .ok (.iconst 0, 1) := by decide +kernel
theorem dX9_isSlot_30 : decode cX9_isSlot 30 = .ok (.ireturn, 1) := by decide +kernel
theorem dX9_slot_0 : decode cX9_slot 0 = .ok (.aload_n 0, 1) := by decide +kernel
theorem dX9_slot_1 : decode cX9_slot 1 = .ok (.iload_n 1, 1) := by decide +kernel
theorem dX9_slot_2 : decode cX9_slot 2 = .ok (.invokevirtual 293, 3) := by decide +kernel
theorem dX9_slot_5 : decode cX9_slot 5 = .ok (.ifCond .eq 15, 3) := by decide +kernel
theorem dX9_slot_8 : decode cX9_slot 8 = .ok (.iload_n 2, 1) := by decide +kernel
theorem dX9_slot_9 : decode cX9_slot 9 = .ok (.i2l, 1) := by decide +kernel
theorem dX9_slot_10 : decode cX9_slot 10 = .ok (.lconst 0, 1) := by decide +kernel
theorem dX9_slot_11 : decode cX9_slot 11 = .ok (.ldc2_w 296, 3) := by decide +kernel
theorem dX9_slot_14 : decode cX9_slot 14 = .ok (.invokestatic 84, 3) := by decide +kernel
theorem dX9_slot_17 : decode cX9_slot 17 = .ok (.ifCond .ne 6, 3) := by decide +kernel
theorem dX9_slot_20 : decode cX9_slot 20 = .ok (.bipush (-2), 2) := by decide +kernel
theorem dX9_slot_22 : decode cX9_slot 22 = .ok (.ireturn, 1) := by decide +kernel
theorem dX9_slot_23 : decode cX9_slot 23 = .ok (.aload_n 0, 1) := by decide +kernel
theorem dX9_slot_24 : decode cX9_slot 24 = .ok (.invokevirtual 298, 3) := by decide +kernel
theorem dX9_slot_27 : decode cX9_slot 27 = .ok (.iload_n 2, 1) := by decide +kernel
theorem dX9_slot_28 : decode cX9_slot 28 = .ok (.tableswitch 63 0 3 #[32, 42, 49, 56], 32) := by decide +kernel
theorem dX9_slot_60 : decode cX9_slot 60 = .ok (.aload_n 0, 1) := by decide +kernel
theorem dX9_slot_61 : decode cX9_slot 61 = .ok (.getfield 44, 3) := by decide +kernel
theorem dX9_slot_64 : decode cX9_slot 64 = .ok (.iload_n 1, 1) := by decide +kernel
theorem dX9_slot_65 : decode cX9_slot 65 = .ok (.iaload, 1) := by decide +kernel
theorem dX9_slot_66 : decode cX9_slot 66 = .ok (.invokestatic 252, 3) := by decide +kernel
theorem dX9_slot_69 : decode cX9_slot 69 = .ok (.ireturn, 1) := by decide +kernel
theorem dX9_slot_70 : decode cX9_slot 70 = .ok (.aload_n 0, 1) := by decide +kernel
theorem dX9_slot_71 : decode cX9_slot 71 = .ok (.getfield 47, 3) := by decide +kernel
theorem dX9_slot_74 : decode cX9_slot 74 = .ok (.iload_n 1, 1) := by decide +kernel
theorem dX9_slot_75 : decode cX9_slot 75 = .ok (.iaload, 1) := by decide +kernel
theorem dX9_slot_76 : decode cX9_slot 76 = .ok (.ireturn, 1) := by decide +kernel
theorem dX9_slot_77 : decode cX9_slot 77 = .ok (.aload_n 0, 1) := by decide +kernel
theorem dX9_slot_78 : decode cX9_slot 78 = .ok (.getfield 50, 3) := by decide +kernel
theorem dX9_slot_81 : decode cX9_slot 81 = .ok (.iload_n 1, 1) := by decide +kernel
theorem dX9_slot_82 : decode cX9_slot 82 = .ok (.iaload, 1) := by decide +kernel
theorem dX9_slot_83 : decode cX9_slot 83 = .ok (.ireturn, 1) := by decide +kernel
theorem dX9_slot_84 : decode cX9_slot 84 = .ok (.aload_n 0, 1) := by decide +kernel
theorem dX9_slot_85 : decode cX9_slot 85 = .ok (.getfield 53, 3) := by decide +kernel
theorem dX9_slot_88 : decode cX9_slot 88 = .ok (.iload_n 1, 1) := by decide +kernel
theorem dX9_slot_89 : decode cX9_slot 89 = .ok (.iaload, 1) := by decide +kernel
theorem dX9_slot_90 : decode cX9_slot 90 = .ok (.ireturn, 1) := by decide +kernel
theorem dX9_slot_91 : decode cX9_slot 91 = .ok (.aload_n 0, 1) := by decide +kernel
theorem dX9_slot_92 : decode cX9_slot 92 = .ok (.getfield 56, 3) := by decide +kernel
theorem dX9_slot_95 : decode cX9_slot 95 = .ok (.iload_n 1, 1) := by decide +kernel
theorem dX9_slot_96 : decode cX9_slot 96 = .ok (.iaload, 1) := by decide +kernel
theorem dX9_slot_97 : decode cX9_slot 97 = .ok (.ireturn, 1) := by decide +kernel
theorem dX9_sends_0 : decode cX9_sends 0 = .ok (.aload_n 0, 1) := by decide +kernel
theorem dX9_sends_1 : decode cX9_sends 1 = .ok (.iload_n 1, 1) := by decide +kernel
theorem dX9_sends_2 : decode cX9_sends 2 = .ok (.invokevirtual 293, 3) := by decide +kernel
theorem dX9_sends_5 : decode cX9_sends 5 = .ok (.ifCond .eq 11, 3) := by decide +kernel
theorem dX9_sends_8 : decode cX9_sends 8 = .ok (.aload_n 0, 1) := by decide +kernel
theorem dX9_sends_9 : decode cX9_sends 9 = .ok (.iload_n 2, 1) := by decide +kernel
theorem dX9_sends_10 : decode cX9_sends 10 = .ok (.invokevirtual 197, 3) := by decide +kernel
theorem dX9_sends_13 : decode cX9_sends 13 = .ok (.ifCond .ne 6, 3) := by decide +kernel
theorem dX9_sends_16 : decode cX9_sends 16 = .ok (.bipush (-2), 2) := by decide +kernel
theorem dX9_sends_18 : decode cX9_sends 18 = .ok (.ireturn, 1) := by decide +kernel
theorem dX9_sends_19 : decode cX9_sends 19 = .ok (.aload_n 0, 1) := by decide +kernel
theorem dX9_sends_20 : decode cX9_sends 20 = .ok (.invokevirtual 298, 3) := by decide +kernel
theorem dX9_sends_23 : decode cX9_sends 23 = .ok (.aload_n 0, 1) := by decide +kernel
theorem dX9_sends_24 : decode cX9_sends 24 = .ok (.getfield 44, 3) := by decide +kernel
theorem dX9_sends_27 : decode cX9_sends 27 = .ok (.iload_n 1, 1) := by decide +kernel
theorem dX9_sends_28 : decode cX9_sends 28 = .ok (.iaload, 1) := by decide +kernel
theorem dX9_sends_29 : decode cX9_sends 29 = .ok (.iload_n 2, 1) := by decide +kernel
theorem dX9_sends_30 : decode cX9_sends 30 = .ok (.invokestatic 258, 3) := by decide +kernel
theorem dX9_sends_33 : decode cX9_sends 33 = .ok (.ifCond .eq 7, 3) := by decide +kernel
theorem dX9_sends_36 : decode cX9_sends 36 = .ok (.iconst 1, 1) := by decide +kernel
theorem dX9_sends_37 : decode cX9_sends 37 = .ok (.goto 4, 3) := by decide +kernel
theorem dX9_sends_40 : decode cX9_sends 40 = .ok (.iconst 0, 1) := by decide +kernel
theorem dX9_sends_41 : decode cX9_sends 41 = .ok (.ireturn, 1) := by decide +kernel
theorem dX9_delivered_0 : decode cX9_delivered 0 = .ok (.aload_n 0, 1) := by decide +kernel
theorem dX9_delivered_1 : decode cX9_delivered 1 = .ok (.iload_n 1, 1) := by decide +kernel
theorem dX9_delivered_2 : decode cX9_delivered 2 = .ok (.invokevirtual 197, 3) := by decide +kernel
theorem dX9_delivered_5 : decode cX9_delivered 5 = .ok (.ifCond .ne 6, 3) := by decide +kernel
theorem dX9_delivered_8 : decode cX9_delivered 8 = .ok (.bipush (-2), 2) := by decide +kernel
theorem dX9_delivered_10 : decode cX9_delivered 10 = .ok (.ireturn, 1) := by decide +kernel
theorem dX9_delivered_11 : decode cX9_delivered 11 = .ok (.aload_n 0, 1) := by decide +kernel
theorem dX9_delivered_12 : decode cX9_delivered 12 = .ok (.invokevirtual 298, 3) := by decide +kernel
theorem dX9_delivered_15 : decode cX9_delivered 15 = .ok (.aload_n 0, 1) := by decide +kernel
theorem dX9_delivered_16 : decode cX9_delivered 16 = .ok (.getfield 41, 3) := by decide +kernel
theorem dX9_delivered_19 : decode cX9_delivered 19 = .ok (.iload_n 1, 1) := by decide +kernel
theorem dX9_delivered_20 : decode cX9_delivered 20 = .ok (.iaload, 1) := by decide +kernel
theorem dX9_delivered_21 : decode cX9_delivered 21 = .ok (.ireturn, 1) := by decide +kernel
theorem dX9_tries_0 : decode cX9_tries 0 = .ok (.aload_n 0, 1) := by decide +kernel
theorem dX9_tries_1 : decode cX9_tries 1 = .ok (.iload_n 1, 1) := by decide +kernel
theorem dX9_tries_2 : decode cX9_tries 2 = .ok (.invokevirtual 197, 3) := by decide +kernel
theorem dX9_tries_5 : decode cX9_tries 5 = .ok (.ifCond .ne 6, 3) := by decide +kernel
theorem dX9_tries_8 : decode cX9_tries 8 = .ok (.bipush (-2), 2) := by decide +kernel
theorem dX9_tries_10 : decode cX9_tries 10 = .ok (.ireturn, 1) := by decide +kernel
theorem dX9_tries_11 : decode cX9_tries 11 = .ok (.aload_n 0, 1) := by decide +kernel
theorem dX9_tries_12 : decode cX9_tries 12 = .ok (.invokevirtual 298, 3) := by decide +kernel
theorem dX9_tries_15 : decode cX9_tries 15 = .ok (.iconst 0, 1) := by decide +kernel
theorem dX9_tries_16 : decode cX9_tries 16 = .ok (.istore_n 2, 1) := by decide +kernel
theorem dX9_tries_17 : decode cX9_tries 17 = .ok (.iconst 0, 1) := by decide +kernel
theorem dX9_tries_18 : decode cX9_tries 18 = .ok (.istore_n 3, 1) := by decide +kernel
theorem dX9_tries_19 : decode cX9_tries 19 = .ok (.iload_n 3, 1) := by decide +kernel
theorem dX9_tries_20 : decode cX9_tries 20 = .ok (.aload_n 0, 1) := by decide +kernel
theorem dX9_tries_21 : decode cX9_tries 21 = .ok (.getfield 9, 3) := by decide +kernel
theorem dX9_tries_24 : decode cX9_tries 24 = .ok (.iconst 1, 1) := by decide +kernel
theorem dX9_tries_25 : decode cX9_tries 25 = .ok (.iaload, 1) := by decide +kernel
theorem dX9_tries_26 : decode cX9_tries 26 = .ok (.if_icmp .ge 30, 3) := by decide +kernel
theorem dX9_tries_29 : decode cX9_tries 29 = .ok (.iload_n 2, 1) := by decide +kernel
theorem dX9_tries_30 : decode cX9_tries 30 = .ok (.aload_n 0, 1) := by decide +kernel
theorem dX9_tries_31 : decode cX9_tries 31 = .ok (.getfield 44, 3) := by decide +kernel
theorem dX9_tries_34 : decode cX9_tries 34 = .ok (.iload_n 3, 1) := by decide +kernel
theorem dX9_tries_35 : decode cX9_tries 35 = .ok (.iaload, 1) := by decide +kernel
theorem dX9_tries_36 : decode cX9_tries 36 = .ok (.iload_n 1, 1) := by decide +kernel
theorem dX9_tries_37 : decode cX9_tries 37 = .ok (.invokestatic 258, 3) := by decide +kernel
theorem dX9_tries_40 : decode cX9_tries 40 = .ok (.ifCond .eq 7, 3) := by decide +kernel
theorem dX9_tries_43 : decode cX9_tries 43 = .ok (.iconst 1, 1) := by decide +kernel
theorem dX9_tries_44 : decode cX9_tries 44 = .ok (.goto 4, 3) := by decide +kernel
theorem dX9_tries_47 : decode cX9_tries 47 = .ok (.iconst 0, 1) := by decide +kernel
theorem dX9_tries_48 : decode cX9_tries 48 = .ok (.iadd, 1) := by decide +kernel
theorem dX9_tries_49 : decode cX9_tries 49 = .ok (.istore_n 2, 1) := by decide +kernel
theorem dX9_tries_50 : decode cX9_tries 50 = .ok (.iinc 3 1, 3) := by decide +kernel
theorem dX9_tries_53 : decode cX9_tries 53 = .ok (.goto (-34), 3) := by decide +kernel
theorem dX9_tries_56 : decode cX9_tries 56 = .ok (.iload_n 2, 1) := by decide +kernel
theorem dX9_tries_57 : decode cX9_tries 57 = .ok (.ireturn, 1) := by decide +kernel
theorem dX9_taken_0 : decode cX9_taken 0 = .ok (.aload_n 0, 1) := by decide +kernel
theorem dX9_taken_1 : decode cX9_taken 1 = .ok (.iload_n 1, 1) := by decide +kernel
theorem dX9_taken_2 : decode cX9_taken 2 = .ok (.invokevirtual 197, 3) := by decide +kernel
theorem dX9_taken_5 : decode cX9_taken 5 = .ok (.ifCond .ne 6, 3) := by decide +kernel
theorem dX9_taken_8 : decode cX9_taken 8 = .ok (.bipush (-2), 2) := by decide +kernel
theorem dX9_taken_10 : decode cX9_taken 10 = .ok (.ireturn, 1) := by decide +kernel
theorem dX9_taken_11 : decode cX9_taken 11 = .ok (.aload_n 0, 1) := by decide +kernel
theorem dX9_taken_12 : decode cX9_taken 12 = .ok (.invokevirtual 298, 3) := by decide +kernel
theorem dX9_taken_15 : decode cX9_taken 15 = .ok (.aload_n 0, 1) := by decide +kernel
theorem dX9_taken_16 : decode cX9_taken 16 = .ok (.getfield 35, 3) := by decide +kernel
theorem dX9_taken_19 : decode cX9_taken 19 = .ok (.iload_n 1, 1) := by decide +kernel
theorem dX9_taken_20 : decode cX9_taken 20 = .ok (.iaload, 1) := by decide +kernel
theorem dX9_taken_21 : decode cX9_taken 21 = .ok (.ireturn, 1) := by decide +kernel
theorem dX9_order_0 : decode cX9_order 0 = .ok (.aload_n 0, 1) := by decide +kernel
theorem dX9_order_1 : decode cX9_order 1 = .ok (.invokevirtual 289, 3) := by decide +kernel
theorem dX9_order_4 : decode cX9_order 4 = .ok (.ifCond .eq 7, 3) := by decide +kernel
theorem dX9_order_7 : decode cX9_order 7 = .ok (.iload_n 1, 1) := by decide +kernel
theorem dX9_order_8 : decode cX9_order 8 = .ok (.ifCond .ge 6, 3) := by decide +kernel
theorem dX9_order_11 : decode cX9_order 11 = .ok (.bipush (-2), 2) := by decide +kernel
theorem dX9_order_13 : decode cX9_order 13 = .ok (.ireturn, 1) := by decide +kernel
theorem dX9_order_14 : decode cX9_order 14 = .ok (.aload_n 0, 1) := by decide +kernel
theorem dX9_order_15 : decode cX9_order 15 = .ok (.invokevirtual 298, 3) := by decide +kernel
theorem dX9_order_18 : decode cX9_order 18 = .ok (.iload_n 1, 1) := by decide +kernel
theorem dX9_order_19 : decode cX9_order 19 = .ok (.istore_n 2, 1) := by decide +kernel
theorem dX9_order_20 : decode cX9_order 20 = .ok (.iconst 0, 1) := by decide +kernel
theorem dX9_order_21 : decode cX9_order 21 = .ok (.istore_n 3, 1) := by decide +kernel
theorem dX9_order_22 : decode cX9_order 22 = .ok (.iload_n 3, 1) := by decide +kernel
theorem dX9_order_23 : decode cX9_order 23 = .ok (.aload_n 0, 1) := by decide +kernel
theorem dX9_order_24 : decode cX9_order 24 = .ok (.getfield 9, 3) := by decide +kernel
theorem dX9_order_27 : decode cX9_order 27 = .ok (.iconst 1, 1) := by decide +kernel
theorem dX9_order_28 : decode cX9_order 28 = .ok (.iaload, 1) := by decide +kernel
theorem dX9_order_29 : decode cX9_order 29 = .ok (.if_icmp .ge 33, 3) := by decide +kernel
theorem dX9_order_32 : decode cX9_order 32 = .ok (.aload_n 0, 1) := by decide +kernel
theorem dX9_order_33 : decode cX9_order 33 = .ok (.getfield 50, 3) := by decide +kernel
theorem dX9_order_36 : decode cX9_order 36 = .ok (.iload_n 3, 1) := by decide +kernel
theorem dX9_order_37 : decode cX9_order 37 = .ok (.iaload, 1) := by decide +kernel
theorem dX9_order_38 : decode cX9_order 38 = .ok (.iconst (-1), 1) := by decide +kernel
theorem dX9_order_39 : decode cX9_order 39 = .ok (.if_icmp .eq 17, 3) := by decide +kernel
theorem dX9_order_42 : decode cX9_order 42 = .ok (.iload_n 2, 1) := by decide +kernel
theorem dX9_order_43 : decode cX9_order 43 = .ok (.ifCond .ne 10, 3) := by decide +kernel
theorem dX9_order_46 : decode cX9_order 46 = .ok (.aload_n 0, 1) := by decide +kernel
theorem dX9_order_47 : decode cX9_order 47 = .ok (.getfield 50, 3) := by decide +kernel
theorem dX9_order_50 : decode cX9_order 50 = .ok (.iload_n 3, 1) := by decide +kernel
theorem dX9_order_51 : decode cX9_order 51 = .ok (.iaload, 1) := by decide +kernel
theorem dX9_order_52 : decode cX9_order 52 = .ok (.ireturn, 1) := by decide +kernel
theorem dX9_order_53 : decode cX9_order 53 = .ok (.iinc 2 (-1), 3) := by decide +kernel
theorem dX9_order_56 : decode cX9_order 56 = .ok (.iinc 3 1, 3) := by decide +kernel
theorem dX9_order_59 : decode cX9_order 59 = .ok (.goto (-37), 3) := by decide +kernel
theorem dX9_order_62 : decode cX9_order 62 = .ok (.iconst (-1), 1) := by decide +kernel
theorem dX9_order_63 : decode cX9_order 63 = .ok (.ireturn, 1) := by decide +kernel
theorem dX9_all_0 : decode cX9_all 0 = .ok (.aload_n 0, 1) := by decide +kernel
theorem dX9_all_1 : decode cX9_all 1 = .ok (.invokevirtual 289, 3) := by decide +kernel
theorem dX9_all_4 : decode cX9_all 4 = .ok (.ifCond .ne 6, 3) := by decide +kernel
theorem dX9_all_7 : decode cX9_all 7 = .ok (.bipush (-2), 2) := by decide +kernel
theorem dX9_all_9 : decode cX9_all 9 = .ok (.ireturn, 1) := by decide +kernel
theorem dX9_all_10 : decode cX9_all 10 = .ok (.aload_n 0, 1) := by decide +kernel
theorem dX9_all_11 : decode cX9_all 11 = .ok (.invokevirtual 298, 3) := by decide +kernel
theorem dX9_all_14 : decode cX9_all 14 = .ok (.aload_n 0, 1) := by decide +kernel
theorem dX9_all_15 : decode cX9_all 15 = .ok (.getfield 236, 3) := by decide +kernel
theorem dX9_all_18 : decode cX9_all 18 = .ok (.ireturn, 1) := by decide +kernel
theorem dX9_lastOf_0 : decode cX9_lastOf 0 = .ok (.iconst (-1), 1) := by decide +kernel
theorem dX9_lastOf_1 : decode cX9_lastOf 1 = .ok (.istore_n 1, 1) := by decide +kernel
theorem dX9_lastOf_2 : decode cX9_lastOf 2 = .ok (.iconst 0, 1) := by decide +kernel
theorem dX9_lastOf_3 : decode cX9_lastOf 3 = .ok (.istore_n 2, 1) := by decide +kernel
theorem dX9_lastOf_4 : decode cX9_lastOf 4 = .ok (.iload_n 2, 1) := by decide +kernel
theorem dX9_lastOf_5 : decode cX9_lastOf 5 = .ok (.aload_n 0, 1) := by decide +kernel
theorem dX9_lastOf_6 : decode cX9_lastOf 6 = .ok (.getfield 9, 3) := by decide +kernel
theorem dX9_lastOf_9 : decode cX9_lastOf 9 = .ok (.iconst 4, 1) := by decide +kernel
theorem dX9_lastOf_10 : decode cX9_lastOf 10 = .ok (.iaload, 1) := by decide +kernel
theorem dX9_lastOf_11 : decode cX9_lastOf 11 = .ok (.if_icmp .ge 20, 3) := by decide +kernel
theorem dX9_lastOf_14 : decode cX9_lastOf 14 = .ok (.iload_n 1, 1) := by decide +kernel
theorem dX9_lastOf_15 : decode cX9_lastOf 15 = .ok (.aload_n 0, 1) := by decide +kernel
theorem dX9_lastOf_16 : decode cX9_lastOf 16 = .ok (.getfield 41, 3) := by decide +kernel
theorem dX9_lastOf_19 : decode cX9_lastOf 19 = .ok (.iload_n 2, 1) := by decide +kernel
theorem dX9_lastOf_20 : decode cX9_lastOf 20 = .ok (.iaload, 1) := by decide +kernel
theorem dX9_lastOf_21 : decode cX9_lastOf 21 = .ok (.invokestatic 267, 3) := by decide +kernel
theorem dX9_lastOf_24 : decode cX9_lastOf 24 = .ok (.istore_n 1, 1) := by decide +kernel
theorem dX9_lastOf_25 : decode cX9_lastOf 25 = .ok (.iinc 2 1, 3) := by decide +kernel
theorem dX9_lastOf_28 : decode cX9_lastOf 28 = .ok (.goto (-24), 3) := by decide +kernel
theorem dX9_lastOf_31 : decode cX9_lastOf 31 = .ok (.aload_n 0, 1) := by decide +kernel
theorem dX9_lastOf_32 : decode cX9_lastOf 32 = .ok (.getfield 236, 3) := by decide +kernel
theorem dX9_lastOf_35 : decode cX9_lastOf 35 = .ok (.aload_n 0, 1) := by decide +kernel
theorem dX9_lastOf_36 : decode cX9_lastOf 36 = .ok (.getfield 9, 3) := by decide +kernel
theorem dX9_lastOf_39 : decode cX9_lastOf 39 = .ok (.iconst 4, 1) := by decide +kernel
theorem dX9_lastOf_40 : decode cX9_lastOf 40 = .ok (.iaload, 1) := by decide +kernel
theorem dX9_lastOf_41 : decode cX9_lastOf 41 = .ok (.if_icmp .ne 7, 3) := by decide +kernel
theorem dX9_lastOf_44 : decode cX9_lastOf 44 = .ok (.iload_n 1, 1) := by decide +kernel
theorem dX9_lastOf_45 : decode cX9_lastOf 45 = .ok (.goto 4, 3) := by decide +kernel
theorem dX9_lastOf_48 : decode cX9_lastOf 48 = .ok (.iconst (-1), 1) := by decide +kernel
theorem dX9_lastOf_49 : decode cX9_lastOf 49 = .ok (.ireturn, 1) := by decide +kernel
theorem dX9_done_0 : decode cX9_done 0 = .ok (.aload_n 0, 1) := by decide +kernel
theorem dX9_done_1 : decode cX9_done 1 = .ok (.invokevirtual 289, 3) := by decide +kernel
theorem dX9_done_4 : decode cX9_done 4 = .ok (.ifCond .ne 6, 3) := by decide +kernel
theorem dX9_done_7 : decode cX9_done 7 = .ok (.bipush (-2), 2) := by decide +kernel
theorem dX9_done_9 : decode cX9_done 9 = .ok (.ireturn, 1) := by decide +kernel
theorem dX9_done_10 : decode cX9_done 10 = .ok (.aload_n 0, 1) := by decide +kernel
theorem dX9_done_11 : decode cX9_done 11 = .ok (.invokevirtual 298, 3) := by decide +kernel
theorem dX9_done_14 : decode cX9_done 14 = .ok (.aload_n 0, 1) := by decide +kernel
theorem dX9_done_15 : decode cX9_done 15 = .ok (.invokevirtual 301, 3) := by decide +kernel
theorem dX9_done_18 : decode cX9_done 18 = .ok (.ireturn, 1) := by decide +kernel
theorem dX9_heard_0 : decode cX9_heard 0 = .ok (.aload_n 0, 1) := by decide +kernel
theorem dX9_heard_1 : decode cX9_heard 1 = .ok (.invokevirtual 289, 3) := by decide +kernel
theorem dX9_heard_4 : decode cX9_heard 4 = .ok (.ifCond .eq 15, 3) := by decide +kernel
theorem dX9_heard_7 : decode cX9_heard 7 = .ok (.iload_n 1, 1) := by decide +kernel
theorem dX9_heard_8 : decode cX9_heard 8 = .ok (.i2l, 1) := by decide +kernel
theorem dX9_heard_9 : decode cX9_heard 9 = .ok (.lconst 0, 1) := by decide +kernel
theorem dX9_heard_10 : decode cX9_heard 10 = .ok (.ldc2_w 304, 3) := by decide +kernel
theorem dX9_heard_13 : decode cX9_heard 13 = .ok (.invokestatic 84, 3) := by decide +kernel
theorem dX9_heard_16 : decode cX9_heard 16 = .ok (.ifCond .ne 6, 3) := by decide +kernel
theorem dX9_heard_19 : decode cX9_heard 19 = .ok (.bipush (-2), 2) := by decide +kernel
theorem dX9_heard_21 : decode cX9_heard 21 = .ok (.ireturn, 1) := by decide +kernel
theorem dX9_heard_22 : decode cX9_heard 22 = .ok (.aload_n 0, 1) := by decide +kernel
theorem dX9_heard_23 : decode cX9_heard 23 = .ok (.invokevirtual 298, 3) := by decide +kernel
theorem dX9_heard_26 : decode cX9_heard 26 = .ok (.iconst 0, 1) := by decide +kernel
theorem dX9_heard_27 : decode cX9_heard 27 = .ok (.istore_n 2, 1) := by decide +kernel
theorem dX9_heard_28 : decode cX9_heard 28 = .ok (.iconst 0, 1) := by decide +kernel
theorem dX9_heard_29 : decode cX9_heard 29 = .ok (.istore_n 3, 1) := by decide +kernel
theorem dX9_heard_30 : decode cX9_heard 30 = .ok (.iload_n 3, 1) := by decide +kernel
theorem dX9_heard_31 : decode cX9_heard 31 = .ok (.aload_n 0, 1) := by decide +kernel
theorem dX9_heard_32 : decode cX9_heard 32 = .ok (.getfield 9, 3) := by decide +kernel
theorem dX9_heard_35 : decode cX9_heard 35 = .ok (.iconst 1, 1) := by decide +kernel
theorem dX9_heard_36 : decode cX9_heard 36 = .ok (.iaload, 1) := by decide +kernel
theorem dX9_heard_37 : decode cX9_heard 37 = .ok (.if_icmp .ge 27, 3) := by decide +kernel
theorem dX9_heard_40 : decode cX9_heard 40 = .ok (.iload_n 2, 1) := by decide +kernel
theorem dX9_heard_41 : decode cX9_heard 41 = .ok (.aload_n 0, 1) := by decide +kernel
theorem dX9_heard_42 : decode cX9_heard 42 = .ok (.getfield 47, 3) := by decide +kernel
theorem dX9_heard_45 : decode cX9_heard 45 = .ok (.iload_n 3, 1) := by decide +kernel
theorem dX9_heard_46 : decode cX9_heard 46 = .ok (.iaload, 1) := by decide +kernel
theorem dX9_heard_47 : decode cX9_heard 47 = .ok (.iload_n 1, 1) := by decide +kernel
theorem dX9_heard_48 : decode cX9_heard 48 = .ok (.if_icmp .ne 7, 3) := by decide +kernel
theorem dX9_heard_51 : decode cX9_heard 51 = .ok (.iconst 1, 1) := by decide +kernel
theorem dX9_heard_52 : decode cX9_heard 52 = .ok (.goto 4, 3) := by decide +kernel
theorem dX9_heard_55 : decode cX9_heard 55 = .ok (.iconst 0, 1) := by decide +kernel
theorem dX9_heard_56 : decode cX9_heard 56 = .ok (.iadd, 1) := by decide +kernel
theorem dX9_heard_57 : decode cX9_heard 57 = .ok (.istore_n 2, 1) := by decide +kernel
theorem dX9_heard_58 : decode cX9_heard 58 = .ok (.iinc 3 1, 3) := by decide +kernel
theorem dX9_heard_61 : decode cX9_heard 61 = .ok (.goto (-31), 3) := by decide +kernel
theorem dX9_heard_64 : decode cX9_heard 64 = .ok (.iload_n 2, 1) := by decide +kernel
theorem dX9_heard_65 : decode cX9_heard 65 = .ok (.ireturn, 1) := by decide +kernel
theorem dX9_collisions_0 : decode cX9_collisions 0 = .ok (.iconst 0, 1) := by decide +kernel
theorem dX9_collisions_1 : decode cX9_collisions 1 = .ok (.istore_n 1, 1) := by decide +kernel
theorem dX9_collisions_2 : decode cX9_collisions 2 = .ok (.iconst 0, 1) := by decide +kernel
theorem dX9_collisions_3 : decode cX9_collisions 3 = .ok (.istore_n 2, 1) := by decide +kernel
theorem dX9_collisions_4 : decode cX9_collisions 4 = .ok (.iload_n 2, 1) := by decide +kernel
theorem dX9_collisions_5 : decode cX9_collisions 5 = .ok (.aload_n 0, 1) := by decide +kernel
theorem dX9_collisions_6 : decode cX9_collisions 6 = .ok (.getfield 9, 3) := by decide +kernel
theorem dX9_collisions_9 : decode cX9_collisions 9 = .ok (.iconst 1, 1) := by decide +kernel
theorem dX9_collisions_10 : decode cX9_collisions 10 = .ok (.iaload, 1) := by decide +kernel
theorem dX9_collisions_11 : decode cX9_collisions 11 = .ok (.if_icmp .ge 30, 3) := by decide +kernel
theorem dX9_collisions_14 : decode cX9_collisions 14 = .ok (.iload_n 1, 1) := by decide +kernel
theorem dX9_collisions_15 : decode cX9_collisions 15 = .ok (.aload_n 0, 1) := by decide +kernel
theorem dX9_collisions_16 : decode cX9_collisions 16 = .ok (.getfield 44, 3) := by decide +kernel
theorem dX9_collisions_19 : decode cX9_collisions 19 = .ok (.iload_n 2, 1) := by decide +kernel
theorem dX9_collisions_20 : decode cX9_collisions 20 = .ok (.iaload, 1) := by decide +kernel
theorem dX9_collisions_21 : decode cX9_collisions 21 = .ok (.invokestatic 252, 3) := by decide +kernel
theorem dX9_collisions_24 : decode cX9_collisions 24 = .ok (.iconst 1, 1) := by decide +kernel
theorem dX9_collisions_25 : decode cX9_collisions 25 = .ok (.if_icmp .le 7, 3) := by decide +kernel
theorem dX9_collisions_28 : decode cX9_collisions 28 = .ok (.iconst 1, 1) := by decide +kernel
theorem dX9_collisions_29 : decode cX9_collisions 29 = .ok (.goto 4, 3) := by decide +kernel
theorem dX9_collisions_32 : decode cX9_collisions 32 = .ok (.iconst 0, 1) := by decide +kernel
theorem dX9_collisions_33 : decode cX9_collisions 33 = .ok (.iadd, 1) := by decide +kernel
theorem dX9_collisions_34 : decode cX9_collisions 34 = .ok (.istore_n 1, 1) := by decide +kernel
theorem dX9_collisions_35 : decode cX9_collisions 35 = .ok (.iinc 2 1, 3) := by decide +kernel
theorem dX9_collisions_38 : decode cX9_collisions 38 = .ok (.goto (-34), 3) := by decide +kernel
theorem dX9_collisions_41 : decode cX9_collisions 41 = .ok (.iload_n 1, 1) := by decide +kernel
theorem dX9_collisions_42 : decode cX9_collisions 42 = .ok (.ireturn, 1) := by decide +kernel
theorem dX9_skipsAll_0 : decode cX9_skipsAll 0 = .ok (.iconst 0, 1) := by decide +kernel
theorem dX9_skipsAll_1 : decode cX9_skipsAll 1 = .ok (.istore_n 1, 1) := by decide +kernel
theorem dX9_skipsAll_2 : decode cX9_skipsAll 2 = .ok (.iconst 0, 1) := by decide +kernel
theorem dX9_skipsAll_3 : decode cX9_skipsAll 3 = .ok (.istore_n 2, 1) := by decide +kernel
theorem dX9_skipsAll_4 : decode cX9_skipsAll 4 = .ok (.iload_n 2, 1) := by decide +kernel
theorem dX9_skipsAll_5 : decode cX9_skipsAll 5 = .ok (.aload_n 0, 1) := by decide +kernel
theorem dX9_skipsAll_6 : decode cX9_skipsAll 6 = .ok (.getfield 9, 3) := by decide +kernel
theorem dX9_skipsAll_9 : decode cX9_skipsAll 9 = .ok (.iconst 1, 1) := by decide +kernel
theorem dX9_skipsAll_10 : decode cX9_skipsAll 10 = .ok (.iaload, 1) := by decide +kernel
theorem dX9_skipsAll_11 : decode cX9_skipsAll 11 = .ok (.if_icmp .ge 18, 3) := by decide +kernel
theorem dX9_skipsAll_14 : decode cX9_skipsAll 14 = .ok (.iload_n 1, 1) := by decide +kernel
theorem dX9_skipsAll_15 : decode cX9_skipsAll 15 = .ok (.aload_n 0, 1) := by decide +kernel
theorem dX9_skipsAll_16 : decode cX9_skipsAll 16 = .ok (.getfield 56, 3) := by decide +kernel
theorem dX9_skipsAll_19 : decode cX9_skipsAll 19 = .ok (.iload_n 2, 1) := by decide +kernel
theorem dX9_skipsAll_20 : decode cX9_skipsAll 20 = .ok (.iaload, 1) := by decide +kernel
theorem dX9_skipsAll_21 : decode cX9_skipsAll 21 = .ok (.iadd, 1) := by decide +kernel
theorem dX9_skipsAll_22 : decode cX9_skipsAll 22 = .ok (.istore_n 1, 1) := by decide +kernel
theorem dX9_skipsAll_23 : decode cX9_skipsAll 23 = .ok (.iinc 2 1, 3) := by decide +kernel
theorem dX9_skipsAll_26 : decode cX9_skipsAll 26 = .ok (.goto (-22), 3) := by decide +kernel
theorem dX9_skipsAll_29 : decode cX9_skipsAll 29 = .ok (.iload_n 1, 1) := by decide +kernel
theorem dX9_skipsAll_30 : decode cX9_skipsAll 30 = .ok (.ireturn, 1) := by decide +kernel
theorem dX9_collided_0 : decode cX9_collided 0 = .ok (.aload_n 0, 1) := by decide +kernel
theorem dX9_collided_1 : decode cX9_collided 1 = .ok (.invokevirtual 289, 3) := by decide +kernel
theorem dX9_collided_4 : decode cX9_collided 4 = .ok (.ifCond .ne 6, 3) := by decide +kernel
theorem dX9_collided_7 : decode cX9_collided 7 = .ok (.bipush (-2), 2) := by decide +kernel
theorem dX9_collided_9 : decode cX9_collided 9 = .ok (.ireturn, 1) := by decide +kernel
theorem dX9_collided_10 : decode cX9_collided 10 = .ok (.aload_n 0, 1) := by decide +kernel
theorem dX9_collided_11 : decode cX9_collided 11 = .ok (.invokevirtual 298, 3) := by decide +kernel
theorem dX9_collided_14 : decode cX9_collided 14 = .ok (.aload_n 0, 1) := by decide +kernel
theorem dX9_collided_15 : decode cX9_collided 15 = .ok (.invokevirtual 306, 3) := by decide +kernel
theorem dX9_collided_18 : decode cX9_collided 18 = .ok (.ireturn, 1) := by decide +kernel
theorem dX9_skips_0 : decode cX9_skips 0 = .ok (.aload_n 0, 1) := by decide +kernel
theorem dX9_skips_1 : decode cX9_skips 1 = .ok (.invokevirtual 289, 3) := by decide +kernel
theorem dX9_skips_4 : decode cX9_skips 4 = .ok (.ifCond .ne 6, 3) := by decide +kernel
theorem dX9_skips_7 : decode cX9_skips 7 = .ok (.bipush (-2), 2) := by decide +kernel
theorem dX9_skips_9 : decode cX9_skips 9 = .ok (.ireturn, 1) := by decide +kernel
theorem dX9_skips_10 : decode cX9_skips 10 = .ok (.aload_n 0, 1) := by decide +kernel
theorem dX9_skips_11 : decode cX9_skips 11 = .ok (.invokevirtual 298, 3) := by decide +kernel
theorem dX9_skips_14 : decode cX9_skips 14 = .ok (.aload_n 0, 1) := by decide +kernel
theorem dX9_skips_15 : decode cX9_skips 15 = .ok (.invokevirtual 309, 3) := by decide +kernel
theorem dX9_skips_18 : decode cX9_skips 18 = .ok (.ireturn, 1) := by decide +kernel
theorem dX9_deepest_0 : decode cX9_deepest 0 = .ok (.aload_n 0, 1) := by decide +kernel
theorem dX9_deepest_1 : decode cX9_deepest 1 = .ok (.invokevirtual 289, 3) := by decide +kernel
theorem dX9_deepest_4 : decode cX9_deepest 4 = .ok (.ifCond .ne 6, 3) := by decide +kernel
theorem dX9_deepest_7 : decode cX9_deepest 7 = .ok (.bipush (-2), 2) := by decide +kernel
theorem dX9_deepest_9 : decode cX9_deepest 9 = .ok (.ireturn, 1) := by decide +kernel
theorem dX9_deepest_10 : decode cX9_deepest 10 = .ok (.aload_n 0, 1) := by decide +kernel
theorem dX9_deepest_11 : decode cX9_deepest 11 = .ok (.invokevirtual 298, 3) := by decide +kernel
theorem dX9_deepest_14 : decode cX9_deepest 14 = .ok (.iconst 0, 1) := by decide +kernel
theorem dX9_deepest_15 : decode cX9_deepest 15 = .ok (.istore_n 1, 1) := by decide +kernel
theorem dX9_deepest_16 : decode cX9_deepest 16 = .ok (.iconst 0, 1) := by decide +kernel
theorem dX9_deepest_17 : decode cX9_deepest 17 = .ok (.istore_n 2, 1) := by decide +kernel
theorem dX9_deepest_18 : decode cX9_deepest 18 = .ok (.iload_n 2, 1) := by decide +kernel
theorem dX9_deepest_19 : decode cX9_deepest 19 = .ok (.aload_n 0, 1) := by decide +kernel
theorem dX9_deepest_20 : decode cX9_deepest 20 = .ok (.getfield 9, 3) := by decide +kernel
theorem dX9_deepest_23 : decode cX9_deepest 23 = .ok (.iconst 1, 1) := by decide +kernel
theorem dX9_deepest_24 : decode cX9_deepest 24 = .ok (.iaload, 1) := by decide +kernel
theorem dX9_deepest_25 : decode cX9_deepest 25 = .ok (.if_icmp .ge 20, 3) := by decide +kernel
theorem dX9_deepest_28 : decode cX9_deepest 28 = .ok (.iload_n 1, 1) := by decide +kernel
theorem dX9_deepest_29 : decode cX9_deepest 29 = .ok (.aload_n 0, 1) := by decide +kernel
theorem dX9_deepest_30 : decode cX9_deepest 30 = .ok (.getfield 53, 3) := by decide +kernel
theorem dX9_deepest_33 : decode cX9_deepest 33 = .ok (.iload_n 2, 1) := by decide +kernel
theorem dX9_deepest_34 : decode cX9_deepest 34 = .ok (.iaload, 1) := by decide +kernel
theorem dX9_deepest_35 : decode cX9_deepest 35 = .ok (.invokestatic 267, 3) := by decide +kernel
theorem dX9_deepest_38 : decode cX9_deepest 38 = .ok (.istore_n 1, 1) := by decide +kernel
theorem dX9_deepest_39 : decode cX9_deepest 39 = .ok (.iinc 2 1, 3) := by decide +kernel
theorem dX9_deepest_42 : decode cX9_deepest 42 = .ok (.goto (-24), 3) := by decide +kernel
theorem dX9_deepest_45 : decode cX9_deepest 45 = .ok (.iload_n 1, 1) := by decide +kernel
theorem dX9_deepest_46 : decode cX9_deepest 46 = .ok (.ireturn, 1) := by decide +kernel
theorem dX9_epochs_0 : decode cX9_epochs 0 = .ok (.aload_n 0, 1) := by decide +kernel
theorem dX9_epochs_1 : decode cX9_epochs 1 = .ok (.invokevirtual 289, 3) := by decide +kernel
theorem dX9_epochs_4 : decode cX9_epochs 4 = .ok (.ifCond .ne 6, 3) := by decide +kernel
theorem dX9_epochs_7 : decode cX9_epochs 7 = .ok (.bipush (-2), 2) := by decide +kernel
theorem dX9_epochs_9 : decode cX9_epochs 9 = .ok (.ireturn, 1) := by decide +kernel
theorem dX9_epochs_10 : decode cX9_epochs 10 = .ok (.aload_n 0, 1) := by decide +kernel
theorem dX9_epochs_11 : decode cX9_epochs 11 = .ok (.invokevirtual 298, 3) := by decide +kernel
theorem dX9_epochs_14 : decode cX9_epochs 14 = .ok (.aload_n 0, 1) := by decide +kernel
theorem dX9_epochs_15 : decode cX9_epochs 15 = .ok (.getfield 233, 3) := by decide +kernel
theorem dX9_epochs_18 : decode cX9_epochs 18 = .ok (.ireturn, 1) := by decide +kernel
theorem dX9_epoch_0 : decode cX9_epoch 0 = .ok (.aload_n 0, 1) := by decide +kernel
theorem dX9_epoch_1 : decode cX9_epoch 1 = .ok (.invokevirtual 289, 3) := by decide +kernel
theorem dX9_epoch_4 : decode cX9_epoch 4 = .ok (.ifCond .eq 19, 3) := by decide +kernel
theorem dX9_epoch_7 : decode cX9_epoch 7 = .ok (.iload_n 1, 1) := by decide +kernel
theorem dX9_epoch_8 : decode cX9_epoch 8 = .ok (.ifCond .lt 15, 3) := by decide +kernel
theorem dX9_epoch_11 : decode cX9_epoch 11 = .ok (.iload_n 2, 1) := by decide +kernel
theorem dX9_epoch_12 : decode cX9_epoch 12 = .ok (.i2l, 1) := by decide +kernel
theorem dX9_epoch_13 : decode cX9_epoch 13 = .ok (.lconst 0, 1) := by decide +kernel
theorem dX9_epoch_14 : decode cX9_epoch 14 = .ok (.ldc2_w 304, 3) := by decide +kernel
theorem dX9_epoch_17 : decode cX9_epoch 17 = .ok (.invokestatic 84, 3) := by decide +kernel
theorem dX9_epoch_20 : decode cX9_epoch 20 = .ok (.ifCond .ne 6, 3) := by decide +kernel
theorem dX9_epoch_23 : decode cX9_epoch 23 = .ok (.bipush (-2), 2) := by decide +kernel
theorem dX9_epoch_25 : decode cX9_epoch 25 = .ok (.ireturn, 1) := by decide +kernel
theorem dX9_epoch_26 : decode cX9_epoch 26 = .ok (.aload_n 0, 1) := by decide +kernel
theorem dX9_epoch_27 : decode cX9_epoch 27 = .ok (.invokevirtual 298, 3) := by decide +kernel
theorem dX9_epoch_30 : decode cX9_epoch 30 = .ok (.iload_n 1, 1) := by decide +kernel
theorem dX9_epoch_31 : decode cX9_epoch 31 = .ok (.aload_n 0, 1) := by decide +kernel
theorem dX9_epoch_32 : decode cX9_epoch 32 = .ok (.getfield 233, 3) := by decide +kernel
theorem dX9_epoch_35 : decode cX9_epoch 35 = .ok (.if_icmp .lt 5, 3) := by decide +kernel
theorem dX9_epoch_38 : decode cX9_epoch 38 = .ok (.iconst (-1), 1) := by decide +kernel
theorem dX9_epoch_39 : decode cX9_epoch 39 = .ok (.ireturn, 1) := by decide +kernel
theorem dX9_epoch_40 : decode cX9_epoch 40 = .ok (.iload_n 2, 1) := by decide +kernel
theorem dX9_epoch_41 : decode cX9_epoch 41 = .ok (.ifCond .ne 12, 3) := by decide +kernel
theorem dX9_epoch_44 : decode cX9_epoch 44 = .ok (.aload_n 0, 1) := by decide +kernel
theorem dX9_epoch_45 : decode cX9_epoch 45 = .ok (.getfield 59, 3) := by decide +kernel
theorem dX9_epoch_48 : decode cX9_epoch 48 = .ok (.iload_n 1, 1) := by decide +kernel
theorem dX9_epoch_49 : decode cX9_epoch 49 = .ok (.iaload, 1) := by decide +kernel
theorem dX9_epoch_50 : decode cX9_epoch 50 = .ok (.goto 23, 3) := by decide +kernel
theorem dX9_epoch_53 : decode cX9_epoch 53 = .ok (.iload_n 2, 1) := by decide +kernel
theorem dX9_epoch_54 : decode cX9_epoch 54 = .ok (.iconst 1, 1) := by decide +kernel
theorem dX9_epoch_55 : decode cX9_epoch 55 = .ok (.if_icmp .ne 12, 3) := by decide +kernel
theorem dX9_epoch_58 : decode cX9_epoch 58 = .ok (.aload_n 0, 1) := by decide +kernel
theorem dX9_epoch_59 : decode cX9_epoch 59 = .ok (.getfield 62, 3) := by decide +kernel
theorem dX9_epoch_62 : decode cX9_epoch 62 = .ok (.iload_n 1, 1) := by decide +kernel
theorem dX9_epoch_63 : decode cX9_epoch 63 = .ok (.iaload, 1) := by decide +kernel
theorem dX9_epoch_64 : decode cX9_epoch 64 = .ok (.goto 9, 3) := by decide +kernel
theorem dX9_epoch_67 : decode cX9_epoch 67 = .ok (.aload_n 0, 1) := by decide +kernel
theorem dX9_epoch_68 : decode cX9_epoch 68 = .ok (.getfield 65, 3) := by decide +kernel
theorem dX9_epoch_71 : decode cX9_epoch 71 = .ok (.iload_n 1, 1) := by decide +kernel
theorem dX9_epoch_72 : decode cX9_epoch 72 = .ok (.iaload, 1) := by decide +kernel
theorem dX9_epoch_73 : decode cX9_epoch 73 = .ok (.ireturn, 1) := by decide +kernel
theorem dX9_behind_0 : decode cX9_behind 0 = .ok (.aload_n 0, 1) := by decide +kernel
theorem dX9_behind_1 : decode cX9_behind 1 = .ok (.iload_n 1, 1) := by decide +kernel
theorem dX9_behind_2 : decode cX9_behind 2 = .ok (.invokevirtual 197, 3) := by decide +kernel
theorem dX9_behind_5 : decode cX9_behind 5 = .ok (.ifCond .ne 6, 3) := by decide +kernel
theorem dX9_behind_8 : decode cX9_behind 8 = .ok (.bipush (-2), 2) := by decide +kernel
theorem dX9_behind_10 : decode cX9_behind 10 = .ok (.ireturn, 1) := by decide +kernel
theorem dX9_behind_11 : decode cX9_behind 11 = .ok (.aload_n 0, 1) := by decide +kernel
theorem dX9_behind_12 : decode cX9_behind 12 = .ok (.invokevirtual 298, 3) := by decide +kernel
theorem dX9_behind_15 : decode cX9_behind 15 = .ok (.aload_n 0, 1) := by decide +kernel
theorem dX9_behind_16 : decode cX9_behind 16 = .ok (.getfield 41, 3) := by decide +kernel
theorem dX9_behind_19 : decode cX9_behind 19 = .ok (.iload_n 1, 1) := by decide +kernel
theorem dX9_behind_20 : decode cX9_behind 20 = .ok (.iaload, 1) := by decide +kernel
theorem dX9_behind_21 : decode cX9_behind 21 = .ok (.iconst (-1), 1) := by decide +kernel
theorem dX9_behind_22 : decode cX9_behind 22 = .ok (.if_icmp .ne 14, 3) := by decide +kernel
theorem dX9_behind_25 : decode cX9_behind 25 = .ok (.aload_n 0, 1) := by decide +kernel
theorem dX9_behind_26 : decode cX9_behind 26 = .ok (.getfield 9, 3) := by decide +kernel
theorem dX9_behind_29 : decode cX9_behind 29 = .ok (.iconst 1, 1) := by decide +kernel
theorem dX9_behind_30 : decode cX9_behind 30 = .ok (.iaload, 1) := by decide +kernel
theorem dX9_behind_31 : decode cX9_behind 31 = .ok (.iconst 1, 1) := by decide +kernel
theorem dX9_behind_32 : decode cX9_behind 32 = .ok (.isub, 1) := by decide +kernel
theorem dX9_behind_33 : decode cX9_behind 33 = .ok (.goto 9, 3) := by decide +kernel
theorem dX9_behind_36 : decode cX9_behind 36 = .ok (.aload_n 0, 1) := by decide +kernel
theorem dX9_behind_37 : decode cX9_behind 37 = .ok (.getfield 41, 3) := by decide +kernel
theorem dX9_behind_40 : decode cX9_behind 40 = .ok (.iload_n 1, 1) := by decide +kernel
theorem dX9_behind_41 : decode cX9_behind 41 = .ok (.iaload, 1) := by decide +kernel
theorem dX9_behind_42 : decode cX9_behind 42 = .ok (.istore_n 2, 1) := by decide +kernel
theorem dX9_behind_43 : decode cX9_behind 43 = .ok (.iconst 0, 1) := by decide +kernel
theorem dX9_behind_44 : decode cX9_behind 44 = .ok (.istore_n 3, 1) := by decide +kernel
theorem dX9_behind_45 : decode cX9_behind 45 = .ok (.aload_n 0, 1) := by decide +kernel
theorem dX9_behind_46 : decode cX9_behind 46 = .ok (.getfield 9, 3) := by decide +kernel
theorem dX9_behind_49 : decode cX9_behind 49 = .ok (.bipush 7, 2) := by decide +kernel
theorem dX9_behind_51 : decode cX9_behind 51 = .ok (.iload_n 1, 1) := by decide +kernel
theorem dX9_behind_52 : decode cX9_behind 52 = .ok (.iadd, 1) := by decide +kernel
theorem dX9_behind_53 : decode cX9_behind 53 = .ok (.iaload, 1) := by decide +kernel
theorem dX9_behind_54 : decode cX9_behind 54 = .ok (.istore 4, 2) := by decide +kernel
theorem dX9_behind_56 : decode cX9_behind 56 = .ok (.iload 4, 2) := by decide +kernel
theorem dX9_behind_58 : decode cX9_behind 58 = .ok (.iload_n 2, 1) := by decide +kernel
theorem dX9_behind_59 : decode cX9_behind 59 = .ok (.if_icmp .gt 39, 3) := by decide +kernel
theorem dX9_behind_62 : decode cX9_behind 62 = .ok (.iload_n 3, 1) := by decide +kernel
theorem dX9_behind_63 : decode cX9_behind 63 = .ok (.aload_n 0, 1) := by decide +kernel
theorem dX9_behind_64 : decode cX9_behind 64 = .ok (.getfield 50, 3) := by decide +kernel
theorem dX9_behind_67 : decode cX9_behind 67 = .ok (.iload 4, 2) := by decide +kernel
theorem dX9_behind_69 : decode cX9_behind 69 = .ok (.iaload, 1) := by decide +kernel
theorem dX9_behind_70 : decode cX9_behind 70 = .ok (.iconst (-1), 1) := by decide +kernel
theorem dX9_behind_71 : decode cX9_behind 71 = .ok (.if_icmp .eq 18, 3) := by decide +kernel
theorem dX9_behind_74 : decode cX9_behind 74 = .ok (.aload_n 0, 1) := by decide +kernel
theorem dX9_behind_75 : decode cX9_behind 75 = .ok (.getfield 50, 3) := by decide +kernel
theorem dX9_behind_78 : decode cX9_behind 78 = .ok (.iload 4, 2) := by decide +kernel
theorem dX9_behind_80 : decode cX9_behind 80 = .ok (.iaload, 1) := by decide +kernel
theorem dX9_behind_81 : decode cX9_behind 81 = .ok (.iload_n 1, 1) := by decide +kernel
theorem dX9_behind_82 : decode cX9_behind 82 = .ok (.if_icmp .eq 7, 3) := by decide +kernel
theorem dX9_behind_85 : decode cX9_behind 85 = .ok (.iconst 1, 1) := by decide +kernel
theorem dX9_behind_86 : decode cX9_behind 86 = .ok (.goto 4, 3) := by decide +kernel
theorem dX9_behind_89 : decode cX9_behind 89 = .ok (.iconst 0, 1) := by decide +kernel
theorem dX9_behind_90 : decode cX9_behind 90 = .ok (.iadd, 1) := by decide +kernel
theorem dX9_behind_91 : decode cX9_behind 91 = .ok (.istore_n 3, 1) := by decide +kernel
theorem dX9_behind_92 : decode cX9_behind 92 = .ok (.iinc 4 1, 3) := by decide +kernel
theorem dX9_behind_95 : decode cX9_behind 95 = .ok (.goto (-39), 3) := by decide +kernel
theorem dX9_behind_98 : decode cX9_behind 98 = .ok (.iload_n 3, 1) := by decide +kernel
theorem dX9_behind_99 : decode cX9_behind 99 = .ok (.ireturn, 1) := by decide +kernel
theorem dX9_by_0 : decode cX9_by 0 = .ok (.aload_n 0, 1) := by decide +kernel
theorem dX9_by_1 : decode cX9_by 1 = .ok (.invokevirtual 289, 3) := by decide +kernel
theorem dX9_by_4 : decode cX9_by 4 = .ok (.ifCond .eq 27, 3) := by decide +kernel
theorem dX9_by_7 : decode cX9_by 7 = .ok (.iload_n 1, 1) := by decide +kernel
theorem dX9_by_8 : decode cX9_by 8 = .ok (.i2l, 1) := by decide +kernel
theorem dX9_by_9 : decode cX9_by 9 = .ok (.lconst 0, 1) := by decide +kernel
theorem dX9_by_10 : decode cX9_by 10 = .ok (.ldc2_w 312, 3) := by decide +kernel
theorem dX9_by_13 : decode cX9_by 13 = .ok (.invokestatic 84, 3) := by decide +kernel
theorem dX9_by_16 : decode cX9_by 16 = .ok (.ifCond .eq 15, 3) := by decide +kernel
theorem dX9_by_19 : decode cX9_by 19 = .ok (.iload_n 2, 1) := by decide +kernel
theorem dX9_by_20 : decode cX9_by 20 = .ok (.i2l, 1) := by decide +kernel
theorem dX9_by_21 : decode cX9_by 21 = .ok (.lconst 0, 1) := by decide +kernel
theorem dX9_by_22 : decode cX9_by 22 = .ok (.ldc2_w 312, 3) := by decide +kernel
theorem dX9_by_25 : decode cX9_by 25 = .ok (.invokestatic 84, 3) := by decide +kernel
theorem dX9_by_28 : decode cX9_by 28 = .ok (.ifCond .ne 6, 3) := by decide +kernel
theorem dX9_by_31 : decode cX9_by 31 = .ok (.bipush (-2), 2) := by decide +kernel
theorem dX9_by_33 : decode cX9_by 33 = .ok (.ireturn, 1) := by decide +kernel
theorem dX9_by_34 : decode cX9_by 34 = .ok (.aload_n 0, 1) := by decide +kernel
theorem dX9_by_35 : decode cX9_by 35 = .ok (.iload_n 1, 1) := by decide +kernel
theorem dX9_by_36 : decode cX9_by 36 = .ok (.iconst (-1), 1) := by decide +kernel
theorem dX9_by_37 : decode cX9_by 37 = .ok (.iconst (-1), 1) := by decide +kernel
theorem dX9_by_38 : decode cX9_by 38 = .ok (.invokevirtual 205, 3) := by decide +kernel
theorem dX9_by_41 : decode cX9_by 41 = .ok (.iload_n 2, 1) := by decide +kernel
theorem dX9_by_42 : decode cX9_by 42 = .ok (.ifCond .ne 10, 3) := by decide +kernel
theorem dX9_by_45 : decode cX9_by 45 = .ok (.aload_n 0, 1) := by decide +kernel
theorem dX9_by_46 : decode cX9_by 46 = .ok (.invokevirtual 301, 3) := by decide +kernel
theorem dX9_by_49 : decode cX9_by 49 = .ok (.goto 31, 3) := by decide +kernel
theorem dX9_by_52 : decode cX9_by 52 = .ok (.iload_n 2, 1) := by decide +kernel
theorem dX9_by_53 : decode cX9_by 53 = .ok (.iconst 1, 1) := by decide +kernel
theorem dX9_by_54 : decode cX9_by 54 = .ok (.if_icmp .ne 10, 3) := by decide +kernel
theorem dX9_by_57 : decode cX9_by 57 = .ok (.aload_n 0, 1) := by decide +kernel
theorem dX9_by_58 : decode cX9_by 58 = .ok (.getfield 236, 3) := by decide +kernel
theorem dX9_by_61 : decode cX9_by 61 = .ok (.goto 19, 3) := by decide +kernel
theorem dX9_by_64 : decode cX9_by 64 = .ok (.iload_n 2, 1) := by decide +kernel
theorem dX9_by_65 : decode cX9_by 65 = .ok (.iconst 2, 1) := by decide +kernel
theorem dX9_by_66 : decode cX9_by 66 = .ok (.if_icmp .ne 10, 3) := by decide +kernel
theorem dX9_by_69 : decode cX9_by 69 = .ok (.aload_n 0, 1) := by decide +kernel
theorem dX9_by_70 : decode cX9_by 70 = .ok (.invokevirtual 306, 3) := by decide +kernel
theorem dX9_by_73 : decode cX9_by 73 = .ok (.goto 7, 3) := by decide +kernel
theorem dX9_by_76 : decode cX9_by 76 = .ok (.aload_n 0, 1) := by decide +kernel
theorem dX9_by_77 : decode cX9_by 77 = .ok (.invokevirtual 309, 3) := by decide +kernel
theorem dX9_by_80 : decode cX9_by 80 = .ok (.ireturn, 1) := by decide +kernel
theorem dX9_moreWithout_0 : decode cX9_moreWithout 0 = .ok (.aload_n 0, 1) := by decide +kernel
theorem dX9_moreWithout_1 : decode cX9_moreWithout 1 = .ok (.invokevirtual 298, 3) := by decide +kernel
theorem dX9_moreWithout_4 : decode cX9_moreWithout 4 = .ok (.aload_n 0, 1) := by decide +kernel
theorem dX9_moreWithout_5 : decode cX9_moreWithout 5 = .ok (.getfield 236, 3) := by decide +kernel
theorem dX9_moreWithout_8 : decode cX9_moreWithout 8 = .ok (.istore_n 2, 1) := by decide +kernel
theorem dX9_moreWithout_9 : decode cX9_moreWithout 9 = .ok (.aload_n 0, 1) := by decide +kernel
theorem dX9_moreWithout_10 : decode cX9_moreWithout 10 = .ok (.aload_n 0, 1) := by decide +kernel
theorem dX9_moreWithout_11 : decode cX9_moreWithout 11 = .ok (.getfield 9, 3) := by decide +kernel
theorem dX9_moreWithout_14 : decode cX9_moreWithout 14 = .ok (.iconst 0, 1) := by decide +kernel
theorem dX9_moreWithout_15 : decode cX9_moreWithout 15 = .ok (.iaload, 1) := by decide +kernel
theorem dX9_moreWithout_16 : decode cX9_moreWithout 16 = .ok (.iload_n 1, 1) := by decide +kernel
theorem dX9_moreWithout_17 : decode cX9_moreWithout 17 = .ok (.iconst (-1), 1) := by decide +kernel
theorem dX9_moreWithout_18 : decode cX9_moreWithout 18 = .ok (.invokevirtual 205, 3) := by decide +kernel
theorem dX9_moreWithout_21 : decode cX9_moreWithout 21 = .ok (.aload_n 0, 1) := by decide +kernel
theorem dX9_moreWithout_22 : decode cX9_moreWithout 22 = .ok (.getfield 236, 3) := by decide +kernel
theorem dX9_moreWithout_25 : decode cX9_moreWithout 25 = .ok (.iload_n 2, 1) := by decide +kernel
theorem dX9_moreWithout_26 : decode cX9_moreWithout 26 = .ok (.isub, 1) := by decide +kernel
theorem dX9_moreWithout_27 : decode cX9_moreWithout 27 = .ok (.ireturn, 1) := by decide +kernel
theorem dX9_without_0 : decode cX9_without 0 = .ok (.iload_n 1, 1) := by decide +kernel
theorem dX9_without_1 : decode cX9_without 1 = .ok (.i2l, 1) := by decide +kernel
theorem dX9_without_2 : decode cX9_without 2 = .ok (.lconst 0, 1) := by decide +kernel
theorem dX9_without_3 : decode cX9_without 3 = .ok (.aload_n 0, 1) := by decide +kernel
theorem dX9_without_4 : decode cX9_without 4 = .ok (.getfield 9, 3) := by decide +kernel
theorem dX9_without_7 : decode cX9_without 7 = .ok (.iconst 5, 1) := by decide +kernel
theorem dX9_without_8 : decode cX9_without 8 = .ok (.iaload, 1) := by decide +kernel
theorem dX9_without_9 : decode cX9_without 9 = .ok (.iconst 1, 1) := by decide +kernel
theorem dX9_without_10 : decode cX9_without 10 = .ok (.isub, 1) := by decide +kernel
theorem dX9_without_11 : decode cX9_without 11 = .ok (.i2l, 1) := by decide +kernel
theorem dX9_without_12 : decode cX9_without 12 = .ok (.invokestatic 84, 3) := by decide +kernel
theorem dX9_without_15 : decode cX9_without 15 = .ok (.ifCond .eq 11, 3) := by decide +kernel
theorem dX9_without_18 : decode cX9_without 18 = .ok (.aload_n 0, 1) := by decide +kernel
theorem dX9_without_19 : decode cX9_without 19 = .ok (.iload_n 1, 1) := by decide +kernel
theorem dX9_without_20 : decode cX9_without 20 = .ok (.invokevirtual 314, 3) := by decide +kernel
theorem dX9_without_23 : decode cX9_without 23 = .ok (.goto 5, 3) := by decide +kernel
theorem dX9_without_26 : decode cX9_without 26 = .ok (.bipush (-99), 2) := by decide +kernel
theorem dX9_without_28 : decode cX9_without 28 = .ok (.ireturn, 1) := by decide +kernel
theorem dX9_alone_0 : decode cX9_alone 0 = .ok (.aload_n 0, 1) := by decide +kernel
theorem dX9_alone_1 : decode cX9_alone 1 = .ok (.iload_n 1, 1) := by decide +kernel
theorem dX9_alone_2 : decode cX9_alone 2 = .ok (.invokevirtual 197, 3) := by decide +kernel
theorem dX9_alone_5 : decode cX9_alone 5 = .ok (.ifCond .ne 6, 3) := by decide +kernel
theorem dX9_alone_8 : decode cX9_alone 8 = .ok (.bipush (-2), 2) := by decide +kernel
theorem dX9_alone_10 : decode cX9_alone 10 = .ok (.ireturn, 1) := by decide +kernel
theorem dX9_alone_11 : decode cX9_alone 11 = .ok (.aload_n 0, 1) := by decide +kernel
theorem dX9_alone_12 : decode cX9_alone 12 = .ok (.aload_n 0, 1) := by decide +kernel
theorem dX9_alone_13 : decode cX9_alone 13 = .ok (.getfield 9, 3) := by decide +kernel
theorem dX9_alone_16 : decode cX9_alone 16 = .ok (.iconst 0, 1) := by decide +kernel
theorem dX9_alone_17 : decode cX9_alone 17 = .ok (.iaload, 1) := by decide +kernel
theorem dX9_alone_18 : decode cX9_alone 18 = .ok (.iconst (-1), 1) := by decide +kernel
theorem dX9_alone_19 : decode cX9_alone 19 = .ok (.iload_n 1, 1) := by decide +kernel
theorem dX9_alone_20 : decode cX9_alone 20 = .ok (.invokevirtual 205, 3) := by decide +kernel
theorem dX9_alone_23 : decode cX9_alone 23 = .ok (.aload_n 0, 1) := by decide +kernel
theorem dX9_alone_24 : decode cX9_alone 24 = .ok (.getfield 236, 3) := by decide +kernel
theorem dX9_alone_27 : decode cX9_alone 27 = .ok (.ireturn, 1) := by decide +kernel
theorem dX9_worst_0 : decode cX9_worst 0 = .ok (.aload_n 0, 1) := by decide +kernel
theorem dX9_worst_1 : decode cX9_worst 1 = .ok (.invokevirtual 289, 3) := by decide +kernel
theorem dX9_worst_4 : decode cX9_worst 4 = .ok (.ifCond .ne 6, 3) := by decide +kernel
theorem dX9_worst_7 : decode cX9_worst 7 = .ok (.bipush (-2), 2) := by decide +kernel
theorem dX9_worst_9 : decode cX9_worst 9 = .ok (.ireturn, 1) := by decide +kernel
theorem dX9_worst_10 : decode cX9_worst 10 = .ok (.iconst (-1), 1) := by decide +kernel
theorem dX9_worst_11 : decode cX9_worst 11 = .ok (.istore_n 1, 1) := by decide +kernel
theorem dX9_worst_12 : decode cX9_worst 12 = .ok (.iconst 0, 1) := by decide +kernel
theorem dX9_worst_13 : decode cX9_worst 13 = .ok (.istore_n 2, 1) := by decide +kernel
theorem dX9_worst_14 : decode cX9_worst 14 = .ok (.iconst 0, 1) := by decide +kernel
theorem dX9_worst_15 : decode cX9_worst 15 = .ok (.istore_n 3, 1) := by decide +kernel
theorem dX9_worst_16 : decode cX9_worst 16 = .ok (.iload_n 3, 1) := by decide +kernel
theorem dX9_worst_17 : decode cX9_worst 17 = .ok (.aload_n 0, 1) := by decide +kernel
theorem dX9_worst_18 : decode cX9_worst 18 = .ok (.getfield 9, 3) := by decide +kernel
theorem dX9_worst_21 : decode cX9_worst 21 = .ok (.iconst 5, 1) := by decide +kernel
theorem dX9_worst_22 : decode cX9_worst 22 = .ok (.iaload, 1) := by decide +kernel
theorem dX9_worst_23 : decode cX9_worst 23 = .ok (.if_icmp .ge 27, 3) := by decide +kernel
theorem dX9_worst_26 : decode cX9_worst 26 = .ok (.aload_n 0, 1) := by decide +kernel
theorem dX9_worst_27 : decode cX9_worst 27 = .ok (.iload_n 3, 1) := by decide +kernel
theorem dX9_worst_28 : decode cX9_worst 28 = .ok (.invokevirtual 314, 3) := by decide +kernel
theorem dX9_worst_31 : decode cX9_worst 31 = .ok (.istore 4, 2) := by decide +kernel
theorem dX9_worst_33 : decode cX9_worst 33 = .ok (.iload 4, 2) := by decide +kernel
theorem dX9_worst_35 : decode cX9_worst 35 = .ok (.iload_n 2, 1) := by decide +kernel
theorem dX9_worst_36 : decode cX9_worst 36 = .ok (.if_icmp .le 8, 3) := by decide +kernel
theorem dX9_worst_39 : decode cX9_worst 39 = .ok (.iload 4, 2) := by decide +kernel
theorem dX9_worst_41 : decode cX9_worst 41 = .ok (.istore_n 2, 1) := by decide +kernel
theorem dX9_worst_42 : decode cX9_worst 42 = .ok (.iload_n 3, 1) := by decide +kernel
theorem dX9_worst_43 : decode cX9_worst 43 = .ok (.istore_n 1, 1) := by decide +kernel
theorem dX9_worst_44 : decode cX9_worst 44 = .ok (.iinc 3 1, 3) := by decide +kernel
theorem dX9_worst_47 : decode cX9_worst 47 = .ok (.goto (-31), 3) := by decide +kernel
theorem dX9_worst_50 : decode cX9_worst 50 = .ok (.iload_n 1, 1) := by decide +kernel
theorem dX9_worst_51 : decode cX9_worst 51 = .ok (.ireturn, 1) := by decide +kernel
theorem dX9_common_0 : decode cX9_common 0 = .ok (.lload_n 2, 1) := by decide +kernel
theorem dX9_common_1 : decode cX9_common 1 = .ok (.lconst 0, 1) := by decide +kernel
theorem dX9_common_2 : decode cX9_common 2 = .ok (.lcmp, 1) := by decide +kernel
theorem dX9_common_3 : decode cX9_common 3 = .ok (.ifCond .ne 7, 3) := by decide +kernel
theorem dX9_common_6 : decode cX9_common 6 = .ok (.lload_n 0, 1) := by decide +kernel
theorem dX9_common_7 : decode cX9_common 7 = .ok (.goto 10, 3) := by decide +kernel
theorem dX9_common_10 : decode cX9_common 10 = .ok (.lload_n 2, 1) := by decide +kernel
theorem dX9_common_11 : decode cX9_common 11 = .ok (.lload_n 0, 1) := by decide +kernel
theorem dX9_common_12 : decode cX9_common 12 = .ok (.lload_n 2, 1) := by decide +kernel
theorem dX9_common_13 : decode cX9_common 13 = .ok (.lrem, 1) := by decide +kernel
theorem dX9_common_14 : decode cX9_common 14 = .ok (.invokestatic 317, 3) := by decide +kernel
theorem dX9_common_17 : decode cX9_common 17 = .ok (.lreturn, 1) := by decide +kernel
theorem dX9_is__0 : decode cX9_is_ 0 = .ok (.lload_n 1, 1) := by decide +kernel
theorem dX9_is__1 : decode cX9_is_ 1 = .ok (.lload_n 1, 1) := by decide +kernel
theorem dX9_is__2 : decode cX9_is_ 2 = .ok (.lneg, 1) := by decide +kernel
theorem dX9_is__3 : decode cX9_is_ 3 = .ok (.invokestatic 321, 3) := by decide +kernel
theorem dX9_is__6 : decode cX9_is_ 6 = .ok (.lload_n 3, 1) := by decide +kernel
theorem dX9_is__7 : decode cX9_is_ 7 = .ok (.invokestatic 317, 3) := by decide +kernel
theorem dX9_is__10 : decode cX9_is_ 10 = .ok (.lstore 5, 2) := by decide +kernel
theorem dX9_is__12 : decode cX9_is_ 12 = .ok (.aload_n 0, 1) := by decide +kernel
theorem dX9_is__13 : decode cX9_is_ 13 = .ok (.lload_n 1, 1) := by decide +kernel
theorem dX9_is__14 : decode cX9_is_ 14 = .ok (.lload 5, 2) := by decide +kernel
theorem dX9_is__16 : decode cX9_is_ 16 = .ok (.ldiv, 1) := by decide +kernel
theorem dX9_is__17 : decode cX9_is_ 17 = .ok (.putfield 323, 3) := by decide +kernel
theorem dX9_is__20 : decode cX9_is_ 20 = .ok (.aload_n 0, 1) := by decide +kernel
theorem dX9_is__21 : decode cX9_is_ 21 = .ok (.lload_n 3, 1) := by decide +kernel
theorem dX9_is__22 : decode cX9_is_ 22 = .ok (.lload 5, 2) := by decide +kernel
theorem dX9_is__24 : decode cX9_is_ 24 = .ok (.ldiv, 1) := by decide +kernel
theorem dX9_is__25 : decode cX9_is_ 25 = .ok (.putfield 327, 3) := by decide +kernel
theorem dX9_is__28 : decode cX9_is_ 28 = .ok (.return_, 1) := by decide +kernel
theorem dX9_adds_0 : decode cX9_adds 0 = .ok (.aload_n 0, 1) := by decide +kernel
theorem dX9_adds_1 : decode cX9_adds 1 = .ok (.getfield 327, 3) := by decide +kernel
theorem dX9_adds_4 : decode cX9_adds 4 = .ok (.lload_n 3, 1) := by decide +kernel
theorem dX9_adds_5 : decode cX9_adds 5 = .ok (.invokestatic 317, 3) := by decide +kernel
theorem dX9_adds_8 : decode cX9_adds 8 = .ok (.lstore 5, 2) := by decide +kernel
theorem dX9_adds_10 : decode cX9_adds 10 = .ok (.aload_n 0, 1) := by decide +kernel
theorem dX9_adds_11 : decode cX9_adds 11 = .ok (.aload_n 0, 1) := by decide +kernel
theorem dX9_adds_12 : decode cX9_adds 12 = .ok (.getfield 323, 3) := by decide +kernel
theorem dX9_adds_15 : decode cX9_adds 15 = .ok (.lload_n 3, 1) := by decide +kernel
theorem dX9_adds_16 : decode cX9_adds 16 = .ok (.lload 5, 2) := by decide +kernel
theorem dX9_adds_18 : decode cX9_adds 18 = .ok (.ldiv, 1) := by decide +kernel
theorem dX9_adds_19 : decode cX9_adds 19 = .ok (.lmul, 1) := by decide +kernel
theorem dX9_adds_20 : decode cX9_adds 20 = .ok (.lload_n 1, 1) := by decide +kernel
theorem dX9_adds_21 : decode cX9_adds 21 = .ok (.aload_n 0, 1) := by decide +kernel
theorem dX9_adds_22 : decode cX9_adds 22 = .ok (.getfield 327, 3) := by decide +kernel
theorem dX9_adds_25 : decode cX9_adds 25 = .ok (.lload 5, 2) := by decide +kernel
theorem dX9_adds_27 : decode cX9_adds 27 = .ok (.ldiv, 1) := by decide +kernel
theorem dX9_adds_28 : decode cX9_adds 28 = .ok (.lmul, 1) := by decide +kernel
theorem dX9_adds_29 : decode cX9_adds 29 = .ok (.ladd, 1) := by decide +kernel
theorem dX9_adds_30 : decode cX9_adds 30 = .ok (.aload_n 0, 1) := by decide +kernel
theorem dX9_adds_31 : decode cX9_adds 31 = .ok (.getfield 327, 3) := by decide +kernel
theorem dX9_adds_34 : decode cX9_adds 34 = .ok (.lload 5, 2) := by decide +kernel
theorem dX9_adds_36 : decode cX9_adds 36 = .ok (.ldiv, 1) := by decide +kernel
theorem dX9_adds_37 : decode cX9_adds 37 = .ok (.lload_n 3, 1) := by decide +kernel
theorem dX9_adds_38 : decode cX9_adds 38 = .ok (.lmul, 1) := by decide +kernel
theorem dX9_adds_39 : decode cX9_adds 39 = .ok (.invokevirtual 330, 3) := by decide +kernel
theorem dX9_adds_42 : decode cX9_adds 42 = .ok (.return_, 1) := by decide +kernel
theorem dX9_times_0 : decode cX9_times 0 = .ok (.lload_n 1, 1) := by decide +kernel
theorem dX9_times_1 : decode cX9_times 1 = .ok (.lload_n 1, 1) := by decide +kernel
theorem dX9_times_2 : decode cX9_times 2 = .ok (.lneg, 1) := by decide +kernel
theorem dX9_times_3 : decode cX9_times 3 = .ok (.invokestatic 321, 3) := by decide +kernel
theorem dX9_times_6 : decode cX9_times 6 = .ok (.aload_n 0, 1) := by decide +kernel
theorem dX9_times_7 : decode cX9_times 7 = .ok (.getfield 327, 3) := by decide +kernel
theorem dX9_times_10 : decode cX9_times 10 = .ok (.invokestatic 317, 3) := by decide +kernel
theorem dX9_times_13 : decode cX9_times 13 = .ok (.lstore 5, 2) := by decide +kernel
theorem dX9_times_15 : decode cX9_times 15 = .ok (.aload_n 0, 1) := by decide +kernel
theorem dX9_times_16 : decode cX9_times 16 = .ok (.getfield 323, 3) := by decide +kernel
theorem dX9_times_19 : decode cX9_times 19 = .ok (.aload_n 0, 1) := by decide +kernel
theorem dX9_times_20 : decode cX9_times 20 = .ok (.getfield 323, 3) := by decide +kernel
theorem dX9_times_23 : decode cX9_times 23 = .ok (.lneg, 1) := by decide +kernel
theorem dX9_times_24 : decode cX9_times 24 = .ok (.invokestatic 321, 3) := by decide +kernel
theorem dX9_times_27 : decode cX9_times 27 = .ok (.lload_n 3, 1) := by decide +kernel
theorem dX9_times_28 : decode cX9_times 28 = .ok (.invokestatic 317, 3) := by decide +kernel
theorem dX9_times_31 : decode cX9_times 31 = .ok (.lstore 7, 2) := by decide +kernel
theorem dX9_times_33 : decode cX9_times 33 = .ok (.aload_n 0, 1) := by decide +kernel
theorem dX9_times_34 : decode cX9_times 34 = .ok (.aload_n 0, 1) := by decide +kernel
theorem dX9_times_35 : decode cX9_times 35 = .ok (.getfield 323, 3) := by decide +kernel
theorem dX9_times_38 : decode cX9_times 38 = .ok (.lload 7, 2) := by decide +kernel
theorem dX9_times_40 : decode cX9_times 40 = .ok (.ldiv, 1) := by decide +kernel
theorem dX9_times_41 : decode cX9_times 41 = .ok (.lload_n 1, 1) := by decide +kernel
theorem dX9_times_42 : decode cX9_times 42 = .ok (.lload 5, 2) := by decide +kernel
theorem dX9_times_44 : decode cX9_times 44 = .ok (.ldiv, 1) := by decide +kernel
theorem dX9_times_45 : decode cX9_times 45 = .ok (.lmul, 1) := by decide +kernel
theorem dX9_times_46 : decode cX9_times 46 = .ok (.aload_n 0, 1) := by decide +kernel
theorem dX9_times_47 : decode cX9_times 47 = .ok (.getfield 327, 3) := by decide +kernel
theorem dX9_times_50 : decode cX9_times 50 = .ok (.lload 5, 2) := by decide +kernel
theorem dX9_times_52 : decode cX9_times 52 = .ok (.ldiv, 1) := by decide +kernel
theorem dX9_times_53 : decode cX9_times 53 = .ok (.lload_n 3, 1) := by decide +kernel
theorem dX9_times_54 : decode cX9_times 54 = .ok (.lload 7, 2) := by decide +kernel
theorem dX9_times_56 : decode cX9_times 56 = .ok (.ldiv, 1) := by decide +kernel
theorem dX9_times_57 : decode cX9_times 57 = .ok (.lmul, 1) := by decide +kernel
theorem dX9_times_58 : decode cX9_times 58 = .ok (.invokevirtual 330, 3) := by decide +kernel
theorem dX9_times_61 : decode cX9_times 61 = .ok (.return_, 1) := by decide +kernel
theorem dX9_choose_0 : decode cX9_choose 0 = .ok (.lconst 1, 1) := by decide +kernel
theorem dX9_choose_1 : decode cX9_choose 1 = .ok (.lstore_n 2, 1) := by decide +kernel
theorem dX9_choose_2 : decode cX9_choose 2 = .ok (.iconst 1, 1) := by decide +kernel
theorem dX9_choose_3 : decode cX9_choose 3 = .ok (.istore 4, 2) := by decide +kernel
theorem dX9_choose_5 : decode cX9_choose 5 = .ok (.iload 4, 2) := by decide +kernel
theorem dX9_choose_7 : decode cX9_choose 7 = .ok (.iload_n 1, 1) := by decide +kernel
theorem dX9_choose_8 : decode cX9_choose 8 = .ok (.if_icmp .gt 23, 3) := by decide +kernel
theorem dX9_choose_11 : decode cX9_choose 11 = .ok (.lload_n 2, 1) := by decide +kernel
theorem dX9_choose_12 : decode cX9_choose 12 = .ok (.iload_n 0, 1) := by decide +kernel
theorem dX9_choose_13 : decode cX9_choose 13 = .ok (.iload_n 1, 1) := by decide +kernel
theorem dX9_choose_14 : decode cX9_choose 14 = .ok (.isub, 1) := by decide +kernel
theorem dX9_choose_15 : decode cX9_choose 15 = .ok (.iload 4, 2) := by decide +kernel
theorem dX9_choose_17 : decode cX9_choose 17 = .ok (.iadd, 1) := by decide +kernel
theorem dX9_choose_18 : decode cX9_choose 18 = .ok (.i2l, 1) := by decide +kernel
theorem dX9_choose_19 : decode cX9_choose 19 = .ok (.lmul, 1) := by decide +kernel
theorem dX9_choose_20 : decode cX9_choose 20 = .ok (.iload 4, 2) := by decide +kernel
theorem dX9_choose_22 : decode cX9_choose 22 = .ok (.i2l, 1) := by decide +kernel
theorem dX9_choose_23 : decode cX9_choose 23 = .ok (.ldiv, 1) := by decide +kernel
theorem dX9_choose_24 : decode cX9_choose 24 = .ok (.lstore_n 2, 1) := by decide +kernel
theorem dX9_choose_25 : decode cX9_choose 25 = .ok (.iinc 4 1, 3) := by decide +kernel
theorem dX9_choose_28 : decode cX9_choose 28 = .ok (.goto (-23), 3) := by decide +kernel
theorem dX9_choose_31 : decode cX9_choose 31 = .ok (.lload_n 2, 1) := by decide +kernel
theorem dX9_choose_32 : decode cX9_choose 32 = .ok (.lreturn, 1) := by decide +kernel
theorem dX9_power_0 : decode cX9_power 0 = .ok (.lconst 1, 1) := by decide +kernel
theorem dX9_power_1 : decode cX9_power 1 = .ok (.lstore_n 3, 1) := by decide +kernel
theorem dX9_power_2 : decode cX9_power 2 = .ok (.iconst 0, 1) := by decide +kernel
theorem dX9_power_3 : decode cX9_power 3 = .ok (.istore 5, 2) := by decide +kernel
theorem dX9_power_5 : decode cX9_power 5 = .ok (.iload 5, 2) := by decide +kernel
theorem dX9_power_7 : decode cX9_power 7 = .ok (.iload_n 2, 1) := by decide +kernel
theorem dX9_power_8 : decode cX9_power 8 = .ok (.if_icmp .ge 13, 3) := by decide +kernel
theorem dX9_power_11 : decode cX9_power 11 = .ok (.lload_n 3, 1) := by decide +kernel
theorem dX9_power_12 : decode cX9_power 12 = .ok (.lload_n 0, 1) := by decide +kernel
theorem dX9_power_13 : decode cX9_power 13 = .ok (.lmul, 1) := by decide +kernel
theorem dX9_power_14 : decode cX9_power 14 = .ok (.lstore_n 3, 1) := by decide +kernel
theorem dX9_power_15 : decode cX9_power 15 = .ok (.iinc 5 1, 3) := by decide +kernel
theorem dX9_power_18 : decode cX9_power 18 = .ok (.goto (-13), 3) := by decide +kernel
theorem dX9_power_21 : decode cX9_power 21 = .ok (.lload_n 3, 1) := by decide +kernel
theorem dX9_power_22 : decode cX9_power 22 = .ok (.lreturn, 1) := by decide +kernel
theorem dX9_means_0 : decode cX9_means 0 = .ok (.iconst 0, 1) := by decide +kernel
theorem dX9_means_1 : decode cX9_means 1 = .ok (.istore 7, 2) := by decide +kernel
theorem dX9_means_3 : decode cX9_means 3 = .ok (.iload 7, 2) := by decide +kernel
theorem dX9_means_5 : decode cX9_means 5 = .ok (.iload_n 2, 1) := by decide +kernel
theorem dX9_means_6 : decode cX9_means 6 = .ok (.if_icmp .gt 267, 3) := by decide +kernel
theorem dX9_means_9 : decode cX9_means 9 = .ok (.iload 7, 2) := by decide +kernel
theorem dX9_means_11 : decode cX9_means 11 = .ok (.iconst 2, 1) := by decide +kernel
theorem dX9_means_12 : decode cX9_means 12 = .ok (.if_icmp .ge 22, 3) := by decide +kernel
theorem dX9_means_15 : decode cX9_means 15 = .ok (.aload_n 0, 1) := by decide +kernel
theorem dX9_means_16 : decode cX9_means 16 = .ok (.getfield 68, 3) := by decide +kernel
theorem dX9_means_19 : decode cX9_means 19 = .ok (.iload 7, 2) := by decide +kernel
theorem dX9_means_21 : decode cX9_means 21 = .ok (.lconst 1, 1) := by decide +kernel
theorem dX9_means_22 : decode cX9_means 22 = .ok (.lastore, 1) := by decide +kernel
theorem dX9_means_23 : decode cX9_means 23 = .ok (.aload_n 0, 1) := by decide +kernel
theorem dX9_means_24 : decode cX9_means 24 = .ok (.getfield 72, 3) := by decide +kernel
theorem dX9_means_27 : decode cX9_means 27 = .ok (.iload 7, 2) := by decide +kernel
theorem dX9_means_29 : decode cX9_means 29 = .ok (.lconst 1, 1) := by decide +kernel
theorem dX9_means_30 : decode cX9_means 30 = .ok (.lastore, 1) := by decide +kernel
theorem dX9_means_31 : decode cX9_means 31 = .ok (.goto 236, 3) := by decide +kernel
theorem dX9_means_34 : decode cX9_means 34 = .ok (.lload 5, 2) := by decide +kernel
theorem dX9_means_36 : decode cX9_means 36 = .ok (.iload 7, 2) := by decide +kernel
theorem dX9_means_38 : decode cX9_means 38 = .ok (.invokestatic 333, 3) := by decide +kernel
theorem dX9_means_41 : decode cX9_means 41 = .ok (.lstore 8, 2) := by decide +kernel
theorem dX9_means_43 : decode cX9_means 43 = .ok (.lload_n 3, 1) := by decide +kernel
theorem dX9_means_44 : decode cX9_means 44 = .ok (.iload 7, 2) := by decide +kernel
theorem dX9_means_46 : decode cX9_means 46 = .ok (.invokestatic 333, 3) := by decide +kernel
theorem dX9_means_49 : decode cX9_means 49 = .ok (.lstore 10, 2) := by decide +kernel
theorem dX9_means_51 : decode cX9_means 51 = .ok (.lload 5, 2) := by decide +kernel
theorem dX9_means_53 : decode cX9_means 53 = .ok (.lload_n 3, 1) := by decide +kernel
theorem dX9_means_54 : decode cX9_means 54 = .ok (.lsub, 1) := by decide +kernel
theorem dX9_means_55 : decode cX9_means 55 = .ok (.iload 7, 2) := by decide +kernel
theorem dX9_means_57 : decode cX9_means 57 = .ok (.invokestatic 333, 3) := by decide +kernel
theorem dX9_means_60 : decode cX9_means 60 = .ok (.lstore 12, 2) := by decide +kernel
theorem dX9_means_62 : decode cX9_means 62 = .ok (.lload 8, 2) := by decide +kernel
theorem dX9_means_64 : decode cX9_means 64 = .ok (.lload 10, 2) := by decide +kernel
theorem dX9_means_66 : decode cX9_means 66 = .ok (.ladd, 1) := by decide +kernel
theorem dX9_means_67 : decode cX9_means 67 = .ok (.lload 12, 2) := by decide +kernel
theorem dX9_means_69 : decode cX9_means 69 = .ok (.ladd, 1) := by decide +kernel
theorem dX9_means_70 : decode cX9_means 70 = .ok (.iload_n 1, 1) := by decide +kernel
theorem dX9_means_71 : decode cX9_means 71 = .ok (.iconst 1, 1) := by decide +kernel
theorem dX9_means_72 : decode cX9_means 72 = .ok (.if_icmp .ne 8, 3) := by decide +kernel
theorem dX9_means_75 : decode cX9_means 75 = .ok (.lload 12, 2) := by decide +kernel
theorem dX9_means_77 : decode cX9_means 77 = .ok (.goto 4, 3) := by decide +kernel
theorem dX9_means_80 : decode cX9_means 80 = .ok (.lconst 0, 1) := by decide +kernel
theorem dX9_means_81 : decode cX9_means 81 = .ok (.lsub, 1) := by decide +kernel
theorem dX9_means_82 : decode cX9_means 82 = .ok (.lstore 14, 2) := by decide +kernel
theorem dX9_means_84 : decode cX9_means 84 = .ok (.lload 14, 2) := by decide +kernel
theorem dX9_means_86 : decode cX9_means 86 = .ok (.lstore 16, 2) := by decide +kernel
theorem dX9_means_88 : decode cX9_means 88 = .ok (.lload 8, 2) := by decide +kernel
theorem dX9_means_90 : decode cX9_means 90 = .ok (.lstore 18, 2) := by decide +kernel
theorem dX9_means_92 : decode cX9_means 92 = .ok (.iconst 1, 1) := by decide +kernel
theorem dX9_means_93 : decode cX9_means 93 = .ok (.istore 20, 2) := by decide +kernel
theorem dX9_means_95 : decode cX9_means 95 = .ok (.iload 20, 2) := by decide +kernel
theorem dX9_means_97 : decode cX9_means 97 = .ok (.iload 7, 2) := by decide +kernel
theorem dX9_means_99 : decode cX9_means 99 = .ok (.if_icmp .ge 124, 3) := by decide +kernel
theorem dX9_means_102 : decode cX9_means 102 = .ok (.aload_n 0, 1) := by decide +kernel
theorem dX9_means_103 : decode cX9_means 103 = .ok (.iload 7, 2) := by decide +kernel
theorem dX9_means_105 : decode cX9_means 105 = .ok (.iload 20, 2) := by decide +kernel
theorem dX9_means_107 : decode cX9_means 107 = .ok (.invokestatic 337, 3) := by decide +kernel
theorem dX9_means_110 : decode cX9_means 110 = .ok (.lload_n 3, 1) := by decide +kernel
theorem dX9_means_111 : decode cX9_means 111 = .ok (.iload 20, 2) := by decide +kernel
theorem dX9_means_113 : decode cX9_means 113 = .ok (.invokestatic 333, 3) := by decide +kernel
theorem dX9_means_116 : decode cX9_means 116 = .ok (.lmul, 1) := by decide +kernel
theorem dX9_means_117 : decode cX9_means 117 = .ok (.lload 5, 2) := by decide +kernel
theorem dX9_means_119 : decode cX9_means 119 = .ok (.lload_n 3, 1) := by decide +kernel
theorem dX9_means_120 : decode cX9_means 120 = .ok (.lsub, 1) := by decide +kernel
theorem dX9_means_121 : decode cX9_means 121 = .ok (.iload 7, 2) := by decide +kernel
theorem dX9_means_123 : decode cX9_means 123 = .ok (.iload 20, 2) := by decide +kernel
theorem dX9_means_125 : decode cX9_means 125 = .ok (.isub, 1) := by decide +kernel
theorem dX9_means_126 : decode cX9_means 126 = .ok (.invokestatic 333, 3) := by decide +kernel
theorem dX9_means_129 : decode cX9_means 129 = .ok (.lmul, 1) := by decide +kernel
theorem dX9_means_130 : decode cX9_means 130 = .ok (.lload 8, 2) := by decide +kernel
theorem dX9_means_132 : decode cX9_means 132 = .ok (.invokevirtual 330, 3) := by decide +kernel
theorem dX9_means_135 : decode cX9_means 135 = .ok (.aload_n 0, 1) := by decide +kernel
theorem dX9_means_136 : decode cX9_means 136 = .ok (.getfield 323, 3) := by decide +kernel
theorem dX9_means_139 : decode cX9_means 139 = .ok (.lstore 21, 2) := by decide +kernel
theorem dX9_means_141 : decode cX9_means 141 = .ok (.aload_n 0, 1) := by decide +kernel
theorem dX9_means_142 : decode cX9_means 142 = .ok (.getfield 327, 3) := by decide +kernel
theorem dX9_means_145 : decode cX9_means 145 = .ok (.lstore 23, 2) := by decide +kernel
theorem dX9_means_147 : decode cX9_means 147 = .ok (.aload_n 0, 1) := by decide +kernel
theorem dX9_means_148 : decode cX9_means 148 = .ok (.aload_n 0, 1) := by decide +kernel
theorem dX9_means_149 : decode cX9_means 149 = .ok (.getfield 68, 3) := by decide +kernel
theorem dX9_means_152 : decode cX9_means 152 = .ok (.iload 20, 2) := by decide +kernel
theorem dX9_means_154 : decode cX9_means 154 = .ok (.laload, 1) := by decide +kernel
theorem dX9_means_155 : decode cX9_means 155 = .ok (.aload_n 0, 1) := by decide +kernel
theorem dX9_means_156 : decode cX9_means 156 = .ok (.getfield 72, 3) := by decide +kernel
theorem dX9_means_159 : decode cX9_means 159 = .ok (.iload 20, 2) := by decide +kernel
theorem dX9_means_161 : decode cX9_means 161 = .ok (.laload, 1) := by decide +kernel
theorem dX9_means_162 : decode cX9_means 162 = .ok (.invokevirtual 330, 3) := by decide +kernel
theorem dX9_means_165 : decode cX9_means 165 = .ok (.aload_n 0, 1) := by decide +kernel
theorem dX9_means_166 : decode cX9_means 166 = .ok (.aload_n 0, 1) := by decide +kernel
theorem dX9_means_167 : decode cX9_means 167 = .ok (.getfield 68, 3) := by decide +kernel
theorem dX9_means_170 : decode cX9_means 170 = .ok (.iload 7, 2) := by decide +kernel
theorem dX9_means_172 : decode cX9_means 172 = .ok (.iload 20, 2) := by decide +kernel
theorem dX9_means_174 : decode cX9_means 174 = .ok (.isub, 1) := by decide +kernel
theorem dX9_means_175 : decode cX9_means 175 = .ok (.laload, 1) := by decide +kernel
theorem dX9_means_176 : decode cX9_means 176 = .ok (.aload_n 0, 1) := by decide +kernel
theorem dX9_means_177 : decode cX9_means 177 = .ok (.getfield 72, 3) := by decide +kernel
theorem dX9_means_180 : decode cX9_means 180 = .ok (.iload 7, 2) := by decide +kernel
theorem dX9_means_182 : decode cX9_means 182 = .ok (.iload 20, 2) := by decide +kernel
theorem dX9_means_184 : decode cX9_means 184 = .ok (.isub, 1) := by decide +kernel
theorem dX9_means_185 : decode cX9_means 185 = .ok (.laload, 1) := by decide +kernel
theorem dX9_means_186 : decode cX9_means 186 = .ok (.invokevirtual 341, 3) := by decide +kernel
theorem dX9_means_189 : decode cX9_means 189 = .ok (.aload_n 0, 1) := by decide +kernel
theorem dX9_means_190 : decode cX9_means 190 = .ok (.lload 21, 2) := by decide +kernel
theorem dX9_means_192 : decode cX9_means 192 = .ok (.lload 23, 2) := by decide +kernel
theorem dX9_means_194 : decode cX9_means 194 = .ok (.invokevirtual 344, 3) := by decide +kernel
theorem dX9_means_197 : decode cX9_means 197 = .ok (.aload_n 0, 1) := by decide +kernel
theorem dX9_means_198 : decode cX9_means 198 = .ok (.lload 16, 2) := by decide +kernel
theorem dX9_means_200 : decode cX9_means 200 = .ok (.lload 18, 2) := by decide +kernel
theorem dX9_means_202 : decode cX9_means 202 = .ok (.invokevirtual 341, 3) := by decide +kernel
theorem dX9_means_205 : decode cX9_means 205 = .ok (.aload_n 0, 1) := by decide +kernel
theorem dX9_means_206 : decode cX9_means 206 = .ok (.getfield 323, 3) := by decide +kernel
theorem dX9_means_209 : decode cX9_means 209 = .ok (.lstore 16, 2) := by decide +kernel
theorem dX9_means_211 : decode cX9_means 211 = .ok (.aload_n 0, 1) := by decide +kernel
theorem dX9_means_212 : decode cX9_means 212 = .ok (.getfield 327, 3) := by decide +kernel
theorem dX9_means_215 : decode cX9_means 215 = .ok (.lstore 18, 2) := by decide +kernel
theorem dX9_means_217 : decode cX9_means 217 = .ok (.iinc 20 1, 3) := by decide +kernel
theorem dX9_means_220 : decode cX9_means 220 = .ok (.goto (-125), 3) := by decide +kernel
theorem dX9_means_223 : decode cX9_means 223 = .ok (.aload_n 0, 1) := by decide +kernel
theorem dX9_means_224 : decode cX9_means 224 = .ok (.lload 16, 2) := by decide +kernel
theorem dX9_means_226 : decode cX9_means 226 = .ok (.lload 18, 2) := by decide +kernel
theorem dX9_means_228 : decode cX9_means 228 = .ok (.invokevirtual 330, 3) := by decide +kernel
theorem dX9_means_231 : decode cX9_means 231 = .ok (.aload_n 0, 1) := by decide +kernel
theorem dX9_means_232 : decode cX9_means 232 = .ok (.lload 8, 2) := by decide +kernel
theorem dX9_means_234 : decode cX9_means 234 = .ok (.lload 8, 2) := by decide +kernel
theorem dX9_means_236 : decode cX9_means 236 = .ok (.lload 10, 2) := by decide +kernel
theorem dX9_means_238 : decode cX9_means 238 = .ok (.lsub, 1) := by decide +kernel
theorem dX9_means_239 : decode cX9_means 239 = .ok (.lload 12, 2) := by decide +kernel
theorem dX9_means_241 : decode cX9_means 241 = .ok (.lsub, 1) := by decide +kernel
theorem dX9_means_242 : decode cX9_means 242 = .ok (.invokevirtual 344, 3) := by decide +kernel
theorem dX9_means_245 : decode cX9_means 245 = .ok (.aload_n 0, 1) := by decide +kernel
theorem dX9_means_246 : decode cX9_means 246 = .ok (.getfield 68, 3) := by decide +kernel
theorem dX9_means_249 : decode cX9_means 249 = .ok (.iload 7, 2) := by decide +kernel
theorem dX9_means_251 : decode cX9_means 251 = .ok (.aload_n 0, 1) := by decide +kernel
theorem dX9_means_252 : decode cX9_means 252 = .ok (.getfield 323, 3) := by decide +kernel
theorem dX9_means_255 : decode cX9_means 255 = .ok (.lastore, 1) := by decide +kernel
theorem dX9_means_256 : decode cX9_means 256 = .ok (.aload_n 0, 1) := by decide +kernel
theorem dX9_means_257 : decode cX9_means 257 = .ok (.getfield 72, 3) := by decide +kernel
theorem dX9_means_260 : decode cX9_means 260 = .ok (.iload 7, 2) := by decide +kernel
theorem dX9_means_262 : decode cX9_means 262 = .ok (.aload_n 0, 1) := by decide +kernel
theorem dX9_means_263 : decode cX9_means 263 = .ok (.getfield 327, 3) := by decide +kernel
theorem dX9_means_266 : decode cX9_means 266 = .ok (.lastore, 1) := by decide +kernel
theorem dX9_means_267 : decode cX9_means 267 = .ok (.iinc 7 1, 3) := by decide +kernel
theorem dX9_means_270 : decode cX9_means 270 = .ok (.goto (-267), 3) := by decide +kernel
theorem dX9_means_273 : decode cX9_means 273 = .ok (.return_, 1) := by decide +kernel
theorem dX9_isMean_0 : decode cX9_isMean 0 = .ok (.iload_n 0, 1) := by decide +kernel
theorem dX9_isMean_1 : decode cX9_isMean 1 = .ok (.i2l, 1) := by decide +kernel
theorem dX9_isMean_2 : decode cX9_isMean 2 = .ok (.lconst 0, 1) := by decide +kernel
theorem dX9_isMean_3 : decode cX9_isMean 3 = .ok (.lconst 1, 1) := by decide +kernel
theorem dX9_isMean_4 : decode cX9_isMean 4 = .ok (.invokestatic 84, 3) := by decide +kernel
theorem dX9_isMean_7 : decode cX9_isMean 7 = .ok (.ifCond .eq 28, 3) := by decide +kernel
theorem dX9_isMean_10 : decode cX9_isMean 10 = .ok (.iload_n 1, 1) := by decide +kernel
theorem dX9_isMean_11 : decode cX9_isMean 11 = .ok (.i2l, 1) := by decide +kernel
theorem dX9_isMean_12 : decode cX9_isMean 12 = .ok (.lconst 0, 1) := by decide +kernel
theorem dX9_isMean_13 : decode cX9_isMean 13 = .ok (.iload_n 2, 1) := by decide +kernel
theorem dX9_isMean_14 : decode cX9_isMean 14 = .ok (.i2l, 1) := by decide +kernel
theorem dX9_isMean_15 : decode cX9_isMean 15 = .ok (.invokestatic 84, 3) := by decide +kernel
theorem dX9_isMean_18 : decode cX9_isMean 18 = .ok (.ifCond .eq 17, 3) := by decide +kernel
theorem dX9_isMean_21 : decode cX9_isMean 21 = .ok (.iload_n 3, 1) := by decide +kernel
theorem dX9_isMean_22 : decode cX9_isMean 22 = .ok (.i2l, 1) := by decide +kernel
theorem dX9_isMean_23 : decode cX9_isMean 23 = .ok (.lconst 0, 1) := by decide +kernel
theorem dX9_isMean_24 : decode cX9_isMean 24 = .ok (.lconst 1, 1) := by decide +kernel
theorem dX9_isMean_25 : decode cX9_isMean 25 = .ok (.invokestatic 84, 3) := by decide +kernel
theorem dX9_isMean_28 : decode cX9_isMean 28 = .ok (.ifCond .eq 7, 3) := by decide +kernel
theorem dX9_isMean_31 : decode cX9_isMean 31 = .ok (.iconst 1, 1) := by decide +kernel
theorem dX9_isMean_32 : decode cX9_isMean 32 = .ok (.goto 4, 3) := by decide +kernel
theorem dX9_isMean_35 : decode cX9_isMean 35 = .ok (.iconst 0, 1) := by decide +kernel
theorem dX9_isMean_36 : decode cX9_isMean 36 = .ok (.ireturn, 1) := by decide +kernel
theorem dX9_mean_0 : decode cX9_mean 0 = .ok (.iload_n 1, 1) := by decide +kernel
theorem dX9_mean_1 : decode cX9_mean 1 = .ok (.iload_n 2, 1) := by decide +kernel
theorem dX9_mean_2 : decode cX9_mean 2 = .ok (.bipush 8, 2) := by decide +kernel
theorem dX9_mean_4 : decode cX9_mean 4 = .ok (.iload_n 3, 1) := by decide +kernel
theorem dX9_mean_5 : decode cX9_mean 5 = .ok (.invokestatic 347, 3) := by decide +kernel
theorem dX9_mean_8 : decode cX9_mean 8 = .ok (.ifCond .ne 7, 3) := by decide +kernel
theorem dX9_mean_11 : decode cX9_mean 11 = .ok (.ldc2_w 351, 3) := by decide +kernel
theorem dX9_mean_14 : decode cX9_mean 14 = .ok (.lreturn, 1) := by decide +kernel
theorem dX9_mean_15 : decode cX9_mean 15 = .ok (.aload_n 0, 1) := by decide +kernel
theorem dX9_mean_16 : decode cX9_mean 16 = .ok (.iload_n 1, 1) := by decide +kernel
theorem dX9_mean_17 : decode cX9_mean 17 = .ok (.iload_n 2, 1) := by decide +kernel
theorem dX9_mean_18 : decode cX9_mean 18 = .ok (.lconst 1, 1) := by decide +kernel
theorem dX9_mean_19 : decode cX9_mean 19 = .ok (.ldc2_w 304, 3) := by decide +kernel
theorem dX9_mean_22 : decode cX9_mean 22 = .ok (.invokevirtual 353, 3) := by decide +kernel
theorem dX9_mean_25 : decode cX9_mean 25 = .ok (.iload_n 3, 1) := by decide +kernel
theorem dX9_mean_26 : decode cX9_mean 26 = .ok (.ifCond .ne 12, 3) := by decide +kernel
theorem dX9_mean_29 : decode cX9_mean 29 = .ok (.aload_n 0, 1) := by decide +kernel
theorem dX9_mean_30 : decode cX9_mean 30 = .ok (.getfield 68, 3) := by decide +kernel
theorem dX9_mean_33 : decode cX9_mean 33 = .ok (.iload_n 2, 1) := by decide +kernel
theorem dX9_mean_34 : decode cX9_mean 34 = .ok (.laload, 1) := by decide +kernel
theorem dX9_mean_35 : decode cX9_mean 35 = .ok (.goto 9, 3) := by decide +kernel
theorem dX9_mean_38 : decode cX9_mean 38 = .ok (.aload_n 0, 1) := by decide +kernel
theorem dX9_mean_39 : decode cX9_mean 39 = .ok (.getfield 72, 3) := by decide +kernel
theorem dX9_mean_42 : decode cX9_mean 42 = .ok (.iload_n 2, 1) := by decide +kernel
theorem dX9_mean_43 : decode cX9_mean 43 = .ok (.laload, 1) := by decide +kernel
theorem dX9_mean_44 : decode cX9_mean 44 = .ok (.lreturn, 1) := by decide +kernel
theorem dX9_leaning_0 : decode cX9_leaning 0 = .ok (.iload_n 1, 1) := by decide +kernel
theorem dX9_leaning_1 : decode cX9_leaning 1 = .ok (.iload_n 2, 1) := by decide +kernel
theorem dX9_leaning_2 : decode cX9_leaning 2 = .ok (.iconst 5, 1) := by decide +kernel
theorem dX9_leaning_3 : decode cX9_leaning 3 = .ok (.iload 5, 2) := by decide +kernel
theorem dX9_leaning_5 : decode cX9_leaning 5 = .ok (.invokestatic 347, 3) := by decide +kernel
theorem dX9_leaning_8 : decode cX9_leaning 8 = .ok (.ifCond .eq 31, 3) := by decide +kernel
theorem dX9_leaning_11 : decode cX9_leaning 11 = .ok (.iload_n 3, 1) := by decide +kernel
theorem dX9_leaning_12 : decode cX9_leaning 12 = .ok (.i2l, 1) := by decide +kernel
theorem dX9_leaning_13 : decode cX9_leaning 13 = .ok (.lconst 1, 1) := by decide +kernel
theorem dX9_leaning_14 : decode cX9_leaning 14 = .ok (.ldc2_w 296, 3) := by decide +kernel
theorem dX9_leaning_17 : decode cX9_leaning 17 = .ok (.invokestatic 84, 3) := by decide +kernel
theorem dX9_leaning_20 : decode cX9_leaning 20 = .ok (.ifCond .eq 19, 3) := by decide +kernel
theorem dX9_leaning_23 : decode cX9_leaning 23 = .ok (.iload 4, 2) := by decide +kernel
theorem dX9_leaning_25 : decode cX9_leaning 25 = .ok (.i2l, 1) := by decide +kernel
theorem dX9_leaning_26 : decode cX9_leaning 26 = .ok (.iload_n 3, 1) := by decide +kernel
theorem dX9_leaning_27 : decode cX9_leaning 27 = .ok (.iconst 1, 1) := by decide +kernel
theorem dX9_leaning_28 : decode cX9_leaning 28 = .ok (.iadd, 1) := by decide +kernel
theorem dX9_leaning_29 : decode cX9_leaning 29 = .ok (.i2l, 1) := by decide +kernel
theorem dX9_leaning_30 : decode cX9_leaning 30 = .ok (.ldc2_w 357, 3) := by decide +kernel
theorem dX9_leaning_33 : decode cX9_leaning 33 = .ok (.invokestatic 84, 3) := by decide +kernel
theorem dX9_leaning_36 : decode cX9_leaning 36 = .ok (.ifCond .ne 7, 3) := by decide +kernel
theorem dX9_leaning_39 : decode cX9_leaning 39 = .ok (.ldc2_w 351, 3) := by decide +kernel
theorem dX9_leaning_42 : decode cX9_leaning 42 = .ok (.lreturn, 1) := by decide +kernel
theorem dX9_leaning_43 : decode cX9_leaning 43 = .ok (.aload_n 0, 1) := by decide +kernel
theorem dX9_leaning_44 : decode cX9_leaning 44 = .ok (.iload_n 1, 1) := by decide +kernel
theorem dX9_leaning_45 : decode cX9_leaning 45 = .ok (.iload_n 2, 1) := by decide +kernel
theorem dX9_leaning_46 : decode cX9_leaning 46 = .ok (.iload_n 3, 1) := by decide +kernel
theorem dX9_leaning_47 : decode cX9_leaning 47 = .ok (.i2l, 1) := by decide +kernel
theorem dX9_leaning_48 : decode cX9_leaning 48 = .ok (.iload 4, 2) := by decide +kernel
theorem dX9_leaning_50 : decode cX9_leaning 50 = .ok (.i2l, 1) := by decide +kernel
theorem dX9_leaning_51 : decode cX9_leaning 51 = .ok (.invokevirtual 353, 3) := by decide +kernel
theorem dX9_leaning_54 : decode cX9_leaning 54 = .ok (.iload 5, 2) := by decide +kernel
theorem dX9_leaning_56 : decode cX9_leaning 56 = .ok (.ifCond .ne 12, 3) := by decide +kernel
theorem dX9_leaning_59 : decode cX9_leaning 59 = .ok (.aload_n 0, 1) := by decide +kernel
theorem dX9_leaning_60 : decode cX9_leaning 60 = .ok (.getfield 68, 3) := by decide +kernel
theorem dX9_leaning_63 : decode cX9_leaning 63 = .ok (.iload_n 2, 1) := by decide +kernel
theorem dX9_leaning_64 : decode cX9_leaning 64 = .ok (.laload, 1) := by decide +kernel
theorem dX9_leaning_65 : decode cX9_leaning 65 = .ok (.goto 9, 3) := by decide +kernel
theorem dX9_leaning_68 : decode cX9_leaning 68 = .ok (.aload_n 0, 1) := by decide +kernel
theorem dX9_leaning_69 : decode cX9_leaning 69 = .ok (.getfield 72, 3) := by decide +kernel
theorem dX9_leaning_72 : decode cX9_leaning 72 = .ok (.iload_n 2, 1) := by decide +kernel
theorem dX9_leaning_73 : decode cX9_leaning 73 = .ok (.laload, 1) := by decide +kernel
theorem dX9_leaning_74 : decode cX9_leaning 74 = .ok (.lreturn, 1) := by decide +kernel
theorem dX9_chances_0 : decode cX9_chances 0 = .ok (.iconst 0, 1) := by decide +kernel
theorem dX9_chances_1 : decode cX9_chances 1 = .ok (.istore 4, 2) := by decide +kernel
theorem dX9_chances_3 : decode cX9_chances 3 = .ok (.iload 4, 2) := by decide +kernel
theorem dX9_chances_5 : decode cX9_chances 5 = .ok (.iload_n 3, 1) := by decide +kernel
theorem dX9_chances_6 : decode cX9_chances 6 = .ok (.if_icmp .gt 92, 3) := by decide +kernel
theorem dX9_chances_9 : decode cX9_chances 9 = .ok (.iconst 0, 1) := by decide +kernel
theorem dX9_chances_10 : decode cX9_chances 10 = .ok (.istore 5, 2) := by decide +kernel
theorem dX9_chances_12 : decode cX9_chances 12 = .ok (.iload 5, 2) := by decide +kernel
theorem dX9_chances_14 : decode cX9_chances 14 = .ok (.iload_n 2, 1) := by decide +kernel
theorem dX9_chances_15 : decode cX9_chances 15 = .ok (.if_icmp .gt 77, 3) := by decide +kernel
theorem dX9_chances_18 : decode cX9_chances 18 = .ok (.iload 5, 2) := by decide +kernel
theorem dX9_chances_20 : decode cX9_chances 20 = .ok (.iconst 2, 1) := by decide +kernel
theorem dX9_chances_21 : decode cX9_chances 21 = .ok (.if_icmp .ge 22, 3) := by decide +kernel
theorem dX9_chances_24 : decode cX9_chances 24 = .ok (.aload_n 0, 1) := by decide +kernel
theorem dX9_chances_25 : decode cX9_chances 25 = .ok (.iload 4, 2) := by decide +kernel
theorem dX9_chances_27 : decode cX9_chances 27 = .ok (.iconst 1, 1) := by decide +kernel
theorem dX9_chances_28 : decode cX9_chances 28 = .ok (.if_icmp .ne 7, 3) := by decide +kernel
theorem dX9_chances_31 : decode cX9_chances 31 = .ok (.lconst 1, 1) := by decide +kernel
theorem dX9_chances_32 : decode cX9_chances 32 = .ok (.goto 4, 3) := by decide +kernel
theorem dX9_chances_35 : decode cX9_chances 35 = .ok (.lconst 0, 1) := by decide +kernel
theorem dX9_chances_36 : decode cX9_chances 36 = .ok (.lconst 1, 1) := by decide +kernel
theorem dX9_chances_37 : decode cX9_chances 37 = .ok (.invokevirtual 330, 3) := by decide +kernel
theorem dX9_chances_40 : decode cX9_chances 40 = .ok (.goto 12, 3) := by decide +kernel
theorem dX9_chances_43 : decode cX9_chances 43 = .ok (.aload_n 0, 1) := by decide +kernel
theorem dX9_chances_44 : decode cX9_chances 44 = .ok (.iload_n 1, 1) := by decide +kernel
theorem dX9_chances_45 : decode cX9_chances 45 = .ok (.iload 5, 2) := by decide +kernel
theorem dX9_chances_47 : decode cX9_chances 47 = .ok (.iload 4, 2) := by decide +kernel
theorem dX9_chances_49 : decode cX9_chances 49 = .ok (.invokevirtual 359, 3) := by decide +kernel
theorem dX9_chances_52 : decode cX9_chances 52 = .ok (.aload_n 0, 1) := by decide +kernel
theorem dX9_chances_53 : decode cX9_chances 53 = .ok (.getfield 75, 3) := by decide +kernel
theorem dX9_chances_56 : decode cX9_chances 56 = .ok (.bipush 13, 2) := by decide +kernel
theorem dX9_chances_58 : decode cX9_chances 58 = .ok (.iload 5, 2) := by decide +kernel
theorem dX9_chances_60 : decode cX9_chances 60 = .ok (.imul, 1) := by decide +kernel
theorem dX9_chances_61 : decode cX9_chances 61 = .ok (.iload 4, 2) := by decide +kernel
theorem dX9_chances_63 : decode cX9_chances 63 = .ok (.iadd, 1) := by decide +kernel
theorem dX9_chances_64 : decode cX9_chances 64 = .ok (.aload_n 0, 1) := by decide +kernel
theorem dX9_chances_65 : decode cX9_chances 65 = .ok (.getfield 323, 3) := by decide +kernel
theorem dX9_chances_68 : decode cX9_chances 68 = .ok (.lastore, 1) := by decide +kernel
theorem dX9_chances_69 : decode cX9_chances 69 = .ok (.aload_n 0, 1) := by decide +kernel
theorem dX9_chances_70 : decode cX9_chances 70 = .ok (.getfield 78, 3) := by decide +kernel
theorem dX9_chances_73 : decode cX9_chances 73 = .ok (.bipush 13, 2) := by decide +kernel
theorem dX9_chances_75 : decode cX9_chances 75 = .ok (.iload 5, 2) := by decide +kernel
theorem dX9_chances_77 : decode cX9_chances 77 = .ok (.imul, 1) := by decide +kernel
theorem dX9_chances_78 : decode cX9_chances 78 = .ok (.iload 4, 2) := by decide +kernel
theorem dX9_chances_80 : decode cX9_chances 80 = .ok (.iadd, 1) := by decide +kernel
theorem dX9_chances_81 : decode cX9_chances 81 = .ok (.aload_n 0, 1) := by decide +kernel
theorem dX9_chances_82 : decode cX9_chances 82 = .ok (.getfield 327, 3) := by decide +kernel
theorem dX9_chances_85 : decode cX9_chances 85 = .ok (.lastore, 1) := by decide +kernel
theorem dX9_chances_86 : decode cX9_chances 86 = .ok (.iinc 5 1, 3) := by decide +kernel
theorem dX9_chances_89 : decode cX9_chances 89 = .ok (.goto (-77), 3) := by decide +kernel
theorem dX9_chances_92 : decode cX9_chances 92 = .ok (.iinc 4 1, 3) := by decide +kernel
theorem dX9_chances_95 : decode cX9_chances 95 = .ok (.goto (-92), 3) := by decide +kernel
theorem dX9_chances_98 : decode cX9_chances 98 = .ok (.return_, 1) := by decide +kernel
theorem dX9_chanceOf_0 : decode cX9_chanceOf 0 = .ok (.lconst 0, 1) := by decide +kernel
theorem dX9_chanceOf_1 : decode cX9_chanceOf 1 = .ok (.lstore 4, 2) := by decide +kernel
theorem dX9_chanceOf_3 : decode cX9_chanceOf 3 = .ok (.lconst 1, 1) := by decide +kernel
theorem dX9_chanceOf_4 : decode cX9_chanceOf 4 = .ok (.lstore 6, 2) := by decide +kernel
theorem dX9_chanceOf_6 : decode cX9_chanceOf 6 = .ok (.iconst 0, 1) := by decide +kernel
theorem dX9_chanceOf_7 : decode cX9_chanceOf 7 = .ok (.istore 8, 2) := by decide +kernel
theorem dX9_chanceOf_9 : decode cX9_chanceOf 9 = .ok (.iload 8, 2) := by decide +kernel
theorem dX9_chanceOf_11 : decode cX9_chanceOf 11 = .ok (.iload_n 2, 1) := by decide +kernel
theorem dX9_chanceOf_12 : decode cX9_chanceOf 12 = .ok (.if_icmp .gt 171, 3) := by decide +kernel
theorem dX9_chanceOf_15 : decode cX9_chanceOf 15 = .ok (.iload_n 1, 1) := by decide +kernel
theorem dX9_chanceOf_16 : decode cX9_chanceOf 16 = .ok (.iconst 1, 1) := by decide +kernel
theorem dX9_chanceOf_17 : decode cX9_chanceOf 17 = .ok (.if_icmp .ne 12, 3) := by decide +kernel
theorem dX9_chanceOf_20 : decode cX9_chanceOf 20 = .ok (.iload 8, 2) := by decide +kernel
theorem dX9_chanceOf_22 : decode cX9_chanceOf 22 = .ok (.ifCond .ne 7, 3) := by decide +kernel
theorem dX9_chanceOf_25 : decode cX9_chanceOf 25 = .ok (.iconst 1, 1) := by decide +kernel
theorem dX9_chanceOf_26 : decode cX9_chanceOf 26 = .ok (.goto 4, 3) := by decide +kernel
