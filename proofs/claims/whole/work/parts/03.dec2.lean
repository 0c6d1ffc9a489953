theorem dX4_playByCounters_4 : decode cX4_playByCounters 4 = .ok (.iload_n 3, 1) := by decide +kernel
theorem dX4_playByCounters_5 : decode cX4_playByCounters 5 = .ok (.aload_n 0, 1) := by decide +kernel
theorem dX4_playByCounters_6 : decode cX4_playByCounters 6 = .ok (.getfield 12, 3) := by decide +kernel
theorem dX4_playByCounters_9 : decode cX4_playByCounters 9 = .ok (.getfield 93, 3) := by decide +kernel
theorem dX4_playByCounters_12 : decode cX4_playByCounters 12 = .ok (.if_icmp .ge 47, 3) := by decide +kernel
theorem dX4_playByCounters_15 : decode cX4_playByCounters 15 = .ok (.aload_n 0, 1) := by decide +kernel
theorem dX4_playByCounters_16 : decode cX4_playByCounters 16 = .ok (.getfield 46, 3) := by decide +kernel
theorem dX4_playByCounters_19 : decode cX4_playByCounters 19 = .ok (.iload_n 3, 1) := by decide +kernel
theorem dX4_playByCounters_20 : decode cX4_playByCounters 20 = .ok (.ishr, 1) := by decide +kernel
theorem dX4_playByCounters_21 : decode cX4_playByCounters 21 = .ok (.ifCond .eq 38, 3) := by decide +kernel
theorem dX4_playByCounters_24 : decode cX4_playByCounters 24 = .ok (.aload_n 0, 1) := by decide +kernel
theorem dX4_playByCounters_25 : decode cX4_playByCounters 25 = .ok (.getfield 46, 3) := by decide +kernel
theorem dX4_playByCounters_28 : decode cX4_playByCounters 28 = .ok (.iload_n 3, 1) := by decide +kernel
theorem dX4_playByCounters_29 : decode cX4_playByCounters 29 = .ok (.ishr, 1) := by decide +kernel
theorem dX4_playByCounters_30 : decode cX4_playByCounters 30 = .ok (.iconst 1, 1) := by decide +kernel
theorem dX4_playByCounters_31 : decode cX4_playByCounters 31 = .ok (.iand, 1) := by decide +kernel
theorem dX4_playByCounters_32 : decode cX4_playByCounters 32 = .ok (.iconst 1, 1) := by decide +kernel
theorem dX4_playByCounters_33 : decode cX4_playByCounters 33 = .ok (.if_icmp .ne 20, 3) := by decide +kernel
theorem dX4_playByCounters_36 : decode cX4_playByCounters 36 = .ok (.aload_n 0, 1) := by decide +kernel
theorem dX4_playByCounters_37 : decode cX4_playByCounters 37 = .ok (.getfield 25, 3) := by decide +kernel
theorem dX4_playByCounters_40 : decode cX4_playByCounters 40 = .ok (.iload_n 3, 1) := by decide +kernel
theorem dX4_playByCounters_41 : decode cX4_playByCounters 41 = .ok (.invokestatic 99, 3) := by decide +kernel
theorem dX4_playByCounters_44 : decode cX4_playByCounters 44 = .ok (.ifCond .ne 9, 3) := by decide +kernel
theorem dX4_playByCounters_47 : decode cX4_playByCounters 47 = .ok (.iload_n 2, 1) := by decide +kernel
theorem dX4_playByCounters_48 : decode cX4_playByCounters 48 = .ok (.iconst 1, 1) := by decide +kernel
theorem dX4_playByCounters_49 : decode cX4_playByCounters 49 = .ok (.iload_n 3, 1) := by decide +kernel
theorem dX4_playByCounters_50 : decode cX4_playByCounters 50 = .ok (.ishl, 1) := by decide +kernel
theorem dX4_playByCounters_51 : decode cX4_playByCounters 51 = .ok (.ior, 1) := by decide +kernel
theorem dX4_playByCounters_52 : decode cX4_playByCounters 52 = .ok (.istore_n 2, 1) := by decide +kernel
theorem dX4_playByCounters_53 : decode cX4_playByCounters 53 = .ok (.iinc 3 1, 3) := by decide +kernel
theorem dX4_playByCounters_56 : decode cX4_playByCounters 56 = .ok (.goto (-52), 3) := by decide +kernel
theorem dX4_playByCounters_59 : decode cX4_playByCounters 59 = .ok (.aload_n 0, 1) := by decide +kernel
theorem dX4_playByCounters_60 : decode cX4_playByCounters 60 = .ok (.iload_n 1, 1) := by decide +kernel
theorem dX4_playByCounters_61 : decode cX4_playByCounters 61 = .ok (.iload_n 2, 1) := by decide +kernel
theorem dX4_playByCounters_62 : decode cX4_playByCounters 62 = .ok (.invokevirtual 110, 3) := by decide +kernel
theorem dX4_playByCounters_65 : decode cX4_playByCounters 65 = .ok (.istore_n 3, 1) := by decide +kernel
theorem dX4_playByCounters_66 : decode cX4_playByCounters 66 = .ok (.iconst (-1), 1) := by decide +kernel
theorem dX4_playByCounters_67 : decode cX4_playByCounters 67 = .ok (.istore 4, 2) := by decide +kernel
theorem dX4_playByCounters_69 : decode cX4_playByCounters 69 = .ok (.iconst 0, 1) := by decide +kernel
theorem dX4_playByCounters_70 : decode cX4_playByCounters 70 = .ok (.istore 5, 2) := by decide +kernel
theorem dX4_playByCounters_72 : decode cX4_playByCounters 72 = .ok (.iload 5, 2) := by decide +kernel
theorem dX4_playByCounters_74 : decode cX4_playByCounters 74 = .ok (.aload_n 0, 1) := by decide +kernel
theorem dX4_playByCounters_75 : decode cX4_playByCounters 75 = .ok (.getfield 12, 3) := by decide +kernel
theorem dX4_playByCounters_78 : decode cX4_playByCounters 78 = .ok (.getfield 93, 3) := by decide +kernel
theorem dX4_playByCounters_81 : decode cX4_playByCounters 81 = .ok (.if_icmp .ge 88, 3) := by decide +kernel
theorem dX4_playByCounters_84 : decode cX4_playByCounters 84 = .ok (.aload_n 0, 1) := by decide +kernel
theorem dX4_playByCounters_85 : decode cX4_playByCounters 85 = .ok (.getfield 46, 3) := by decide +kernel
theorem dX4_playByCounters_88 : decode cX4_playByCounters 88 = .ok (.iload 5, 2) := by decide +kernel
theorem dX4_playByCounters_90 : decode cX4_playByCounters 90 = .ok (.ishr, 1) := by decide +kernel
theorem dX4_playByCounters_91 : decode cX4_playByCounters 91 = .ok (.ifCond .eq 78, 3) := by decide +kernel
theorem dX4_playByCounters_94 : decode cX4_playByCounters 94 = .ok (.aload_n 0, 1) := by decide +kernel
theorem dX4_playByCounters_95 : decode cX4_playByCounters 95 = .ok (.getfield 46, 3) := by decide +kernel
theorem dX4_playByCounters_98 : decode cX4_playByCounters 98 = .ok (.iload 5, 2) := by decide +kernel
theorem dX4_playByCounters_100 : decode cX4_playByCounters 100 = .ok (.ishr, 1) := by decide +kernel
theorem dX4_playByCounters_101 : decode cX4_playByCounters 101 = .ok (.iconst 1, 1) := by decide +kernel
theorem dX4_playByCounters_102 : decode cX4_playByCounters 102 = .ok (.iand, 1) := by decide +kernel
theorem dX4_playByCounters_103 : decode cX4_playByCounters 103 = .ok (.iconst 1, 1) := by decide +kernel
theorem dX4_playByCounters_104 : decode cX4_playByCounters 104 = .ok (.if_icmp .ne 59, 3) := by decide +kernel
theorem dX4_playByCounters_107 : decode cX4_playByCounters 107 = .ok (.aload_n 0, 1) := by decide +kernel
theorem dX4_playByCounters_108 : decode cX4_playByCounters 108 = .ok (.getfield 25, 3) := by decide +kernel
theorem dX4_playByCounters_111 : decode cX4_playByCounters 111 = .ok (.iload 5, 2) := by decide +kernel
theorem dX4_playByCounters_113 : decode cX4_playByCounters 113 = .ok (.aload_n 0, 1) := by decide +kernel
theorem dX4_playByCounters_114 : decode cX4_playByCounters 114 = .ok (.iload 5, 2) := by decide +kernel
theorem dX4_playByCounters_116 : decode cX4_playByCounters 116 = .ok (.iload_n 2, 1) := by decide +kernel
theorem dX4_playByCounters_117 : decode cX4_playByCounters 117 = .ok (.iload 5, 2) := by decide +kernel
theorem dX4_playByCounters_119 : decode cX4_playByCounters 119 = .ok (.ishr, 1) := by decide +kernel
theorem dX4_playByCounters_120 : decode cX4_playByCounters 120 = .ok (.iconst 1, 1) := by decide +kernel
theorem dX4_playByCounters_121 : decode cX4_playByCounters 121 = .ok (.iand, 1) := by decide +kernel
theorem dX4_playByCounters_122 : decode cX4_playByCounters 122 = .ok (.iconst 1, 1) := by decide +kernel
theorem dX4_playByCounters_123 : decode cX4_playByCounters 123 = .ok (.if_icmp .ne 7, 3) := by decide +kernel
theorem dX4_playByCounters_126 : decode cX4_playByCounters 126 = .ok (.iconst 1, 1) := by decide +kernel
theorem dX4_playByCounters_127 : decode cX4_playByCounters 127 = .ok (.goto 4, 3) := by decide +kernel
theorem dX4_playByCounters_130 : decode cX4_playByCounters 130 = .ok (.iconst 0, 1) := by decide +kernel
theorem dX4_playByCounters_131 : decode cX4_playByCounters 131 = .ok (.iload_n 3, 1) := by decide +kernel
theorem dX4_playByCounters_132 : decode cX4_playByCounters 132 = .ok (.iconst 2, 1) := by decide +kernel
theorem dX4_playByCounters_133 : decode cX4_playByCounters 133 = .ok (.if_icmp .ne 7, 3) := by decide +kernel
theorem dX4_playByCounters_136 : decode cX4_playByCounters 136 = .ok (.iconst 1, 1) := by decide +kernel
theorem dX4_playByCounters_137 : decode cX4_playByCounters 137 = .ok (.goto 4, 3) := by decide +kernel
theorem dX4_playByCounters_140 : decode cX4_playByCounters 140 = .ok (.iconst 0, 1) := by decide +kernel
theorem dX4_playByCounters_141 : decode cX4_playByCounters 141 = .ok (.invokevirtual 220, 3) := by decide +kernel
theorem dX4_playByCounters_144 : decode cX4_playByCounters 144 = .ok (.invokestatic 127, 3) := by decide +kernel
theorem dX4_playByCounters_147 : decode cX4_playByCounters 147 = .ok (.iload 4, 2) := by decide +kernel
theorem dX4_playByCounters_149 : decode cX4_playByCounters 149 = .ok (.aload_n 0, 1) := by decide +kernel
theorem dX4_playByCounters_150 : decode cX4_playByCounters 150 = .ok (.getfield 25, 3) := by decide +kernel
theorem dX4_playByCounters_153 : decode cX4_playByCounters 153 = .ok (.iload 5, 2) := by decide +kernel
theorem dX4_playByCounters_155 : decode cX4_playByCounters 155 = .ok (.invokestatic 99, 3) := by decide +kernel
theorem dX4_playByCounters_158 : decode cX4_playByCounters 158 = .ok (.invokestatic 224, 3) := by decide +kernel
theorem dX4_playByCounters_161 : decode cX4_playByCounters 161 = .ok (.istore 4, 2) := by decide +kernel
theorem dX4_playByCounters_163 : decode cX4_playByCounters 163 = .ok (.iinc 5 1, 3) := by decide +kernel
theorem dX4_playByCounters_166 : decode cX4_playByCounters 166 = .ok (.goto (-94), 3) := by decide +kernel
theorem dX4_playByCounters_169 : decode cX4_playByCounters 169 = .ok (.aload_n 0, 1) := by decide +kernel
theorem dX4_playByCounters_170 : decode cX4_playByCounters 170 = .ok (.getfield 32, 3) := by decide +kernel
theorem dX4_playByCounters_173 : decode cX4_playByCounters 173 = .ok (.getfield 134, 3) := by decide +kernel
theorem dX4_playByCounters_176 : decode cX4_playByCounters 176 = .ok (.iload_n 1, 1) := by decide +kernel
theorem dX4_playByCounters_177 : decode cX4_playByCounters 177 = .ok (.iload 4, 2) := by decide +kernel
theorem dX4_playByCounters_179 : decode cX4_playByCounters 179 = .ok (.iconst 1, 1) := by decide +kernel
theorem dX4_playByCounters_180 : decode cX4_playByCounters 180 = .ok (.iadd, 1) := by decide +kernel
theorem dX4_playByCounters_181 : decode cX4_playByCounters 181 = .ok (.invokestatic 127, 3) := by decide +kernel
theorem dX4_playByCounters_184 : decode cX4_playByCounters 184 = .ok (.return_, 1) := by decide +kernel
theorem dX4_counterBehind_0 : decode cX4_counterBehind 0 = .ok (.aload_n 0, 1) := by decide +kernel
theorem dX4_counterBehind_1 : decode cX4_counterBehind 1 = .ok (.getfield 25, 3) := by decide +kernel
theorem dX4_counterBehind_4 : decode cX4_counterBehind 4 = .ok (.iload_n 1, 1) := by decide +kernel
theorem dX4_counterBehind_5 : decode cX4_counterBehind 5 = .ok (.invokestatic 99, 3) := by decide +kernel
theorem dX4_counterBehind_8 : decode cX4_counterBehind 8 = .ok (.istore 4, 2) := by decide +kernel
theorem dX4_counterBehind_10 : decode cX4_counterBehind 10 = .ok (.iload_n 2, 1) := by decide +kernel
theorem dX4_counterBehind_11 : decode cX4_counterBehind 11 = .ok (.ifCond .eq 18, 3) := by decide +kernel
theorem dX4_counterBehind_14 : decode cX4_counterBehind 14 = .ok (.iload_n 3, 1) := by decide +kernel
theorem dX4_counterBehind_15 : decode cX4_counterBehind 15 = .ok (.ifCond .eq 11, 3) := by decide +kernel
theorem dX4_counterBehind_18 : decode cX4_counterBehind 18 = .ok (.aload_n 0, 1) := by decide +kernel
theorem dX4_counterBehind_19 : decode cX4_counterBehind 19 = .ok (.iload_n 1, 1) := by decide +kernel
theorem dX4_counterBehind_20 : decode cX4_counterBehind 20 = .ok (.invokevirtual 179, 3) := by decide +kernel
theorem dX4_counterBehind_23 : decode cX4_counterBehind 23 = .ok (.goto 5, 3) := by decide +kernel
theorem dX4_counterBehind_26 : decode cX4_counterBehind 26 = .ok (.iload 4, 2) := by decide +kernel
theorem dX4_counterBehind_28 : decode cX4_counterBehind 28 = .ok (.ireturn, 1) := by decide +kernel
theorem dX4_counterBehind_29 : decode cX4_counterBehind 29 = .ok (.iload_n 3, 1) := by decide +kernel
theorem dX4_counterBehind_30 : decode cX4_counterBehind 30 = .ok (.ifCond .eq 10, 3) := by decide +kernel
theorem dX4_counterBehind_33 : decode cX4_counterBehind 33 = .ok (.iload 4, 2) := by decide +kernel
theorem dX4_counterBehind_35 : decode cX4_counterBehind 35 = .ok (.iconst 1, 1) := by decide +kernel
theorem dX4_counterBehind_36 : decode cX4_counterBehind 36 = .ok (.iadd, 1) := by decide +kernel
theorem dX4_counterBehind_37 : decode cX4_counterBehind 37 = .ok (.goto 7, 3) := by decide +kernel
theorem dX4_counterBehind_40 : decode cX4_counterBehind 40 = .ok (.iload 4, 2) := by decide +kernel
theorem dX4_counterBehind_42 : decode cX4_counterBehind 42 = .ok (.iconst 1, 1) := by decide +kernel
theorem dX4_counterBehind_43 : decode cX4_counterBehind 43 = .ok (.isub, 1) := by decide +kernel
theorem dX4_counterBehind_44 : decode cX4_counterBehind 44 = .ok (.ireturn, 1) := by decide +kernel
theorem dX5_init_0 : decode cX5_init 0 = .ok (.aload_n 0, 1) := by decide +kernel
theorem dX5_init_1 : decode cX5_init 1 = .ok (.invokespecial 3, 3) := by decide +kernel
theorem dX5_init_4 : decode cX5_init 4 = .ok (.aload_n 0, 1) := by decide +kernel
theorem dX5_init_5 : decode cX5_init 5 = .ok (.new 9, 3) := by decide +kernel
theorem dX5_init_8 : decode cX5_init 8 = .ok (.dup, 1) := by decide +kernel
theorem dX5_init_9 : decode cX5_init 9 = .ok (.invokespecial 11, 3) := by decide +kernel
theorem dX5_init_12 : decode cX5_init 12 = .ok (.putfield 12, 3) := by decide +kernel
theorem dX5_init_15 : decode cX5_init 15 = .ok (.aload_n 0, 1) := by decide +kernel
theorem dX5_init_16 : decode cX5_init 16 = .ok (.new 18, 3) := by decide +kernel
theorem dX5_init_19 : decode cX5_init 19 = .ok (.dup, 1) := by decide +kernel
theorem dX5_init_20 : decode cX5_init 20 = .ok (.invokespecial 20, 3) := by decide +kernel
theorem dX5_init_23 : decode cX5_init 23 = .ok (.putfield 21, 3) := by decide +kernel
theorem dX5_init_26 : decode cX5_init 26 = .ok (.aload_n 0, 1) := by decide +kernel
theorem dX5_init_27 : decode cX5_init 27 = .ok (.iconst (-1), 1) := by decide +kernel
theorem dX5_init_28 : decode cX5_init 28 = .ok (.putfield 25, 3) := by decide +kernel
theorem dX5_init_31 : decode cX5_init 31 = .ok (.return_, 1) := by decide +kernel
theorem dX5_read_0 : decode cX5_read 0 = .ok (.aload_n 0, 1) := by decide +kernel
theorem dX5_read_1 : decode cX5_read 1 = .ok (.getfield 21, 3) := by decide +kernel
theorem dX5_read_4 : decode cX5_read 4 = .ok (.invokevirtual 29, 3) := by decide +kernel
theorem dX5_read_7 : decode cX5_read 7 = .ok (.aload_n 0, 1) := by decide +kernel
theorem dX5_read_8 : decode cX5_read 8 = .ok (.iconst 0, 1) := by decide +kernel
theorem dX5_read_9 : decode cX5_read 9 = .ok (.putfield 32, 3) := by decide +kernel
theorem dX5_read_12 : decode cX5_read 12 = .ok (.aload_n 0, 1) := by decide +kernel
theorem dX5_read_13 : decode cX5_read 13 = .ok (.iconst (-1), 1) := by decide +kernel
theorem dX5_read_14 : decode cX5_read 14 = .ok (.putfield 25, 3) := by decide +kernel
theorem dX5_read_17 : decode cX5_read 17 = .ok (.aload_n 0, 1) := by decide +kernel
theorem dX5_read_18 : decode cX5_read 18 = .ok (.iconst 0, 1) := by decide +kernel
theorem dX5_read_19 : decode cX5_read 19 = .ok (.putfield 35, 3) := by decide +kernel
theorem dX5_read_22 : decode cX5_read 22 = .ok (.iconst 0, 1) := by decide +kernel
theorem dX5_read_23 : decode cX5_read 23 = .ok (.istore_n 1, 1) := by decide +kernel
theorem dX5_read_24 : decode cX5_read 24 = .ok (.iload_n 1, 1) := by decide +kernel
theorem dX5_read_25 : decode cX5_read 25 = .ok (.sipush 500, 3) := by decide +kernel
theorem dX5_read_28 : decode cX5_read 28 = .ok (.if_icmp .gt 44, 3) := by decide +kernel
theorem dX5_read_31 : decode cX5_read 31 = .ok (.aload_n 0, 1) := by decide +kernel
theorem dX5_read_32 : decode cX5_read 32 = .ok (.invokevirtual 38, 3) := by decide +kernel
theorem dX5_read_35 : decode cX5_read 35 = .ok (.aload_n 0, 1) := by decide +kernel
theorem dX5_read_36 : decode cX5_read 36 = .ok (.getfield 41, 3) := by decide +kernel
theorem dX5_read_39 : decode cX5_read 39 = .ok (.ifCond .ne 5, 3) := by decide +kernel
theorem dX5_read_42 : decode cX5_read 42 = .ok (.iconst 1, 1) := by decide +kernel
theorem dX5_read_43 : decode cX5_read 43 = .ok (.ireturn, 1) := by decide +kernel
theorem dX5_read_44 : decode cX5_read 44 = .ok (.aload_n 0, 1) := by decide +kernel
theorem dX5_read_45 : decode cX5_read 45 = .ok (.invokevirtual 44, 3) := by decide +kernel
theorem dX5_read_48 : decode cX5_read 48 = .ok (.ifCond .ne 5, 3) := by decide +kernel
theorem dX5_read_51 : decode cX5_read 51 = .ok (.iconst 0, 1) := by decide +kernel
theorem dX5_read_52 : decode cX5_read 52 = .ok (.ireturn, 1) := by decide +kernel
theorem dX5_read_53 : decode cX5_read 53 = .ok (.aload_n 0, 1) := by decide +kernel
theorem dX5_read_54 : decode cX5_read 54 = .ok (.getfield 21, 3) := by decide +kernel
theorem dX5_read_57 : decode cX5_read 57 = .ok (.dup, 1) := by decide +kernel
theorem dX5_read_58 : decode cX5_read 58 = .ok (.getfield 48, 3) := by decide +kernel
theorem dX5_read_61 : decode cX5_read 61 = .ok (.iconst 1, 1) := by decide +kernel
theorem dX5_read_62 : decode cX5_read 62 = .ok (.iadd, 1) := by decide +kernel
theorem dX5_read_63 : decode cX5_read 63 = .ok (.putfield 48, 3) := by decide +kernel
theorem dX5_read_66 : decode cX5_read 66 = .ok (.iinc 1 1, 3) := by decide +kernel
theorem dX5_read_69 : decode cX5_read 69 = .ok (.goto (-45), 3) := by decide +kernel
theorem dX5_read_72 : decode cX5_read 72 = .ok (.iconst 1, 1) := by decide +kernel
theorem dX5_read_73 : decode cX5_read 73 = .ok (.ireturn, 1) := by decide +kernel
theorem dX5_readLine_0 : decode cX5_readLine 0 = .ok (.aload_n 0, 1) := by decide +kernel
theorem dX5_readLine_1 : decode cX5_readLine 1 = .ok (.ldc 51, 2) := by decide +kernel
theorem dX5_readLine_3 : decode cX5_readLine 3 = .ok (.invokevirtual 53, 3) := by decide +kernel
theorem dX5_readLine_6 : decode cX5_readLine 6 = .ok (.ifCond .eq 26, 3) := by decide +kernel
theorem dX5_readLine_9 : decode cX5_readLine 9 = .ok (.aload_n 0, 1) := by decide +kernel
theorem dX5_readLine_10 : decode cX5_readLine 10 = .ok (.getfield 21, 3) := by decide +kernel
theorem dX5_readLine_13 : decode cX5_readLine 13 = .ok (.getfield 48, 3) := by decide +kernel
theorem dX5_readLine_16 : decode cX5_readLine 16 = .ok (.ifCond .ne 10, 3) := by decide +kernel
theorem dX5_readLine_19 : decode cX5_readLine 19 = .ok (.aload_n 0, 1) := by decide +kernel
theorem dX5_readLine_20 : decode cX5_readLine 20 = .ok (.invokevirtual 57, 3) := by decide +kernel
theorem dX5_readLine_23 : decode cX5_readLine 23 = .ok (.goto 8, 3) := by decide +kernel
theorem dX5_readLine_26 : decode cX5_readLine 26 = .ok (.aload_n 0, 1) := by decide +kernel
theorem dX5_readLine_27 : decode cX5_readLine 27 = .ok (.iconst 1, 1) := by decide +kernel
theorem dX5_readLine_28 : decode cX5_readLine 28 = .ok (.invokevirtual 60, 3) := by decide +kernel
theorem dX5_readLine_31 : decode cX5_readLine 31 = .ok (.ireturn, 1) := by decide +kernel
theorem dX5_readLine_32 : decode cX5_readLine 32 = .ok (.aload_n 0, 1) := by decide +kernel
theorem dX5_readLine_33 : decode cX5_readLine 33 = .ok (.getfield 21, 3) := by decide +kernel
theorem dX5_readLine_36 : decode cX5_readLine 36 = .ok (.getfield 48, 3) := by decide +kernel
theorem dX5_readLine_39 : decode cX5_readLine 39 = .ok (.ifCond .le 17, 3) := by decide +kernel
theorem dX5_readLine_42 : decode cX5_readLine 42 = .ok (.aload_n 0, 1) := by decide +kernel
theorem dX5_readLine_43 : decode cX5_readLine 43 = .ok (.ldc 64, 2) := by decide +kernel
theorem dX5_readLine_45 : decode cX5_readLine 45 = .ok (.invokevirtual 53, 3) := by decide +kernel
theorem dX5_readLine_48 : decode cX5_readLine 48 = .ok (.ifCond .eq 8, 3) := by decide +kernel
theorem dX5_readLine_51 : decode cX5_readLine 51 = .ok (.aload_n 0, 1) := by decide +kernel
theorem dX5_readLine_52 : decode cX5_readLine 52 = .ok (.invokevirtual 66, 3) := by decide +kernel
theorem dX5_readLine_55 : decode cX5_readLine 55 = .ok (.ireturn, 1) := by decide +kernel
theorem dX5_readLine_56 : decode cX5_readLine 56 = .ok (.aload_n 0, 1) := by decide +kernel
theorem dX5_readLine_57 : decode cX5_readLine 57 = .ok (.getfield 21, 3) := by decide +kernel
theorem dX5_readLine_60 : decode cX5_readLine 60 = .ok (.getfield 48, 3) := by decide +kernel
theorem dX5_readLine_63 : decode cX5_readLine 63 = .ok (.ifCond .le 17, 3) := by decide +kernel
theorem dX5_readLine_66 : decode cX5_readLine 66 = .ok (.aload_n 0, 1) := by decide +kernel
theorem dX5_readLine_67 : decode cX5_readLine 67 = .ok (.ldc 69, 2) := by decide +kernel
theorem dX5_readLine_69 : decode cX5_readLine 69 = .ok (.invokevirtual 53, 3) := by decide +kernel
theorem dX5_readLine_72 : decode cX5_readLine 72 = .ok (.ifCond .eq 8, 3) := by decide +kernel
theorem dX5_readLine_75 : decode cX5_readLine 75 = .ok (.aload_n 0, 1) := by decide +kernel
theorem dX5_readLine_76 : decode cX5_readLine 76 = .ok (.invokevirtual 71, 3) := by decide +kernel
theorem dX5_readLine_79 : decode cX5_readLine 79 = .ok (.ireturn, 1) := by decide +kernel
theorem dX5_readLine_80 : decode cX5_readLine 80 = .ok (.aload_n 0, 1) := by decide +kernel
theorem dX5_readLine_81 : decode cX5_readLine 81 = .ok (.iconst 1, 1) := by decide +kernel
theorem dX5_readLine_82 : decode cX5_readLine 82 = .ok (.invokevirtual 60, 3) := by decide +kernel
theorem dX5_readLine_85 : decode cX5_readLine 85 = .ok (.ireturn, 1) := by decide +kernel
theorem dX5_readChannel_0 : decode cX5_readChannel 0 = .ok (.aload_n 0, 1) := by decide +kernel
theorem dX5_readChannel_1 : decode cX5_readChannel 1 = .ok (.ldc 74, 2) := by decide +kernel
theorem dX5_readChannel_3 : decode cX5_readChannel 3 = .ok (.invokevirtual 76, 3) := by decide +kernel
theorem dX5_readChannel_6 : decode cX5_readChannel 6 = .ok (.ifCond .eq 12, 3) := by decide +kernel
theorem dX5_readChannel_9 : decode cX5_readChannel 9 = .ok (.aload_n 0, 1) := by decide +kernel
theorem dX5_readChannel_10 : decode cX5_readChannel 10 = .ok (.iconst 0, 1) := by decide +kernel
theorem dX5_readChannel_11 : decode cX5_readChannel 11 = .ok (.iconst 3, 1) := by decide +kernel
theorem dX5_readChannel_12 : decode cX5_readChannel 12 = .ok (.invokevirtual 79, 3) := by decide +kernel
theorem dX5_readChannel_15 : decode cX5_readChannel 15 = .ok (.ifCond .ne 5, 3) := by decide +kernel
theorem dX5_readChannel_18 : decode cX5_readChannel 18 = .ok (.iconst 0, 1) := by decide +kernel
theorem dX5_readChannel_19 : decode cX5_readChannel 19 = .ok (.ireturn, 1) := by decide +kernel
theorem dX5_readChannel_20 : decode cX5_readChannel 20 = .ok (.aload_n 0, 1) := by decide +kernel
theorem dX5_readChannel_21 : decode cX5_readChannel 21 = .ok (.getfield 21, 3) := by decide +kernel
theorem dX5_readChannel_24 : decode cX5_readChannel 24 = .ok (.aload_n 0, 1) := by decide +kernel
theorem dX5_readChannel_25 : decode cX5_readChannel 25 = .ok (.getfield 83, 3) := by decide +kernel
theorem dX5_readChannel_28 : decode cX5_readChannel 28 = .ok (.putfield 86, 3) := by decide +kernel
theorem dX5_readChannel_31 : decode cX5_readChannel 31 = .ok (.aload_n 0, 1) := by decide +kernel
theorem dX5_readChannel_32 : decode cX5_readChannel 32 = .ok (.ldc 88, 2) := by decide +kernel
theorem dX5_readChannel_34 : decode cX5_readChannel 34 = .ok (.invokevirtual 76, 3) := by decide +kernel
theorem dX5_readChannel_37 : decode cX5_readChannel 37 = .ok (.ifCond .eq 14, 3) := by decide +kernel
theorem dX5_readChannel_40 : decode cX5_readChannel 40 = .ok (.aload_n 0, 1) := by decide +kernel
theorem dX5_readChannel_41 : decode cX5_readChannel 41 = .ok (.iconst 1, 1) := by decide +kernel
theorem dX5_readChannel_42 : decode cX5_readChannel 42 = .ok (.sipush 200, 3) := by decide +kernel
theorem dX5_readChannel_45 : decode cX5_readChannel 45 = .ok (.invokevirtual 79, 3) := by decide +kernel
theorem dX5_readChannel_48 : decode cX5_readChannel 48 = .ok (.ifCond .ne 5, 3) := by decide +kernel
theorem dX5_readChannel_51 : decode cX5_readChannel 51 = .ok (.iconst 0, 1) := by decide +kernel
theorem dX5_readChannel_52 : decode cX5_readChannel 52 = .ok (.ireturn, 1) := by decide +kernel
theorem dX5_readChannel_53 : decode cX5_readChannel 53 = .ok (.aload_n 0, 1) := by decide +kernel
theorem dX5_readChannel_54 : decode cX5_readChannel 54 = .ok (.getfield 21, 3) := by decide +kernel
theorem dX5_readChannel_57 : decode cX5_readChannel 57 = .ok (.aload_n 0, 1) := by decide +kernel
theorem dX5_readChannel_58 : decode cX5_readChannel 58 = .ok (.getfield 83, 3) := by decide +kernel
theorem dX5_readChannel_61 : decode cX5_readChannel 61 = .ok (.putfield 90, 3) := by decide +kernel
theorem dX5_readChannel_64 : decode cX5_readChannel 64 = .ok (.aload_n 0, 1) := by decide +kernel
theorem dX5_readChannel_65 : decode cX5_readChannel 65 = .ok (.ldc 92, 2) := by decide +kernel
theorem dX5_readChannel_67 : decode cX5_readChannel 67 = .ok (.invokevirtual 76, 3) := by decide +kernel
theorem dX5_readChannel_70 : decode cX5_readChannel 70 = .ok (.ifCond .eq 13, 3) := by decide +kernel
theorem dX5_readChannel_73 : decode cX5_readChannel 73 = .ok (.aload_n 0, 1) := by decide +kernel
theorem dX5_readChannel_74 : decode cX5_readChannel 74 = .ok (.iconst 0, 1) := by decide +kernel
theorem dX5_readChannel_75 : decode cX5_readChannel 75 = .ok (.bipush 9, 2) := by decide +kernel
theorem dX5_readChannel_77 : decode cX5_readChannel 77 = .ok (.invokevirtual 79, 3) := by decide +kernel
theorem dX5_readChannel_80 : decode cX5_readChannel 80 = .ok (.ifCond .ne 5, 3) := by decide +kernel
theorem dX5_readChannel_83 : decode cX5_readChannel 83 = .ok (.iconst 0, 1) := by decide +kernel
theorem dX5_readChannel_84 : decode cX5_readChannel 84 = .ok (.ireturn, 1) := by decide +kernel
theorem dX5_readChannel_85 : decode cX5_readChannel 85 = .ok (.aload_n 0, 1) := by decide +kernel
theorem dX5_readChannel_86 : decode cX5_readChannel 86 = .ok (.getfield 21, 3) := by decide +kernel
theorem dX5_readChannel_89 : decode cX5_readChannel 89 = .ok (.aload_n 0, 1) := by decide +kernel
theorem dX5_readChannel_90 : decode cX5_readChannel 90 = .ok (.getfield 83, 3) := by decide +kernel
theorem dX5_readChannel_93 : decode cX5_readChannel 93 = .ok (.putfield 94, 3) := by decide +kernel
theorem dX5_readChannel_96 : decode cX5_readChannel 96 = .ok (.aload_n 0, 1) := by decide +kernel
theorem dX5_readChannel_97 : decode cX5_readChannel 97 = .ok (.ldc 96, 2) := by decide +kernel
theorem dX5_readChannel_99 : decode cX5_readChannel 99 = .ok (.invokevirtual 76, 3) := by decide +kernel
theorem dX5_readChannel_102 : decode cX5_readChannel 102 = .ok (.ifCond .eq 13, 3) := by decide +kernel
theorem dX5_readChannel_105 : decode cX5_readChannel 105 = .ok (.aload_n 0, 1) := by decide +kernel
theorem dX5_readChannel_106 : decode cX5_readChannel 106 = .ok (.iconst 1, 1) := by decide +kernel
theorem dX5_readChannel_107 : decode cX5_readChannel 107 = .ok (.bipush 20, 2) := by decide +kernel
theorem dX5_readChannel_109 : decode cX5_readChannel 109 = .ok (.invokevirtual 79, 3) := by decide +kernel
theorem dX5_readChannel_112 : decode cX5_readChannel 112 = .ok (.ifCond .ne 5, 3) := by decide +kernel
theorem dX5_readChannel_115 : decode cX5_readChannel 115 = .ok (.iconst 0, 1) := by decide +kernel
theorem dX5_readChannel_116 : decode cX5_readChannel 116 = .ok (.ireturn, 1) := by decide +kernel
theorem dX5_readChannel_117 : decode cX5_readChannel 117 = .ok (.aload_n 0, 1) := by decide +kernel
theorem dX5_readChannel_118 : decode cX5_readChannel 118 = .ok (.getfield 21, 3) := by decide +kernel
theorem dX5_readChannel_121 : decode cX5_readChannel 121 = .ok (.aload_n 0, 1) := by decide +kernel
theorem dX5_readChannel_122 : decode cX5_readChannel 122 = .ok (.getfield 83, 3) := by decide +kernel
theorem dX5_readChannel_125 : decode cX5_readChannel 125 = .ok (.putfield 98, 3) := by decide +kernel
theorem dX5_readChannel_128 : decode cX5_readChannel 128 = .ok (.aload_n 0, 1) := by decide +kernel
theorem dX5_readChannel_129 : decode cX5_readChannel 129 = .ok (.invokevirtual 100, 3) := by decide +kernel
theorem dX5_readChannel_132 : decode cX5_readChannel 132 = .ok (.ireturn, 1) := by decide +kernel
theorem dX5_readSender_0 : decode cX5_readSender 0 = .ok (.aload_n 0, 1) := by decide +kernel
theorem dX5_readSender_1 : decode cX5_readSender 1 = .ok (.getfield 21, 3) := by decide +kernel
theorem dX5_readSender_4 : decode cX5_readSender 4 = .ok (.getfield 103, 3) := by decide +kernel
theorem dX5_readSender_7 : decode cX5_readSender 7 = .ok (.bipush 10, 2) := by decide +kernel
theorem dX5_readSender_9 : decode cX5_readSender 9 = .ok (.if_icmp .lt 9, 3) := by decide +kernel
theorem dX5_readSender_12 : decode cX5_readSender 12 = .ok (.aload_n 0, 1) := by decide +kernel
theorem dX5_readSender_13 : decode cX5_readSender 13 = .ok (.iconst 3, 1) := by decide +kernel
theorem dX5_readSender_14 : decode cX5_readSender 14 = .ok (.invokevirtual 60, 3) := by decide +kernel
theorem dX5_readSender_17 : decode cX5_readSender 17 = .ok (.ireturn, 1) := by decide +kernel
theorem dX5_readSender_18 : decode cX5_readSender 18 = .ok (.aload_n 0, 1) := by decide +kernel
theorem dX5_readSender_19 : decode cX5_readSender 19 = .ok (.ldc 106, 2) := by decide +kernel
theorem dX5_readSender_21 : decode cX5_readSender 21 = .ok (.invokevirtual 76, 3) := by decide +kernel
theorem dX5_readSender_24 : decode cX5_readSender 24 = .ok (.ifCond .eq 14, 3) := by decide +kernel
theorem dX5_readSender_27 : decode cX5_readSender 27 = .ok (.aload_n 0, 1) := by decide +kernel
theorem dX5_readSender_28 : decode cX5_readSender 28 = .ok (.iconst 0, 1) := by decide +kernel
theorem dX5_readSender_29 : decode cX5_readSender 29 = .ok (.sipush 199, 3) := by decide +kernel
theorem dX5_readSender_32 : decode cX5_readSender 32 = .ok (.invokevirtual 79, 3) := by decide +kernel
theorem dX5_readSender_35 : decode cX5_readSender 35 = .ok (.ifCond .ne 5, 3) := by decide +kernel
theorem dX5_readSender_38 : decode cX5_readSender 38 = .ok (.iconst 0, 1) := by decide +kernel
theorem dX5_readSender_39 : decode cX5_readSender 39 = .ok (.ireturn, 1) := by decide +kernel
theorem dX5_readSender_40 : decode cX5_readSender 40 = .ok (.aload_n 0, 1) := by decide +kernel
theorem dX5_readSender_41 : decode cX5_readSender 41 = .ok (.getfield 83, 3) := by decide +kernel
theorem dX5_readSender_44 : decode cX5_readSender 44 = .ok (.istore_n 1, 1) := by decide +kernel
theorem dX5_readSender_45 : decode cX5_readSender 45 = .ok (.aload_n 0, 1) := by decide +kernel
theorem dX5_readSender_46 : decode cX5_readSender 46 = .ok (.ldc 108, 2) := by decide +kernel
theorem dX5_readSender_48 : decode cX5_readSender 48 = .ok (.invokevirtual 76, 3) := by decide +kernel
theorem dX5_readSender_51 : decode cX5_readSender 51 = .ok (.ifCond .eq 10, 3) := by decide +kernel
theorem dX5_readSender_54 : decode cX5_readSender 54 = .ok (.aload_n 0, 1) := by decide +kernel
theorem dX5_readSender_55 : decode cX5_readSender 55 = .ok (.invokevirtual 110, 3) := by decide +kernel
theorem dX5_readSender_58 : decode cX5_readSender 58 = .ok (.ifCond .ne 5, 3) := by decide +kernel
theorem dX5_readSender_61 : decode cX5_readSender 61 = .ok (.iconst 0, 1) := by decide +kernel
theorem dX5_readSender_62 : decode cX5_readSender 62 = .ok (.ireturn, 1) := by decide +kernel
theorem dX5_readSender_63 : decode cX5_readSender 63 = .ok (.aload_n 0, 1) := by decide +kernel
theorem dX5_readSender_64 : decode cX5_readSender 64 = .ok (.getfield 21, 3) := by decide +kernel
theorem dX5_readSender_67 : decode cX5_readSender 67 = .ok (.iload_n 1, 1) := by decide +kernel
theorem dX5_readSender_68 : decode cX5_readSender 68 = .ok (.aload_n 0, 1) := by decide +kernel
theorem dX5_readSender_69 : decode cX5_readSender 69 = .ok (.getfield 83, 3) := by decide +kernel
theorem dX5_readSender_72 : decode cX5_readSender 72 = .ok (.aload_n 0, 1) := by decide +kernel
theorem dX5_readSender_73 : decode cX5_readSender 73 = .ok (.getfield 35, 3) := by decide +kernel
theorem dX5_readSender_76 : decode cX5_readSender 76 = .ok (.aload_n 0, 1) := by decide +kernel
theorem dX5_readSender_77 : decode cX5_readSender 77 = .ok (.getfield 113, 3) := by decide +kernel
theorem dX5_readSender_80 : decode cX5_readSender 80 = .ok (.isub, 1) := by decide +kernel
theorem dX5_readSender_81 : decode cX5_readSender 81 = .ok (.invokevirtual 116, 3) := by decide +kernel
theorem dX5_readSender_84 : decode cX5_readSender 84 = .ok (.aload_n 0, 1) := by decide +kernel
theorem dX5_readSender_85 : decode cX5_readSender 85 = .ok (.invokevirtual 100, 3) := by decide +kernel
theorem dX5_readSender_88 : decode cX5_readSender 88 = .ok (.ireturn, 1) := by decide +kernel
theorem dX5_readNoise_0 : decode cX5_readNoise 0 = .ok (.aload_n 0, 1) := by decide +kernel
theorem dX5_readNoise_1 : decode cX5_readNoise 1 = .ok (.getfield 21, 3) := by decide +kernel
theorem dX5_readNoise_4 : decode cX5_readNoise 4 = .ok (.getfield 120, 3) := by decide +kernel
theorem dX5_readNoise_7 : decode cX5_readNoise 7 = .ok (.bipush 10, 2) := by decide +kernel
theorem dX5_readNoise_9 : decode cX5_readNoise 9 = .ok (.if_icmp .lt 9, 3) := by decide +kernel
theorem dX5_readNoise_12 : decode cX5_readNoise 12 = .ok (.aload_n 0, 1) := by decide +kernel
theorem dX5_readNoise_13 : decode cX5_readNoise 13 = .ok (.iconst 3, 1) := by decide +kernel
theorem dX5_readNoise_14 : decode cX5_readNoise 14 = .ok (.invokevirtual 60, 3) := by decide +kernel
theorem dX5_readNoise_17 : decode cX5_readNoise 17 = .ok (.ireturn, 1) := by decide +kernel
theorem dX5_readNoise_18 : decode cX5_readNoise 18 = .ok (.aload_n 0, 1) := by decide +kernel
theorem dX5_readNoise_19 : decode cX5_readNoise 19 = .ok (.ldc 106, 2) := by decide +kernel
theorem dX5_readNoise_21 : decode cX5_readNoise 21 = .ok (.invokevirtual 76, 3) := by decide +kernel
theorem dX5_readNoise_24 : decode cX5_readNoise 24 = .ok (.ifCond .eq 14, 3) := by decide +kernel
theorem dX5_readNoise_27 : decode cX5_readNoise 27 = .ok (.aload_n 0, 1) := by decide +kernel
theorem dX5_readNoise_28 : decode cX5_readNoise 28 = .ok (.iconst 0, 1) := by decide +kernel
theorem dX5_readNoise_29 : decode cX5_readNoise 29 = .ok (.sipush 199, 3) := by decide +kernel
theorem dX5_readNoise_32 : decode cX5_readNoise 32 = .ok (.invokevirtual 79, 3) := by decide +kernel
theorem dX5_readNoise_35 : decode cX5_readNoise 35 = .ok (.ifCond .ne 5, 3) := by decide +kernel
theorem dX5_readNoise_38 : decode cX5_readNoise 38 = .ok (.iconst 0, 1) := by decide +kernel
theorem dX5_readNoise_39 : decode cX5_readNoise 39 = .ok (.ireturn, 1) := by decide +kernel
theorem dX5_readNoise_40 : decode cX5_readNoise 40 = .ok (.aload_n 0, 1) := by decide +kernel
theorem dX5_readNoise_41 : decode cX5_readNoise 41 = .ok (.getfield 21, 3) := by decide +kernel
theorem dX5_readNoise_44 : decode cX5_readNoise 44 = .ok (.aload_n 0, 1) := by decide +kernel
theorem dX5_readNoise_45 : decode cX5_readNoise 45 = .ok (.getfield 83, 3) := by decide +kernel
theorem dX5_readNoise_48 : decode cX5_readNoise 48 = .ok (.invokevirtual 123, 3) := by decide +kernel
theorem dX5_readNoise_51 : decode cX5_readNoise 51 = .ok (.ifCond .eq 9, 3) := by decide +kernel
theorem dX5_readNoise_54 : decode cX5_readNoise 54 = .ok (.aload_n 0, 1) := by decide +kernel
theorem dX5_readNoise_55 : decode cX5_readNoise 55 = .ok (.iconst 2, 1) := by decide +kernel
theorem dX5_readNoise_56 : decode cX5_readNoise 56 = .ok (.invokevirtual 60, 3) := by decide +kernel
theorem dX5_readNoise_59 : decode cX5_readNoise 59 = .ok (.ireturn, 1) := by decide +kernel
theorem dX5_readNoise_60 : decode cX5_readNoise 60 = .ok (.aload_n 0, 1) := by decide +kernel
theorem dX5_readNoise_61 : decode cX5_readNoise 61 = .ok (.getfield 83, 3) := by decide +kernel
theorem dX5_readNoise_64 : decode cX5_readNoise 64 = .ok (.istore_n 1, 1) := by decide +kernel
theorem dX5_readNoise_65 : decode cX5_readNoise 65 = .ok (.aload_n 0, 1) := by decide +kernel
theorem dX5_readNoise_66 : decode cX5_readNoise 66 = .ok (.ldc 126, 2) := by decide +kernel
theorem dX5_readNoise_68 : decode cX5_readNoise 68 = .ok (.invokevirtual 76, 3) := by decide +kernel
theorem dX5_readNoise_71 : decode cX5_readNoise 71 = .ok (.ifCond .eq 10, 3) := by decide +kernel
theorem dX5_readNoise_74 : decode cX5_readNoise 74 = .ok (.aload_n 0, 1) := by decide +kernel
theorem dX5_readNoise_75 : decode cX5_readNoise 75 = .ok (.invokevirtual 128, 3) := by decide +kernel
theorem dX5_readNoise_78 : decode cX5_readNoise 78 = .ok (.ifCond .ne 5, 3) := by decide +kernel
theorem dX5_readNoise_81 : decode cX5_readNoise 81 = .ok (.iconst 0, 1) := by decide +kernel
theorem dX5_readNoise_82 : decode cX5_readNoise 82 = .ok (.ireturn, 1) := by decide +kernel
theorem dX5_readNoise_83 : decode cX5_readNoise 83 = .ok (.aload_n 0, 1) := by decide +kernel
theorem dX5_readNoise_84 : decode cX5_readNoise 84 = .ok (.getfield 21, 3) := by decide +kernel
theorem dX5_readNoise_87 : decode cX5_readNoise 87 = .ok (.iload_n 1, 1) := by decide +kernel
theorem dX5_readNoise_88 : decode cX5_readNoise 88 = .ok (.aload_n 0, 1) := by decide +kernel
theorem dX5_readNoise_89 : decode cX5_readNoise 89 = .ok (.getfield 83, 3) := by decide +kernel
theorem dX5_readNoise_92 : decode cX5_readNoise 92 = .ok (.invokevirtual 131, 3) := by decide +kernel
theorem dX5_readNoise_95 : decode cX5_readNoise 95 = .ok (.aload_n 0, 1) := by decide +kernel
theorem dX5_readNoise_96 : decode cX5_readNoise 96 = .ok (.invokevirtual 100, 3) := by decide +kernel
theorem dX5_readNoise_99 : decode cX5_readNoise 99 = .ok (.ireturn, 1) := by decide +kernel
theorem dX5_readWord_0 : decode cX5_readWord 0 = .ok (.aload_n 0, 1) := by decide +kernel
theorem dX5_readWord_1 : decode cX5_readWord 1 = .ok (.invokevirtual 38, 3) := by decide +kernel
theorem dX5_readWord_4 : decode cX5_readWord 4 = .ok (.aload_n 0, 1) := by decide +kernel
theorem dX5_readWord_5 : decode cX5_readWord 5 = .ok (.aload_n 1, 1) := by decide +kernel
theorem dX5_readWord_6 : decode cX5_readWord 6 = .ok (.invokevirtual 53, 3) := by decide +kernel
theorem dX5_readWord_9 : decode cX5_readWord 9 = .ok (.ifCond .ne 11, 3) := by decide +kernel
theorem dX5_readWord_12 : decode cX5_readWord 12 = .ok (.aload_n 0, 1) := by decide +kernel
theorem dX5_readWord_13 : decode cX5_readWord 13 = .ok (.iconst 1, 1) := by decide +kernel
theorem dX5_readWord_14 : decode cX5_readWord 14 = .ok (.invokevirtual 60, 3) := by decide +kernel
theorem dX5_readWord_17 : decode cX5_readWord 17 = .ok (.ifCond .eq 7, 3) := by decide +kernel
theorem dX5_readWord_20 : decode cX5_readWord 20 = .ok (.iconst 1, 1) := by decide +kernel
theorem dX5_readWord_21 : decode cX5_readWord 21 = .ok (.goto 4, 3) := by decide +kernel
theorem dX5_readWord_24 : decode cX5_readWord 24 = .ok (.iconst 0, 1) := by decide +kernel
theorem dX5_readWord_25 : decode cX5_readWord 25 = .ok (.ireturn, 1) := by decide +kernel
theorem dX5_readNumber_0 : decode cX5_readNumber 0 = .ok (.aload_n 0, 1) := by decide +kernel
theorem dX5_readNumber_1 : decode cX5_readNumber 1 = .ok (.invokevirtual 38, 3) := by decide +kernel
theorem dX5_readNumber_4 : decode cX5_readNumber 4 = .ok (.aload_n 0, 1) := by decide +kernel
theorem dX5_readNumber_5 : decode cX5_readNumber 5 = .ok (.getfield 41, 3) := by decide +kernel
theorem dX5_readNumber_8 : decode cX5_readNumber 8 = .ok (.iconst 2, 1) := by decide +kernel
theorem dX5_readNumber_9 : decode cX5_readNumber 9 = .ok (.if_icmp .eq 9, 3) := by decide +kernel
theorem dX5_readNumber_12 : decode cX5_readNumber 12 = .ok (.aload_n 0, 1) := by decide +kernel
theorem dX5_readNumber_13 : decode cX5_readNumber 13 = .ok (.iconst 1, 1) := by decide +kernel
theorem dX5_readNumber_14 : decode cX5_readNumber 14 = .ok (.invokevirtual 60, 3) := by decide +kernel
theorem dX5_readNumber_17 : decode cX5_readNumber 17 = .ok (.ireturn, 1) := by decide +kernel
theorem dX5_readNumber_18 : decode cX5_readNumber 18 = .ok (.aload_n 0, 1) := by decide +kernel
theorem dX5_readNumber_19 : decode cX5_readNumber 19 = .ok (.iconst 0, 1) := by decide +kernel
theorem dX5_readNumber_20 : decode cX5_readNumber 20 = .ok (.putfield 83, 3) := by decide +kernel
theorem dX5_readNumber_23 : decode cX5_readNumber 23 = .ok (.aload_n 0, 1) := by decide +kernel
theorem dX5_readNumber_24 : decode cX5_readNumber 24 = .ok (.getfield 113, 3) := by decide +kernel
theorem dX5_readNumber_27 : decode cX5_readNumber 27 = .ok (.istore_n 3, 1) := by decide +kernel
theorem dX5_readNumber_28 : decode cX5_readNumber 28 = .ok (.iload_n 3, 1) := by decide +kernel
theorem dX5_readNumber_29 : decode cX5_readNumber 29 = .ok (.aload_n 0, 1) := by decide +kernel
theorem dX5_readNumber_30 : decode cX5_readNumber 30 = .ok (.getfield 35, 3) := by decide +kernel
theorem dX5_readNumber_33 : decode cX5_readNumber 33 = .ok (.if_icmp .ge 50, 3) := by decide +kernel
theorem dX5_readNumber_36 : decode cX5_readNumber 36 = .ok (.aload_n 0, 1) := by decide +kernel
theorem dX5_readNumber_37 : decode cX5_readNumber 37 = .ok (.aload_n 0, 1) := by decide +kernel
theorem dX5_readNumber_38 : decode cX5_readNumber 38 = .ok (.getfield 83, 3) := by decide +kernel
theorem dX5_readNumber_41 : decode cX5_readNumber 41 = .ok (.bipush 10, 2) := by decide +kernel
theorem dX5_readNumber_43 : decode cX5_readNumber 43 = .ok (.imul, 1) := by decide +kernel
theorem dX5_readNumber_44 : decode cX5_readNumber 44 = .ok (.aload_n 0, 1) := by decide +kernel
theorem dX5_readNumber_45 : decode cX5_readNumber 45 = .ok (.getfield 12, 3) := by decide +kernel
theorem dX5_readNumber_48 : decode cX5_readNumber 48 = .ok (.getfield 135, 3) := by decide +kernel
theorem dX5_readNumber_51 : decode cX5_readNumber 51 = .ok (.iload_n 3, 1) := by decide +kernel
theorem dX5_readNumber_52 : decode cX5_readNumber 52 = .ok (.invokestatic 139, 3) := by decide +kernel
theorem dX5_readNumber_55 : decode cX5_readNumber 55 = .ok (.iadd, 1) := by decide +kernel
theorem dX5_readNumber_56 : decode cX5_readNumber 56 = .ok (.bipush 48, 2) := by decide +kernel
theorem dX5_readNumber_58 : decode cX5_readNumber 58 = .ok (.isub, 1) := by decide +kernel
theorem dX5_readNumber_59 : decode cX5_readNumber 59 = .ok (.putfield 83, 3) := by decide +kernel
theorem dX5_readNumber_62 : decode cX5_readNumber 62 = .ok (.aload_n 0, 1) := by decide +kernel
theorem dX5_readNumber_63 : decode cX5_readNumber 63 = .ok (.getfield 83, 3) := by decide +kernel
theorem dX5_readNumber_66 : decode cX5_readNumber 66 = .ok (.ldc 142, 2) := by decide +kernel
theorem dX5_readNumber_68 : decode cX5_readNumber 68 = .ok (.if_icmp .le 9, 3) := by decide +kernel
theorem dX5_readNumber_71 : decode cX5_readNumber 71 = .ok (.aload_n 0, 1) := by decide +kernel
theorem dX5_readNumber_72 : decode cX5_readNumber 72 = .ok (.ldc 142, 2) := by decide +kernel
theorem dX5_readNumber_74 : decode cX5_readNumber 74 = .ok (.putfield 83, 3) := by decide +kernel
theorem dX5_readNumber_77 : decode cX5_readNumber 77 = .ok (.iinc 3 1, 3) := by decide +kernel
theorem dX5_readNumber_80 : decode cX5_readNumber 80 = .ok (.goto (-52), 3) := by decide +kernel
theorem dX5_readNumber_83 : decode cX5_readNumber 83 = .ok (.aload_n 0, 1) := by decide +kernel
theorem dX5_readNumber_84 : decode cX5_readNumber 84 = .ok (.getfield 83, 3) := by decide +kernel
theorem dX5_readNumber_87 : decode cX5_readNumber 87 = .ok (.iload_n 1, 1) := by decide +kernel
theorem dX5_readNumber_88 : decode cX5_readNumber 88 = .ok (.if_icmp .lt 11, 3) := by decide +kernel
theorem dX5_readNumber_91 : decode cX5_readNumber 91 = .ok (.aload_n 0, 1) := by decide +kernel
theorem dX5_readNumber_92 : decode cX5_readNumber 92 = .ok (.getfield 83, 3) := by decide +kernel
theorem dX5_readNumber_95 : decode cX5_readNumber 95 = .ok (.iload_n 2, 1) := by decide +kernel
theorem dX5_readNumber_96 : decode cX5_readNumber 96 = .ok (.if_icmp .le 11, 3) := by decide +kernel
theorem dX5_readNumber_99 : decode cX5_readNumber 99 = .ok (.aload_n 0, 1) := by decide +kernel
theorem dX5_readNumber_100 : decode cX5_readNumber 100 = .ok (.iconst 2, 1) := by decide +kernel
theorem dX5_readNumber_101 : decode cX5_readNumber 101 = .ok (.invokevirtual 60, 3) := by decide +kernel
theorem dX5_readNumber_104 : decode cX5_readNumber 104 = .ok (.ifCond .eq 7, 3) := by decide +kernel
theorem dX5_readNumber_107 : decode cX5_readNumber 107 = .ok (.iconst 1, 1) := by decide +kernel
theorem dX5_readNumber_108 : decode cX5_readNumber 108 = .ok (.goto 4, 3) := by decide +kernel
theorem dX5_readNumber_111 : decode cX5_readNumber 111 = .ok (.iconst 0, 1) := by decide +kernel
theorem dX5_readNumber_112 : decode cX5_readNumber 112 = .ok (.ireturn, 1) := by decide +kernel
theorem dX5_readBits_0 : decode cX5_readBits 0 = .ok (.aload_n 0, 1) := by decide +kernel
theorem dX5_readBits_1 : decode cX5_readBits 1 = .ok (.invokevirtual 38, 3) := by decide +kernel
theorem dX5_readBits_4 : decode cX5_readBits 4 = .ok (.aload_n 0, 1) := by decide +kernel
theorem dX5_readBits_5 : decode cX5_readBits 5 = .ok (.getfield 41, 3) := by decide +kernel
theorem dX5_readBits_8 : decode cX5_readBits 8 = .ok (.iconst 2, 1) := by decide +kernel
theorem dX5_readBits_9 : decode cX5_readBits 9 = .ok (.if_icmp .eq 9, 3) := by decide +kernel
theorem dX5_readBits_12 : decode cX5_readBits 12 = .ok (.aload_n 0, 1) := by decide +kernel
theorem dX5_readBits_13 : decode cX5_readBits 13 = .ok (.iconst 1, 1) := by decide +kernel
theorem dX5_readBits_14 : decode cX5_readBits 14 = .ok (.invokevirtual 60, 3) := by decide +kernel
theorem dX5_readBits_17 : decode cX5_readBits 17 = .ok (.ireturn, 1) := by decide +kernel
theorem dX5_readBits_18 : decode cX5_readBits 18 = .ok (.aload_n 0, 1) := by decide +kernel
theorem dX5_readBits_19 : decode cX5_readBits 19 = .ok (.getfield 35, 3) := by decide +kernel
theorem dX5_readBits_22 : decode cX5_readBits 22 = .ok (.aload_n 0, 1) := by decide +kernel
theorem dX5_readBits_23 : decode cX5_readBits 23 = .ok (.getfield 113, 3) := by decide +kernel
theorem dX5_readBits_26 : decode cX5_readBits 26 = .ok (.isub, 1) := by decide +kernel
theorem dX5_readBits_27 : decode cX5_readBits 27 = .ok (.bipush 12, 2) := by decide +kernel
theorem dX5_readBits_29 : decode cX5_readBits 29 = .ok (.if_icmp .le 9, 3) := by decide +kernel
theorem dX5_readBits_32 : decode cX5_readBits 32 = .ok (.aload_n 0, 1) := by decide +kernel
theorem dX5_readBits_33 : decode cX5_readBits 33 = .ok (.iconst 2, 1) := by decide +kernel
theorem dX5_readBits_34 : decode cX5_readBits 34 = .ok (.invokevirtual 60, 3) := by decide +kernel
theorem dX5_readBits_37 : decode cX5_readBits 37 = .ok (.ireturn, 1) := by decide +kernel
theorem dX5_readBits_38 : decode cX5_readBits 38 = .ok (.aload_n 0, 1) := by decide +kernel
theorem dX5_readBits_39 : decode cX5_readBits 39 = .ok (.iconst 0, 1) := by decide +kernel
theorem dX5_readBits_40 : decode cX5_readBits 40 = .ok (.putfield 83, 3) := by decide +kernel
theorem dX5_readBits_43 : decode cX5_readBits 43 = .ok (.aload_n 0, 1) := by decide +kernel
theorem dX5_readBits_44 : decode cX5_readBits 44 = .ok (.getfield 113, 3) := by decide +kernel
theorem dX5_readBits_47 : decode cX5_readBits 47 = .ok (.istore_n 1, 1) := by decide +kernel
theorem dX5_readBits_48 : decode cX5_readBits 48 = .ok (.iload_n 1, 1) := by decide +kernel
theorem dX5_readBits_49 : decode cX5_readBits 49 = .ok (.aload_n 0, 1) := by decide +kernel
theorem dX5_readBits_50 : decode cX5_readBits 50 = .ok (.getfield 35, 3) := by decide +kernel
theorem dX5_readBits_53 : decode cX5_readBits 53 = .ok (.if_icmp .ge 47, 3) := by decide +kernel
theorem dX5_readBits_56 : decode cX5_readBits 56 = .ok (.aload_n 0, 1) := by decide +kernel
theorem dX5_readBits_57 : decode cX5_readBits 57 = .ok (.getfield 12, 3) := by decide +kernel
theorem dX5_readBits_60 : decode cX5_readBits 60 = .ok (.getfield 135, 3) := by decide +kernel
theorem dX5_readBits_63 : decode cX5_readBits 63 = .ok (.iload_n 1, 1) := by decide +kernel
theorem dX5_readBits_64 : decode cX5_readBits 64 = .ok (.invokestatic 139, 3) := by decide +kernel
theorem dX5_readBits_67 : decode cX5_readBits 67 = .ok (.bipush 48, 2) := by decide +kernel
theorem dX5_readBits_69 : decode cX5_readBits 69 = .ok (.isub, 1) := by decide +kernel
theorem dX5_readBits_70 : decode cX5_readBits 70 = .ok (.istore_n 2, 1) := by decide +kernel
theorem dX5_readBits_71 : decode cX5_readBits 71 = .ok (.iload_n 2, 1) := by decide +kernel
theorem dX5_readBits_72 : decode cX5_readBits 72 = .ok (.iconst 1, 1) := by decide +kernel
theorem dX5_readBits_73 : decode cX5_readBits 73 = .ok (.if_icmp .le 9, 3) := by decide +kernel
theorem dX5_readBits_76 : decode cX5_readBits 76 = .ok (.aload_n 0, 1) := by decide +kernel
theorem dX5_readBits_77 : decode cX5_readBits 77 = .ok (.iconst 2, 1) := by decide +kernel
theorem dX5_readBits_78 : decode cX5_readBits 78 = .ok (.invokevirtual 60, 3) := by decide +kernel
theorem dX5_readBits_81 : decode cX5_readBits 81 = .ok (.ireturn, 1) := by decide +kernel
theorem dX5_readBits_82 : decode cX5_readBits 82 = .ok (.aload_n 0, 1) := by decide +kernel
theorem dX5_readBits_83 : decode cX5_readBits 83 = .ok (.aload_n 0, 1) := by decide +kernel
theorem dX5_readBits_84 : decode cX5_readBits 84 = .ok (.getfield 83, 3) := by decide +kernel
theorem dX5_readBits_87 : decode cX5_readBits 87 = .ok (.iconst 2, 1) := by decide +kernel
theorem dX5_readBits_88 : decode cX5_readBits 88 = .ok (.imul, 1) := by decide +kernel
theorem dX5_readBits_89 : decode cX5_readBits 89 = .ok (.iload_n 2, 1) := by decide +kernel
theorem dX5_readBits_90 : decode cX5_readBits 90 = .ok (.iadd, 1) := by decide +kernel
theorem dX5_readBits_91 : decode cX5_readBits 91 = .ok (.putfield 83, 3) := by decide +kernel
theorem dX5_readBits_94 : decode cX5_readBits 94 = .ok (.iinc 1 1, 3) := by decide +kernel
theorem dX5_readBits_97 : decode cX5_readBits 97 = .ok (.goto (-49), 3) := by decide +kernel
theorem dX5_readBits_100 : decode cX5_readBits 100 = .ok (.iconst 1, 1) := by decide +kernel
theorem dX5_readBits_101 : decode cX5_readBits 101 = .ok (.ireturn, 1) := by decide +kernel
theorem dX5_readKind_0 : decode cX5_readKind 0 = .ok (.aload_n 0, 1) := by decide +kernel
theorem dX5_readKind_1 : decode cX5_readKind 1 = .ok (.invokevirtual 38, 3) := by decide +kernel
theorem dX5_readKind_4 : decode cX5_readKind 4 = .ok (.aload_n 0, 1) := by decide +kernel
theorem dX5_readKind_5 : decode cX5_readKind 5 = .ok (.ldc 143, 2) := by decide +kernel
theorem dX5_readKind_7 : decode cX5_readKind 7 = .ok (.invokevirtual 53, 3) := by decide +kernel
theorem dX5_readKind_10 : decode cX5_readKind 10 = .ok (.ifCond .eq 11, 3) := by decide +kernel
theorem dX5_readKind_13 : decode cX5_readKind 13 = .ok (.aload_n 0, 1) := by decide +kernel
theorem dX5_readKind_14 : decode cX5_readKind 14 = .ok (.iconst 0, 1) := by decide +kernel
theorem dX5_readKind_15 : decode cX5_readKind 15 = .ok (.putfield 83, 3) := by decide +kernel
theorem dX5_readKind_18 : decode cX5_readKind 18 = .ok (.goto 43, 3) := by decide +kernel
theorem dX5_readKind_21 : decode cX5_readKind 21 = .ok (.aload_n 0, 1) := by decide +kernel
theorem dX5_readKind_22 : decode cX5_readKind 22 = .ok (.ldc 145, 2) := by decide +kernel
theorem dX5_readKind_24 : decode cX5_readKind 24 = .ok (.invokevirtual 53, 3) := by decide +kernel
theorem dX5_readKind_27 : decode cX5_readKind 27 = .ok (.ifCond .eq 11, 3) := by decide +kernel
theorem dX5_readKind_30 : decode cX5_readKind 30 = .ok (.aload_n 0, 1) := by decide +kernel
theorem dX5_readKind_31 : decode cX5_readKind 31 = .ok (.iconst 1, 1) := by decide +kernel
theorem dX5_readKind_32 : decode cX5_readKind 32 = .ok (.putfield 83, 3) := by decide +kernel
theorem dX5_readKind_35 : decode cX5_readKind 35 = .ok (.goto 26, 3) := by decide +kernel
theorem dX5_readKind_38 : decode cX5_readKind 38 = .ok (.aload_n 0, 1) := by decide +kernel
theorem dX5_readKind_39 : decode cX5_readKind 39 = .ok (.ldc 147, 2) := by decide +kernel
theorem dX5_readKind_41 : decode cX5_readKind 41 = .ok (.invokevirtual 53, 3) := by decide +kernel
theorem dX5_readKind_44 : decode cX5_readKind 44 = .ok (.ifCond .eq 11, 3) := by decide +kernel
theorem dX5_readKind_47 : decode cX5_readKind 47 = .ok (.aload_n 0, 1) := by decide +kernel
theorem dX5_readKind_48 : decode cX5_readKind 48 = .ok (.iconst 2, 1) := by decide +kernel
theorem dX5_readKind_49 : decode cX5_readKind 49 = .ok (.putfield 83, 3) := by decide +kernel
theorem dX5_readKind_52 : decode cX5_readKind 52 = .ok (.goto 9, 3) := by decide +kernel
theorem dX5_readKind_55 : decode cX5_readKind 55 = .ok (.aload_n 0, 1) := by decide +kernel
theorem dX5_readKind_56 : decode cX5_readKind 56 = .ok (.iconst 1, 1) := by decide +kernel
theorem dX5_readKind_57 : decode cX5_readKind 57 = .ok (.invokevirtual 60, 3) := by decide +kernel
theorem dX5_readKind_60 : decode cX5_readKind 60 = .ok (.ireturn, 1) := by decide +kernel
theorem dX5_readKind_61 : decode cX5_readKind 61 = .ok (.iconst 1, 1) := by decide +kernel
theorem dX5_readKind_62 : decode cX5_readKind 62 = .ok (.ireturn, 1) := by decide +kernel
theorem dX5_readSign_0 : decode cX5_readSign 0 = .ok (.aload_n 0, 1) := by decide +kernel
theorem dX5_readSign_1 : decode cX5_readSign 1 = .ok (.invokevirtual 38, 3) := by decide +kernel
theorem dX5_readSign_4 : decode cX5_readSign 4 = .ok (.aload_n 0, 1) := by decide +kernel
theorem dX5_readSign_5 : decode cX5_readSign 5 = .ok (.getfield 41, 3) := by decide +kernel
theorem dX5_readSign_8 : decode cX5_readSign 8 = .ok (.iconst 3, 1) := by decide +kernel
theorem dX5_readSign_9 : decode cX5_readSign 9 = .ok (.if_icmp .eq 11, 3) := by decide +kernel
theorem dX5_readSign_12 : decode cX5_readSign 12 = .ok (.aload_n 0, 1) := by decide +kernel
theorem dX5_readSign_13 : decode cX5_readSign 13 = .ok (.iconst 1, 1) := by decide +kernel
theorem dX5_readSign_14 : decode cX5_readSign 14 = .ok (.invokevirtual 60, 3) := by decide +kernel
theorem dX5_readSign_17 : decode cX5_readSign 17 = .ok (.ifCond .eq 7, 3) := by decide +kernel
theorem dX5_readSign_20 : decode cX5_readSign 20 = .ok (.iconst 1, 1) := by decide +kernel
theorem dX5_readSign_21 : decode cX5_readSign 21 = .ok (.goto 4, 3) := by decide +kernel
theorem dX5_readSign_24 : decode cX5_readSign 24 = .ok (.iconst 0, 1) := by decide +kernel
theorem dX5_readSign_25 : decode cX5_readSign 25 = .ok (.ireturn, 1) := by decide +kernel
theorem dX5_refuse_0 : decode cX5_refuse 0 = .ok (.aload_n 0, 1) := by decide +kernel
theorem dX5_refuse_1 : decode cX5_refuse 1 = .ok (.iload_n 1, 1) := by decide +kernel
theorem dX5_refuse_2 : decode cX5_refuse 2 = .ok (.putfield 32, 3) := by decide +kernel
theorem dX5_refuse_5 : decode cX5_refuse 5 = .ok (.aload_n 0, 1) := by decide +kernel
theorem dX5_refuse_6 : decode cX5_refuse 6 = .ok (.aload_n 0, 1) := by decide +kernel
theorem dX5_refuse_7 : decode cX5_refuse 7 = .ok (.getfield 113, 3) := by decide +kernel
theorem dX5_refuse_10 : decode cX5_refuse 10 = .ok (.putfield 25, 3) := by decide +kernel
theorem dX5_refuse_13 : decode cX5_refuse 13 = .ok (.iconst 0, 1) := by decide +kernel
theorem dX5_refuse_14 : decode cX5_refuse 14 = .ok (.ireturn, 1) := by decide +kernel
theorem dX5_isWord_0 : decode cX5_isWord 0 = .ok (.aload_n 0, 1) := by decide +kernel
theorem dX5_isWord_1 : decode cX5_isWord 1 = .ok (.getfield 41, 3) := by decide +kernel
theorem dX5_isWord_4 : decode cX5_isWord 4 = .ok (.iconst 1, 1) := by decide +kernel
theorem dX5_isWord_5 : decode cX5_isWord 5 = .ok (.if_icmp .ne 19, 3) := by decide +kernel
theorem dX5_isWord_8 : decode cX5_isWord 8 = .ok (.aload_n 1, 1) := by decide +kernel
theorem dX5_isWord_9 : decode cX5_isWord 9 = .ok (.invokevirtual 149, 3) := by decide +kernel
theorem dX5_isWord_12 : decode cX5_isWord 12 = .ok (.aload_n 0, 1) := by decide +kernel
theorem dX5_isWord_13 : decode cX5_isWord 13 = .ok (.getfield 35, 3) := by decide +kernel
theorem dX5_isWord_16 : decode cX5_isWord 16 = .ok (.aload_n 0, 1) := by decide +kernel
theorem dX5_isWord_17 : decode cX5_isWord 17 = .ok (.getfield 113, 3) := by decide +kernel
theorem dX5_isWord_20 : decode cX5_isWord 20 = .ok (.isub, 1) := by decide +kernel
theorem dX5_isWord_21 : decode cX5_isWord 21 = .ok (.if_icmp .eq 5, 3) := by decide +kernel
theorem dX5_isWord_24 : decode cX5_isWord 24 = .ok (.iconst 0, 1) := by decide +kernel
theorem dX5_isWord_25 : decode cX5_isWord 25 = .ok (.ireturn, 1) := by decide +kernel
theorem dX5_isWord_26 : decode cX5_isWord 26 = .ok (.iconst 0, 1) := by decide +kernel
theorem dX5_isWord_27 : decode cX5_isWord 27 = .ok (.istore_n 2, 1) := by decide +kernel
theorem dX5_isWord_28 : decode cX5_isWord 28 = .ok (.iload_n 2, 1) := by decide +kernel
theorem dX5_isWord_29 : decode cX5_isWord 29 = .ok (.aload_n 1, 1) := by decide +kernel
theorem dX5_isWord_30 : decode cX5_isWord 30 = .ok (.invokevirtual 149, 3) := by decide +kernel
theorem dX5_isWord_33 : decode cX5_isWord 33 = .ok (.if_icmp .ge 35, 3) := by decide +kernel
theorem dX5_isWord_36 : decode cX5_isWord 36 = .ok (.aload_n 1, 1) := by decide +kernel
theorem dX5_isWord_37 : decode cX5_isWord 37 = .ok (.iload_n 2, 1) := by decide +kernel
theorem dX5_isWord_38 : decode cX5_isWord 38 = .ok (.invokevirtual 155, 3) := by decide +kernel
theorem dX5_isWord_41 : decode cX5_isWord 41 = .ok (.aload_n 0, 1) := by decide +kernel
theorem dX5_isWord_42 : decode cX5_isWord 42 = .ok (.getfield 12, 3) := by decide +kernel
theorem dX5_isWord_45 : decode cX5_isWord 45 = .ok (.getfield 135, 3) := by decide +kernel
theorem dX5_isWord_48 : decode cX5_isWord 48 = .ok (.aload_n 0, 1) := by decide +kernel
theorem dX5_isWord_49 : decode cX5_isWord 49 = .ok (.getfield 113, 3) := by decide +kernel
theorem dX5_isWord_52 : decode cX5_isWord 52 = .ok (.iload_n 2, 1) := by decide +kernel
theorem dX5_isWord_53 : decode cX5_isWord 53 = .ok (.iadd, 1) := by decide +kernel
theorem dX5_isWord_54 : decode cX5_isWord 54 = .ok (.invokestatic 139, 3) := by decide +kernel
theorem dX5_isWord_57 : decode cX5_isWord 57 = .ok (.if_icmp .eq 5, 3) := by decide +kernel
theorem dX5_isWord_60 : decode cX5_isWord 60 = .ok (.iconst 0, 1) := by decide +kernel
theorem dX5_isWord_61 : decode cX5_isWord 61 = .ok (.ireturn, 1) := by decide +kernel
theorem dX5_isWord_62 : decode cX5_isWord 62 = .ok (.iinc 2 1, 3) := by decide +kernel
theorem dX5_isWord_65 : decode cX5_isWord 65 = .ok (.goto (-37), 3) := by decide +kernel
theorem dX5_isWord_68 : decode cX5_isWord 68 = .ok (.iconst 1, 1) := by decide +kernel
theorem dX5_isWord_69 : decode cX5_isWord 69 = .ok (.ireturn, 1) := by decide +kernel
theorem dX5_step_0 : decode cX5_step 0 = .ok (.aload_n 0, 1) := by decide +kernel
theorem dX5_step_1 : decode cX5_step 1 = .ok (.aload_n 0, 1) := by decide +kernel
theorem dX5_step_2 : decode cX5_step 2 = .ok (.getfield 35, 3) := by decide +kernel
theorem dX5_step_5 : decode cX5_step 5 = .ok (.putfield 113, 3) := by decide +kernel
theorem dX5_step_8 : decode cX5_step 8 = .ok (.aload_n 0, 1) := by decide +kernel
theorem dX5_step_9 : decode cX5_step 9 = .ok (.getfield 113, 3) := by decide +kernel
theorem dX5_step_12 : decode cX5_step 12 = .ok (.aload_n 0, 1) := by decide +kernel
theorem dX5_step_13 : decode cX5_step 13 = .ok (.getfield 12, 3) := by decide +kernel
theorem dX5_step_16 : decode cX5_step 16 = .ok (.getfield 159, 3) := by decide +kernel
theorem dX5_step_19 : decode cX5_step 19 = .ok (.if_icmp .ge 36, 3) := by decide +kernel
theorem dX5_step_22 : decode cX5_step 22 = .ok (.aload_n 0, 1) := by decide +kernel
theorem dX5_step_23 : decode cX5_step 23 = .ok (.getfield 12, 3) := by decide +kernel
theorem dX5_step_26 : decode cX5_step 26 = .ok (.getfield 135, 3) := by decide +kernel
theorem dX5_step_29 : decode cX5_step 29 = .ok (.aload_n 0, 1) := by decide +kernel
theorem dX5_step_30 : decode cX5_step 30 = .ok (.getfield 113, 3) := by decide +kernel
theorem dX5_step_33 : decode cX5_step 33 = .ok (.invokestatic 139, 3) := by decide +kernel
theorem dX5_step_36 : decode cX5_step 36 = .ok (.invokestatic 161, 3) := by decide +kernel
theorem dX5_step_39 : decode cX5_step 39 = .ok (.ifCond .eq 16, 3) := by decide +kernel
theorem dX5_step_42 : decode cX5_step 42 = .ok (.aload_n 0, 1) := by decide +kernel
theorem dX5_step_43 : decode cX5_step 43 = .ok (.dup, 1) := by decide +kernel
theorem dX5_step_44 : decode cX5_step 44 = .ok (.getfield 113, 3) := by decide +kernel
theorem dX5_step_47 : decode cX5_step 47 = .ok (.iconst 1, 1) := by decide +kernel
theorem dX5_step_48 : decode cX5_step 48 = .ok (.iadd, 1) := by decide +kernel
theorem dX5_step_49 : decode cX5_step 49 = .ok (.putfield 113, 3) := by decide +kernel
theorem dX5_step_52 : decode cX5_step 52 = .ok (.goto (-44), 3) := by decide +kernel
theorem dX5_step_55 : decode cX5_step 55 = .ok (.aload_n 0, 1) := by decide +kernel
theorem dX5_step_56 : decode cX5_step 56 = .ok (.aload_n 0, 1) := by decide +kernel
theorem dX5_step_57 : decode cX5_step 57 = .ok (.getfield 113, 3) := by decide +kernel
theorem dX5_step_60 : decode cX5_step 60 = .ok (.putfield 35, 3) := by decide +kernel
theorem dX5_step_63 : decode cX5_step 63 = .ok (.aload_n 0, 1) := by decide +kernel
theorem dX5_step_64 : decode cX5_step 64 = .ok (.getfield 113, 3) := by decide +kernel
theorem dX5_step_67 : decode cX5_step 67 = .ok (.aload_n 0, 1) := by decide +kernel
theorem dX5_step_68 : decode cX5_step 68 = .ok (.getfield 12, 3) := by decide +kernel
theorem dX5_step_71 : decode cX5_step 71 = .ok (.getfield 159, 3) := by decide +kernel
theorem dX5_step_74 : decode cX5_step 74 = .ok (.if_icmp .lt 9, 3) := by decide +kernel
theorem dX5_step_77 : decode cX5_step 77 = .ok (.aload_n 0, 1) := by decide +kernel
theorem dX5_step_78 : decode cX5_step 78 = .ok (.iconst 0, 1) := by decide +kernel
theorem dX5_step_79 : decode cX5_step 79 = .ok (.putfield 41, 3) := by decide +kernel
theorem dX5_step_82 : decode cX5_step 82 = .ok (.return_, 1) := by decide +kernel
theorem dX5_step_83 : decode cX5_step 83 = .ok (.aload_n 0, 1) := by decide +kernel
theorem dX5_step_84 : decode cX5_step 84 = .ok (.aload_n 0, 1) := by decide +kernel
theorem dX5_step_85 : decode cX5_step 85 = .ok (.getfield 12, 3) := by decide +kernel
theorem dX5_step_88 : decode cX5_step 88 = .ok (.getfield 135, 3) := by decide +kernel
theorem dX5_step_91 : decode cX5_step 91 = .ok (.aload_n 0, 1) := by decide +kernel
theorem dX5_step_92 : decode cX5_step 92 = .ok (.getfield 113, 3) := by decide +kernel
theorem dX5_step_95 : decode cX5_step 95 = .ok (.invokestatic 139, 3) := by decide +kernel
theorem dX5_step_98 : decode cX5_step 98 = .ok (.invokestatic 164, 3) := by decide +kernel
theorem dX5_step_101 : decode cX5_step 101 = .ok (.putfield 41, 3) := by decide +kernel
theorem dX5_step_104 : decode cX5_step 104 = .ok (.aload_n 0, 1) := by decide +kernel
theorem dX5_step_105 : decode cX5_step 105 = .ok (.dup, 1) := by decide +kernel
theorem dX5_step_106 : decode cX5_step 106 = .ok (.getfield 35, 3) := by decide +kernel
theorem dX5_step_109 : decode cX5_step 109 = .ok (.iconst 1, 1) := by decide +kernel
theorem dX5_step_110 : decode cX5_step 110 = .ok (.iadd, 1) := by decide +kernel
theorem dX5_step_111 : decode cX5_step 111 = .ok (.putfield 35, 3) := by decide +kernel
theorem dX5_step_114 : decode cX5_step 114 = .ok (.aload_n 0, 1) := by decide +kernel
theorem dX5_step_115 : decode cX5_step 115 = .ok (.getfield 41, 3) := by decide +kernel
theorem dX5_step_118 : decode cX5_step 118 = .ok (.iconst 1, 1) := by decide +kernel
theorem dX5_step_119 : decode cX5_step 119 = .ok (.if_icmp .eq 11, 3) := by decide +kernel
theorem dX5_step_122 : decode cX5_step 122 = .ok (.aload_n 0, 1) := by decide +kernel
theorem dX5_step_123 : decode cX5_step 123 = .ok (.getfield 41, 3) := by decide +kernel
theorem dX5_step_126 : decode cX5_step 126 = .ok (.iconst 2, 1) := by decide +kernel
theorem dX5_step_127 : decode cX5_step 127 = .ok (.if_icmp .ne 7, 3) := by decide +kernel
theorem dX5_step_130 : decode cX5_step 130 = .ok (.iconst 1, 1) := by decide +kernel
theorem dX5_step_131 : decode cX5_step 131 = .ok (.goto 4, 3) := by decide +kernel
theorem dX5_step_134 : decode cX5_step 134 = .ok (.iconst 0, 1) := by decide +kernel
theorem dX5_step_135 : decode cX5_step 135 = .ok (.istore_n 1, 1) := by decide +kernel
theorem dX5_step_136 : decode cX5_step 136 = .ok (.iload_n 1, 1) := by decide +kernel
theorem dX5_step_137 : decode cX5_step 137 = .ok (.ifCond .eq 54, 3) := by decide +kernel
theorem dX5_step_140 : decode cX5_step 140 = .ok (.aload_n 0, 1) := by decide +kernel
theorem dX5_step_141 : decode cX5_step 141 = .ok (.getfield 35, 3) := by decide +kernel
theorem dX5_step_144 : decode cX5_step 144 = .ok (.aload_n 0, 1) := by decide +kernel
theorem dX5_step_145 : decode cX5_step 145 = .ok (.getfield 12, 3) := by decide +kernel
theorem dX5_step_148 : decode cX5_step 148 = .ok (.getfield 159, 3) := by decide +kernel
theorem dX5_step_151 : decode cX5_step 151 = .ok (.if_icmp .ge 40, 3) := by decide +kernel
theorem dX5_step_154 : decode cX5_step 154 = .ok (.aload_n 0, 1) := by decide +kernel
theorem dX5_step_155 : decode cX5_step 155 = .ok (.getfield 12, 3) := by decide +kernel
theorem dX5_step_158 : decode cX5_step 158 = .ok (.getfield 135, 3) := by decide +kernel
theorem dX5_step_161 : decode cX5_step 161 = .ok (.aload_n 0, 1) := by decide +kernel
theorem dX5_step_162 : decode cX5_step 162 = .ok (.getfield 35, 3) := by decide +kernel
theorem dX5_step_165 : decode cX5_step 165 = .ok (.invokestatic 139, 3) := by decide +kernel
theorem dX5_step_168 : decode cX5_step 168 = .ok (.invokestatic 164, 3) := by decide +kernel
theorem dX5_step_171 : decode cX5_step 171 = .ok (.aload_n 0, 1) := by decide +kernel
theorem dX5_step_172 : decode cX5_step 172 = .ok (.getfield 41, 3) := by decide +kernel
theorem dX5_step_175 : decode cX5_step 175 = .ok (.if_icmp .ne 16, 3) := by decide +kernel
theorem dX5_step_178 : decode cX5_step 178 = .ok (.aload_n 0, 1) := by decide +kernel
theorem dX5_step_179 : decode cX5_step 179 = .ok (.dup, 1) := by decide +kernel
theorem dX5_step_180 : decode cX5_step 180 = .ok (.getfield 35, 3) := by decide +kernel
theorem dX5_step_183 : decode cX5_step 183 = .ok (.iconst 1, 1) := by decide +kernel
theorem dX5_step_184 : decode cX5_step 184 = .ok (.iadd, 1) := by decide +kernel
theorem dX5_step_185 : decode cX5_step 185 = .ok (.putfield 35, 3) := by decide +kernel
theorem dX5_step_188 : decode cX5_step 188 = .ok (.goto (-52), 3) := by decide +kernel
theorem dX5_step_191 : decode cX5_step 191 = .ok (.return_, 1) := by decide +kernel
theorem dX5_isBlank_0 : decode cX5_isBlank 0 = .ok (.iload_n 0, 1) := by decide +kernel
theorem dX5_isBlank_1 : decode cX5_isBlank 1 = .ok (.bipush 32, 2) := by decide +kernel
theorem dX5_isBlank_3 : decode cX5_isBlank 3 = .ok (.if_icmp .eq 9, 3) := by decide +kernel
theorem dX5_isBlank_6 : decode cX5_isBlank 6 = .ok (.iload_n 0, 1) := by decide +kernel
theorem dX5_isBlank_7 : decode cX5_isBlank 7 = .ok (.bipush 10, 2) := by decide +kernel
theorem dX5_isBlank_9 : decode cX5_isBlank 9 = .ok (.if_icmp .ne 7, 3) := by decide +kernel
theorem dX5_isBlank_12 : decode cX5_isBlank 12 = .ok (.iconst 1, 1) := by decide +kernel
theorem dX5_isBlank_13 : decode cX5_isBlank 13 = .ok (.goto 4, 3) := by decide +kernel
theorem dX5_isBlank_16 : decode cX5_isBlank 16 = .ok (.iconst 0, 1) := by decide +kernel
theorem dX5_isBlank_17 : decode cX5_isBlank 17 = .ok (.ireturn, 1) := by decide +kernel
theorem dX5_kindOf_0 : decode cX5_kindOf 0 = .ok (.iload_n 0, 1) := by decide +kernel
theorem dX5_kindOf_1 : decode cX5_kindOf 1 = .ok (.bipush 97, 2) := by decide +kernel
theorem dX5_kindOf_3 : decode cX5_kindOf 3 = .ok (.if_icmp .lt 11, 3) := by decide +kernel
theorem dX5_kindOf_6 : decode cX5_kindOf 6 = .ok (.iload_n 0, 1) := by decide +kernel
theorem dX5_kindOf_7 : decode cX5_kindOf 7 = .ok (.bipush 122, 2) := by decide +kernel
theorem dX5_kindOf_9 : decode cX5_kindOf 9 = .ok (.if_icmp .gt 5, 3) := by decide +kernel
theorem dX5_kindOf_12 : decode cX5_kindOf 12 = .ok (.iconst 1, 1) := by decide +kernel
theorem dX5_kindOf_13 : decode cX5_kindOf 13 = .ok (.ireturn, 1) := by decide +kernel
theorem dX5_kindOf_14 : decode cX5_kindOf 14 = .ok (.iload_n 0, 1) := by decide +kernel
theorem dX5_kindOf_15 : decode cX5_kindOf 15 = .ok (.bipush 48, 2) := by decide +kernel
theorem dX5_kindOf_17 : decode cX5_kindOf 17 = .ok (.if_icmp .lt 11, 3) := by decide +kernel
theorem dX5_kindOf_20 : decode cX5_kindOf 20 = .ok (.iload_n 0, 1) := by decide +kernel
theorem dX5_kindOf_21 : decode cX5_kindOf 21 = .ok (.bipush 57, 2) := by decide +kernel
theorem dX5_kindOf_23 : decode cX5_kindOf 23 = .ok (.if_icmp .gt 5, 3) := by decide +kernel
theorem dX5_kindOf_26 : decode cX5_kindOf 26 = .ok (.iconst 2, 1) := by decide +kernel
theorem dX5_kindOf_27 : decode cX5_kindOf 27 = .ok (.ireturn, 1) := by decide +kernel
theorem dX5_kindOf_28 : decode cX5_kindOf 28 = .ok (.iload_n 0, 1) := by decide +kernel
theorem dX5_kindOf_29 : decode cX5_kindOf 29 = .ok (.bipush 59, 2) := by decide +kernel
theorem dX5_kindOf_31 : decode cX5_kindOf 31 = .ok (.if_icmp .ne 7, 3) := by decide +kernel
theorem dX5_kindOf_34 : decode cX5_kindOf 34 = .ok (.iconst 3, 1) := by decide +kernel
theorem dX5_kindOf_35 : decode cX5_kindOf 35 = .ok (.goto 4, 3) := by decide +kernel
theorem dX5_kindOf_38 : decode cX5_kindOf 38 = .ok (.iconst 4, 1) := by decide +kernel
theorem dX5_kindOf_39 : decode cX5_kindOf 39 = .ok (.ireturn, 1) := by decide +kernel
theorem dX6_init_0 : decode cX6_init 0 = .ok (.aload_n 0, 1) := by decide +kernel
theorem dX6_init_1 : decode cX6_init 1 = .ok (.invokespecial 3, 3) := by decide +kernel
theorem dX6_init_4 : decode cX6_init 4 = .ok (.aload_n 0, 1) := by decide +kernel
theorem dX6_init_5 : decode cX6_init 5 = .ok (.sipush 201, 3) := by decide +kernel
theorem dX6_init_8 : decode cX6_init 8 = .ok (.newarray .int, 2) := by decide +kernel
theorem dX6_init_10 : decode cX6_init 10 = .ok (.putfield 11, 3) := by decide +kernel
theorem dX6_init_13 : decode cX6_init 13 = .ok (.aload_n 0, 1) := by decide +kernel
theorem dX6_init_14 : decode cX6_init 14 = .ok (.sipush 201, 3) := by decide +kernel
theorem dX6_init_17 : decode cX6_init 17 = .ok (.newarray .int, 2) := by decide +kernel
theorem dX6_init_19 : decode cX6_init 19 = .ok (.putfield 15, 3) := by decide +kernel
theorem dX6_init_22 : decode cX6_init 22 = .ok (.aload_n 0, 1) := by decide +kernel
theorem dX6_init_23 : decode cX6_init 23 = .ok (.sipush 201, 3) := by decide +kernel
theorem dX6_init_26 : decode cX6_init 26 = .ok (.newarray .int, 2) := by decide +kernel
theorem dX6_init_28 : decode cX6_init 28 = .ok (.putfield 18, 3) := by decide +kernel
theorem dX6_init_31 : decode cX6_init 31 = .ok (.return_, 1) := by decide +kernel
theorem dX6_push_0 : decode cX6_push 0 = .ok (.aload_n 0, 1) := by decide +kernel
theorem dX6_push_1 : decode cX6_push 1 = .ok (.getfield 11, 3) := by decide +kernel
theorem dX6_push_4 : decode cX6_push 4 = .ok (.aload_n 0, 1) := by decide +kernel
theorem dX6_push_5 : decode cX6_push 5 = .ok (.getfield 21, 3) := by decide +kernel
theorem dX6_push_8 : decode cX6_push 8 = .ok (.iload_n 1, 1) := by decide +kernel
theorem dX6_push_9 : decode cX6_push 9 = .ok (.invokestatic 25, 3) := by decide +kernel
theorem dX6_push_12 : decode cX6_push 12 = .ok (.aload_n 0, 1) := by decide +kernel
theorem dX6_push_13 : decode cX6_push 13 = .ok (.getfield 15, 3) := by decide +kernel
theorem dX6_push_16 : decode cX6_push 16 = .ok (.aload_n 0, 1) := by decide +kernel
theorem dX6_push_17 : decode cX6_push 17 = .ok (.getfield 21, 3) := by decide +kernel
theorem dX6_push_20 : decode cX6_push 20 = .ok (.iload_n 2, 1) := by decide +kernel
theorem dX6_push_21 : decode cX6_push 21 = .ok (.invokestatic 25, 3) := by decide +kernel
theorem dX6_push_24 : decode cX6_push 24 = .ok (.aload_n 0, 1) := by decide +kernel
theorem dX6_push_25 : decode cX6_push 25 = .ok (.getfield 18, 3) := by decide +kernel
theorem dX6_push_28 : decode cX6_push 28 = .ok (.aload_n 0, 1) := by decide +kernel
theorem dX6_push_29 : decode cX6_push 29 = .ok (.getfield 21, 3) := by decide +kernel
theorem dX6_push_32 : decode cX6_push 32 = .ok (.iload_n 3, 1) := by decide +kernel
theorem dX6_push_33 : decode cX6_push 33 = .ok (.invokestatic 25, 3) := by decide +kernel
theorem dX6_push_36 : decode cX6_push 36 = .ok (.aload_n 0, 1) := by decide +kernel
theorem dX6_push_37 : decode cX6_push 37 = .ok (.dup, 1) := by decide +kernel
theorem dX6_push_38 : decode cX6_push 38 = .ok (.getfield 21, 3) := by decide +kernel
theorem dX6_push_41 : decode cX6_push 41 = .ok (.iconst 1, 1) := by decide +kernel
theorem dX6_push_42 : decode cX6_push 42 = .ok (.iadd, 1) := by decide +kernel
theorem dX6_push_43 : decode cX6_push 43 = .ok (.putfield 21, 3) := by decide +kernel
theorem dX6_push_46 : decode cX6_push 46 = .ok (.return_, 1) := by decide +kernel
theorem dX6_pop_0 : decode cX6_pop 0 = .ok (.aload_n 0, 1) := by decide +kernel
theorem dX6_pop_1 : decode cX6_pop 1 = .ok (.getfield 21, 3) := by decide +kernel
theorem dX6_pop_4 : decode cX6_pop 4 = .ok (.ifCond .le 13, 3) := by decide +kernel
theorem dX6_pop_7 : decode cX6_pop 7 = .ok (.aload_n 0, 1) := by decide +kernel
theorem dX6_pop_8 : decode cX6_pop 8 = .ok (.dup, 1) := by decide +kernel
theorem dX6_pop_9 : decode cX6_pop 9 = .ok (.getfield 21, 3) := by decide +kernel
theorem dX6_pop_12 : decode cX6_pop 12 = .ok (.iconst 1, 1) := by decide +kernel
theorem dX6_pop_13 : decode cX6_pop 13 = .ok (.isub, 1) := by decide +kernel
theorem dX6_pop_14 : decode cX6_pop 14 = .ok (.putfield 21, 3) := by decide +kernel
theorem dX6_pop_17 : decode cX6_pop 17 = .ok (.return_, 1) := by decide +kernel
theorem dX6_topWho_0 : decode cX6_topWho 0 = .ok (.aload_n 0, 1) := by decide +kernel
theorem dX6_topWho_1 : decode cX6_topWho 1 = .ok (.getfield 11, 3) := by decide +kernel
theorem dX6_topWho_4 : decode cX6_topWho 4 = .ok (.aload_n 0, 1) := by decide +kernel
theorem dX6_topWho_5 : decode cX6_topWho 5 = .ok (.getfield 21, 3) := by decide +kernel
theorem dX6_topWho_8 : decode cX6_topWho 8 = .ok (.iconst 1, 1) := by decide +kernel
theorem dX6_topWho_9 : decode cX6_topWho 9 = .ok (.isub, 1) := by decide +kernel
theorem dX6_topWho_10 : decode cX6_topWho 10 = .ok (.invokestatic 29, 3) := by decide +kernel
theorem dX6_topWho_13 : decode cX6_topWho 13 = .ok (.ireturn, 1) := by decide +kernel
theorem dX7_init_0 : decode cX7_init 0 = .ok (.aload_n 0, 1) := by decide +kernel
theorem dX7_init_1 : decode cX7_init 1 = .ok (.invokespecial 3, 3) := by decide +kernel
theorem dX7_init_4 : decode cX7_init 4 = .ok (.aload_n 0, 1) := by decide +kernel
theorem dX7_init_5 : decode cX7_init 5 = .ok (.sipush 500, 3) := by decide +kernel
theorem dX7_init_8 : decode cX7_init 8 = .ok (.newarray .int, 2) := by decide +kernel
theorem dX7_init_10 : decode cX7_init 10 = .ok (.putfield 9, 3) := by decide +kernel
theorem dX7_init_13 : decode cX7_init 13 = .ok (.return_, 1) := by decide +kernel
theorem dX7_append_0 : decode cX7_append 0 = .ok (.bipush 24, 2) := by decide +kernel
theorem dX7_append_2 : decode cX7_append 2 = .ok (.istore_n 2, 1) := by decide +kernel
theorem dX7_append_3 : decode cX7_append 3 = .ok (.iload_n 2, 1) := by decide +kernel
theorem dX7_append_4 : decode cX7_append 4 = .ok (.ifCond .lt 37, 3) := by decide +kernel
theorem dX7_append_7 : decode cX7_append 7 = .ok (.aload_n 0, 1) := by decide +kernel
theorem dX7_append_8 : decode cX7_append 8 = .ok (.getfield 9, 3) := by decide +kernel
theorem dX7_append_11 : decode cX7_append 11 = .ok (.aload_n 0, 1) := by decide +kernel
theorem dX7_append_12 : decode cX7_append 12 = .ok (.getfield 15, 3) := by decide +kernel
theorem dX7_append_15 : decode cX7_append 15 = .ok (.iload_n 1, 1) := by decide +kernel
theorem dX7_append_16 : decode cX7_append 16 = .ok (.iload_n 2, 1) := by decide +kernel
theorem dX7_append_17 : decode cX7_append 17 = .ok (.ishr, 1) := by decide +kernel
theorem dX7_append_18 : decode cX7_append 18 = .ok (.sipush 255, 3) := by decide +kernel
theorem dX7_append_21 : decode cX7_append 21 = .ok (.iand, 1) := by decide +kernel
theorem dX7_append_22 : decode cX7_append 22 = .ok (.invokestatic 19, 3) := by decide +kernel
theorem dX7_append_25 : decode cX7_append 25 = .ok (.aload_n 0, 1) := by decide +kernel
theorem dX7_append_26 : decode cX7_append 26 = .ok (.dup, 1) := by decide +kernel
theorem dX7_append_27 : decode cX7_append 27 = .ok (.getfield 15, 3) := by decide +kernel
theorem dX7_append_30 : decode cX7_append 30 = .ok (.iconst 1, 1) := by decide +kernel
theorem dX7_append_31 : decode cX7_append 31 = .ok (.iadd, 1) := by decide +kernel
theorem dX7_append_32 : decode cX7_append 32 = .ok (.putfield 15, 3) := by decide +kernel
theorem dX7_append_35 : decode cX7_append 35 = .ok (.iinc 2 (-8), 3) := by decide +kernel
theorem dX7_append_38 : decode cX7_append 38 = .ok (.goto (-35), 3) := by decide +kernel
theorem dX7_append_41 : decode cX7_append 41 = .ok (.return_, 1) := by decide +kernel
theorem dX8_init_0 : decode cX8_init 0 = .ok (.aload_n 0, 1) := by decide +kernel
theorem dX8_init_1 : decode cX8_init 1 = .ok (.invokespecial 1, 3) := by decide +kernel
theorem dX8_init_4 : decode cX8_init 4 = .ok (.aload_n 0, 1) := by decide +kernel
theorem dX8_init_5 : decode cX8_init 5 = .ok (.new 7, 3) := by decide +kernel
theorem dX8_init_8 : decode cX8_init 8 = .ok (.dup, 1) := by decide +kernel
theorem dX8_init_9 : decode cX8_init 9 = .ok (.invokespecial 9, 3) := by decide +kernel
theorem dX8_init_12 : decode cX8_init 12 = .ok (.putfield 10, 3) := by decide +kernel
theorem dX8_init_15 : decode cX8_init 15 = .ok (.aload_n 0, 1) := by decide +kernel
theorem dX8_init_16 : decode cX8_init 16 = .ok (.aload_n 0, 1) := by decide +kernel
theorem dX8_init_17 : decode cX8_init 17 = .ok (.getfield 10, 3) := by decide +kernel
theorem dX8_init_20 : decode cX8_init 20 = .ok (.getfield 16, 3) := by decide +kernel
theorem dX8_init_23 : decode cX8_init 23 = .ok (.putfield 20, 3) := by decide +kernel
theorem dX8_init_26 : decode cX8_init 26 = .ok (.aload_n 0, 1) := by decide +kernel
theorem dX8_init_27 : decode cX8_init 27 = .ok (.aload_n 0, 1) := by decide +kernel
theorem dX8_init_28 : decode cX8_init 28 = .ok (.getfield 10, 3) := by decide +kernel
theorem dX8_init_31 : decode cX8_init 31 = .ok (.getfield 21, 3) := by decide +kernel
theorem dX8_init_34 : decode cX8_init 34 = .ok (.putfield 25, 3) := by decide +kernel
theorem dX8_init_37 : decode cX8_init 37 = .ok (.aload_n 0, 1) := by decide +kernel
theorem dX8_init_38 : decode cX8_init 38 = .ok (.new 26, 3) := by decide +kernel
theorem dX8_init_41 : decode cX8_init 41 = .ok (.dup, 1) := by decide +kernel
theorem dX8_init_42 : decode cX8_init 42 = .ok (.invokespecial 28, 3) := by decide +kernel
theorem dX8_init_45 : decode cX8_init 45 = .ok (.putfield 29, 3) := by decide +kernel
theorem dX8_init_48 : decode cX8_init 48 = .ok (.aload_n 0, 1) := by decide +kernel
theorem dX8_init_49 : decode cX8_init 49 = .ok (.aload_n 0, 1) := by decide +kernel
theorem dX8_init_50 : decode cX8_init 50 = .ok (.getfield 29, 3) := by decide +kernel
theorem dX8_init_53 : decode cX8_init 53 = .ok (.getfield 33, 3) := by decide +kernel
theorem dX8_init_56 : decode cX8_init 56 = .ok (.putfield 36, 3) := by decide +kernel
theorem dX8_init_59 : decode cX8_init 59 = .ok (.aload_n 0, 1) := by decide +kernel
theorem dX8_init_60 : decode cX8_init 60 = .ok (.aload_n 0, 1) := by decide +kernel
theorem dX8_init_61 : decode cX8_init 61 = .ok (.getfield 29, 3) := by decide +kernel
theorem dX8_init_64 : decode cX8_init 64 = .ok (.getfield 37, 3) := by decide +kernel
theorem dX8_init_67 : decode cX8_init 67 = .ok (.putfield 41, 3) := by decide +kernel
theorem dX8_init_70 : decode cX8_init 70 = .ok (.aload_n 0, 1) := by decide +kernel
theorem dX8_init_71 : decode cX8_init 71 = .ok (.new 44, 3) := by decide +kernel
theorem dX8_init_74 : decode cX8_init 74 = .ok (.dup, 1) := by decide +kernel
theorem dX8_init_75 : decode cX8_init 75 = .ok (.invokespecial 46, 3) := by decide +kernel
theorem dX8_init_78 : decode cX8_init 78 = .ok (.putfield 47, 3) := by decide +kernel
theorem dX8_init_81 : decode cX8_init 81 = .ok (.aload_n 0, 1) := by decide +kernel
theorem dX8_init_82 : decode cX8_init 82 = .ok (.new 50, 3) := by decide +kernel
theorem dX8_init_85 : decode cX8_init 85 = .ok (.dup, 1) := by decide +kernel
theorem dX8_init_86 : decode cX8_init 86 = .ok (.invokespecial 52, 3) := by decide +kernel
theorem dX8_init_89 : decode cX8_init 89 = .ok (.putfield 53, 3) := by decide +kernel
theorem dX8_init_92 : decode cX8_init 92 = .ok (.aload_n 0, 1) := by decide +kernel
theorem dX8_init_93 : decode cX8_init 93 = .ok (.new 57, 3) := by decide +kernel
theorem dX8_init_96 : decode cX8_init 96 = .ok (.dup, 1) := by decide +kernel
theorem dX8_init_97 : decode cX8_init 97 = .ok (.invokespecial 59, 3) := by decide +kernel
theorem dX8_init_100 : decode cX8_init 100 = .ok (.putfield 60, 3) := by decide +kernel
theorem dX8_init_103 : decode cX8_init 103 = .ok (.return_, 1) := by decide +kernel
theorem dX8_feed_0 : decode cX8_feed 0 = .ok (.aload_n 0, 1) := by decide +kernel
theorem dX8_feed_1 : decode cX8_feed 1 = .ok (.getfield 20, 3) := by decide +kernel
theorem dX8_feed_4 : decode cX8_feed 4 = .ok (.getfield 64, 3) := by decide +kernel
theorem dX8_feed_7 : decode cX8_feed 7 = .ok (.bipush 20, 2) := by decide +kernel
theorem dX8_feed_9 : decode cX8_feed 9 = .ok (.iadd, 1) := by decide +kernel
theorem dX8_feed_10 : decode cX8_feed 10 = .ok (.sipush 500, 3) := by decide +kernel
theorem dX8_feed_13 : decode cX8_feed 13 = .ok (.if_icmp .le 5, 3) := by decide +kernel
theorem dX8_feed_16 : decode cX8_feed 16 = .ok (.iconst (-1), 1) := by decide +kernel
theorem dX8_feed_17 : decode cX8_feed 17 = .ok (.ireturn, 1) := by decide +kernel
theorem dX8_feed_18 : decode cX8_feed 18 = .ok (.aload_n 0, 1) := by decide +kernel
theorem dX8_feed_19 : decode cX8_feed 19 = .ok (.getfield 20, 3) := by decide +kernel
theorem dX8_feed_22 : decode cX8_feed 22 = .ok (.iload_n 1, 1) := by decide +kernel
theorem dX8_feed_23 : decode cX8_feed 23 = .ok (.invokevirtual 70, 3) := by decide +kernel
theorem dX8_feed_26 : decode cX8_feed 26 = .ok (.aload_n 0, 1) := by decide +kernel
theorem dX8_feed_27 : decode cX8_feed 27 = .ok (.getfield 20, 3) := by decide +kernel
theorem dX8_feed_30 : decode cX8_feed 30 = .ok (.iload_n 2, 1) := by decide +kernel
theorem dX8_feed_31 : decode cX8_feed 31 = .ok (.invokevirtual 70, 3) := by decide +kernel
theorem dX8_feed_34 : decode cX8_feed 34 = .ok (.aload_n 0, 1) := by decide +kernel
theorem dX8_feed_35 : decode cX8_feed 35 = .ok (.getfield 20, 3) := by decide +kernel
theorem dX8_feed_38 : decode cX8_feed 38 = .ok (.iload_n 3, 1) := by decide +kernel
theorem dX8_feed_39 : decode cX8_feed 39 = .ok (.invokevirtual 70, 3) := by decide +kernel
theorem dX8_feed_42 : decode cX8_feed 42 = .ok (.aload_n 0, 1) := by decide +kernel
theorem dX8_feed_43 : decode cX8_feed 43 = .ok (.getfield 20, 3) := by decide +kernel
theorem dX8_feed_46 : decode cX8_feed 46 = .ok (.iload 4, 2) := by decide +kernel
theorem dX8_feed_48 : decode cX8_feed 48 = .ok (.invokevirtual 70, 3) := by decide +kernel
theorem dX8_feed_51 : decode cX8_feed 51 = .ok (.aload_n 0, 1) := by decide +kernel
theorem dX8_feed_52 : decode cX8_feed 52 = .ok (.getfield 20, 3) := by decide +kernel
theorem dX8_feed_55 : decode cX8_feed 55 = .ok (.iload 5, 2) := by decide +kernel
theorem dX8_feed_57 : decode cX8_feed 57 = .ok (.invokevirtual 70, 3) := by decide +kernel
theorem dX8_feed_60 : decode cX8_feed 60 = .ok (.aload_n 0, 1) := by decide +kernel
theorem dX8_feed_61 : decode cX8_feed 61 = .ok (.getfield 20, 3) := by decide +kernel
theorem dX8_feed_64 : decode cX8_feed 64 = .ok (.getfield 64, 3) := by decide +kernel
theorem dX8_feed_67 : decode cX8_feed 67 = .ok (.ireturn, 1) := by decide +kernel
theorem dX8_end_0 : decode cX8_end 0 = .ok (.iload_n 1, 1) := by decide +kernel
theorem dX8_end_1 : decode cX8_end 1 = .ok (.ifCond .lt 14, 3) := by decide +kernel
theorem dX8_end_4 : decode cX8_end 4 = .ok (.iload_n 1, 1) := by decide +kernel
theorem dX8_end_5 : decode cX8_end 5 = .ok (.aload_n 0, 1) := by decide +kernel
theorem dX8_end_6 : decode cX8_end 6 = .ok (.getfield 20, 3) := by decide +kernel
theorem dX8_end_9 : decode cX8_end 9 = .ok (.getfield 64, 3) := by decide +kernel
theorem dX8_end_12 : decode cX8_end 12 = .ok (.if_icmp .le 5, 3) := by decide +kernel
theorem dX8_end_15 : decode cX8_end 15 = .ok (.iconst (-1), 1) := by decide +kernel
theorem dX8_end_16 : decode cX8_end 16 = .ok (.ireturn, 1) := by decide +kernel
theorem dX8_end_17 : decode cX8_end 17 = .ok (.aload_n 0, 1) := by decide +kernel
theorem dX8_end_18 : decode cX8_end 18 = .ok (.getfield 20, 3) := by decide +kernel
theorem dX8_end_21 : decode cX8_end 21 = .ok (.iload_n 1, 1) := by decide +kernel
theorem dX8_end_22 : decode cX8_end 22 = .ok (.putfield 64, 3) := by decide +kernel
theorem dX8_end_25 : decode cX8_end 25 = .ok (.iload_n 1, 1) := by decide +kernel
theorem dX8_end_26 : decode cX8_end 26 = .ok (.ireturn, 1) := by decide +kernel
theorem dX8_channel_0 : decode cX8_channel 0 = .ok (.aload_n 0, 1) := by decide +kernel
theorem dX8_channel_1 : decode cX8_channel 1 = .ok (.getfield 10, 3) := by decide +kernel
theorem dX8_channel_4 : decode cX8_channel 4 = .ok (.invokevirtual 74, 3) := by decide +kernel
theorem dX8_channel_7 : decode cX8_channel 7 = .ok (.istore_n 1, 1) := by decide +kernel
theorem dX8_channel_8 : decode cX8_channel 8 = .ok (.aload_n 0, 1) := by decide +kernel
theorem dX8_channel_9 : decode cX8_channel 9 = .ok (.getfield 20, 3) := by decide +kernel
theorem dX8_channel_12 : decode cX8_channel 12 = .ok (.iconst 0, 1) := by decide +kernel
theorem dX8_channel_13 : decode cX8_channel 13 = .ok (.putfield 64, 3) := by decide +kernel
theorem dX8_channel_16 : decode cX8_channel 16 = .ok (.iload_n 1, 1) := by decide +kernel
theorem dX8_channel_17 : decode cX8_channel 17 = .ok (.ifCond .ne 6, 3) := by decide +kernel
theorem dX8_channel_20 : decode cX8_channel 20 = .ok (.bipush (-4), 2) := by decide +kernel
theorem dX8_channel_22 : decode cX8_channel 22 = .ok (.ireturn, 1) := by decide +kernel
theorem dX8_channel_23 : decode cX8_channel 23 = .ok (.aload_n 0, 1) := by decide +kernel
theorem dX8_channel_24 : decode cX8_channel 24 = .ok (.getfield 36, 3) := by decide +kernel
theorem dX8_channel_27 : decode cX8_channel 27 = .ok (.aload_n 0, 1) := by decide +kernel
theorem dX8_channel_28 : decode cX8_channel 28 = .ok (.getfield 25, 3) := by decide +kernel
theorem dX8_channel_31 : decode cX8_channel 31 = .ok (.invokevirtual 78, 3) := by decide +kernel
theorem dX8_channel_34 : decode cX8_channel 34 = .ok (.aload_n 0, 1) := by decide +kernel
theorem dX8_channel_35 : decode cX8_channel 35 = .ok (.getfield 53, 3) := by decide +kernel
theorem dX8_channel_38 : decode cX8_channel 38 = .ok (.iconst 0, 1) := by decide +kernel
theorem dX8_channel_39 : decode cX8_channel 39 = .ok (.putfield 84, 3) := by decide +kernel
theorem dX8_channel_42 : decode cX8_channel 42 = .ok (.aload_n 0, 1) := by decide +kernel
theorem dX8_channel_43 : decode cX8_channel 43 = .ok (.getfield 29, 3) := by decide +kernel
theorem dX8_channel_46 : decode cX8_channel 46 = .ok (.aload_n 0, 1) := by decide +kernel
theorem dX8_channel_47 : decode cX8_channel 47 = .ok (.getfield 41, 3) := by decide +kernel
theorem dX8_channel_50 : decode cX8_channel 50 = .ok (.aload_n 0, 1) := by decide +kernel
theorem dX8_channel_51 : decode cX8_channel 51 = .ok (.getfield 36, 3) := by decide +kernel
theorem dX8_channel_54 : decode cX8_channel 54 = .ok (.getfield 87, 3) := by decide +kernel
theorem dX8_channel_57 : decode cX8_channel 57 = .ok (.iconst (-1), 1) := by decide +kernel
theorem dX8_channel_58 : decode cX8_channel 58 = .ok (.iconst (-1), 1) := by decide +kernel
theorem dX8_channel_59 : decode cX8_channel 59 = .ok (.invokevirtual 90, 3) := by decide +kernel
theorem dX8_channel_62 : decode cX8_channel 62 = .ok (.pop, 1) := by decide +kernel
theorem dX8_channel_63 : decode cX8_channel 63 = .ok (.aload_n 0, 1) := by decide +kernel
theorem dX8_channel_64 : decode cX8_channel 64 = .ok (.getfield 36, 3) := by decide +kernel
theorem dX8_channel_67 : decode cX8_channel 67 = .ok (.getfield 94, 3) := by decide +kernel
theorem dX8_channel_70 : decode cX8_channel 70 = .ok (.ireturn, 1) := by decide +kernel
theorem dX8_fault_0 : decode cX8_fault 0 = .ok (.iload_n 1, 1) := by decide +kernel
theorem dX8_fault_1 : decode cX8_fault 1 = .ok (.ifCond .ne 11, 3) := by decide +kernel
theorem dX8_fault_4 : decode cX8_fault 4 = .ok (.aload_n 0, 1) := by decide +kernel
theorem dX8_fault_5 : decode cX8_fault 5 = .ok (.getfield 10, 3) := by decide +kernel
theorem dX8_fault_8 : decode cX8_fault 8 = .ok (.getfield 97, 3) := by decide +kernel
theorem dX8_fault_11 : decode cX8_fault 11 = .ok (.ireturn, 1) := by decide +kernel
theorem dX8_fault_12 : decode cX8_fault 12 = .ok (.iload_n 1, 1) := by decide +kernel
theorem dX8_fault_13 : decode cX8_fault 13 = .ok (.iconst 1, 1) := by decide +kernel
theorem dX8_fault_14 : decode cX8_fault 14 = .ok (.if_icmp .ne 13, 3) := by decide +kernel
theorem dX8_fault_17 : decode cX8_fault 17 = .ok (.aload_n 0, 1) := by decide +kernel
theorem dX8_fault_18 : decode cX8_fault 18 = .ok (.getfield 10, 3) := by decide +kernel
theorem dX8_fault_21 : decode cX8_fault 21 = .ok (.getfield 100, 3) := by decide +kernel
theorem dX8_fault_24 : decode cX8_fault 24 = .ok (.goto 4, 3) := by decide +kernel
theorem dX8_fault_27 : decode cX8_fault 27 = .ok (.iconst (-1), 1) := by decide +kernel
theorem dX8_fault_28 : decode cX8_fault 28 = .ok (.ireturn, 1) := by decide +kernel
theorem dX8_count_0 : decode cX8_count 0 = .ok (.iload_n 1, 1) := by decide +kernel
theorem dX8_count_1 : decode cX8_count 1 = .ok (.tableswitch 123 0 8 #[51, 59, 67, 75, 83, 91, 99, 107, 115], 51) := by decide +kernel
theorem dX8_count_52 : decode cX8_count 52 = .ok (.aload_n 0, 1) := by decide +kernel
theorem dX8_count_53 : decode cX8_count 53 = .ok (.getfield 36, 3) := by decide +kernel
theorem dX8_count_56 : decode cX8_count 56 = .ok (.getfield 87, 3) := by decide +kernel
theorem dX8_count_59 : decode cX8_count 59 = .ok (.ireturn, 1) := by decide +kernel
theorem dX8_count_60 : decode cX8_count 60 = .ok (.aload_n 0, 1) := by decide +kernel
theorem dX8_count_61 : decode cX8_count 61 = .ok (.getfield 36, 3) := by decide +kernel
theorem dX8_count_64 : decode cX8_count 64 = .ok (.getfield 103, 3) := by decide +kernel
theorem dX8_count_67 : decode cX8_count 67 = .ok (.ireturn, 1) := by decide +kernel
theorem dX8_count_68 : decode cX8_count 68 = .ok (.aload_n 0, 1) := by decide +kernel
theorem dX8_count_69 : decode cX8_count 69 = .ok (.getfield 36, 3) := by decide +kernel
theorem dX8_count_72 : decode cX8_count 72 = .ok (.getfield 106, 3) := by decide +kernel
theorem dX8_count_75 : decode cX8_count 75 = .ok (.ireturn, 1) := by decide +kernel
theorem dX8_count_76 : decode cX8_count 76 = .ok (.aload_n 0, 1) := by decide +kernel
theorem dX8_count_77 : decode cX8_count 77 = .ok (.getfield 36, 3) := by decide +kernel
theorem dX8_count_80 : decode cX8_count 80 = .ok (.getfield 109, 3) := by decide +kernel
theorem dX8_count_83 : decode cX8_count 83 = .ok (.ireturn, 1) := by decide +kernel
theorem dX8_count_84 : decode cX8_count 84 = .ok (.aload_n 0, 1) := by decide +kernel
theorem dX8_count_85 : decode cX8_count 85 = .ok (.getfield 36, 3) := by decide +kernel
theorem dX8_count_88 : decode cX8_count 88 = .ok (.getfield 112, 3) := by decide +kernel
theorem dX8_count_91 : decode cX8_count 91 = .ok (.ireturn, 1) := by decide +kernel
theorem dX8_count_92 : decode cX8_count 92 = .ok (.aload_n 0, 1) := by decide +kernel
theorem dX8_count_93 : decode cX8_count 93 = .ok (.getfield 36, 3) := by decide +kernel
theorem dX8_count_96 : decode cX8_count 96 = .ok (.getfield 115, 3) := by decide +kernel
theorem dX8_count_99 : decode cX8_count 99 = .ok (.ireturn, 1) := by decide +kernel
theorem dX8_count_100 : decode cX8_count 100 = .ok (.aload_n 0, 1) := by decide +kernel
theorem dX8_count_101 : decode cX8_count 101 = .ok (.getfield 53, 3) := by decide +kernel
theorem dX8_count_104 : decode cX8_count 104 = .ok (.getfield 84, 3) := by decide +kernel
theorem dX8_count_107 : decode cX8_count 107 = .ok (.ireturn, 1) := by decide +kernel
theorem dX8_count_108 : decode cX8_count 108 = .ok (.aload_n 0, 1) := by decide +kernel
theorem dX8_count_109 : decode cX8_count 109 = .ok (.getfield 36, 3) := by decide +kernel
theorem dX8_count_112 : decode cX8_count 112 = .ok (.getfield 94, 3) := by decide +kernel
theorem dX8_count_115 : decode cX8_count 115 = .ok (.ireturn, 1) := by decide +kernel
theorem dX8_count_116 : decode cX8_count 116 = .ok (.aload_n 0, 1) := by decide +kernel
theorem dX8_count_117 : decode cX8_count 117 = .ok (.getfield 20, 3) := by decide +kernel
theorem dX8_count_120 : decode cX8_count 120 = .ok (.getfield 64, 3) := by decide +kernel
theorem dX8_count_123 : decode cX8_count 123 = .ok (.ireturn, 1) := by decide +kernel
theorem dX8_count_124 : decode cX8_count 124 = .ok (.iconst (-1), 1) := by decide +kernel
theorem dX8_count_125 : decode cX8_count 125 = .ok (.ireturn, 1) := by decide +kernel
theorem dX8_sender_0 : decode cX8_sender 0 = .ok (.aload_n 0, 1) := by decide +kernel
theorem dX8_sender_1 : decode cX8_sender 1 = .ok (.getfield 36, 3) := by decide +kernel
theorem dX8_sender_4 : decode cX8_sender 4 = .ok (.iload_n 1, 1) := by decide +kernel
theorem dX8_sender_5 : decode cX8_sender 5 = .ok (.invokevirtual 118, 3) := by decide +kernel
theorem dX8_sender_8 : decode cX8_sender 8 = .ok (.ifCond .eq 13, 3) := by decide +kernel
theorem dX8_sender_11 : decode cX8_sender 11 = .ok (.iload_n 2, 1) := by decide +kernel
theorem dX8_sender_12 : decode cX8_sender 12 = .ok (.ifCond .lt 9, 3) := by decide +kernel
theorem dX8_sender_15 : decode cX8_sender 15 = .ok (.iload_n 2, 1) := by decide +kernel
theorem dX8_sender_16 : decode cX8_sender 16 = .ok (.bipush 13, 2) := by decide +kernel
theorem dX8_sender_18 : decode cX8_sender 18 = .ok (.if_icmp .le 6, 3) := by decide +kernel
theorem dX8_sender_21 : decode cX8_sender 21 = .ok (.bipush (-2), 2) := by decide +kernel
theorem dX8_sender_23 : decode cX8_sender 23 = .ok (.ireturn, 1) := by decide +kernel
theorem dX8_sender_24 : decode cX8_sender 24 = .ok (.iload_n 2, 1) := by decide +kernel
theorem dX8_sender_25 : decode cX8_sender 25 = .ok (.ifCond .ne 15, 3) := by decide +kernel
theorem dX8_sender_28 : decode cX8_sender 28 = .ok (.aload_n 0, 1) := by decide +kernel
theorem dX8_sender_29 : decode cX8_sender 29 = .ok (.getfield 36, 3) := by decide +kernel
theorem dX8_sender_32 : decode cX8_sender 32 = .ok (.getfield 122, 3) := by decide +kernel
theorem dX8_sender_35 : decode cX8_sender 35 = .ok (.iload_n 1, 1) := by decide +kernel
theorem dX8_sender_36 : decode cX8_sender 36 = .ok (.invokestatic 126, 3) := by decide +kernel
theorem dX8_sender_39 : decode cX8_sender 39 = .ok (.ireturn, 1) := by decide +kernel
theorem dX8_sender_40 : decode cX8_sender 40 = .ok (.aload_n 0, 1) := by decide +kernel
theorem dX8_sender_41 : decode cX8_sender 41 = .ok (.getfield 36, 3) := by decide +kernel
theorem dX8_sender_44 : decode cX8_sender 44 = .ok (.getfield 130, 3) := by decide +kernel
theorem dX8_sender_47 : decode cX8_sender 47 = .ok (.iload_n 1, 1) := by decide +kernel
theorem dX8_sender_48 : decode cX8_sender 48 = .ok (.invokestatic 126, 3) := by decide +kernel
theorem dX8_sender_51 : decode cX8_sender 51 = .ok (.istore_n 3, 1) := by decide +kernel
theorem dX8_sender_52 : decode cX8_sender 52 = .ok (.iload_n 2, 1) := by decide +kernel
theorem dX8_sender_53 : decode cX8_sender 53 = .ok (.iconst 1, 1) := by decide +kernel
theorem dX8_sender_54 : decode cX8_sender 54 = .ok (.if_icmp .ne 5, 3) := by decide +kernel
theorem dX8_sender_57 : decode cX8_sender 57 = .ok (.iload_n 3, 1) := by decide +kernel
theorem dX8_sender_58 : decode cX8_sender 58 = .ok (.ireturn, 1) := by decide +kernel
theorem dX8_sender_59 : decode cX8_sender 59 = .ok (.iload_n 2, 1) := by decide +kernel
theorem dX8_sender_60 : decode cX8_sender 60 = .ok (.iconst 2, 1) := by decide +kernel
theorem dX8_sender_61 : decode cX8_sender 61 = .ok (.isub, 1) := by decide +kernel
theorem dX8_sender_62 : decode cX8_sender 62 = .ok (.iload_n 3, 1) := by decide +kernel
theorem dX8_sender_63 : decode cX8_sender 63 = .ok (.if_icmp .ge 17, 3) := by decide +kernel
theorem dX8_sender_66 : decode cX8_sender 66 = .ok (.aload_n 0, 1) := by decide +kernel
theorem dX8_sender_67 : decode cX8_sender 67 = .ok (.getfield 36, 3) := by decide +kernel
theorem dX8_sender_70 : decode cX8_sender 70 = .ok (.iload_n 1, 1) := by decide +kernel
theorem dX8_sender_71 : decode cX8_sender 71 = .ok (.iload_n 2, 1) := by decide +kernel
theorem dX8_sender_72 : decode cX8_sender 72 = .ok (.iconst 2, 1) := by decide +kernel
theorem dX8_sender_73 : decode cX8_sender 73 = .ok (.isub, 1) := by decide +kernel
theorem dX8_sender_74 : decode cX8_sender 74 = .ok (.invokevirtual 133, 3) := by decide +kernel
theorem dX8_sender_77 : decode cX8_sender 77 = .ok (.goto 4, 3) := by decide +kernel
theorem dX8_sender_80 : decode cX8_sender 80 = .ok (.iconst (-1), 1) := by decide +kernel
theorem dX8_sender_81 : decode cX8_sender 81 = .ok (.ireturn, 1) := by decide +kernel
theorem dX8_slot_0 : decode cX8_slot 0 = .ok (.aload_n 0, 1) := by decide +kernel
theorem dX8_slot_1 : decode cX8_slot 1 = .ok (.getfield 36, 3) := by decide +kernel
theorem dX8_slot_4 : decode cX8_slot 4 = .ok (.iload_n 1, 1) := by decide +kernel
theorem dX8_slot_5 : decode cX8_slot 5 = .ok (.invokevirtual 137, 3) := by decide +kernel
theorem dX8_slot_8 : decode cX8_slot 8 = .ok (.ifCond .ne 6, 3) := by decide +kernel
theorem dX8_slot_11 : decode cX8_slot 11 = .ok (.bipush (-2), 2) := by decide +kernel
theorem dX8_slot_13 : decode cX8_slot 13 = .ok (.ireturn, 1) := by decide +kernel
theorem dX8_slot_14 : decode cX8_slot 14 = .ok (.iload_n 2, 1) := by decide +kernel
theorem dX8_slot_15 : decode cX8_slot 15 = .ok (.tableswitch 96 0 4 #[33, 48, 60, 72, 84], 33) := by decide +kernel
theorem dX8_slot_48 : decode cX8_slot 48 = .ok (.aload_n 0, 1) := by decide +kernel
theorem dX8_slot_49 : decode cX8_slot 49 = .ok (.getfield 41, 3) := by decide +kernel
theorem dX8_slot_52 : decode cX8_slot 52 = .ok (.getfield 140, 3) := by decide +kernel
theorem dX8_slot_55 : decode cX8_slot 55 = .ok (.iload_n 1, 1) := by decide +kernel
theorem dX8_slot_56 : decode cX8_slot 56 = .ok (.invokestatic 126, 3) := by decide +kernel
theorem dX8_slot_59 : decode cX8_slot 59 = .ok (.invokestatic 143, 3) := by decide +kernel
theorem dX8_slot_62 : decode cX8_slot 62 = .ok (.ireturn, 1) := by decide +kernel
theorem dX8_slot_63 : decode cX8_slot 63 = .ok (.aload_n 0, 1) := by decide +kernel
theorem dX8_slot_64 : decode cX8_slot 64 = .ok (.getfield 41, 3) := by decide +kernel
theorem dX8_slot_67 : decode cX8_slot 67 = .ok (.getfield 149, 3) := by decide +kernel
theorem dX8_slot_70 : decode cX8_slot 70 = .ok (.iload_n 1, 1) := by decide +kernel
theorem dX8_slot_71 : decode cX8_slot 71 = .ok (.invokestatic 126, 3) := by decide +kernel
theorem dX8_slot_74 : decode cX8_slot 74 = .ok (.ireturn, 1) := by decide +kernel
theorem dX8_slot_75 : decode cX8_slot 75 = .ok (.aload_n 0, 1) := by decide +kernel
theorem dX8_slot_76 : decode cX8_slot 76 = .ok (.getfield 41, 3) := by decide +kernel
theorem dX8_slot_79 : decode cX8_slot 79 = .ok (.getfield 152, 3) := by decide +kernel
theorem dX8_slot_82 : decode cX8_slot 82 = .ok (.iload_n 1, 1) := by decide +kernel
theorem dX8_slot_83 : decode cX8_slot 83 = .ok (.invokestatic 126, 3) := by decide +kernel
theorem dX8_slot_86 : decode cX8_slot 86 = .ok (.ireturn, 1) := by decide +kernel
theorem dX8_slot_87 : decode cX8_slot 87 = .ok (.aload_n 0, 1) := by decide +kernel
theorem dX8_slot_88 : decode cX8_slot 88 = .ok (.getfield 41, 3) := by decide +kernel
theorem dX8_slot_91 : decode cX8_slot 91 = .ok (.getfield 155, 3) := by decide +kernel
theorem dX8_slot_94 : decode cX8_slot 94 = .ok (.iload_n 1, 1) := by decide +kernel
theorem dX8_slot_95 : decode cX8_slot 95 = .ok (.invokestatic 126, 3) := by decide +kernel
theorem dX8_slot_98 : decode cX8_slot 98 = .ok (.ireturn, 1) := by decide +kernel
theorem dX8_slot_99 : decode cX8_slot 99 = .ok (.aload_n 0, 1) := by decide +kernel
theorem dX8_slot_100 : decode cX8_slot 100 = .ok (.getfield 41, 3) := by decide +kernel
theorem dX8_slot_103 : decode cX8_slot 103 = .ok (.getfield 158, 3) := by decide +kernel
theorem dX8_slot_106 : decode cX8_slot 106 = .ok (.iload_n 1, 1) := by decide +kernel
theorem dX8_slot_107 : decode cX8_slot 107 = .ok (.invokestatic 126, 3) := by decide +kernel
theorem dX8_slot_110 : decode cX8_slot 110 = .ok (.ireturn, 1) := by decide +kernel
theorem dX8_slot_111 : decode cX8_slot 111 = .ok (.bipush (-2), 2) := by decide +kernel
theorem dX8_slot_113 : decode cX8_slot 113 = .ok (.ireturn, 1) := by decide +kernel
theorem dX8_sends_0 : decode cX8_sends 0 = .ok (.aload_n 0, 1) := by decide +kernel
theorem dX8_sends_1 : decode cX8_sends 1 = .ok (.getfield 36, 3) := by decide +kernel
theorem dX8_sends_4 : decode cX8_sends 4 = .ok (.iload_n 1, 1) := by decide +kernel
theorem dX8_sends_5 : decode cX8_sends 5 = .ok (.invokevirtual 137, 3) := by decide +kernel
theorem dX8_sends_8 : decode cX8_sends 8 = .ok (.ifCond .eq 14, 3) := by decide +kernel
theorem dX8_sends_11 : decode cX8_sends 11 = .ok (.aload_n 0, 1) := by decide +kernel
theorem dX8_sends_12 : decode cX8_sends 12 = .ok (.getfield 36, 3) := by decide +kernel
theorem dX8_sends_15 : decode cX8_sends 15 = .ok (.iload_n 2, 1) := by decide +kernel
theorem dX8_sends_16 : decode cX8_sends 16 = .ok (.invokevirtual 118, 3) := by decide +kernel
theorem dX8_sends_19 : decode cX8_sends 19 = .ok (.ifCond .ne 6, 3) := by decide +kernel
theorem dX8_sends_22 : decode cX8_sends 22 = .ok (.bipush (-2), 2) := by decide +kernel
theorem dX8_sends_24 : decode cX8_sends 24 = .ok (.ireturn, 1) := by decide +kernel
theorem dX8_sends_25 : decode cX8_sends 25 = .ok (.aload_n 0, 1) := by decide +kernel
theorem dX8_sends_26 : decode cX8_sends 26 = .ok (.getfield 41, 3) := by decide +kernel
theorem dX8_sends_29 : decode cX8_sends 29 = .ok (.getfield 140, 3) := by decide +kernel
theorem dX8_sends_32 : decode cX8_sends 32 = .ok (.iload_n 1, 1) := by decide +kernel
theorem dX8_sends_33 : decode cX8_sends 33 = .ok (.invokestatic 126, 3) := by decide +kernel
theorem dX8_sends_36 : decode cX8_sends 36 = .ok (.iload_n 2, 1) := by decide +kernel
theorem dX8_sends_37 : decode cX8_sends 37 = .ok (.ishr, 1) := by decide +kernel
theorem dX8_sends_38 : decode cX8_sends 38 = .ok (.iconst 1, 1) := by decide +kernel
theorem dX8_sends_39 : decode cX8_sends 39 = .ok (.iand, 1) := by decide +kernel
theorem dX8_sends_40 : decode cX8_sends 40 = .ok (.ireturn, 1) := by decide +kernel
theorem dX8_delivered_0 : decode cX8_delivered 0 = .ok (.aload_n 0, 1) := by decide +kernel
theorem dX8_delivered_1 : decode cX8_delivered 1 = .ok (.getfield 36, 3) := by decide +kernel
theorem dX8_delivered_4 : decode cX8_delivered 4 = .ok (.iload_n 1, 1) := by decide +kernel
theorem dX8_delivered_5 : decode cX8_delivered 5 = .ok (.invokevirtual 118, 3) := by decide +kernel
theorem dX8_delivered_8 : decode cX8_delivered 8 = .ok (.ifCond .eq 17, 3) := by decide +kernel
theorem dX8_delivered_11 : decode cX8_delivered 11 = .ok (.aload_n 0, 1) := by decide +kernel
theorem dX8_delivered_12 : decode cX8_delivered 12 = .ok (.getfield 41, 3) := by decide +kernel
theorem dX8_delivered_15 : decode cX8_delivered 15 = .ok (.getfield 161, 3) := by decide +kernel
theorem dX8_delivered_18 : decode cX8_delivered 18 = .ok (.iload_n 1, 1) := by decide +kernel
theorem dX8_delivered_19 : decode cX8_delivered 19 = .ok (.invokestatic 126, 3) := by decide +kernel
theorem dX8_delivered_22 : decode cX8_delivered 22 = .ok (.goto 5, 3) := by decide +kernel
theorem dX8_delivered_25 : decode cX8_delivered 25 = .ok (.bipush (-2), 2) := by decide +kernel
theorem dX8_delivered_27 : decode cX8_delivered 27 = .ok (.ireturn, 1) := by decide +kernel
theorem dX8_tries_0 : decode cX8_tries 0 = .ok (.aload_n 0, 1) := by decide +kernel
theorem dX8_tries_1 : decode cX8_tries 1 = .ok (.getfield 36, 3) := by decide +kernel
theorem dX8_tries_4 : decode cX8_tries 4 = .ok (.iload_n 1, 1) := by decide +kernel
theorem dX8_tries_5 : decode cX8_tries 5 = .ok (.invokevirtual 118, 3) := by decide +kernel
theorem dX8_tries_8 : decode cX8_tries 8 = .ok (.ifCond .eq 17, 3) := by decide +kernel
theorem dX8_tries_11 : decode cX8_tries 11 = .ok (.aload_n 0, 1) := by decide +kernel
theorem dX8_tries_12 : decode cX8_tries 12 = .ok (.getfield 41, 3) := by decide +kernel
theorem dX8_tries_15 : decode cX8_tries 15 = .ok (.getfield 164, 3) := by decide +kernel
theorem dX8_tries_18 : decode cX8_tries 18 = .ok (.iload_n 1, 1) := by decide +kernel
theorem dX8_tries_19 : decode cX8_tries 19 = .ok (.invokestatic 126, 3) := by decide +kernel
theorem dX8_tries_22 : decode cX8_tries 22 = .ok (.goto 5, 3) := by decide +kernel
theorem dX8_tries_25 : decode cX8_tries 25 = .ok (.bipush (-2), 2) := by decide +kernel
theorem dX8_tries_27 : decode cX8_tries 27 = .ok (.ireturn, 1) := by decide +kernel
theorem dX8_taken_0 : decode cX8_taken 0 = .ok (.aload_n 0, 1) := by decide +kernel
theorem dX8_taken_1 : decode cX8_taken 1 = .ok (.getfield 36, 3) := by decide +kernel
theorem dX8_taken_4 : decode cX8_taken 4 = .ok (.iload_n 1, 1) := by decide +kernel
theorem dX8_taken_5 : decode cX8_taken 5 = .ok (.invokevirtual 118, 3) := by decide +kernel
theorem dX8_taken_8 : decode cX8_taken 8 = .ok (.ifCond .eq 17, 3) := by decide +kernel
theorem dX8_taken_11 : decode cX8_taken 11 = .ok (.aload_n 0, 1) := by decide +kernel
theorem dX8_taken_12 : decode cX8_taken 12 = .ok (.getfield 41, 3) := by decide +kernel
theorem dX8_taken_15 : decode cX8_taken 15 = .ok (.getfield 167, 3) := by decide +kernel
theorem dX8_taken_18 : decode cX8_taken 18 = .ok (.iload_n 1, 1) := by decide +kernel
theorem dX8_taken_19 : decode cX8_taken 19 = .ok (.invokestatic 126, 3) := by decide +kernel
theorem dX8_taken_22 : decode cX8_taken 22 = .ok (.goto 5, 3) := by decide +kernel
theorem dX8_taken_25 : decode cX8_taken 25 = .ok (.bipush (-2), 2) := by decide +kernel
theorem dX8_taken_27 : decode cX8_taken 27 = .ok (.ireturn, 1) := by decide +kernel
theorem dX8_order_0 : decode cX8_order 0 = .ok (.iload_n 1, 1) := by decide +kernel
theorem dX8_order_1 : decode cX8_order 1 = .ok (.ifCond .lt 13, 3) := by decide +kernel
theorem dX8_order_4 : decode cX8_order 4 = .ok (.aload_n 0, 1) := by decide +kernel
theorem dX8_order_5 : decode cX8_order 5 = .ok (.getfield 36, 3) := by decide +kernel
theorem dX8_order_8 : decode cX8_order 8 = .ok (.invokevirtual 170, 3) := by decide +kernel
theorem dX8_order_11 : decode cX8_order 11 = .ok (.ifCond .ne 6, 3) := by decide +kernel
theorem dX8_order_14 : decode cX8_order 14 = .ok (.bipush (-2), 2) := by decide +kernel
theorem dX8_order_16 : decode cX8_order 16 = .ok (.ireturn, 1) := by decide +kernel
theorem dX8_order_17 : decode cX8_order 17 = .ok (.iload_n 1, 1) := by decide +kernel
theorem dX8_order_18 : decode cX8_order 18 = .ok (.aload_n 0, 1) := by decide +kernel
theorem dX8_order_19 : decode cX8_order 19 = .ok (.getfield 41, 3) := by decide +kernel
theorem dX8_order_22 : decode cX8_order 22 = .ok (.getfield 173, 3) := by decide +kernel
theorem dX8_order_25 : decode cX8_order 25 = .ok (.if_icmp .ge 17, 3) := by decide +kernel
theorem dX8_order_28 : decode cX8_order 28 = .ok (.aload_n 0, 1) := by decide +kernel
theorem dX8_order_29 : decode cX8_order 29 = .ok (.getfield 41, 3) := by decide +kernel
theorem dX8_order_32 : decode cX8_order 32 = .ok (.getfield 176, 3) := by decide +kernel
theorem dX8_order_35 : decode cX8_order 35 = .ok (.iload_n 1, 1) := by decide +kernel
theorem dX8_order_36 : decode cX8_order 36 = .ok (.invokestatic 126, 3) := by decide +kernel
theorem dX8_order_39 : decode cX8_order 39 = .ok (.goto 4, 3) := by decide +kernel
theorem dX8_order_42 : decode cX8_order 42 = .ok (.iconst (-1), 1) := by decide +kernel
theorem dX8_order_43 : decode cX8_order 43 = .ok (.ireturn, 1) := by decide +kernel
theorem dX8_all_0 : decode cX8_all 0 = .ok (.aload_n 0, 1) := by decide +kernel
theorem dX8_all_1 : decode cX8_all 1 = .ok (.getfield 36, 3) := by decide +kernel
theorem dX8_all_4 : decode cX8_all 4 = .ok (.invokevirtual 170, 3) := by decide +kernel
theorem dX8_all_7 : decode cX8_all 7 = .ok (.ifCond .eq 13, 3) := by decide +kernel
theorem dX8_all_10 : decode cX8_all 10 = .ok (.aload_n 0, 1) := by decide +kernel
theorem dX8_all_11 : decode cX8_all 11 = .ok (.getfield 41, 3) := by decide +kernel
theorem dX8_all_14 : decode cX8_all 14 = .ok (.getfield 173, 3) := by decide +kernel
theorem dX8_all_17 : decode cX8_all 17 = .ok (.goto 5, 3) := by decide +kernel
theorem dX8_all_20 : decode cX8_all 20 = .ok (.bipush (-2), 2) := by decide +kernel
theorem dX8_all_22 : decode cX8_all 22 = .ok (.ireturn, 1) := by decide +kernel
theorem dX8_done_0 : decode cX8_done 0 = .ok (.aload_n 0, 1) := by decide +kernel
theorem dX8_done_1 : decode cX8_done 1 = .ok (.getfield 36, 3) := by decide +kernel
theorem dX8_done_4 : decode cX8_done 4 = .ok (.invokevirtual 170, 3) := by decide +kernel
theorem dX8_done_7 : decode cX8_done 7 = .ok (.ifCond .eq 20, 3) := by decide +kernel
theorem dX8_done_10 : decode cX8_done 10 = .ok (.aload_n 0, 1) := by decide +kernel
theorem dX8_done_11 : decode cX8_done 11 = .ok (.getfield 41, 3) := by decide +kernel
theorem dX8_done_14 : decode cX8_done 14 = .ok (.aload_n 0, 1) := by decide +kernel
theorem dX8_done_15 : decode cX8_done 15 = .ok (.getfield 36, 3) := by decide +kernel
theorem dX8_done_18 : decode cX8_done 18 = .ok (.getfield 112, 3) := by decide +kernel
theorem dX8_done_21 : decode cX8_done 21 = .ok (.invokevirtual 179, 3) := by decide +kernel
theorem dX8_done_24 : decode cX8_done 24 = .ok (.goto 5, 3) := by decide +kernel
theorem dX8_done_27 : decode cX8_done 27 = .ok (.bipush (-2), 2) := by decide +kernel
theorem dX8_done_29 : decode cX8_done 29 = .ok (.ireturn, 1) := by decide +kernel
theorem dX8_heard_0 : decode cX8_heard 0 = .ok (.iload_n 1, 1) := by decide +kernel
theorem dX8_heard_1 : decode cX8_heard 1 = .ok (.ifCond .lt 18, 3) := by decide +kernel
theorem dX8_heard_4 : decode cX8_heard 4 = .ok (.iload_n 1, 1) := by decide +kernel
theorem dX8_heard_5 : decode cX8_heard 5 = .ok (.iconst 2, 1) := by decide +kernel
theorem dX8_heard_6 : decode cX8_heard 6 = .ok (.if_icmp .gt 13, 3) := by decide +kernel
theorem dX8_heard_9 : decode cX8_heard 9 = .ok (.aload_n 0, 1) := by decide +kernel
theorem dX8_heard_10 : decode cX8_heard 10 = .ok (.getfield 36, 3) := by decide +kernel
theorem dX8_heard_13 : decode cX8_heard 13 = .ok (.invokevirtual 170, 3) := by decide +kernel
theorem dX8_heard_16 : decode cX8_heard 16 = .ok (.ifCond .ne 6, 3) := by decide +kernel
theorem dX8_heard_19 : decode cX8_heard 19 = .ok (.bipush (-2), 2) := by decide +kernel
theorem dX8_heard_21 : decode cX8_heard 21 = .ok (.ireturn, 1) := by decide +kernel
theorem dX8_heard_22 : decode cX8_heard 22 = .ok (.aload_n 0, 1) := by decide +kernel
theorem dX8_heard_23 : decode cX8_heard 23 = .ok (.getfield 41, 3) := by decide +kernel
theorem dX8_heard_26 : decode cX8_heard 26 = .ok (.iload_n 1, 1) := by decide +kernel
theorem dX8_heard_27 : decode cX8_heard 27 = .ok (.aload_n 0, 1) := by decide +kernel
theorem dX8_heard_28 : decode cX8_heard 28 = .ok (.getfield 36, 3) := by decide +kernel
theorem dX8_heard_31 : decode cX8_heard 31 = .ok (.getfield 103, 3) := by decide +kernel
theorem dX8_heard_34 : decode cX8_heard 34 = .ok (.invokevirtual 182, 3) := by decide +kernel
theorem dX8_heard_37 : decode cX8_heard 37 = .ok (.ireturn, 1) := by decide +kernel
theorem dX8_collided_0 : decode cX8_collided 0 = .ok (.aload_n 0, 1) := by decide +kernel
theorem dX8_collided_1 : decode cX8_collided 1 = .ok (.getfield 36, 3) := by decide +kernel
theorem dX8_collided_4 : decode cX8_collided 4 = .ok (.invokevirtual 170, 3) := by decide +kernel
theorem dX8_collided_7 : decode cX8_collided 7 = .ok (.ifCond .eq 20, 3) := by decide +kernel
theorem dX8_collided_10 : decode cX8_collided 10 = .ok (.aload_n 0, 1) := by decide +kernel
theorem dX8_collided_11 : decode cX8_collided 11 = .ok (.getfield 41, 3) := by decide +kernel
theorem dX8_collided_14 : decode cX8_collided 14 = .ok (.aload_n 0, 1) := by decide +kernel
theorem dX8_collided_15 : decode cX8_collided 15 = .ok (.getfield 36, 3) := by decide +kernel
theorem dX8_collided_18 : decode cX8_collided 18 = .ok (.getfield 103, 3) := by decide +kernel
theorem dX8_collided_21 : decode cX8_collided 21 = .ok (.invokevirtual 185, 3) := by decide +kernel
theorem dX8_collided_24 : decode cX8_collided 24 = .ok (.goto 5, 3) := by decide +kernel
theorem dX8_collided_27 : decode cX8_collided 27 = .ok (.bipush (-2), 2) := by decide +kernel
theorem dX8_collided_29 : decode cX8_collided 29 = .ok (.ireturn, 1) := by decide +kernel
theorem dX8_skips_0 : decode cX8_skips 0 = .ok (.aload_n 0, 1) := by decide +kernel
theorem dX8_skips_1 : decode cX8_skips 1 = .ok (.getfield 36, 3) := by decide +kernel
theorem dX8_skips_4 : decode cX8_skips 4 = .ok (.invokevirtual 170, 3) := by decide +kernel
theorem dX8_skips_7 : decode cX8_skips 7 = .ok (.ifCond .eq 20, 3) := by decide +kernel
theorem dX8_skips_10 : decode cX8_skips 10 = .ok (.aload_n 0, 1) := by decide +kernel
theorem dX8_skips_11 : decode cX8_skips 11 = .ok (.getfield 41, 3) := by decide +kernel
theorem dX8_skips_14 : decode cX8_skips 14 = .ok (.aload_n 0, 1) := by decide +kernel
theorem dX8_skips_15 : decode cX8_skips 15 = .ok (.getfield 36, 3) := by decide +kernel
theorem dX8_skips_18 : decode cX8_skips 18 = .ok (.getfield 103, 3) := by decide +kernel
theorem dX8_skips_21 : decode cX8_skips 21 = .ok (.invokevirtual 188, 3) := by decide +kernel
theorem dX8_skips_24 : decode cX8_skips 24 = .ok (.goto 5, 3) := by decide +kernel
theorem dX8_skips_27 : decode cX8_skips 27 = .ok (.bipush (-2), 2) := by decide +kernel
theorem dX8_skips_29 : decode cX8_skips 29 = .ok (.ireturn, 1) := by decide +kernel
theorem dX8_deepest_0 : decode cX8_deepest 0 = .ok (.aload_n 0, 1) := by decide +kernel
theorem dX8_deepest_1 : decode cX8_deepest 1 = .ok (.getfield 36, 3) := by decide +kernel
theorem dX8_deepest_4 : decode cX8_deepest 4 = .ok (.invokevirtual 170, 3) := by decide +kernel
theorem dX8_deepest_7 : decode cX8_deepest 7 = .ok (.ifCond .eq 20, 3) := by decide +kernel
theorem dX8_deepest_10 : decode cX8_deepest 10 = .ok (.aload_n 0, 1) := by decide +kernel
theorem dX8_deepest_11 : decode cX8_deepest 11 = .ok (.getfield 41, 3) := by decide +kernel
theorem dX8_deepest_14 : decode cX8_deepest 14 = .ok (.aload_n 0, 1) := by decide +kernel
theorem dX8_deepest_15 : decode cX8_deepest 15 = .ok (.getfield 36, 3) := by decide +kernel
theorem dX8_deepest_18 : decode cX8_deepest 18 = .ok (.getfield 103, 3) := by decide +kernel
theorem dX8_deepest_21 : decode cX8_deepest 21 = .ok (.invokevirtual 191, 3) := by decide +kernel
theorem dX8_deepest_24 : decode cX8_deepest 24 = .ok (.goto 5, 3) := by decide +kernel
theorem dX8_deepest_27 : decode cX8_deepest 27 = .ok (.bipush (-2), 2) := by decide +kernel
theorem dX8_deepest_29 : decode cX8_deepest 29 = .ok (.ireturn, 1) := by decide +kernel
theorem dX8_epochs_0 : decode cX8_epochs 0 = .ok (.aload_n 0, 1) := by decide +kernel
theorem dX8_epochs_1 : decode cX8_epochs 1 = .ok (.getfield 36, 3) := by decide +kernel
theorem dX8_epochs_4 : decode cX8_epochs 4 = .ok (.invokevirtual 170, 3) := by decide +kernel
theorem dX8_epochs_7 : decode cX8_epochs 7 = .ok (.ifCond .eq 13, 3) := by decide +kernel
theorem dX8_epochs_10 : decode cX8_epochs 10 = .ok (.aload_n 0, 1) := by decide +kernel
theorem dX8_epochs_11 : decode cX8_epochs 11 = .ok (.getfield 41, 3) := by decide +kernel
theorem dX8_epochs_14 : decode cX8_epochs 14 = .ok (.getfield 194, 3) := by decide +kernel
theorem dX8_epochs_17 : decode cX8_epochs 17 = .ok (.goto 5, 3) := by decide +kernel
theorem dX8_epochs_20 : decode cX8_epochs 20 = .ok (.bipush (-2), 2) := by decide +kernel
theorem dX8_epochs_22 : decode cX8_epochs 22 = .ok (.ireturn, 1) := by decide +kernel
theorem dX8_epoch_0 : decode cX8_epoch 0 = .ok (.iload_n 1, 1) := by decide +kernel
theorem dX8_epoch_1 : decode cX8_epoch 1 = .ok (.ifCond .lt 22, 3) := by decide +kernel
theorem dX8_epoch_4 : decode cX8_epoch 4 = .ok (.iload_n 2, 1) := by decide +kernel
theorem dX8_epoch_5 : decode cX8_epoch 5 = .ok (.ifCond .lt 18, 3) := by decide +kernel
theorem dX8_epoch_8 : decode cX8_epoch 8 = .ok (.iload_n 2, 1) := by decide +kernel
theorem dX8_epoch_9 : decode cX8_epoch 9 = .ok (.iconst 2, 1) := by decide +kernel
theorem dX8_epoch_10 : decode cX8_epoch 10 = .ok (.if_icmp .gt 13, 3) := by decide +kernel
theorem dX8_epoch_13 : decode cX8_epoch 13 = .ok (.aload_n 0, 1) := by decide +kernel
theorem dX8_epoch_14 : decode cX8_epoch 14 = .ok (.getfield 36, 3) := by decide +kernel
theorem dX8_epoch_17 : decode cX8_epoch 17 = .ok (.invokevirtual 170, 3) := by decide +kernel
theorem dX8_epoch_20 : decode cX8_epoch 20 = .ok (.ifCond .ne 6, 3) := by decide +kernel
theorem dX8_epoch_23 : decode cX8_epoch 23 = .ok (.bipush (-2), 2) := by decide +kernel
theorem dX8_epoch_25 : decode cX8_epoch 25 = .ok (.ireturn, 1) := by decide +kernel
theorem dX8_epoch_26 : decode cX8_epoch 26 = .ok (.iload_n 1, 1) := by decide +kernel
theorem dX8_epoch_27 : decode cX8_epoch 27 = .ok (.aload_n 0, 1) := by decide +kernel
theorem dX8_epoch_28 : decode cX8_epoch 28 = .ok (.getfield 41, 3) := by decide +kernel
theorem dX8_epoch_31 : decode cX8_epoch 31 = .ok (.getfield 194, 3) := by decide +kernel
theorem dX8_epoch_34 : decode cX8_epoch 34 = .ok (.if_icmp .lt 5, 3) := by decide +kernel
theorem dX8_epoch_37 : decode cX8_epoch 37 = .ok (.iconst (-1), 1) := by decide +kernel
theorem dX8_epoch_38 : decode cX8_epoch 38 = .ok (.ireturn, 1) := by decide +kernel
theorem dX8_epoch_39 : decode cX8_epoch 39 = .ok (.iload_n 2, 1) := by decide +kernel
theorem dX8_epoch_40 : decode cX8_epoch 40 = .ok (.lookupswitch 52 #[(0, 28), (1, 40)], 28) := by decide +kernel
theorem dX8_epoch_68 : decode cX8_epoch 68 = .ok (.aload_n 0, 1) := by decide +kernel
theorem dX8_epoch_69 : decode cX8_epoch 69 = .ok (.getfield 41, 3) := by decide +kernel
theorem dX8_epoch_72 : decode cX8_epoch 72 = .ok (.getfield 197, 3) := by decide +kernel
theorem dX8_epoch_75 : decode cX8_epoch 75 = .ok (.iload_n 1, 1) := by decide +kernel
theorem dX8_epoch_76 : decode cX8_epoch 76 = .ok (.invokestatic 126, 3) := by decide +kernel
theorem dX8_epoch_79 : decode cX8_epoch 79 = .ok (.ireturn, 1) := by decide +kernel
theorem dX8_epoch_80 : decode cX8_epoch 80 = .ok (.aload_n 0, 1) := by decide +kernel
theorem dX8_epoch_81 : decode cX8_epoch 81 = .ok (.getfield 41, 3) := by decide +kernel
theorem dX8_epoch_84 : decode cX8_epoch 84 = .ok (.getfield 200, 3) := by decide +kernel
theorem dX8_epoch_87 : decode cX8_epoch 87 = .ok (.iload_n 1, 1) := by decide +kernel
theorem dX8_epoch_88 : decode cX8_epoch 88 = .ok (.invokestatic 126, 3) := by decide +kernel
theorem dX8_epoch_91 : decode cX8_epoch 91 = .ok (.ireturn, 1) := by decide +kernel
theorem dX8_epoch_92 : decode cX8_epoch 92 = .ok (.aload_n 0, 1) := by decide +kernel
theorem dX8_epoch_93 : decode cX8_epoch 93 = .ok (.getfield 41, 3) := by decide +kernel
theorem dX8_epoch_96 : decode cX8_epoch 96 = .ok (.getfield 203, 3) := by decide +kernel
theorem dX8_epoch_99 : decode cX8_epoch 99 = .ok (.iload_n 1, 1) := by decide +kernel
theorem dX8_epoch_100 : decode cX8_epoch 100 = .ok (.invokestatic 126, 3) := by decide +kernel
theorem dX8_epoch_103 : decode cX8_epoch 103 = .ok (.ireturn, 1) := by decide +kernel
theorem dX8_behind_0 : decode cX8_behind 0 = .ok (.aload_n 0, 1) := by decide +kernel
theorem dX8_behind_1 : decode cX8_behind 1 = .ok (.getfield 36, 3) := by decide +kernel
theorem dX8_behind_4 : decode cX8_behind 4 = .ok (.iload_n 1, 1) := by decide +kernel
theorem dX8_behind_5 : decode cX8_behind 5 = .ok (.invokevirtual 118, 3) := by decide +kernel
theorem dX8_behind_8 : decode cX8_behind 8 = .ok (.ifCond .ne 6, 3) := by decide +kernel
theorem dX8_behind_11 : decode cX8_behind 11 = .ok (.bipush (-2), 2) := by decide +kernel
theorem dX8_behind_13 : decode cX8_behind 13 = .ok (.ireturn, 1) := by decide +kernel
theorem dX8_behind_14 : decode cX8_behind 14 = .ok (.aload_n 0, 1) := by decide +kernel
theorem dX8_behind_15 : decode cX8_behind 15 = .ok (.getfield 41, 3) := by decide +kernel
theorem dX8_behind_18 : decode cX8_behind 18 = .ok (.getfield 161, 3) := by decide +kernel
theorem dX8_behind_21 : decode cX8_behind 21 = .ok (.iload_n 1, 1) := by decide +kernel
theorem dX8_behind_22 : decode cX8_behind 22 = .ok (.invokestatic 126, 3) := by decide +kernel
theorem dX8_behind_25 : decode cX8_behind 25 = .ok (.istore_n 2, 1) := by decide +kernel
theorem dX8_behind_26 : decode cX8_behind 26 = .ok (.iload_n 2, 1) := by decide +kernel
theorem dX8_behind_27 : decode cX8_behind 27 = .ok (.iconst (-1), 1) := by decide +kernel
theorem dX8_behind_28 : decode cX8_behind 28 = .ok (.if_icmp .ne 15, 3) := by decide +kernel
theorem dX8_behind_31 : decode cX8_behind 31 = .ok (.aload_n 0, 1) := by decide +kernel
theorem dX8_behind_32 : decode cX8_behind 32 = .ok (.getfield 36, 3) := by decide +kernel
theorem dX8_behind_35 : decode cX8_behind 35 = .ok (.getfield 103, 3) := by decide +kernel
theorem dX8_behind_38 : decode cX8_behind 38 = .ok (.iconst 1, 1) := by decide +kernel
theorem dX8_behind_39 : decode cX8_behind 39 = .ok (.isub, 1) := by decide +kernel
theorem dX8_behind_40 : decode cX8_behind 40 = .ok (.goto 4, 3) := by decide +kernel
theorem dX8_behind_43 : decode cX8_behind 43 = .ok (.iload_n 2, 1) := by decide +kernel
theorem dX8_behind_44 : decode cX8_behind 44 = .ok (.istore_n 3, 1) := by decide +kernel
theorem dX8_behind_45 : decode cX8_behind 45 = .ok (.iconst 0, 1) := by decide +kernel
theorem dX8_behind_46 : decode cX8_behind 46 = .ok (.istore 4, 2) := by decide +kernel
theorem dX8_behind_48 : decode cX8_behind 48 = .ok (.aload_n 0, 1) := by decide +kernel
theorem dX8_behind_49 : decode cX8_behind 49 = .ok (.getfield 36, 3) := by decide +kernel
theorem dX8_behind_52 : decode cX8_behind 52 = .ok (.getfield 122, 3) := by decide +kernel
theorem dX8_behind_55 : decode cX8_behind 55 = .ok (.iload_n 1, 1) := by decide +kernel
theorem dX8_behind_56 : decode cX8_behind 56 = .ok (.invokestatic 126, 3) := by decide +kernel
theorem dX8_behind_59 : decode cX8_behind 59 = .ok (.istore 5, 2) := by decide +kernel
theorem dX8_behind_61 : decode cX8_behind 61 = .ok (.iload 5, 2) := by decide +kernel
theorem dX8_behind_63 : decode cX8_behind 63 = .ok (.iload_n 3, 1) := by decide +kernel
theorem dX8_behind_64 : decode cX8_behind 64 = .ok (.if_icmp .gt 38, 3) := by decide +kernel
theorem dX8_behind_67 : decode cX8_behind 67 = .ok (.aload_n 0, 1) := by decide +kernel
theorem dX8_behind_68 : decode cX8_behind 68 = .ok (.getfield 41, 3) := by decide +kernel
theorem dX8_behind_71 : decode cX8_behind 71 = .ok (.getfield 152, 3) := by decide +kernel
theorem dX8_behind_74 : decode cX8_behind 74 = .ok (.iload 5, 2) := by decide +kernel
theorem dX8_behind_76 : decode cX8_behind 76 = .ok (.invokestatic 126, 3) := by decide +kernel
theorem dX8_behind_79 : decode cX8_behind 79 = .ok (.istore 6, 2) := by decide +kernel
theorem dX8_behind_81 : decode cX8_behind 81 = .ok (.iload 6, 2) := by decide +kernel
theorem dX8_behind_83 : decode cX8_behind 83 = .ok (.iconst (-1), 1) := by decide +kernel
theorem dX8_behind_84 : decode cX8_behind 84 = .ok (.if_icmp .eq 12, 3) := by decide +kernel
theorem dX8_behind_87 : decode cX8_behind 87 = .ok (.iload 6, 2) := by decide +kernel
theorem dX8_behind_89 : decode cX8_behind 89 = .ok (.iload_n 1, 1) := by decide +kernel
theorem dX8_behind_90 : decode cX8_behind 90 = .ok (.if_icmp .eq 6, 3) := by decide +kernel
theorem dX8_behind_93 : decode cX8_behind 93 = .ok (.iinc 4 1, 3) := by decide +kernel
theorem dX8_behind_96 : decode cX8_behind 96 = .ok (.iinc 5 1, 3) := by decide +kernel
theorem dX8_behind_99 : decode cX8_behind 99 = .ok (.goto (-38), 3) := by decide +kernel
theorem dX8_behind_102 : decode cX8_behind 102 = .ok (.iload 4, 2) := by decide +kernel
theorem dX8_behind_104 : decode cX8_behind 104 = .ok (.ireturn, 1) := by decide +kernel
theorem dX8_by_0 : decode cX8_by 0 = .ok (.iload_n 1, 1) := by decide +kernel
theorem dX8_by_1 : decode cX8_by 1 = .ok (.invokestatic 206, 3) := by decide +kernel
theorem dX8_by_4 : decode cX8_by 4 = .ok (.ifCond .eq 22, 3) := by decide +kernel
theorem dX8_by_7 : decode cX8_by 7 = .ok (.iload_n 2, 1) := by decide +kernel
theorem dX8_by_8 : decode cX8_by 8 = .ok (.ifCond .lt 18, 3) := by decide +kernel
theorem dX8_by_11 : decode cX8_by 11 = .ok (.iload_n 2, 1) := by decide +kernel
theorem dX8_by_12 : decode cX8_by 12 = .ok (.iconst 3, 1) := by decide +kernel
theorem dX8_by_13 : decode cX8_by 13 = .ok (.if_icmp .gt 13, 3) := by decide +kernel
theorem dX8_by_16 : decode cX8_by 16 = .ok (.aload_n 0, 1) := by decide +kernel
theorem dX8_by_17 : decode cX8_by 17 = .ok (.getfield 36, 3) := by decide +kernel
theorem dX8_by_20 : decode cX8_by 20 = .ok (.invokevirtual 170, 3) := by decide +kernel
theorem dX8_by_23 : decode cX8_by 23 = .ok (.ifCond .ne 6, 3) := by decide +kernel
theorem dX8_by_26 : decode cX8_by 26 = .ok (.bipush (-2), 2) := by decide +kernel
theorem dX8_by_28 : decode cX8_by 28 = .ok (.ireturn, 1) := by decide +kernel
theorem dX8_by_29 : decode cX8_by 29 = .ok (.aload_n 0, 1) := by decide +kernel
theorem dX8_by_30 : decode cX8_by 30 = .ok (.getfield 29, 3) := by decide +kernel
theorem dX8_by_33 : decode cX8_by 33 = .ok (.aload_n 0, 1) := by decide +kernel
theorem dX8_by_34 : decode cX8_by 34 = .ok (.getfield 47, 3) := by decide +kernel
theorem dX8_by_37 : decode cX8_by 37 = .ok (.iload_n 1, 1) := by decide +kernel
theorem dX8_by_38 : decode cX8_by 38 = .ok (.iconst (-1), 1) := by decide +kernel
theorem dX8_by_39 : decode cX8_by 39 = .ok (.iconst (-1), 1) := by decide +kernel
theorem dX8_by_40 : decode cX8_by 40 = .ok (.invokevirtual 90, 3) := by decide +kernel
theorem dX8_by_43 : decode cX8_by 43 = .ok (.pop, 1) := by decide +kernel
theorem dX8_by_44 : decode cX8_by 44 = .ok (.iload_n 2, 1) := by decide +kernel
theorem dX8_by_45 : decode cX8_by 45 = .ok (.tableswitch 65 0 2 #[27, 42, 50], 27) := by decide +kernel
theorem dX8_by_72 : decode cX8_by 72 = .ok (.aload_n 0, 1) := by decide +kernel
theorem dX8_by_73 : decode cX8_by 73 = .ok (.getfield 47, 3) := by decide +kernel
theorem dX8_by_76 : decode cX8_by 76 = .ok (.aload_n 0, 1) := by decide +kernel
theorem dX8_by_77 : decode cX8_by 77 = .ok (.getfield 36, 3) := by decide +kernel
theorem dX8_by_80 : decode cX8_by 80 = .ok (.getfield 112, 3) := by decide +kernel
theorem dX8_by_83 : decode cX8_by 83 = .ok (.invokevirtual 179, 3) := by decide +kernel
theorem dX8_by_86 : decode cX8_by 86 = .ok (.ireturn, 1) := by decide +kernel
theorem dX8_by_87 : decode cX8_by 87 = .ok (.aload_n 0, 1) := by decide +kernel
theorem dX8_by_88 : decode cX8_by 88 = .ok (.getfield 47, 3) := by decide +kernel
theorem dX8_by_91 : decode cX8_by 91 = .ok (.getfield 173, 3) := by decide +kernel
theorem dX8_by_94 : decode cX8_by 94 = .ok (.ireturn, 1) := by decide +kernel
theorem dX8_by_95 : decode cX8_by 95 = .ok (.aload_n 0, 1) := by decide +kernel
theorem dX8_by_96 : decode cX8_by 96 = .ok (.getfield 47, 3) := by decide +kernel
theorem dX8_by_99 : decode cX8_by 99 = .ok (.aload_n 0, 1) := by decide +kernel
theorem dX8_by_100 : decode cX8_by 100 = .ok (.getfield 36, 3) := by decide +kernel
theorem dX8_by_103 : decode cX8_by 103 = .ok (.getfield 103, 3) := by decide +kernel
theorem dX8_by_106 : decode cX8_by 106 = .ok (.invokevirtual 185, 3) := by decide +kernel
theorem dX8_by_109 : decode cX8_by 109 = .ok (.ireturn, 1) := by decide +kernel
theorem dX8_by_110 : decode cX8_by 110 = .ok (.aload_n 0, 1) := by decide +kernel
theorem dX8_by_111 : decode cX8_by 111 = .ok (.getfield 47, 3) := by decide +kernel
theorem dX8_by_114 : decode cX8_by 114 = .ok (.aload_n 0, 1) := by decide +kernel
theorem dX8_by_115 : decode cX8_by 115 = .ok (.getfield 36, 3) := by decide +kernel
theorem dX8_by_118 : decode cX8_by 118 = .ok (.getfield 103, 3) := by decide +kernel
theorem dX8_by_121 : decode cX8_by 121 = .ok (.invokevirtual 188, 3) := by decide +kernel
theorem dX8_by_124 : decode cX8_by 124 = .ok (.ireturn, 1) := by decide +kernel
theorem dX8_without_0 : decode cX8_without 0 = .ok (.aload_n 0, 1) := by decide +kernel
theorem dX8_without_1 : decode cX8_without 1 = .ok (.getfield 36, 3) := by decide +kernel
theorem dX8_without_4 : decode cX8_without 4 = .ok (.iload_n 1, 1) := by decide +kernel
theorem dX8_without_5 : decode cX8_without 5 = .ok (.invokevirtual 209, 3) := by decide +kernel
theorem dX8_without_8 : decode cX8_without 8 = .ok (.ifCond .ne 6, 3) := by decide +kernel
theorem dX8_without_11 : decode cX8_without 11 = .ok (.bipush (-99), 2) := by decide +kernel
theorem dX8_without_13 : decode cX8_without 13 = .ok (.ireturn, 1) := by decide +kernel
theorem dX8_without_14 : decode cX8_without 14 = .ok (.aload_n 0, 1) := by decide +kernel
theorem dX8_without_15 : decode cX8_without 15 = .ok (.getfield 29, 3) := by decide +kernel
theorem dX8_without_18 : decode cX8_without 18 = .ok (.aload_n 0, 1) := by decide +kernel
theorem dX8_without_19 : decode cX8_without 19 = .ok (.getfield 47, 3) := by decide +kernel
theorem dX8_without_22 : decode cX8_without 22 = .ok (.aload_n 0, 1) := by decide +kernel
theorem dX8_without_23 : decode cX8_without 23 = .ok (.getfield 36, 3) := by decide +kernel
theorem dX8_without_26 : decode cX8_without 26 = .ok (.getfield 87, 3) := by decide +kernel
theorem dX8_without_29 : decode cX8_without 29 = .ok (.iload_n 1, 1) := by decide +kernel
theorem dX8_without_30 : decode cX8_without 30 = .ok (.iconst (-1), 1) := by decide +kernel
theorem dX8_without_31 : decode cX8_without 31 = .ok (.invokevirtual 90, 3) := by decide +kernel
theorem dX8_without_34 : decode cX8_without 34 = .ok (.aload_n 0, 1) := by decide +kernel
theorem dX8_without_35 : decode cX8_without 35 = .ok (.getfield 41, 3) := by decide +kernel
theorem dX8_without_38 : decode cX8_without 38 = .ok (.getfield 173, 3) := by decide +kernel
theorem dX8_without_41 : decode cX8_without 41 = .ok (.isub, 1) := by decide +kernel
theorem dX8_without_42 : decode cX8_without 42 = .ok (.ireturn, 1) := by decide +kernel
theorem dX8_noise_0 : decode cX8_noise 0 = .ok (.aload_n 0, 1) := by decide +kernel
theorem dX8_noise_1 : decode cX8_noise 1 = .ok (.getfield 36, 3) := by decide +kernel
theorem dX8_noise_4 : decode cX8_noise 4 = .ok (.iload_n 1, 1) := by decide +kernel
theorem dX8_noise_5 : decode cX8_noise 5 = .ok (.invokevirtual 209, 3) := by decide +kernel
theorem dX8_noise_8 : decode cX8_noise 8 = .ok (.ifCond .ne 6, 3) := by decide +kernel
theorem dX8_noise_11 : decode cX8_noise 11 = .ok (.bipush (-2), 2) := by decide +kernel
theorem dX8_noise_13 : decode cX8_noise 13 = .ok (.ireturn, 1) := by decide +kernel
theorem dX8_noise_14 : decode cX8_noise 14 = .ok (.iload_n 2, 1) := by decide +kernel
theorem dX8_noise_15 : decode cX8_noise 15 = .ok (.lookupswitch 49 #[(0, 25), (1, 37)], 25) := by decide +kernel
theorem dX8_noise_40 : decode cX8_noise 40 = .ok (.aload_n 0, 1) := by decide +kernel
theorem dX8_noise_41 : decode cX8_noise 41 = .ok (.getfield 36, 3) := by decide +kernel
theorem dX8_noise_44 : decode cX8_noise 44 = .ok (.getfield 212, 3) := by decide +kernel
theorem dX8_noise_47 : decode cX8_noise 47 = .ok (.iload_n 1, 1) := by decide +kernel
theorem dX8_noise_48 : decode cX8_noise 48 = .ok (.invokestatic 126, 3) := by decide +kernel
theorem dX8_noise_51 : decode cX8_noise 51 = .ok (.ireturn, 1) := by decide +kernel
theorem dX8_noise_52 : decode cX8_noise 52 = .ok (.aload_n 0, 1) := by decide +kernel
theorem dX8_noise_53 : decode cX8_noise 53 = .ok (.getfield 36, 3) := by decide +kernel
theorem dX8_noise_56 : decode cX8_noise 56 = .ok (.getfield 215, 3) := by decide +kernel
theorem dX8_noise_59 : decode cX8_noise 59 = .ok (.iload_n 1, 1) := by decide +kernel
theorem dX8_noise_60 : decode cX8_noise 60 = .ok (.invokestatic 126, 3) := by decide +kernel
theorem dX8_noise_63 : decode cX8_noise 63 = .ok (.ireturn, 1) := by decide +kernel
theorem dX8_noise_64 : decode cX8_noise 64 = .ok (.bipush (-2), 2) := by decide +kernel
theorem dX8_noise_66 : decode cX8_noise 66 = .ok (.ireturn, 1) := by decide +kernel
theorem dX8_alone_0 : decode cX8_alone 0 = .ok (.aload_n 0, 1) := by decide +kernel
theorem dX8_alone_1 : decode cX8_alone 1 = .ok (.getfield 36, 3) := by decide +kernel
theorem dX8_alone_4 : decode cX8_alone 4 = .ok (.iload_n 1, 1) := by decide +kernel
theorem dX8_alone_5 : decode cX8_alone 5 = .ok (.invokevirtual 118, 3) := by decide +kernel
theorem dX8_alone_8 : decode cX8_alone 8 = .ok (.ifCond .ne 6, 3) := by decide +kernel
theorem dX8_alone_11 : decode cX8_alone 11 = .ok (.bipush (-2), 2) := by decide +kernel
theorem dX8_alone_13 : decode cX8_alone 13 = .ok (.ireturn, 1) := by decide +kernel
theorem dX8_alone_14 : decode cX8_alone 14 = .ok (.aload_n 0, 1) := by decide +kernel
theorem dX8_alone_15 : decode cX8_alone 15 = .ok (.getfield 29, 3) := by decide +kernel
theorem dX8_alone_18 : decode cX8_alone 18 = .ok (.aload_n 0, 1) := by decide +kernel
theorem dX8_alone_19 : decode cX8_alone 19 = .ok (.getfield 47, 3) := by decide +kernel
theorem dX8_alone_22 : decode cX8_alone 22 = .ok (.aload_n 0, 1) := by decide +kernel
theorem dX8_alone_23 : decode cX8_alone 23 = .ok (.getfield 36, 3) := by decide +kernel
theorem dX8_alone_26 : decode cX8_alone 26 = .ok (.getfield 87, 3) := by decide +kernel
theorem dX8_alone_29 : decode cX8_alone 29 = .ok (.iconst (-1), 1) := by decide +kernel
theorem dX8_alone_30 : decode cX8_alone 30 = .ok (.iload_n 1, 1) := by decide +kernel
theorem dX8_alone_31 : decode cX8_alone 31 = .ok (.invokevirtual 90, 3) := by decide +kernel
theorem dX8_alone_34 : decode cX8_alone 34 = .ok (.ireturn, 1) := by decide +kernel
theorem dX8_worst_0 : decode cX8_worst 0 = .ok (.aload_n 0, 1) := by decide +kernel
theorem dX8_worst_1 : decode cX8_worst 1 = .ok (.getfield 36, 3) := by decide +kernel
theorem dX8_worst_4 : decode cX8_worst 4 = .ok (.invokevirtual 170, 3) := by decide +kernel
theorem dX8_worst_7 : decode cX8_worst 7 = .ok (.ifCond .ne 6, 3) := by decide +kernel
theorem dX8_worst_10 : decode cX8_worst 10 = .ok (.bipush (-2), 2) := by decide +kernel
theorem dX8_worst_12 : decode cX8_worst 12 = .ok (.ireturn, 1) := by decide +kernel
theorem dX8_worst_13 : decode cX8_worst 13 = .ok (.iconst (-1), 1) := by decide +kernel
theorem dX8_worst_14 : decode cX8_worst 14 = .ok (.istore_n 1, 1) := by decide +kernel
theorem dX8_worst_15 : decode cX8_worst 15 = .ok (.iconst 0, 1) := by decide +kernel
theorem dX8_worst_16 : decode cX8_worst 16 = .ok (.istore_n 2, 1) := by decide +kernel
theorem dX8_worst_17 : decode cX8_worst 17 = .ok (.iconst 0, 1) := by decide +kernel
theorem dX8_worst_18 : decode cX8_worst 18 = .ok (.istore_n 3, 1) := by decide +kernel
theorem dX8_worst_19 : decode cX8_worst 19 = .ok (.iload_n 3, 1) := by decide +kernel
theorem dX8_worst_20 : decode cX8_worst 20 = .ok (.aload_n 0, 1) := by decide +kernel
theorem dX8_worst_21 : decode cX8_worst 21 = .ok (.getfield 36, 3) := by decide +kernel
theorem dX8_worst_24 : decode cX8_worst 24 = .ok (.getfield 115, 3) := by decide +kernel
theorem dX8_worst_27 : decode cX8_worst 27 = .ok (.if_icmp .ge 50, 3) := by decide +kernel
theorem dX8_worst_30 : decode cX8_worst 30 = .ok (.aload_n 0, 1) := by decide +kernel
theorem dX8_worst_31 : decode cX8_worst 31 = .ok (.getfield 29, 3) := by decide +kernel
theorem dX8_worst_34 : decode cX8_worst 34 = .ok (.aload_n 0, 1) := by decide +kernel
theorem dX8_worst_35 : decode cX8_worst 35 = .ok (.getfield 47, 3) := by decide +kernel
theorem dX8_worst_38 : decode cX8_worst 38 = .ok (.aload_n 0, 1) := by decide +kernel
theorem dX8_worst_39 : decode cX8_worst 39 = .ok (.getfield 36, 3) := by decide +kernel
theorem dX8_worst_42 : decode cX8_worst 42 = .ok (.getfield 87, 3) := by decide +kernel
theorem dX8_worst_45 : decode cX8_worst 45 = .ok (.iload_n 3, 1) := by decide +kernel
theorem dX8_worst_46 : decode cX8_worst 46 = .ok (.iconst (-1), 1) := by decide +kernel
theorem dX8_worst_47 : decode cX8_worst 47 = .ok (.invokevirtual 90, 3) := by decide +kernel
theorem dX8_worst_50 : decode cX8_worst 50 = .ok (.aload_n 0, 1) := by decide +kernel
theorem dX8_worst_51 : decode cX8_worst 51 = .ok (.getfield 41, 3) := by decide +kernel
theorem dX8_worst_54 : decode cX8_worst 54 = .ok (.getfield 173, 3) := by decide +kernel
theorem dX8_worst_57 : decode cX8_worst 57 = .ok (.isub, 1) := by decide +kernel
theorem dX8_worst_58 : decode cX8_worst 58 = .ok (.istore 4, 2) := by decide +kernel
theorem dX8_worst_60 : decode cX8_worst 60 = .ok (.iload 4, 2) := by decide +kernel
theorem dX8_worst_62 : decode cX8_worst 62 = .ok (.iload_n 2, 1) := by decide +kernel
theorem dX8_worst_63 : decode cX8_worst 63 = .ok (.if_icmp .le 8, 3) := by decide +kernel
theorem dX8_worst_66 : decode cX8_worst 66 = .ok (.iload 4, 2) := by decide +kernel
theorem dX8_worst_68 : decode cX8_worst 68 = .ok (.istore_n 2, 1) := by decide +kernel
theorem dX8_worst_69 : decode cX8_worst 69 = .ok (.iload_n 3, 1) := by decide +kernel
theorem dX8_worst_70 : decode cX8_worst 70 = .ok (.istore_n 1, 1) := by decide +kernel
theorem dX8_worst_71 : decode cX8_worst 71 = .ok (.iinc 3 1, 3) := by decide +kernel
theorem dX8_worst_74 : decode cX8_worst 74 = .ok (.goto (-55), 3) := by decide +kernel
theorem dX8_worst_77 : decode cX8_worst 77 = .ok (.iload_n 1, 1) := by decide +kernel
theorem dX8_worst_78 : decode cX8_worst 78 = .ok (.ireturn, 1) := by decide +kernel
theorem dX8_mean_0 : decode cX8_mean 0 = .ok (.iload_n 1, 1) := by decide +kernel
theorem dX8_mean_1 : decode cX8_mean 1 = .ok (.invokestatic 218, 3) := by decide +kernel
theorem dX8_mean_4 : decode cX8_mean 4 = .ok (.ifCond .eq 20, 3) := by decide +kernel
theorem dX8_mean_7 : decode cX8_mean 7 = .ok (.iload_n 2, 1) := by decide +kernel
theorem dX8_mean_8 : decode cX8_mean 8 = .ok (.ifCond .lt 16, 3) := by decide +kernel
theorem dX8_mean_11 : decode cX8_mean 11 = .ok (.iload_n 2, 1) := by decide +kernel
theorem dX8_mean_12 : decode cX8_mean 12 = .ok (.bipush 8, 2) := by decide +kernel
theorem dX8_mean_14 : decode cX8_mean 14 = .ok (.if_icmp .gt 10, 3) := by decide +kernel
theorem dX8_mean_17 : decode cX8_mean 17 = .ok (.iload_n 3, 1) := by decide +kernel
theorem dX8_mean_18 : decode cX8_mean 18 = .ok (.invokestatic 221, 3) := by decide +kernel
theorem dX8_mean_21 : decode cX8_mean 21 = .ok (.ifCond .ne 7, 3) := by decide +kernel
theorem dX8_mean_24 : decode cX8_mean 24 = .ok (.ldc2_w 224, 3) := by decide +kernel
theorem dX8_mean_27 : decode cX8_mean 27 = .ok (.lreturn, 1) := by decide +kernel
theorem dX8_mean_28 : decode cX8_mean 28 = .ok (.aload_n 0, 1) := by decide +kernel
theorem dX8_mean_29 : decode cX8_mean 29 = .ok (.getfield 60, 3) := by decide +kernel
theorem dX8_mean_32 : decode cX8_mean 32 = .ok (.iload_n 1, 1) := by decide +kernel
theorem dX8_mean_33 : decode cX8_mean 33 = .ok (.iload_n 2, 1) := by decide +kernel
theorem dX8_mean_34 : decode cX8_mean 34 = .ok (.iconst 1, 1) := by decide +kernel
theorem dX8_mean_35 : decode cX8_mean 35 = .ok (.iconst 2, 1) := by decide +kernel
theorem dX8_mean_36 : decode cX8_mean 36 = .ok (.invokevirtual 226, 3) := by decide +kernel
theorem dX8_mean_39 : decode cX8_mean 39 = .ok (.iload_n 3, 1) := by decide +kernel
theorem dX8_mean_40 : decode cX8_mean 40 = .ok (.ifCond .ne 17, 3) := by decide +kernel
theorem dX8_mean_43 : decode cX8_mean 43 = .ok (.aload_n 0, 1) := by decide +kernel
theorem dX8_mean_44 : decode cX8_mean 44 = .ok (.getfield 60, 3) := by decide +kernel
theorem dX8_mean_47 : decode cX8_mean 47 = .ok (.getfield 230, 3) := by decide +kernel
theorem dX8_mean_50 : decode cX8_mean 50 = .ok (.iload_n 2, 1) := by decide +kernel
theorem dX8_mean_51 : decode cX8_mean 51 = .ok (.invokestatic 234, 3) := by decide +kernel
theorem dX8_mean_54 : decode cX8_mean 54 = .ok (.goto 14, 3) := by decide +kernel
theorem dX8_mean_57 : decode cX8_mean 57 = .ok (.aload_n 0, 1) := by decide +kernel
theorem dX8_mean_58 : decode cX8_mean 58 = .ok (.getfield 60, 3) := by decide +kernel
theorem dX8_mean_61 : decode cX8_mean 61 = .ok (.getfield 237, 3) := by decide +kernel
theorem dX8_mean_64 : decode cX8_mean 64 = .ok (.iload_n 2, 1) := by decide +kernel
theorem dX8_mean_65 : decode cX8_mean 65 = .ok (.invokestatic 234, 3) := by decide +kernel
theorem dX8_mean_68 : decode cX8_mean 68 = .ok (.lreturn, 1) := by decide +kernel
theorem dX8_leaning_0 : decode cX8_leaning 0 = .ok (.iload_n 1, 1) := by decide +kernel
theorem dX8_leaning_1 : decode cX8_leaning 1 = .ok (.invokestatic 218, 3) := by decide +kernel
theorem dX8_leaning_4 : decode cX8_leaning 4 = .ok (.ifCond .eq 20, 3) := by decide +kernel
theorem dX8_leaning_7 : decode cX8_leaning 7 = .ok (.iload_n 2, 1) := by decide +kernel
theorem dX8_leaning_8 : decode cX8_leaning 8 = .ok (.ifCond .lt 16, 3) := by decide +kernel
theorem dX8_leaning_11 : decode cX8_leaning 11 = .ok (.iload_n 2, 1) := by decide +kernel
theorem dX8_leaning_12 : decode cX8_leaning 12 = .ok (.iconst 5, 1) := by decide +kernel
theorem dX8_leaning_13 : decode cX8_leaning 13 = .ok (.if_icmp .gt 11, 3) := by decide +kernel
theorem dX8_leaning_16 : decode cX8_leaning 16 = .ok (.iload 5, 2) := by decide +kernel
theorem dX8_leaning_18 : decode cX8_leaning 18 = .ok (.invokestatic 221, 3) := by decide +kernel
theorem dX8_leaning_21 : decode cX8_leaning 21 = .ok (.ifCond .ne 7, 3) := by decide +kernel
theorem dX8_leaning_24 : decode cX8_leaning 24 = .ok (.ldc2_w 224, 3) := by decide +kernel
theorem dX8_leaning_27 : decode cX8_leaning 27 = .ok (.lreturn, 1) := by decide +kernel
theorem dX8_leaning_28 : decode cX8_leaning 28 = .ok (.iload_n 3, 1) := by decide +kernel
theorem dX8_leaning_29 : decode cX8_leaning 29 = .ok (.iconst 1, 1) := by decide +kernel
theorem dX8_leaning_30 : decode cX8_leaning 30 = .ok (.if_icmp .lt 26, 3) := by decide +kernel
theorem dX8_leaning_33 : decode cX8_leaning 33 = .ok (.iload_n 3, 1) := by decide +kernel
theorem dX8_leaning_34 : decode cX8_leaning 34 = .ok (.iconst 4, 1) := by decide +kernel
theorem dX8_leaning_35 : decode cX8_leaning 35 = .ok (.if_icmp .gt 21, 3) := by decide +kernel
theorem dX8_leaning_38 : decode cX8_leaning 38 = .ok (.iload 4, 2) := by decide +kernel
theorem dX8_leaning_40 : decode cX8_leaning 40 = .ok (.iconst 2, 1) := by decide +kernel
theorem dX8_leaning_41 : decode cX8_leaning 41 = .ok (.if_icmp .lt 15, 3) := by decide +kernel
theorem dX8_leaning_44 : decode cX8_leaning 44 = .ok (.iload 4, 2) := by decide +kernel
theorem dX8_leaning_46 : decode cX8_leaning 46 = .ok (.iconst 5, 1) := by decide +kernel
theorem dX8_leaning_47 : decode cX8_leaning 47 = .ok (.if_icmp .gt 9, 3) := by decide +kernel
theorem dX8_leaning_50 : decode cX8_leaning 50 = .ok (.iload_n 3, 1) := by decide +kernel
theorem dX8_leaning_51 : decode cX8_leaning 51 = .ok (.iload 4, 2) := by decide +kernel
theorem dX8_leaning_53 : decode cX8_leaning 53 = .ok (.if_icmp .lt 7, 3) := by decide +kernel
theorem dX8_leaning_56 : decode cX8_leaning 56 = .ok (.ldc2_w 224, 3) := by decide +kernel
theorem dX8_leaning_59 : decode cX8_leaning 59 = .ok (.lreturn, 1) := by decide +kernel
theorem dX8_leaning_60 : decode cX8_leaning 60 = .ok (.aload_n 0, 1) := by decide +kernel
theorem dX8_leaning_61 : decode cX8_leaning 61 = .ok (.getfield 60, 3) := by decide +kernel
theorem dX8_leaning_64 : decode cX8_leaning 64 = .ok (.iload_n 1, 1) := by decide +kernel
theorem dX8_leaning_65 : decode cX8_leaning 65 = .ok (.iload_n 2, 1) := by decide +kernel
theorem dX8_leaning_66 : decode cX8_leaning 66 = .ok (.iload_n 3, 1) := by decide +kernel
theorem dX8_leaning_67 : decode cX8_leaning 67 = .ok (.iload 4, 2) := by decide +kernel
theorem dX8_leaning_69 : decode cX8_leaning 69 = .ok (.invokevirtual 226, 3) := by decide +kernel
theorem dX8_leaning_72 : decode cX8_leaning 72 = .ok (.iload 5, 2) := by decide +kernel
theorem dX8_leaning_74 : decode cX8_leaning 74 = .ok (.ifCond .ne 17, 3) := by decide +kernel
theorem dX8_leaning_77 : decode cX8_leaning 77 = .ok (.aload_n 0, 1) := by decide +kernel
theorem dX8_leaning_78 : decode cX8_leaning 78 = .ok (.getfield 60, 3) := by decide +kernel
theorem dX8_leaning_81 : decode cX8_leaning 81 = .ok (.getfield 230, 3) := by decide +kernel
theorem dX8_leaning_84 : decode cX8_leaning 84 = .ok (.iload_n 2, 1) := by decide +kernel
theorem dX8_leaning_85 : decode cX8_leaning 85 = .ok (.invokestatic 234, 3) := by decide +kernel
theorem dX8_leaning_88 : decode cX8_leaning 88 = .ok (.goto 14, 3) := by decide +kernel
theorem dX8_leaning_91 : decode cX8_leaning 91 = .ok (.aload_n 0, 1) := by decide +kernel
theorem dX8_leaning_92 : decode cX8_leaning 92 = .ok (.getfield 60, 3) := by decide +kernel
theorem dX8_leaning_95 : decode cX8_leaning 95 = .ok (.getfield 237, 3) := by decide +kernel
