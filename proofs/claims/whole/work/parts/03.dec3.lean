theorem dX8_leaning_98 : decode cX8_leaning 98 = .ok (.iload_n 2, 1) := by decide +kernel
theorem dX8_leaning_99 : decode cX8_leaning 99 = .ok (.invokestatic 234, 3) := by decide +kernel
theorem dX8_leaning_102 : decode cX8_leaning 102 = .ok (.lreturn, 1) := by decide +kernel
theorem dX8_chance_0 : decode cX8_chance 0 = .ok (.iload_n 1, 1) := by decide +kernel
theorem dX8_chance_1 : decode cX8_chance 1 = .ok (.invokestatic 218, 3) := by decide +kernel
theorem dX8_chance_4 : decode cX8_chance 4 = .ok (.ifCond .eq 20, 3) := by decide +kernel
theorem dX8_chance_7 : decode cX8_chance 7 = .ok (.iload_n 2, 1) := by decide +kernel
theorem dX8_chance_8 : decode cX8_chance 8 = .ok (.ifCond .lt 16, 3) := by decide +kernel
theorem dX8_chance_11 : decode cX8_chance 11 = .ok (.iload_n 2, 1) := by decide +kernel
theorem dX8_chance_12 : decode cX8_chance 12 = .ok (.iconst 3, 1) := by decide +kernel
theorem dX8_chance_13 : decode cX8_chance 13 = .ok (.if_icmp .gt 11, 3) := by decide +kernel
theorem dX8_chance_16 : decode cX8_chance 16 = .ok (.iload 4, 2) := by decide +kernel
theorem dX8_chance_18 : decode cX8_chance 18 = .ok (.invokestatic 221, 3) := by decide +kernel
theorem dX8_chance_21 : decode cX8_chance 21 = .ok (.ifCond .ne 7, 3) := by decide +kernel
theorem dX8_chance_24 : decode cX8_chance 24 = .ok (.ldc2_w 224, 3) := by decide +kernel
theorem dX8_chance_27 : decode cX8_chance 27 = .ok (.lreturn, 1) := by decide +kernel
theorem dX8_chance_28 : decode cX8_chance 28 = .ok (.iload_n 3, 1) := by decide +kernel
theorem dX8_chance_29 : decode cX8_chance 29 = .ok (.iconst 1, 1) := by decide +kernel
theorem dX8_chance_30 : decode cX8_chance 30 = .ok (.if_icmp .lt 9, 3) := by decide +kernel
theorem dX8_chance_33 : decode cX8_chance 33 = .ok (.iload_n 3, 1) := by decide +kernel
theorem dX8_chance_34 : decode cX8_chance 34 = .ok (.bipush 12, 2) := by decide +kernel
theorem dX8_chance_36 : decode cX8_chance 36 = .ok (.if_icmp .le 7, 3) := by decide +kernel
theorem dX8_chance_39 : decode cX8_chance 39 = .ok (.ldc2_w 224, 3) := by decide +kernel
theorem dX8_chance_42 : decode cX8_chance 42 = .ok (.lreturn, 1) := by decide +kernel
theorem dX8_chance_43 : decode cX8_chance 43 = .ok (.aload_n 0, 1) := by decide +kernel
theorem dX8_chance_44 : decode cX8_chance 44 = .ok (.getfield 60, 3) := by decide +kernel
theorem dX8_chance_47 : decode cX8_chance 47 = .ok (.iload_n 1, 1) := by decide +kernel
theorem dX8_chance_48 : decode cX8_chance 48 = .ok (.iload_n 2, 1) := by decide +kernel
theorem dX8_chance_49 : decode cX8_chance 49 = .ok (.iload_n 3, 1) := by decide +kernel
theorem dX8_chance_50 : decode cX8_chance 50 = .ok (.invokevirtual 240, 3) := by decide +kernel
theorem dX8_chance_53 : decode cX8_chance 53 = .ok (.iload 4, 2) := by decide +kernel
theorem dX8_chance_55 : decode cX8_chance 55 = .ok (.ifCond .ne 13, 3) := by decide +kernel
theorem dX8_chance_58 : decode cX8_chance 58 = .ok (.aload_n 0, 1) := by decide +kernel
theorem dX8_chance_59 : decode cX8_chance 59 = .ok (.getfield 60, 3) := by decide +kernel
theorem dX8_chance_62 : decode cX8_chance 62 = .ok (.getfield 244, 3) := by decide +kernel
theorem dX8_chance_65 : decode cX8_chance 65 = .ok (.goto 10, 3) := by decide +kernel
theorem dX8_chance_68 : decode cX8_chance 68 = .ok (.aload_n 0, 1) := by decide +kernel
theorem dX8_chance_69 : decode cX8_chance 69 = .ok (.getfield 60, 3) := by decide +kernel
theorem dX8_chance_72 : decode cX8_chance 72 = .ok (.getfield 248, 3) := by decide +kernel
theorem dX8_chance_75 : decode cX8_chance 75 = .ok (.lreturn, 1) := by decide +kernel
theorem dX8_best_0 : decode cX8_best 0 = .ok (.iload_n 1, 1) := by decide +kernel
theorem dX8_best_1 : decode cX8_best 1 = .ok (.invokestatic 218, 3) := by decide +kernel
theorem dX8_best_4 : decode cX8_best 4 = .ok (.ifCond .eq 14, 3) := by decide +kernel
theorem dX8_best_7 : decode cX8_best 7 = .ok (.aload_n 0, 1) := by decide +kernel
theorem dX8_best_8 : decode cX8_best 8 = .ok (.getfield 60, 3) := by decide +kernel
theorem dX8_best_11 : decode cX8_best 11 = .ok (.iload_n 1, 1) := by decide +kernel
theorem dX8_best_12 : decode cX8_best 12 = .ok (.invokevirtual 251, 3) := by decide +kernel
theorem dX8_best_15 : decode cX8_best 15 = .ok (.goto 5, 3) := by decide +kernel
theorem dX8_best_18 : decode cX8_best 18 = .ok (.bipush (-2), 2) := by decide +kernel
theorem dX8_best_20 : decode cX8_best 20 = .ok (.ireturn, 1) := by decide +kernel
theorem dX8_add_0 : decode cX8_add 0 = .ok (.aload_n 0, 1) := by decide +kernel
theorem dX8_add_1 : decode cX8_add 1 = .ok (.getfield 36, 3) := by decide +kernel
theorem dX8_add_4 : decode cX8_add 4 = .ok (.invokevirtual 170, 3) := by decide +kernel
theorem dX8_add_7 : decode cX8_add 7 = .ok (.ifCond .eq 25, 3) := by decide +kernel
theorem dX8_add_10 : decode cX8_add 10 = .ok (.iload_n 1, 1) := by decide +kernel
theorem dX8_add_11 : decode cX8_add 11 = .ok (.ifCond .lt 21, 3) := by decide +kernel
theorem dX8_add_14 : decode cX8_add 14 = .ok (.iload_n 1, 1) := by decide +kernel
theorem dX8_add_15 : decode cX8_add 15 = .ok (.sipush 200, 3) := by decide +kernel
theorem dX8_add_18 : decode cX8_add 18 = .ok (.if_icmp .ge 14, 3) := by decide +kernel
theorem dX8_add_21 : decode cX8_add 21 = .ok (.iload_n 3, 1) := by decide +kernel
theorem dX8_add_22 : decode cX8_add 22 = .ok (.iconst 1, 1) := by decide +kernel
theorem dX8_add_23 : decode cX8_add 23 = .ok (.if_icmp .lt 9, 3) := by decide +kernel
theorem dX8_add_26 : decode cX8_add 26 = .ok (.iload_n 3, 1) := by decide +kernel
theorem dX8_add_27 : decode cX8_add 27 = .ok (.bipush 12, 2) := by decide +kernel
theorem dX8_add_29 : decode cX8_add 29 = .ok (.if_icmp .le 6, 3) := by decide +kernel
theorem dX8_add_32 : decode cX8_add 32 = .ok (.bipush (-2), 2) := by decide +kernel
theorem dX8_add_34 : decode cX8_add 34 = .ok (.ireturn, 1) := by decide +kernel
theorem dX8_add_35 : decode cX8_add 35 = .ok (.iload_n 2, 1) := by decide +kernel
theorem dX8_add_36 : decode cX8_add 36 = .ok (.ifCond .lt 10, 3) := by decide +kernel
theorem dX8_add_39 : decode cX8_add 39 = .ok (.iload_n 2, 1) := by decide +kernel
theorem dX8_add_40 : decode cX8_add 40 = .ok (.iconst 1, 1) := by decide +kernel
theorem dX8_add_41 : decode cX8_add 41 = .ok (.iload_n 3, 1) := by decide +kernel
theorem dX8_add_42 : decode cX8_add 42 = .ok (.ishl, 1) := by decide +kernel
theorem dX8_add_43 : decode cX8_add 43 = .ok (.if_icmp .lt 6, 3) := by decide +kernel
theorem dX8_add_46 : decode cX8_add 46 = .ok (.bipush (-2), 2) := by decide +kernel
theorem dX8_add_48 : decode cX8_add 48 = .ok (.ireturn, 1) := by decide +kernel
theorem dX8_add_49 : decode cX8_add 49 = .ok (.aload_n 0, 1) := by decide +kernel
theorem dX8_add_50 : decode cX8_add 50 = .ok (.getfield 36, 3) := by decide +kernel
theorem dX8_add_53 : decode cX8_add 53 = .ok (.getfield 112, 3) := by decide +kernel
theorem dX8_add_56 : decode cX8_add 56 = .ok (.bipush 10, 2) := by decide +kernel
theorem dX8_add_58 : decode cX8_add 58 = .ok (.if_icmp .ge 15, 3) := by decide +kernel
theorem dX8_add_61 : decode cX8_add 61 = .ok (.aload_n 0, 1) := by decide +kernel
theorem dX8_add_62 : decode cX8_add 62 = .ok (.getfield 53, 3) := by decide +kernel
theorem dX8_add_65 : decode cX8_add 65 = .ok (.getfield 84, 3) := by decide +kernel
theorem dX8_add_68 : decode cX8_add 68 = .ok (.bipush 20, 2) := by decide +kernel
theorem dX8_add_70 : decode cX8_add 70 = .ok (.if_icmp .lt 6, 3) := by decide +kernel
theorem dX8_add_73 : decode cX8_add 73 = .ok (.bipush (-5), 2) := by decide +kernel
theorem dX8_add_75 : decode cX8_add 75 = .ok (.ireturn, 1) := by decide +kernel
theorem dX8_add_76 : decode cX8_add 76 = .ok (.aload_n 0, 1) := by decide +kernel
theorem dX8_add_77 : decode cX8_add 77 = .ok (.getfield 36, 3) := by decide +kernel
theorem dX8_add_80 : decode cX8_add 80 = .ok (.iload_n 1, 1) := by decide +kernel
theorem dX8_add_81 : decode cX8_add 81 = .ok (.iload_n 2, 1) := by decide +kernel
theorem dX8_add_82 : decode cX8_add 82 = .ok (.iload_n 3, 1) := by decide +kernel
theorem dX8_add_83 : decode cX8_add 83 = .ok (.invokevirtual 254, 3) := by decide +kernel
theorem dX8_add_86 : decode cX8_add 86 = .ok (.aload_n 0, 1) := by decide +kernel
theorem dX8_add_87 : decode cX8_add 87 = .ok (.getfield 53, 3) := by decide +kernel
theorem dX8_add_90 : decode cX8_add 90 = .ok (.iconst 0, 1) := by decide +kernel
theorem dX8_add_91 : decode cX8_add 91 = .ok (.aload_n 0, 1) := by decide +kernel
theorem dX8_add_92 : decode cX8_add 92 = .ok (.getfield 36, 3) := by decide +kernel
theorem dX8_add_95 : decode cX8_add 95 = .ok (.getfield 87, 3) := by decide +kernel
theorem dX8_add_98 : decode cX8_add 98 = .ok (.invokevirtual 257, 3) := by decide +kernel
theorem dX8_add_101 : decode cX8_add 101 = .ok (.aload_n 0, 1) := by decide +kernel
theorem dX8_add_102 : decode cX8_add 102 = .ok (.getfield 29, 3) := by decide +kernel
theorem dX8_add_105 : decode cX8_add 105 = .ok (.aload_n 0, 1) := by decide +kernel
theorem dX8_add_106 : decode cX8_add 106 = .ok (.getfield 41, 3) := by decide +kernel
theorem dX8_add_109 : decode cX8_add 109 = .ok (.aload_n 0, 1) := by decide +kernel
theorem dX8_add_110 : decode cX8_add 110 = .ok (.getfield 36, 3) := by decide +kernel
theorem dX8_add_113 : decode cX8_add 113 = .ok (.getfield 87, 3) := by decide +kernel
theorem dX8_add_116 : decode cX8_add 116 = .ok (.iconst (-1), 1) := by decide +kernel
theorem dX8_add_117 : decode cX8_add 117 = .ok (.iconst (-1), 1) := by decide +kernel
theorem dX8_add_118 : decode cX8_add 118 = .ok (.invokevirtual 90, 3) := by decide +kernel
theorem dX8_add_121 : decode cX8_add 121 = .ok (.ireturn, 1) := by decide +kernel
theorem dX8_disturb_0 : decode cX8_disturb 0 = .ok (.aload_n 0, 1) := by decide +kernel
theorem dX8_disturb_1 : decode cX8_disturb 1 = .ok (.getfield 36, 3) := by decide +kernel
theorem dX8_disturb_4 : decode cX8_disturb 4 = .ok (.invokevirtual 170, 3) := by decide +kernel
theorem dX8_disturb_7 : decode cX8_disturb 7 = .ok (.ifCond .eq 23, 3) := by decide +kernel
theorem dX8_disturb_10 : decode cX8_disturb 10 = .ok (.iload_n 1, 1) := by decide +kernel
theorem dX8_disturb_11 : decode cX8_disturb 11 = .ok (.ifCond .lt 19, 3) := by decide +kernel
theorem dX8_disturb_14 : decode cX8_disturb 14 = .ok (.iload_n 1, 1) := by decide +kernel
theorem dX8_disturb_15 : decode cX8_disturb 15 = .ok (.sipush 200, 3) := by decide +kernel
theorem dX8_disturb_18 : decode cX8_disturb 18 = .ok (.if_icmp .ge 12, 3) := by decide +kernel
theorem dX8_disturb_21 : decode cX8_disturb 21 = .ok (.iload_n 2, 1) := by decide +kernel
theorem dX8_disturb_22 : decode cX8_disturb 22 = .ok (.ifCond .lt 8, 3) := by decide +kernel
theorem dX8_disturb_25 : decode cX8_disturb 25 = .ok (.iload_n 2, 1) := by decide +kernel
theorem dX8_disturb_26 : decode cX8_disturb 26 = .ok (.iconst 2, 1) := by decide +kernel
theorem dX8_disturb_27 : decode cX8_disturb 27 = .ok (.if_icmp .le 6, 3) := by decide +kernel
theorem dX8_disturb_30 : decode cX8_disturb 30 = .ok (.bipush (-2), 2) := by decide +kernel
theorem dX8_disturb_32 : decode cX8_disturb 32 = .ok (.ireturn, 1) := by decide +kernel
theorem dX8_disturb_33 : decode cX8_disturb 33 = .ok (.aload_n 0, 1) := by decide +kernel
theorem dX8_disturb_34 : decode cX8_disturb 34 = .ok (.getfield 36, 3) := by decide +kernel
theorem dX8_disturb_37 : decode cX8_disturb 37 = .ok (.iload_n 1, 1) := by decide +kernel
theorem dX8_disturb_38 : decode cX8_disturb 38 = .ok (.invokevirtual 261, 3) := by decide +kernel
theorem dX8_disturb_41 : decode cX8_disturb 41 = .ok (.ifCond .ne 27, 3) := by decide +kernel
theorem dX8_disturb_44 : decode cX8_disturb 44 = .ok (.aload_n 0, 1) := by decide +kernel
theorem dX8_disturb_45 : decode cX8_disturb 45 = .ok (.getfield 36, 3) := by decide +kernel
theorem dX8_disturb_48 : decode cX8_disturb 48 = .ok (.getfield 115, 3) := by decide +kernel
theorem dX8_disturb_51 : decode cX8_disturb 51 = .ok (.bipush 10, 2) := by decide +kernel
theorem dX8_disturb_53 : decode cX8_disturb 53 = .ok (.if_icmp .ge 15, 3) := by decide +kernel
theorem dX8_disturb_56 : decode cX8_disturb 56 = .ok (.aload_n 0, 1) := by decide +kernel
theorem dX8_disturb_57 : decode cX8_disturb 57 = .ok (.getfield 53, 3) := by decide +kernel
theorem dX8_disturb_60 : decode cX8_disturb 60 = .ok (.getfield 84, 3) := by decide +kernel
theorem dX8_disturb_63 : decode cX8_disturb 63 = .ok (.bipush 20, 2) := by decide +kernel
theorem dX8_disturb_65 : decode cX8_disturb 65 = .ok (.if_icmp .lt 6, 3) := by decide +kernel
theorem dX8_disturb_68 : decode cX8_disturb 68 = .ok (.bipush (-5), 2) := by decide +kernel
theorem dX8_disturb_70 : decode cX8_disturb 70 = .ok (.ireturn, 1) := by decide +kernel
theorem dX8_disturb_71 : decode cX8_disturb 71 = .ok (.aload_n 0, 1) := by decide +kernel
theorem dX8_disturb_72 : decode cX8_disturb 72 = .ok (.getfield 36, 3) := by decide +kernel
theorem dX8_disturb_75 : decode cX8_disturb 75 = .ok (.iload_n 1, 1) := by decide +kernel
theorem dX8_disturb_76 : decode cX8_disturb 76 = .ok (.iload_n 2, 1) := by decide +kernel
theorem dX8_disturb_77 : decode cX8_disturb 77 = .ok (.invokevirtual 264, 3) := by decide +kernel
theorem dX8_disturb_80 : decode cX8_disturb 80 = .ok (.aload_n 0, 1) := by decide +kernel
theorem dX8_disturb_81 : decode cX8_disturb 81 = .ok (.getfield 53, 3) := by decide +kernel
theorem dX8_disturb_84 : decode cX8_disturb 84 = .ok (.iconst 1, 1) := by decide +kernel
theorem dX8_disturb_85 : decode cX8_disturb 85 = .ok (.aload_n 0, 1) := by decide +kernel
theorem dX8_disturb_86 : decode cX8_disturb 86 = .ok (.getfield 36, 3) := by decide +kernel
theorem dX8_disturb_89 : decode cX8_disturb 89 = .ok (.getfield 87, 3) := by decide +kernel
theorem dX8_disturb_92 : decode cX8_disturb 92 = .ok (.invokevirtual 257, 3) := by decide +kernel
theorem dX8_disturb_95 : decode cX8_disturb 95 = .ok (.aload_n 0, 1) := by decide +kernel
theorem dX8_disturb_96 : decode cX8_disturb 96 = .ok (.getfield 29, 3) := by decide +kernel
theorem dX8_disturb_99 : decode cX8_disturb 99 = .ok (.aload_n 0, 1) := by decide +kernel
theorem dX8_disturb_100 : decode cX8_disturb 100 = .ok (.getfield 41, 3) := by decide +kernel
theorem dX8_disturb_103 : decode cX8_disturb 103 = .ok (.aload_n 0, 1) := by decide +kernel
theorem dX8_disturb_104 : decode cX8_disturb 104 = .ok (.getfield 36, 3) := by decide +kernel
theorem dX8_disturb_107 : decode cX8_disturb 107 = .ok (.getfield 87, 3) := by decide +kernel
theorem dX8_disturb_110 : decode cX8_disturb 110 = .ok (.iconst (-1), 1) := by decide +kernel
theorem dX8_disturb_111 : decode cX8_disturb 111 = .ok (.iconst (-1), 1) := by decide +kernel
theorem dX8_disturb_112 : decode cX8_disturb 112 = .ok (.invokevirtual 90, 3) := by decide +kernel
theorem dX8_disturb_115 : decode cX8_disturb 115 = .ok (.ireturn, 1) := by decide +kernel
theorem dX8_rule_0 : decode cX8_rule 0 = .ok (.aload_n 0, 1) := by decide +kernel
theorem dX8_rule_1 : decode cX8_rule 1 = .ok (.getfield 36, 3) := by decide +kernel
theorem dX8_rule_4 : decode cX8_rule 4 = .ok (.invokevirtual 170, 3) := by decide +kernel
theorem dX8_rule_7 : decode cX8_rule 7 = .ok (.ifCond .eq 10, 3) := by decide +kernel
theorem dX8_rule_10 : decode cX8_rule 10 = .ok (.iload_n 1, 1) := by decide +kernel
theorem dX8_rule_11 : decode cX8_rule 11 = .ok (.invokestatic 206, 3) := by decide +kernel
theorem dX8_rule_14 : decode cX8_rule 14 = .ok (.ifCond .ne 6, 3) := by decide +kernel
theorem dX8_rule_17 : decode cX8_rule 17 = .ok (.bipush (-2), 2) := by decide +kernel
theorem dX8_rule_19 : decode cX8_rule 19 = .ok (.ireturn, 1) := by decide +kernel
theorem dX8_rule_20 : decode cX8_rule 20 = .ok (.aload_n 0, 1) := by decide +kernel
theorem dX8_rule_21 : decode cX8_rule 21 = .ok (.getfield 36, 3) := by decide +kernel
theorem dX8_rule_24 : decode cX8_rule 24 = .ok (.getfield 87, 3) := by decide +kernel
theorem dX8_rule_27 : decode cX8_rule 27 = .ok (.iload_n 1, 1) := by decide +kernel
theorem dX8_rule_28 : decode cX8_rule 28 = .ok (.if_icmp .eq 15, 3) := by decide +kernel
theorem dX8_rule_31 : decode cX8_rule 31 = .ok (.aload_n 0, 1) := by decide +kernel
theorem dX8_rule_32 : decode cX8_rule 32 = .ok (.getfield 53, 3) := by decide +kernel
theorem dX8_rule_35 : decode cX8_rule 35 = .ok (.getfield 84, 3) := by decide +kernel
theorem dX8_rule_38 : decode cX8_rule 38 = .ok (.bipush 20, 2) := by decide +kernel
theorem dX8_rule_40 : decode cX8_rule 40 = .ok (.if_icmp .lt 6, 3) := by decide +kernel
theorem dX8_rule_43 : decode cX8_rule 43 = .ok (.bipush (-5), 2) := by decide +kernel
theorem dX8_rule_45 : decode cX8_rule 45 = .ok (.ireturn, 1) := by decide +kernel
theorem dX8_rule_46 : decode cX8_rule 46 = .ok (.aload_n 0, 1) := by decide +kernel
theorem dX8_rule_47 : decode cX8_rule 47 = .ok (.getfield 53, 3) := by decide +kernel
theorem dX8_rule_50 : decode cX8_rule 50 = .ok (.iconst 2, 1) := by decide +kernel
theorem dX8_rule_51 : decode cX8_rule 51 = .ok (.aload_n 0, 1) := by decide +kernel
theorem dX8_rule_52 : decode cX8_rule 52 = .ok (.getfield 36, 3) := by decide +kernel
theorem dX8_rule_55 : decode cX8_rule 55 = .ok (.getfield 87, 3) := by decide +kernel
theorem dX8_rule_58 : decode cX8_rule 58 = .ok (.invokevirtual 257, 3) := by decide +kernel
theorem dX8_rule_61 : decode cX8_rule 61 = .ok (.aload_n 0, 1) := by decide +kernel
theorem dX8_rule_62 : decode cX8_rule 62 = .ok (.getfield 36, 3) := by decide +kernel
theorem dX8_rule_65 : decode cX8_rule 65 = .ok (.iload_n 1, 1) := by decide +kernel
theorem dX8_rule_66 : decode cX8_rule 66 = .ok (.putfield 87, 3) := by decide +kernel
theorem dX8_rule_69 : decode cX8_rule 69 = .ok (.aload_n 0, 1) := by decide +kernel
theorem dX8_rule_70 : decode cX8_rule 70 = .ok (.getfield 29, 3) := by decide +kernel
theorem dX8_rule_73 : decode cX8_rule 73 = .ok (.aload_n 0, 1) := by decide +kernel
theorem dX8_rule_74 : decode cX8_rule 74 = .ok (.getfield 41, 3) := by decide +kernel
theorem dX8_rule_77 : decode cX8_rule 77 = .ok (.aload_n 0, 1) := by decide +kernel
theorem dX8_rule_78 : decode cX8_rule 78 = .ok (.getfield 36, 3) := by decide +kernel
theorem dX8_rule_81 : decode cX8_rule 81 = .ok (.getfield 87, 3) := by decide +kernel
theorem dX8_rule_84 : decode cX8_rule 84 = .ok (.iconst (-1), 1) := by decide +kernel
theorem dX8_rule_85 : decode cX8_rule 85 = .ok (.iconst (-1), 1) := by decide +kernel
theorem dX8_rule_86 : decode cX8_rule 86 = .ok (.invokevirtual 90, 3) := by decide +kernel
theorem dX8_rule_89 : decode cX8_rule 89 = .ok (.ireturn, 1) := by decide +kernel
theorem dX8_undo_0 : decode cX8_undo 0 = .ok (.aload_n 0, 1) := by decide +kernel
theorem dX8_undo_1 : decode cX8_undo 1 = .ok (.getfield 36, 3) := by decide +kernel
theorem dX8_undo_4 : decode cX8_undo 4 = .ok (.invokevirtual 170, 3) := by decide +kernel
theorem dX8_undo_7 : decode cX8_undo 7 = .ok (.ifCond .ne 6, 3) := by decide +kernel
theorem dX8_undo_10 : decode cX8_undo 10 = .ok (.bipush (-2), 2) := by decide +kernel
theorem dX8_undo_12 : decode cX8_undo 12 = .ok (.ireturn, 1) := by decide +kernel
theorem dX8_undo_13 : decode cX8_undo 13 = .ok (.aload_n 0, 1) := by decide +kernel
theorem dX8_undo_14 : decode cX8_undo 14 = .ok (.getfield 53, 3) := by decide +kernel
theorem dX8_undo_17 : decode cX8_undo 17 = .ok (.getfield 84, 3) := by decide +kernel
theorem dX8_undo_20 : decode cX8_undo 20 = .ok (.ifCond .ne 6, 3) := by decide +kernel
theorem dX8_undo_23 : decode cX8_undo 23 = .ok (.bipush (-5), 2) := by decide +kernel
theorem dX8_undo_25 : decode cX8_undo 25 = .ok (.ireturn, 1) := by decide +kernel
theorem dX8_undo_26 : decode cX8_undo 26 = .ok (.aload_n 0, 1) := by decide +kernel
theorem dX8_undo_27 : decode cX8_undo 27 = .ok (.getfield 53, 3) := by decide +kernel
theorem dX8_undo_30 : decode cX8_undo 30 = .ok (.aload_n 0, 1) := by decide +kernel
theorem dX8_undo_31 : decode cX8_undo 31 = .ok (.getfield 36, 3) := by decide +kernel
theorem dX8_undo_34 : decode cX8_undo 34 = .ok (.invokevirtual 267, 3) := by decide +kernel
theorem dX8_undo_37 : decode cX8_undo 37 = .ok (.aload_n 0, 1) := by decide +kernel
theorem dX8_undo_38 : decode cX8_undo 38 = .ok (.getfield 29, 3) := by decide +kernel
theorem dX8_undo_41 : decode cX8_undo 41 = .ok (.aload_n 0, 1) := by decide +kernel
theorem dX8_undo_42 : decode cX8_undo 42 = .ok (.getfield 41, 3) := by decide +kernel
theorem dX8_undo_45 : decode cX8_undo 45 = .ok (.aload_n 0, 1) := by decide +kernel
theorem dX8_undo_46 : decode cX8_undo 46 = .ok (.getfield 36, 3) := by decide +kernel
theorem dX8_undo_49 : decode cX8_undo 49 = .ok (.getfield 87, 3) := by decide +kernel
theorem dX8_undo_52 : decode cX8_undo 52 = .ok (.iconst (-1), 1) := by decide +kernel
theorem dX8_undo_53 : decode cX8_undo 53 = .ok (.iconst (-1), 1) := by decide +kernel
theorem dX8_undo_54 : decode cX8_undo 54 = .ok (.invokevirtual 90, 3) := by decide +kernel
theorem dX8_undo_57 : decode cX8_undo 57 = .ok (.pop, 1) := by decide +kernel
theorem dX8_undo_58 : decode cX8_undo 58 = .ok (.aload_n 0, 1) := by decide +kernel
theorem dX8_undo_59 : decode cX8_undo 59 = .ok (.getfield 53, 3) := by decide +kernel
theorem dX8_undo_62 : decode cX8_undo 62 = .ok (.getfield 84, 3) := by decide +kernel
theorem dX8_undo_65 : decode cX8_undo 65 = .ok (.ireturn, 1) := by decide +kernel
theorem dX8_anew_0 : decode cX8_anew 0 = .ok (.aload_n 0, 1) := by decide +kernel
theorem dX8_anew_1 : decode cX8_anew 1 = .ok (.getfield 36, 3) := by decide +kernel
theorem dX8_anew_4 : decode cX8_anew 4 = .ok (.invokevirtual 170, 3) := by decide +kernel
theorem dX8_anew_7 : decode cX8_anew 7 = .ok (.ifCond .ne 6, 3) := by decide +kernel
theorem dX8_anew_10 : decode cX8_anew 10 = .ok (.bipush (-2), 2) := by decide +kernel
theorem dX8_anew_12 : decode cX8_anew 12 = .ok (.ireturn, 1) := by decide +kernel
theorem dX8_anew_13 : decode cX8_anew 13 = .ok (.aload_n 0, 1) := by decide +kernel
theorem dX8_anew_14 : decode cX8_anew 14 = .ok (.getfield 53, 3) := by decide +kernel
theorem dX8_anew_17 : decode cX8_anew 17 = .ok (.getfield 84, 3) := by decide +kernel
theorem dX8_anew_20 : decode cX8_anew 20 = .ok (.istore_n 1, 1) := by decide +kernel
theorem dX8_anew_21 : decode cX8_anew 21 = .ok (.iconst 0, 1) := by decide +kernel
theorem dX8_anew_22 : decode cX8_anew 22 = .ok (.istore_n 2, 1) := by decide +kernel
theorem dX8_anew_23 : decode cX8_anew 23 = .ok (.iload_n 2, 1) := by decide +kernel
theorem dX8_anew_24 : decode cX8_anew 24 = .ok (.iload_n 1, 1) := by decide +kernel
theorem dX8_anew_25 : decode cX8_anew 25 = .ok (.if_icmp .ge 20, 3) := by decide +kernel
theorem dX8_anew_28 : decode cX8_anew 28 = .ok (.aload_n 0, 1) := by decide +kernel
theorem dX8_anew_29 : decode cX8_anew 29 = .ok (.getfield 53, 3) := by decide +kernel
theorem dX8_anew_32 : decode cX8_anew 32 = .ok (.aload_n 0, 1) := by decide +kernel
theorem dX8_anew_33 : decode cX8_anew 33 = .ok (.getfield 36, 3) := by decide +kernel
theorem dX8_anew_36 : decode cX8_anew 36 = .ok (.invokevirtual 267, 3) := by decide +kernel
theorem dX8_anew_39 : decode cX8_anew 39 = .ok (.iinc 2 1, 3) := by decide +kernel
theorem dX8_anew_42 : decode cX8_anew 42 = .ok (.goto (-19), 3) := by decide +kernel
theorem dX8_anew_45 : decode cX8_anew 45 = .ok (.aload_n 0, 1) := by decide +kernel
theorem dX8_anew_46 : decode cX8_anew 46 = .ok (.getfield 29, 3) := by decide +kernel
theorem dX8_anew_49 : decode cX8_anew 49 = .ok (.aload_n 0, 1) := by decide +kernel
theorem dX8_anew_50 : decode cX8_anew 50 = .ok (.getfield 41, 3) := by decide +kernel
theorem dX8_anew_53 : decode cX8_anew 53 = .ok (.aload_n 0, 1) := by decide +kernel
theorem dX8_anew_54 : decode cX8_anew 54 = .ok (.getfield 36, 3) := by decide +kernel
theorem dX8_anew_57 : decode cX8_anew 57 = .ok (.getfield 87, 3) := by decide +kernel
theorem dX8_anew_60 : decode cX8_anew 60 = .ok (.iconst (-1), 1) := by decide +kernel
theorem dX8_anew_61 : decode cX8_anew 61 = .ok (.iconst (-1), 1) := by decide +kernel
theorem dX8_anew_62 : decode cX8_anew 62 = .ok (.invokevirtual 90, 3) := by decide +kernel
theorem dX8_anew_65 : decode cX8_anew 65 = .ok (.pop, 1) := by decide +kernel
theorem dX8_anew_66 : decode cX8_anew 66 = .ok (.iload_n 1, 1) := by decide +kernel
theorem dX8_anew_67 : decode cX8_anew 67 = .ok (.ireturn, 1) := by decide +kernel
theorem dX8_isLaw_0 : decode cX8_isLaw 0 = .ok (.iload_n 0, 1) := by decide +kernel
theorem dX8_isLaw_1 : decode cX8_isLaw 1 = .ok (.ifCond .lt 12, 3) := by decide +kernel
theorem dX8_isLaw_4 : decode cX8_isLaw 4 = .ok (.iload_n 0, 1) := by decide +kernel
theorem dX8_isLaw_5 : decode cX8_isLaw 5 = .ok (.iconst 3, 1) := by decide +kernel
theorem dX8_isLaw_6 : decode cX8_isLaw 6 = .ok (.if_icmp .gt 7, 3) := by decide +kernel
theorem dX8_isLaw_9 : decode cX8_isLaw 9 = .ok (.iconst 1, 1) := by decide +kernel
theorem dX8_isLaw_10 : decode cX8_isLaw 10 = .ok (.goto 4, 3) := by decide +kernel
theorem dX8_isLaw_13 : decode cX8_isLaw 13 = .ok (.iconst 0, 1) := by decide +kernel
theorem dX8_isLaw_14 : decode cX8_isLaw 14 = .ok (.ireturn, 1) := by decide +kernel
theorem dX8_isTreeLaw_0 : decode cX8_isTreeLaw 0 = .ok (.iload_n 0, 1) := by decide +kernel
theorem dX8_isTreeLaw_1 : decode cX8_isTreeLaw 1 = .ok (.ifCond .eq 8, 3) := by decide +kernel
theorem dX8_isTreeLaw_4 : decode cX8_isTreeLaw 4 = .ok (.iload_n 0, 1) := by decide +kernel
theorem dX8_isTreeLaw_5 : decode cX8_isTreeLaw 5 = .ok (.iconst 1, 1) := by decide +kernel
theorem dX8_isTreeLaw_6 : decode cX8_isTreeLaw 6 = .ok (.if_icmp .ne 7, 3) := by decide +kernel
theorem dX8_isTreeLaw_9 : decode cX8_isTreeLaw 9 = .ok (.iconst 1, 1) := by decide +kernel
theorem dX8_isTreeLaw_10 : decode cX8_isTreeLaw 10 = .ok (.goto 4, 3) := by decide +kernel
theorem dX8_isTreeLaw_13 : decode cX8_isTreeLaw 13 = .ok (.iconst 0, 1) := by decide +kernel
theorem dX8_isTreeLaw_14 : decode cX8_isTreeLaw 14 = .ok (.ireturn, 1) := by decide +kernel
theorem dX8_isPart_0 : decode cX8_isPart 0 = .ok (.iload_n 0, 1) := by decide +kernel
theorem dX8_isPart_1 : decode cX8_isPart 1 = .ok (.ifCond .eq 8, 3) := by decide +kernel
theorem dX8_isPart_4 : decode cX8_isPart 4 = .ok (.iload_n 0, 1) := by decide +kernel
theorem dX8_isPart_5 : decode cX8_isPart 5 = .ok (.iconst 1, 1) := by decide +kernel
theorem dX8_isPart_6 : decode cX8_isPart 6 = .ok (.if_icmp .ne 7, 3) := by decide +kernel
theorem dX8_isPart_9 : decode cX8_isPart 9 = .ok (.iconst 1, 1) := by decide +kernel
theorem dX8_isPart_10 : decode cX8_isPart 10 = .ok (.goto 4, 3) := by decide +kernel
theorem dX8_isPart_13 : decode cX8_isPart 13 = .ok (.iconst 0, 1) := by decide +kernel
theorem dX8_isPart_14 : decode cX8_isPart 14 = .ok (.ireturn, 1) := by decide +kernel
theorem dX8_at_0 : decode cX8_at 0 = .ok (.iload_n 1, 1) := by decide +kernel
theorem dX8_at_1 : decode cX8_at 1 = .ok (.ifCond .lt 15, 3) := by decide +kernel
theorem dX8_at_4 : decode cX8_at 4 = .ok (.iload_n 1, 1) := by decide +kernel
theorem dX8_at_5 : decode cX8_at 5 = .ok (.aload_n 0, 1) := by decide +kernel
theorem dX8_at_6 : decode cX8_at 6 = .ok (.arraylength, 1) := by decide +kernel
theorem dX8_at_7 : decode cX8_at 7 = .ok (.if_icmp .ge 9, 3) := by decide +kernel
theorem dX8_at_10 : decode cX8_at 10 = .ok (.aload_n 0, 1) := by decide +kernel
theorem dX8_at_11 : decode cX8_at 11 = .ok (.iload_n 1, 1) := by decide +kernel
theorem dX8_at_12 : decode cX8_at 12 = .ok (.iaload, 1) := by decide +kernel
theorem dX8_at_13 : decode cX8_at 13 = .ok (.goto 4, 3) := by decide +kernel
theorem dX8_at_16 : decode cX8_at 16 = .ok (.iconst 0, 1) := by decide +kernel
theorem dX8_at_17 : decode cX8_at 17 = .ok (.ireturn, 1) := by decide +kernel
theorem dX8_put_0 : decode cX8_put 0 = .ok (.iload_n 1, 1) := by decide +kernel
theorem dX8_put_1 : decode cX8_put 1 = .ok (.ifCond .lt 13, 3) := by decide +kernel
theorem dX8_put_4 : decode cX8_put 4 = .ok (.iload_n 1, 1) := by decide +kernel
theorem dX8_put_5 : decode cX8_put 5 = .ok (.aload_n 0, 1) := by decide +kernel
theorem dX8_put_6 : decode cX8_put 6 = .ok (.arraylength, 1) := by decide +kernel
theorem dX8_put_7 : decode cX8_put 7 = .ok (.if_icmp .ge 7, 3) := by decide +kernel
theorem dX8_put_10 : decode cX8_put 10 = .ok (.aload_n 0, 1) := by decide +kernel
theorem dX8_put_11 : decode cX8_put 11 = .ok (.iload_n 1, 1) := by decide +kernel
theorem dX8_put_12 : decode cX8_put 12 = .ok (.iload_n 2, 1) := by decide +kernel
theorem dX8_put_13 : decode cX8_put 13 = .ok (.iastore, 1) := by decide +kernel
theorem dX8_put_14 : decode cX8_put 14 = .ok (.return_, 1) := by decide +kernel
theorem dX8_at__0 : decode cX8_at_ 0 = .ok (.iload_n 1, 1) := by decide +kernel
theorem dX8_at__1 : decode cX8_at_ 1 = .ok (.ifCond .lt 15, 3) := by decide +kernel
theorem dX8_at__4 : decode cX8_at_ 4 = .ok (.iload_n 1, 1) := by decide +kernel
theorem dX8_at__5 : decode cX8_at_ 5 = .ok (.aload_n 0, 1) := by decide +kernel
theorem dX8_at__6 : decode cX8_at_ 6 = .ok (.arraylength, 1) := by decide +kernel
theorem dX8_at__7 : decode cX8_at_ 7 = .ok (.if_icmp .ge 9, 3) := by decide +kernel
theorem dX8_at__10 : decode cX8_at_ 10 = .ok (.aload_n 0, 1) := by decide +kernel
theorem dX8_at__11 : decode cX8_at_ 11 = .ok (.iload_n 1, 1) := by decide +kernel
theorem dX8_at__12 : decode cX8_at_ 12 = .ok (.laload, 1) := by decide +kernel
theorem dX8_at__13 : decode cX8_at_ 13 = .ok (.goto 4, 3) := by decide +kernel
theorem dX8_at__16 : decode cX8_at_ 16 = .ok (.lconst 0, 1) := by decide +kernel
theorem dX8_at__17 : decode cX8_at_ 17 = .ok (.lreturn, 1) := by decide +kernel
theorem dX8_put__0 : decode cX8_put_ 0 = .ok (.iload_n 1, 1) := by decide +kernel
theorem dX8_put__1 : decode cX8_put_ 1 = .ok (.ifCond .lt 13, 3) := by decide +kernel
theorem dX8_put__4 : decode cX8_put_ 4 = .ok (.iload_n 1, 1) := by decide +kernel
theorem dX8_put__5 : decode cX8_put_ 5 = .ok (.aload_n 0, 1) := by decide +kernel
theorem dX8_put__6 : decode cX8_put_ 6 = .ok (.arraylength, 1) := by decide +kernel
theorem dX8_put__7 : decode cX8_put_ 7 = .ok (.if_icmp .ge 7, 3) := by decide +kernel
theorem dX8_put__10 : decode cX8_put_ 10 = .ok (.aload_n 0, 1) := by decide +kernel
theorem dX8_put__11 : decode cX8_put_ 11 = .ok (.iload_n 1, 1) := by decide +kernel
theorem dX8_put__12 : decode cX8_put_ 12 = .ok (.lload_n 2, 1) := by decide +kernel
theorem dX8_put__13 : decode cX8_put_ 13 = .ok (.lastore, 1) := by decide +kernel
theorem dX8_put__14 : decode cX8_put_ 14 = .ok (.return_, 1) := by decide +kernel
theorem dX9_in_0 : decode cX9_in 0 = .ok (.lload_n 0, 1) := by decide +kernel
theorem dX9_in_1 : decode cX9_in 1 = .ok (.lload_n 2, 1) := by decide +kernel
theorem dX9_in_2 : decode cX9_in 2 = .ok (.lcmp, 1) := by decide +kernel
theorem dX9_in_3 : decode cX9_in 3 = .ok (.ifCond .lt 14, 3) := by decide +kernel
theorem dX9_in_6 : decode cX9_in 6 = .ok (.lload_n 0, 1) := by decide +kernel
theorem dX9_in_7 : decode cX9_in 7 = .ok (.lload 4, 2) := by decide +kernel
theorem dX9_in_9 : decode cX9_in 9 = .ok (.lcmp, 1) := by decide +kernel
theorem dX9_in_10 : decode cX9_in 10 = .ok (.ifCond .gt 7, 3) := by decide +kernel
theorem dX9_in_13 : decode cX9_in 13 = .ok (.iconst 1, 1) := by decide +kernel
theorem dX9_in_14 : decode cX9_in 14 = .ok (.goto 4, 3) := by decide +kernel
theorem dX9_in_17 : decode cX9_in 17 = .ok (.iconst 0, 1) := by decide +kernel
theorem dX9_in_18 : decode cX9_in 18 = .ok (.ireturn, 1) := by decide +kernel
theorem dX9_has_0 : decode cX9_has 0 = .ok (.iload_n 0, 1) := by decide +kernel
theorem dX9_has_1 : decode cX9_has 1 = .ok (.iload_n 1, 1) := by decide +kernel
theorem dX9_has_2 : decode cX9_has 2 = .ok (.ishr, 1) := by decide +kernel
theorem dX9_has_3 : decode cX9_has 3 = .ok (.iconst 1, 1) := by decide +kernel
theorem dX9_has_4 : decode cX9_has 4 = .ok (.iand, 1) := by decide +kernel
theorem dX9_has_5 : decode cX9_has 5 = .ok (.iconst 1, 1) := by decide +kernel
theorem dX9_has_6 : decode cX9_has 6 = .ok (.if_icmp .ne 7, 3) := by decide +kernel
theorem dX9_has_9 : decode cX9_has 9 = .ok (.iconst 1, 1) := by decide +kernel
theorem dX9_has_10 : decode cX9_has 10 = .ok (.goto 4, 3) := by decide +kernel
theorem dX9_has_13 : decode cX9_has 13 = .ok (.iconst 0, 1) := by decide +kernel
theorem dX9_has_14 : decode cX9_has 14 = .ok (.ireturn, 1) := by decide +kernel
theorem dX9_bitsOf_0 : decode cX9_bitsOf 0 = .ok (.iconst 0, 1) := by decide +kernel
theorem dX9_bitsOf_1 : decode cX9_bitsOf 1 = .ok (.istore_n 1, 1) := by decide +kernel
theorem dX9_bitsOf_2 : decode cX9_bitsOf 2 = .ok (.iconst 0, 1) := by decide +kernel
theorem dX9_bitsOf_3 : decode cX9_bitsOf 3 = .ok (.istore_n 2, 1) := by decide +kernel
theorem dX9_bitsOf_4 : decode cX9_bitsOf 4 = .ok (.iload_n 2, 1) := by decide +kernel
theorem dX9_bitsOf_5 : decode cX9_bitsOf 5 = .ok (.bipush 10, 2) := by decide +kernel
theorem dX9_bitsOf_7 : decode cX9_bitsOf 7 = .ok (.if_icmp .ge 17, 3) := by decide +kernel
theorem dX9_bitsOf_10 : decode cX9_bitsOf 10 = .ok (.iload_n 1, 1) := by decide +kernel
theorem dX9_bitsOf_11 : decode cX9_bitsOf 11 = .ok (.iload_n 0, 1) := by decide +kernel
theorem dX9_bitsOf_12 : decode cX9_bitsOf 12 = .ok (.iload_n 2, 1) := by decide +kernel
theorem dX9_bitsOf_13 : decode cX9_bitsOf 13 = .ok (.ishr, 1) := by decide +kernel
theorem dX9_bitsOf_14 : decode cX9_bitsOf 14 = .ok (.iconst 1, 1) := by decide +kernel
theorem dX9_bitsOf_15 : decode cX9_bitsOf 15 = .ok (.iand, 1) := by decide +kernel
theorem dX9_bitsOf_16 : decode cX9_bitsOf 16 = .ok (.iadd, 1) := by decide +kernel
theorem dX9_bitsOf_17 : decode cX9_bitsOf 17 = .ok (.istore_n 1, 1) := by decide +kernel
theorem dX9_bitsOf_18 : decode cX9_bitsOf 18 = .ok (.iinc 2 1, 3) := by decide +kernel
theorem dX9_bitsOf_21 : decode cX9_bitsOf 21 = .ok (.goto (-17), 3) := by decide +kernel
theorem dX9_bitsOf_24 : decode cX9_bitsOf 24 = .ok (.iload_n 1, 1) := by decide +kernel
theorem dX9_bitsOf_25 : decode cX9_bitsOf 25 = .ok (.ireturn, 1) := by decide +kernel
theorem dX9_init_0 : decode cX9_init 0 = .ok (.aload_n 0, 1) := by decide +kernel
theorem dX9_init_1 : decode cX9_init 1 = .ok (.invokespecial 3, 3) := by decide +kernel
theorem dX9_init_4 : decode cX9_init 4 = .ok (.aload_n 0, 1) := by decide +kernel
theorem dX9_init_5 : decode cX9_init 5 = .ok (.bipush 57, 2) := by decide +kernel
theorem dX9_init_7 : decode cX9_init 7 = .ok (.newarray .int, 2) := by decide +kernel
theorem dX9_init_9 : decode cX9_init 9 = .ok (.putfield 9, 3) := by decide +kernel
theorem dX9_init_12 : decode cX9_init 12 = .ok (.aload_n 0, 1) := by decide +kernel
theorem dX9_init_13 : decode cX9_init 13 = .ok (.bipush 57, 2) := by decide +kernel
theorem dX9_init_15 : decode cX9_init 15 = .ok (.newarray .int, 2) := by decide +kernel
theorem dX9_init_17 : decode cX9_init 17 = .ok (.putfield 13, 3) := by decide +kernel
theorem dX9_init_20 : decode cX9_init 20 = .ok (.aload_n 0, 1) := by decide +kernel
theorem dX9_init_21 : decode cX9_init 21 = .ok (.sipush 1140, 3) := by decide +kernel
theorem dX9_init_24 : decode cX9_init 24 = .ok (.newarray .int, 2) := by decide +kernel
theorem dX9_init_26 : decode cX9_init 26 = .ok (.putfield 16, 3) := by decide +kernel
theorem dX9_init_29 : decode cX9_init 29 = .ok (.aload_n 0, 1) := by decide +kernel
theorem dX9_init_30 : decode cX9_init 30 = .ok (.sipush 500, 3) := by decide +kernel
theorem dX9_init_33 : decode cX9_init 33 = .ok (.newarray .int, 2) := by decide +kernel
theorem dX9_init_35 : decode cX9_init 35 = .ok (.putfield 19, 3) := by decide +kernel
theorem dX9_init_38 : decode cX9_init 38 = .ok (.aload_n 0, 1) := by decide +kernel
theorem dX9_init_39 : decode cX9_init 39 = .ok (.iconst (-1), 1) := by decide +kernel
theorem dX9_init_40 : decode cX9_init 40 = .ok (.putfield 22, 3) := by decide +kernel
theorem dX9_init_43 : decode cX9_init 43 = .ok (.aload_n 0, 1) := by decide +kernel
theorem dX9_init_44 : decode cX9_init 44 = .ok (.sipush 2500, 3) := by decide +kernel
theorem dX9_init_47 : decode cX9_init 47 = .ok (.newarray .int, 2) := by decide +kernel
theorem dX9_init_49 : decode cX9_init 49 = .ok (.putfield 26, 3) := by decide +kernel
theorem dX9_init_52 : decode cX9_init 52 = .ok (.aload_n 0, 1) := by decide +kernel
theorem dX9_init_53 : decode cX9_init 53 = .ok (.sipush 2500, 3) := by decide +kernel
theorem dX9_init_56 : decode cX9_init 56 = .ok (.newarray .int, 2) := by decide +kernel
theorem dX9_init_58 : decode cX9_init 58 = .ok (.putfield 29, 3) := by decide +kernel
theorem dX9_init_61 : decode cX9_init 61 = .ok (.aload_n 0, 1) := by decide +kernel
theorem dX9_init_62 : decode cX9_init 62 = .ok (.sipush 2500, 3) := by decide +kernel
theorem dX9_init_65 : decode cX9_init 65 = .ok (.newarray .int, 2) := by decide +kernel
theorem dX9_init_67 : decode cX9_init 67 = .ok (.putfield 32, 3) := by decide +kernel
theorem dX9_init_70 : decode cX9_init 70 = .ok (.aload_n 0, 1) := by decide +kernel
theorem dX9_init_71 : decode cX9_init 71 = .ok (.bipush 10, 2) := by decide +kernel
theorem dX9_init_73 : decode cX9_init 73 = .ok (.newarray .int, 2) := by decide +kernel
theorem dX9_init_75 : decode cX9_init 75 = .ok (.putfield 35, 3) := by decide +kernel
theorem dX9_init_78 : decode cX9_init 78 = .ok (.aload_n 0, 1) := by decide +kernel
theorem dX9_init_79 : decode cX9_init 79 = .ok (.bipush 10, 2) := by decide +kernel
theorem dX9_init_81 : decode cX9_init 81 = .ok (.newarray .int, 2) := by decide +kernel
theorem dX9_init_83 : decode cX9_init 83 = .ok (.putfield 38, 3) := by decide +kernel
theorem dX9_init_86 : decode cX9_init 86 = .ok (.aload_n 0, 1) := by decide +kernel
theorem dX9_init_87 : decode cX9_init 87 = .ok (.bipush 10, 2) := by decide +kernel
theorem dX9_init_89 : decode cX9_init 89 = .ok (.newarray .int, 2) := by decide +kernel
theorem dX9_init_91 : decode cX9_init 91 = .ok (.putfield 41, 3) := by decide +kernel
theorem dX9_init_94 : decode cX9_init 94 = .ok (.aload_n 0, 1) := by decide +kernel
theorem dX9_init_95 : decode cX9_init 95 = .ok (.sipush 200, 3) := by decide +kernel
theorem dX9_init_98 : decode cX9_init 98 = .ok (.newarray .int, 2) := by decide +kernel
theorem dX9_init_100 : decode cX9_init 100 = .ok (.putfield 44, 3) := by decide +kernel
theorem dX9_init_103 : decode cX9_init 103 = .ok (.aload_n 0, 1) := by decide +kernel
theorem dX9_init_104 : decode cX9_init 104 = .ok (.sipush 200, 3) := by decide +kernel
theorem dX9_init_107 : decode cX9_init 107 = .ok (.newarray .int, 2) := by decide +kernel
theorem dX9_init_109 : decode cX9_init 109 = .ok (.putfield 47, 3) := by decide +kernel
theorem dX9_init_112 : decode cX9_init 112 = .ok (.aload_n 0, 1) := by decide +kernel
theorem dX9_init_113 : decode cX9_init 113 = .ok (.sipush 200, 3) := by decide +kernel
theorem dX9_init_116 : decode cX9_init 116 = .ok (.newarray .int, 2) := by decide +kernel
theorem dX9_init_118 : decode cX9_init 118 = .ok (.putfield 50, 3) := by decide +kernel
theorem dX9_init_121 : decode cX9_init 121 = .ok (.aload_n 0, 1) := by decide +kernel
theorem dX9_init_122 : decode cX9_init 122 = .ok (.sipush 200, 3) := by decide +kernel
theorem dX9_init_125 : decode cX9_init 125 = .ok (.newarray .int, 2) := by decide +kernel
theorem dX9_init_127 : decode cX9_init 127 = .ok (.putfield 53, 3) := by decide +kernel
theorem dX9_init_130 : decode cX9_init 130 = .ok (.aload_n 0, 1) := by decide +kernel
theorem dX9_init_131 : decode cX9_init 131 = .ok (.sipush 200, 3) := by decide +kernel
theorem dX9_init_134 : decode cX9_init 134 = .ok (.newarray .int, 2) := by decide +kernel
theorem dX9_init_136 : decode cX9_init 136 = .ok (.putfield 56, 3) := by decide +kernel
theorem dX9_init_139 : decode cX9_init 139 = .ok (.aload_n 0, 1) := by decide +kernel
theorem dX9_init_140 : decode cX9_init 140 = .ok (.sipush 200, 3) := by decide +kernel
theorem dX9_init_143 : decode cX9_init 143 = .ok (.newarray .int, 2) := by decide +kernel
theorem dX9_init_145 : decode cX9_init 145 = .ok (.putfield 59, 3) := by decide +kernel
theorem dX9_init_148 : decode cX9_init 148 = .ok (.aload_n 0, 1) := by decide +kernel
theorem dX9_init_149 : decode cX9_init 149 = .ok (.sipush 200, 3) := by decide +kernel
theorem dX9_init_152 : decode cX9_init 152 = .ok (.newarray .int, 2) := by decide +kernel
theorem dX9_init_154 : decode cX9_init 154 = .ok (.putfield 62, 3) := by decide +kernel
theorem dX9_init_157 : decode cX9_init 157 = .ok (.aload_n 0, 1) := by decide +kernel
theorem dX9_init_158 : decode cX9_init 158 = .ok (.sipush 200, 3) := by decide +kernel
theorem dX9_init_161 : decode cX9_init 161 = .ok (.newarray .int, 2) := by decide +kernel
theorem dX9_init_163 : decode cX9_init 163 = .ok (.putfield 65, 3) := by decide +kernel
theorem dX9_init_166 : decode cX9_init 166 = .ok (.aload_n 0, 1) := by decide +kernel
theorem dX9_init_167 : decode cX9_init 167 = .ok (.bipush 9, 2) := by decide +kernel
theorem dX9_init_169 : decode cX9_init 169 = .ok (.newarray .long, 2) := by decide +kernel
theorem dX9_init_171 : decode cX9_init 171 = .ok (.putfield 68, 3) := by decide +kernel
theorem dX9_init_174 : decode cX9_init 174 = .ok (.aload_n 0, 1) := by decide +kernel
theorem dX9_init_175 : decode cX9_init 175 = .ok (.bipush 9, 2) := by decide +kernel
theorem dX9_init_177 : decode cX9_init 177 = .ok (.newarray .long, 2) := by decide +kernel
theorem dX9_init_179 : decode cX9_init 179 = .ok (.putfield 72, 3) := by decide +kernel
theorem dX9_init_182 : decode cX9_init 182 = .ok (.aload_n 0, 1) := by decide +kernel
theorem dX9_init_183 : decode cX9_init 183 = .ok (.bipush 52, 2) := by decide +kernel
theorem dX9_init_185 : decode cX9_init 185 = .ok (.newarray .long, 2) := by decide +kernel
theorem dX9_init_187 : decode cX9_init 187 = .ok (.putfield 75, 3) := by decide +kernel
theorem dX9_init_190 : decode cX9_init 190 = .ok (.aload_n 0, 1) := by decide +kernel
theorem dX9_init_191 : decode cX9_init 191 = .ok (.bipush 52, 2) := by decide +kernel
theorem dX9_init_193 : decode cX9_init 193 = .ok (.newarray .long, 2) := by decide +kernel
theorem dX9_init_195 : decode cX9_init 195 = .ok (.putfield 78, 3) := by decide +kernel
theorem dX9_init_198 : decode cX9_init 198 = .ok (.return_, 1) := by decide +kernel
theorem dX9_feed_0 : decode cX9_feed 0 = .ok (.aload_n 0, 1) := by decide +kernel
theorem dX9_feed_1 : decode cX9_feed 1 = .ok (.getfield 81, 3) := by decide +kernel
theorem dX9_feed_4 : decode cX9_feed 4 = .ok (.sipush 480, 3) := by decide +kernel
theorem dX9_feed_7 : decode cX9_feed 7 = .ok (.if_icmp .le 5, 3) := by decide +kernel
theorem dX9_feed_10 : decode cX9_feed 10 = .ok (.iconst (-1), 1) := by decide +kernel
theorem dX9_feed_11 : decode cX9_feed 11 = .ok (.ireturn, 1) := by decide +kernel
theorem dX9_feed_12 : decode cX9_feed 12 = .ok (.iconst 5, 1) := by decide +kernel
theorem dX9_feed_13 : decode cX9_feed 13 = .ok (.newarray .int, 2) := by decide +kernel
theorem dX9_feed_15 : decode cX9_feed 15 = .ok (.dup, 1) := by decide +kernel
theorem dX9_feed_16 : decode cX9_feed 16 = .ok (.iconst 0, 1) := by decide +kernel
theorem dX9_feed_17 : decode cX9_feed 17 = .ok (.iload_n 1, 1) := by decide +kernel
theorem dX9_feed_18 : decode cX9_feed 18 = .ok (.iastore, 1) := by decide +kernel
theorem dX9_feed_19 : decode cX9_feed 19 = .ok (.dup, 1) := by decide +kernel
theorem dX9_feed_20 : decode cX9_feed 20 = .ok (.iconst 1, 1) := by decide +kernel
theorem dX9_feed_21 : decode cX9_feed 21 = .ok (.iload_n 2, 1) := by decide +kernel
theorem dX9_feed_22 : decode cX9_feed 22 = .ok (.iastore, 1) := by decide +kernel
theorem dX9_feed_23 : decode cX9_feed 23 = .ok (.dup, 1) := by decide +kernel
theorem dX9_feed_24 : decode cX9_feed 24 = .ok (.iconst 2, 1) := by decide +kernel
theorem dX9_feed_25 : decode cX9_feed 25 = .ok (.iload_n 3, 1) := by decide +kernel
theorem dX9_feed_26 : decode cX9_feed 26 = .ok (.iastore, 1) := by decide +kernel
theorem dX9_feed_27 : decode cX9_feed 27 = .ok (.dup, 1) := by decide +kernel
theorem dX9_feed_28 : decode cX9_feed 28 = .ok (.iconst 3, 1) := by decide +kernel
theorem dX9_feed_29 : decode cX9_feed 29 = .ok (.iload 4, 2) := by decide +kernel
theorem dX9_feed_31 : decode cX9_feed 31 = .ok (.iastore, 1) := by decide +kernel
theorem dX9_feed_32 : decode cX9_feed 32 = .ok (.dup, 1) := by decide +kernel
theorem dX9_feed_33 : decode cX9_feed 33 = .ok (.iconst 4, 1) := by decide +kernel
theorem dX9_feed_34 : decode cX9_feed 34 = .ok (.iload 5, 2) := by decide +kernel
theorem dX9_feed_36 : decode cX9_feed 36 = .ok (.iastore, 1) := by decide +kernel
theorem dX9_feed_37 : decode cX9_feed 37 = .ok (.astore 6, 2) := by decide +kernel
theorem dX9_feed_39 : decode cX9_feed 39 = .ok (.iconst 0, 1) := by decide +kernel
theorem dX9_feed_40 : decode cX9_feed 40 = .ok (.istore 7, 2) := by decide +kernel
theorem dX9_feed_42 : decode cX9_feed 42 = .ok (.iload 7, 2) := by decide +kernel
theorem dX9_feed_44 : decode cX9_feed 44 = .ok (.bipush 20, 2) := by decide +kernel
theorem dX9_feed_46 : decode cX9_feed 46 = .ok (.if_icmp .ge 43, 3) := by decide +kernel
theorem dX9_feed_49 : decode cX9_feed 49 = .ok (.aload_n 0, 1) := by decide +kernel
theorem dX9_feed_50 : decode cX9_feed 50 = .ok (.getfield 19, 3) := by decide +kernel
theorem dX9_feed_53 : decode cX9_feed 53 = .ok (.aload_n 0, 1) := by decide +kernel
theorem dX9_feed_54 : decode cX9_feed 54 = .ok (.getfield 81, 3) := by decide +kernel
theorem dX9_feed_57 : decode cX9_feed 57 = .ok (.iload 7, 2) := by decide +kernel
theorem dX9_feed_59 : decode cX9_feed 59 = .ok (.iadd, 1) := by decide +kernel
theorem dX9_feed_60 : decode cX9_feed 60 = .ok (.aload 6, 2) := by decide +kernel
theorem dX9_feed_62 : decode cX9_feed 62 = .ok (.iload 7, 2) := by decide +kernel
theorem dX9_feed_64 : decode cX9_feed 64 = .ok (.iconst 4, 1) := by decide +kernel
theorem dX9_feed_65 : decode cX9_feed 65 = .ok (.idiv, 1) := by decide +kernel
theorem dX9_feed_66 : decode cX9_feed 66 = .ok (.iaload, 1) := by decide +kernel
theorem dX9_feed_67 : decode cX9_feed 67 = .ok (.bipush 24, 2) := by decide +kernel
theorem dX9_feed_69 : decode cX9_feed 69 = .ok (.bipush 8, 2) := by decide +kernel
theorem dX9_feed_71 : decode cX9_feed 71 = .ok (.iload 7, 2) := by decide +kernel
theorem dX9_feed_73 : decode cX9_feed 73 = .ok (.iconst 4, 1) := by decide +kernel
theorem dX9_feed_74 : decode cX9_feed 74 = .ok (.irem, 1) := by decide +kernel
theorem dX9_feed_75 : decode cX9_feed 75 = .ok (.imul, 1) := by decide +kernel
theorem dX9_feed_76 : decode cX9_feed 76 = .ok (.isub, 1) := by decide +kernel
theorem dX9_feed_77 : decode cX9_feed 77 = .ok (.iushr, 1) := by decide +kernel
theorem dX9_feed_78 : decode cX9_feed 78 = .ok (.sipush 255, 3) := by decide +kernel
theorem dX9_feed_81 : decode cX9_feed 81 = .ok (.iand, 1) := by decide +kernel
theorem dX9_feed_82 : decode cX9_feed 82 = .ok (.iastore, 1) := by decide +kernel
theorem dX9_feed_83 : decode cX9_feed 83 = .ok (.iinc 7 1, 3) := by decide +kernel
theorem dX9_feed_86 : decode cX9_feed 86 = .ok (.goto (-44), 3) := by decide +kernel
theorem dX9_feed_89 : decode cX9_feed 89 = .ok (.aload_n 0, 1) := by decide +kernel
theorem dX9_feed_90 : decode cX9_feed 90 = .ok (.dup, 1) := by decide +kernel
theorem dX9_feed_91 : decode cX9_feed 91 = .ok (.getfield 81, 3) := by decide +kernel
theorem dX9_feed_94 : decode cX9_feed 94 = .ok (.bipush 20, 2) := by decide +kernel
theorem dX9_feed_96 : decode cX9_feed 96 = .ok (.iadd, 1) := by decide +kernel
theorem dX9_feed_97 : decode cX9_feed 97 = .ok (.putfield 81, 3) := by decide +kernel
theorem dX9_feed_100 : decode cX9_feed 100 = .ok (.aload_n 0, 1) := by decide +kernel
theorem dX9_feed_101 : decode cX9_feed 101 = .ok (.getfield 81, 3) := by decide +kernel
theorem dX9_feed_104 : decode cX9_feed 104 = .ok (.ireturn, 1) := by decide +kernel
theorem dX9_end_0 : decode cX9_end 0 = .ok (.iload_n 1, 1) := by decide +kernel
theorem dX9_end_1 : decode cX9_end 1 = .ok (.i2l, 1) := by decide +kernel
theorem dX9_end_2 : decode cX9_end 2 = .ok (.lconst 0, 1) := by decide +kernel
theorem dX9_end_3 : decode cX9_end 3 = .ok (.aload_n 0, 1) := by decide +kernel
theorem dX9_end_4 : decode cX9_end 4 = .ok (.getfield 81, 3) := by decide +kernel
theorem dX9_end_7 : decode cX9_end 7 = .ok (.i2l, 1) := by decide +kernel
theorem dX9_end_8 : decode cX9_end 8 = .ok (.invokestatic 84, 3) := by decide +kernel
theorem dX9_end_11 : decode cX9_end 11 = .ok (.ifCond .ne 5, 3) := by decide +kernel
theorem dX9_end_14 : decode cX9_end 14 = .ok (.iconst (-1), 1) := by decide +kernel
theorem dX9_end_15 : decode cX9_end 15 = .ok (.ireturn, 1) := by decide +kernel
theorem dX9_end_16 : decode cX9_end 16 = .ok (.aload_n 0, 1) := by decide +kernel
theorem dX9_end_17 : decode cX9_end 17 = .ok (.iload_n 1, 1) := by decide +kernel
theorem dX9_end_18 : decode cX9_end 18 = .ok (.putfield 81, 3) := by decide +kernel
theorem dX9_end_21 : decode cX9_end 21 = .ok (.iload_n 1, 1) := by decide +kernel
theorem dX9_end_22 : decode cX9_end 22 = .ok (.ireturn, 1) := by decide +kernel
theorem dX9_isAt_0 : decode cX9_isAt 0 = .ok (.aload_n 0, 1) := by decide +kernel
theorem dX9_isAt_1 : decode cX9_isAt 1 = .ok (.getfield 88, 3) := by decide +kernel
theorem dX9_isAt_4 : decode cX9_isAt 4 = .ok (.aload_n 0, 1) := by decide +kernel
theorem dX9_isAt_5 : decode cX9_isAt 5 = .ok (.getfield 81, 3) := by decide +kernel
theorem dX9_isAt_8 : decode cX9_isAt 8 = .ok (.if_icmp .ge 27, 3) := by decide +kernel
theorem dX9_isAt_11 : decode cX9_isAt 11 = .ok (.aload_n 0, 1) := by decide +kernel
theorem dX9_isAt_12 : decode cX9_isAt 12 = .ok (.getfield 19, 3) := by decide +kernel
theorem dX9_isAt_15 : decode cX9_isAt 15 = .ok (.aload_n 0, 1) := by decide +kernel
theorem dX9_isAt_16 : decode cX9_isAt 16 = .ok (.getfield 88, 3) := by decide +kernel
theorem dX9_isAt_19 : decode cX9_isAt 19 = .ok (.iaload, 1) := by decide +kernel
theorem dX9_isAt_20 : decode cX9_isAt 20 = .ok (.i2l, 1) := by decide +kernel
theorem dX9_isAt_21 : decode cX9_isAt 21 = .ok (.iload_n 1, 1) := by decide +kernel
theorem dX9_isAt_22 : decode cX9_isAt 22 = .ok (.i2l, 1) := by decide +kernel
theorem dX9_isAt_23 : decode cX9_isAt 23 = .ok (.iload_n 2, 1) := by decide +kernel
theorem dX9_isAt_24 : decode cX9_isAt 24 = .ok (.i2l, 1) := by decide +kernel
theorem dX9_isAt_25 : decode cX9_isAt 25 = .ok (.invokestatic 84, 3) := by decide +kernel
theorem dX9_isAt_28 : decode cX9_isAt 28 = .ok (.ifCond .eq 7, 3) := by decide +kernel
theorem dX9_isAt_31 : decode cX9_isAt 31 = .ok (.iconst 1, 1) := by decide +kernel
theorem dX9_isAt_32 : decode cX9_isAt 32 = .ok (.goto 4, 3) := by decide +kernel
theorem dX9_isAt_35 : decode cX9_isAt 35 = .ok (.iconst 0, 1) := by decide +kernel
theorem dX9_isAt_36 : decode cX9_isAt 36 = .ok (.ireturn, 1) := by decide +kernel
theorem dX9_next_0 : decode cX9_next 0 = .ok (.aload_n 0, 1) := by decide +kernel
theorem dX9_next_1 : decode cX9_next 1 = .ok (.bipush 32, 2) := by decide +kernel
theorem dX9_next_3 : decode cX9_next 3 = .ok (.bipush 32, 2) := by decide +kernel
theorem dX9_next_5 : decode cX9_next 5 = .ok (.invokevirtual 91, 3) := by decide +kernel
theorem dX9_next_8 : decode cX9_next 8 = .ok (.ifCond .ne 14, 3) := by decide +kernel
theorem dX9_next_11 : decode cX9_next 11 = .ok (.aload_n 0, 1) := by decide +kernel
theorem dX9_next_12 : decode cX9_next 12 = .ok (.bipush 10, 2) := by decide +kernel
theorem dX9_next_14 : decode cX9_next 14 = .ok (.bipush 10, 2) := by decide +kernel
theorem dX9_next_16 : decode cX9_next 16 = .ok (.invokevirtual 91, 3) := by decide +kernel
theorem dX9_next_19 : decode cX9_next 19 = .ok (.ifCond .eq 16, 3) := by decide +kernel
theorem dX9_next_22 : decode cX9_next 22 = .ok (.aload_n 0, 1) := by decide +kernel
theorem dX9_next_23 : decode cX9_next 23 = .ok (.dup, 1) := by decide +kernel
theorem dX9_next_24 : decode cX9_next 24 = .ok (.getfield 88, 3) := by decide +kernel
theorem dX9_next_27 : decode cX9_next 27 = .ok (.iconst 1, 1) := by decide +kernel
theorem dX9_next_28 : decode cX9_next 28 = .ok (.iadd, 1) := by decide +kernel
theorem dX9_next_29 : decode cX9_next 29 = .ok (.putfield 88, 3) := by decide +kernel
theorem dX9_next_32 : decode cX9_next 32 = .ok (.goto (-32), 3) := by decide +kernel
theorem dX9_next_35 : decode cX9_next 35 = .ok (.aload_n 0, 1) := by decide +kernel
theorem dX9_next_36 : decode cX9_next 36 = .ok (.aload_n 0, 1) := by decide +kernel
theorem dX9_next_37 : decode cX9_next 37 = .ok (.getfield 88, 3) := by decide +kernel
theorem dX9_next_40 : decode cX9_next 40 = .ok (.putfield 95, 3) := by decide +kernel
theorem dX9_next_43 : decode cX9_next 43 = .ok (.aload_n 0, 1) := by decide +kernel
theorem dX9_next_44 : decode cX9_next 44 = .ok (.iconst 0, 1) := by decide +kernel
theorem dX9_next_45 : decode cX9_next 45 = .ok (.putfield 98, 3) := by decide +kernel
theorem dX9_next_48 : decode cX9_next 48 = .ok (.aload_n 0, 1) := by decide +kernel
theorem dX9_next_49 : decode cX9_next 49 = .ok (.getfield 88, 3) := by decide +kernel
theorem dX9_next_52 : decode cX9_next 52 = .ok (.aload_n 0, 1) := by decide +kernel
theorem dX9_next_53 : decode cX9_next 53 = .ok (.getfield 81, 3) := by decide +kernel
theorem dX9_next_56 : decode cX9_next 56 = .ok (.if_icmp .ne 11, 3) := by decide +kernel
theorem dX9_next_59 : decode cX9_next 59 = .ok (.aload_n 0, 1) := by decide +kernel
theorem dX9_next_60 : decode cX9_next 60 = .ok (.iconst 0, 1) := by decide +kernel
theorem dX9_next_61 : decode cX9_next 61 = .ok (.putfield 101, 3) := by decide +kernel
theorem dX9_next_64 : decode cX9_next 64 = .ok (.goto 142, 3) := by decide +kernel
theorem dX9_next_67 : decode cX9_next 67 = .ok (.aload_n 0, 1) := by decide +kernel
theorem dX9_next_68 : decode cX9_next 68 = .ok (.bipush 97, 2) := by decide +kernel
theorem dX9_next_70 : decode cX9_next 70 = .ok (.bipush 122, 2) := by decide +kernel
theorem dX9_next_72 : decode cX9_next 72 = .ok (.invokevirtual 91, 3) := by decide +kernel
theorem dX9_next_75 : decode cX9_next 75 = .ok (.ifCond .eq 32, 3) := by decide +kernel
theorem dX9_next_78 : decode cX9_next 78 = .ok (.aload_n 0, 1) := by decide +kernel
theorem dX9_next_79 : decode cX9_next 79 = .ok (.iconst 1, 1) := by decide +kernel
theorem dX9_next_80 : decode cX9_next 80 = .ok (.putfield 101, 3) := by decide +kernel
theorem dX9_next_83 : decode cX9_next 83 = .ok (.aload_n 0, 1) := by decide +kernel
theorem dX9_next_84 : decode cX9_next 84 = .ok (.bipush 97, 2) := by decide +kernel
theorem dX9_next_86 : decode cX9_next 86 = .ok (.bipush 122, 2) := by decide +kernel
theorem dX9_next_88 : decode cX9_next 88 = .ok (.invokevirtual 91, 3) := by decide +kernel
theorem dX9_next_91 : decode cX9_next 91 = .ok (.ifCond .eq 115, 3) := by decide +kernel
theorem dX9_next_94 : decode cX9_next 94 = .ok (.aload_n 0, 1) := by decide +kernel
theorem dX9_next_95 : decode cX9_next 95 = .ok (.dup, 1) := by decide +kernel
theorem dX9_next_96 : decode cX9_next 96 = .ok (.getfield 88, 3) := by decide +kernel
theorem dX9_next_99 : decode cX9_next 99 = .ok (.iconst 1, 1) := by decide +kernel
theorem dX9_next_100 : decode cX9_next 100 = .ok (.iadd, 1) := by decide +kernel
theorem dX9_next_101 : decode cX9_next 101 = .ok (.putfield 88, 3) := by decide +kernel
theorem dX9_next_104 : decode cX9_next 104 = .ok (.goto (-21), 3) := by decide +kernel
theorem dX9_next_107 : decode cX9_next 107 = .ok (.aload_n 0, 1) := by decide +kernel
theorem dX9_next_108 : decode cX9_next 108 = .ok (.bipush 48, 2) := by decide +kernel
theorem dX9_next_110 : decode cX9_next 110 = .ok (.bipush 57, 2) := by decide +kernel
theorem dX9_next_112 : decode cX9_next 112 = .ok (.invokevirtual 91, 3) := by decide +kernel
theorem dX9_next_115 : decode cX9_next 115 = .ok (.ifCond .eq 61, 3) := by decide +kernel
theorem dX9_next_118 : decode cX9_next 118 = .ok (.aload_n 0, 1) := by decide +kernel
theorem dX9_next_119 : decode cX9_next 119 = .ok (.iconst 2, 1) := by decide +kernel
theorem dX9_next_120 : decode cX9_next 120 = .ok (.putfield 101, 3) := by decide +kernel
theorem dX9_next_123 : decode cX9_next 123 = .ok (.aload_n 0, 1) := by decide +kernel
theorem dX9_next_124 : decode cX9_next 124 = .ok (.bipush 48, 2) := by decide +kernel
theorem dX9_next_126 : decode cX9_next 126 = .ok (.bipush 57, 2) := by decide +kernel
theorem dX9_next_128 : decode cX9_next 128 = .ok (.invokevirtual 91, 3) := by decide +kernel
theorem dX9_next_131 : decode cX9_next 131 = .ok (.ifCond .eq 75, 3) := by decide +kernel
theorem dX9_next_134 : decode cX9_next 134 = .ok (.aload_n 0, 1) := by decide +kernel
theorem dX9_next_135 : decode cX9_next 135 = .ok (.ldc 104, 2) := by decide +kernel
theorem dX9_next_137 : decode cX9_next 137 = .ok (.bipush 10, 2) := by decide +kernel
theorem dX9_next_139 : decode cX9_next 139 = .ok (.aload_n 0, 1) := by decide +kernel
theorem dX9_next_140 : decode cX9_next 140 = .ok (.getfield 98, 3) := by decide +kernel
theorem dX9_next_143 : decode cX9_next 143 = .ok (.imul, 1) := by decide +kernel
theorem dX9_next_144 : decode cX9_next 144 = .ok (.aload_n 0, 1) := by decide +kernel
theorem dX9_next_145 : decode cX9_next 145 = .ok (.getfield 19, 3) := by decide +kernel
theorem dX9_next_148 : decode cX9_next 148 = .ok (.aload_n 0, 1) := by decide +kernel
theorem dX9_next_149 : decode cX9_next 149 = .ok (.getfield 88, 3) := by decide +kernel
theorem dX9_next_152 : decode cX9_next 152 = .ok (.iaload, 1) := by decide +kernel
theorem dX9_next_153 : decode cX9_next 153 = .ok (.iadd, 1) := by decide +kernel
theorem dX9_next_154 : decode cX9_next 154 = .ok (.bipush 48, 2) := by decide +kernel
theorem dX9_next_156 : decode cX9_next 156 = .ok (.isub, 1) := by decide +kernel
theorem dX9_next_157 : decode cX9_next 157 = .ok (.invokestatic 105, 3) := by decide +kernel
theorem dX9_next_160 : decode cX9_next 160 = .ok (.putfield 98, 3) := by decide +kernel
theorem dX9_next_163 : decode cX9_next 163 = .ok (.aload_n 0, 1) := by decide +kernel
theorem dX9_next_164 : decode cX9_next 164 = .ok (.dup, 1) := by decide +kernel
theorem dX9_next_165 : decode cX9_next 165 = .ok (.getfield 88, 3) := by decide +kernel
theorem dX9_next_168 : decode cX9_next 168 = .ok (.iconst 1, 1) := by decide +kernel
theorem dX9_next_169 : decode cX9_next 169 = .ok (.iadd, 1) := by decide +kernel
theorem dX9_next_170 : decode cX9_next 170 = .ok (.putfield 88, 3) := by decide +kernel
theorem dX9_next_173 : decode cX9_next 173 = .ok (.goto (-50), 3) := by decide +kernel
theorem dX9_next_176 : decode cX9_next 176 = .ok (.aload_n 0, 1) := by decide +kernel
theorem dX9_next_177 : decode cX9_next 177 = .ok (.aload_n 0, 1) := by decide +kernel
theorem dX9_next_178 : decode cX9_next 178 = .ok (.bipush 59, 2) := by decide +kernel
theorem dX9_next_180 : decode cX9_next 180 = .ok (.bipush 59, 2) := by decide +kernel
theorem dX9_next_182 : decode cX9_next 182 = .ok (.invokevirtual 91, 3) := by decide +kernel
theorem dX9_next_185 : decode cX9_next 185 = .ok (.ifCond .eq 7, 3) := by decide +kernel
theorem dX9_next_188 : decode cX9_next 188 = .ok (.iconst 3, 1) := by decide +kernel
theorem dX9_next_189 : decode cX9_next 189 = .ok (.goto 4, 3) := by decide +kernel
theorem dX9_next_192 : decode cX9_next 192 = .ok (.iconst 4, 1) := by decide +kernel
theorem dX9_next_193 : decode cX9_next 193 = .ok (.putfield 101, 3) := by decide +kernel
theorem dX9_next_196 : decode cX9_next 196 = .ok (.aload_n 0, 1) := by decide +kernel
theorem dX9_next_197 : decode cX9_next 197 = .ok (.dup, 1) := by decide +kernel
theorem dX9_next_198 : decode cX9_next 198 = .ok (.getfield 88, 3) := by decide +kernel
theorem dX9_next_201 : decode cX9_next 201 = .ok (.iconst 1, 1) := by decide +kernel
theorem dX9_next_202 : decode cX9_next 202 = .ok (.iadd, 1) := by decide +kernel
theorem dX9_next_203 : decode cX9_next 203 = .ok (.putfield 88, 3) := by decide +kernel
theorem dX9_next_206 : decode cX9_next 206 = .ok (.return_, 1) := by decide +kernel
theorem dX9_faults_0 : decode cX9_faults 0 = .ok (.aload_n 0, 1) := by decide +kernel
theorem dX9_faults_1 : decode cX9_faults 1 = .ok (.getfield 111, 3) := by decide +kernel
theorem dX9_faults_4 : decode cX9_faults 4 = .ok (.ifCond .ne 21, 3) := by decide +kernel
theorem dX9_faults_7 : decode cX9_faults 7 = .ok (.aload_n 0, 1) := by decide +kernel
theorem dX9_faults_8 : decode cX9_faults 8 = .ok (.iconst 1, 1) := by decide +kernel
theorem dX9_faults_9 : decode cX9_faults 9 = .ok (.putfield 111, 3) := by decide +kernel
theorem dX9_faults_12 : decode cX9_faults 12 = .ok (.aload_n 0, 1) := by decide +kernel
theorem dX9_faults_13 : decode cX9_faults 13 = .ok (.iload_n 1, 1) := by decide +kernel
theorem dX9_faults_14 : decode cX9_faults 14 = .ok (.putfield 115, 3) := by decide +kernel
theorem dX9_faults_17 : decode cX9_faults 17 = .ok (.aload_n 0, 1) := by decide +kernel
theorem dX9_faults_18 : decode cX9_faults 18 = .ok (.aload_n 0, 1) := by decide +kernel
theorem dX9_faults_19 : decode cX9_faults 19 = .ok (.getfield 95, 3) := by decide +kernel
theorem dX9_faults_22 : decode cX9_faults 22 = .ok (.putfield 118, 3) := by decide +kernel
theorem dX9_faults_25 : decode cX9_faults 25 = .ok (.return_, 1) := by decide +kernel
theorem dX9_isWord_0 : decode cX9_isWord 0 = .ok (.aload_n 0, 1) := by decide +kernel
theorem dX9_isWord_1 : decode cX9_isWord 1 = .ok (.getfield 101, 3) := by decide +kernel
theorem dX9_isWord_4 : decode cX9_isWord 4 = .ok (.iconst 1, 1) := by decide +kernel
theorem dX9_isWord_5 : decode cX9_isWord 5 = .ok (.if_icmp .ne 23, 3) := by decide +kernel
theorem dX9_isWord_8 : decode cX9_isWord 8 = .ok (.aload_n 0, 1) := by decide +kernel
theorem dX9_isWord_9 : decode cX9_isWord 9 = .ok (.getfield 88, 3) := by decide +kernel
theorem dX9_isWord_12 : decode cX9_isWord 12 = .ok (.aload_n 0, 1) := by decide +kernel
theorem dX9_isWord_13 : decode cX9_isWord 13 = .ok (.getfield 95, 3) := by decide +kernel
theorem dX9_isWord_16 : decode cX9_isWord 16 = .ok (.isub, 1) := by decide +kernel
theorem dX9_isWord_17 : decode cX9_isWord 17 = .ok (.aload_n 1, 1) := by decide +kernel
theorem dX9_isWord_18 : decode cX9_isWord 18 = .ok (.invokevirtual 121, 3) := by decide +kernel
theorem dX9_isWord_21 : decode cX9_isWord 21 = .ok (.if_icmp .ne 7, 3) := by decide +kernel
theorem dX9_isWord_24 : decode cX9_isWord 24 = .ok (.iconst 1, 1) := by decide +kernel
theorem dX9_isWord_25 : decode cX9_isWord 25 = .ok (.goto 4, 3) := by decide +kernel
theorem dX9_isWord_28 : decode cX9_isWord 28 = .ok (.iconst 0, 1) := by decide +kernel
theorem dX9_isWord_29 : decode cX9_isWord 29 = .ok (.istore_n 2, 1) := by decide +kernel
theorem dX9_isWord_30 : decode cX9_isWord 30 = .ok (.iconst 0, 1) := by decide +kernel
theorem dX9_isWord_31 : decode cX9_isWord 31 = .ok (.istore_n 3, 1) := by decide +kernel
theorem dX9_isWord_32 : decode cX9_isWord 32 = .ok (.iload_n 3, 1) := by decide +kernel
theorem dX9_isWord_33 : decode cX9_isWord 33 = .ok (.aload_n 1, 1) := by decide +kernel
theorem dX9_isWord_34 : decode cX9_isWord 34 = .ok (.invokevirtual 121, 3) := by decide +kernel
theorem dX9_isWord_37 : decode cX9_isWord 37 = .ok (.if_icmp .ge 38, 3) := by decide +kernel
theorem dX9_isWord_40 : decode cX9_isWord 40 = .ok (.iload_n 2, 1) := by decide +kernel
theorem dX9_isWord_41 : decode cX9_isWord 41 = .ok (.ifCond .eq 34, 3) := by decide +kernel
theorem dX9_isWord_44 : decode cX9_isWord 44 = .ok (.aload_n 0, 1) := by decide +kernel
theorem dX9_isWord_45 : decode cX9_isWord 45 = .ok (.getfield 19, 3) := by decide +kernel
theorem dX9_isWord_48 : decode cX9_isWord 48 = .ok (.aload_n 0, 1) := by decide +kernel
theorem dX9_isWord_49 : decode cX9_isWord 49 = .ok (.getfield 95, 3) := by decide +kernel
theorem dX9_isWord_52 : decode cX9_isWord 52 = .ok (.iload_n 3, 1) := by decide +kernel
theorem dX9_isWord_53 : decode cX9_isWord 53 = .ok (.iadd, 1) := by decide +kernel
theorem dX9_isWord_54 : decode cX9_isWord 54 = .ok (.iaload, 1) := by decide +kernel
theorem dX9_isWord_55 : decode cX9_isWord 55 = .ok (.aload_n 1, 1) := by decide +kernel
theorem dX9_isWord_56 : decode cX9_isWord 56 = .ok (.iload_n 3, 1) := by decide +kernel
theorem dX9_isWord_57 : decode cX9_isWord 57 = .ok (.invokevirtual 127, 3) := by decide +kernel
theorem dX9_isWord_60 : decode cX9_isWord 60 = .ok (.if_icmp .ne 7, 3) := by decide +kernel
theorem dX9_isWord_63 : decode cX9_isWord 63 = .ok (.iconst 1, 1) := by decide +kernel
theorem dX9_isWord_64 : decode cX9_isWord 64 = .ok (.goto 4, 3) := by decide +kernel
theorem dX9_isWord_67 : decode cX9_isWord 67 = .ok (.iconst 0, 1) := by decide +kernel
theorem dX9_isWord_68 : decode cX9_isWord 68 = .ok (.istore_n 2, 1) := by decide +kernel
theorem dX9_isWord_69 : decode cX9_isWord 69 = .ok (.iinc 3 1, 3) := by decide +kernel
theorem dX9_isWord_72 : decode cX9_isWord 72 = .ok (.goto (-40), 3) := by decide +kernel
theorem dX9_isWord_75 : decode cX9_isWord 75 = .ok (.iload_n 2, 1) := by decide +kernel
theorem dX9_isWord_76 : decode cX9_isWord 76 = .ok (.ireturn, 1) := by decide +kernel
theorem dX9_passes_0 : decode cX9_passes 0 = .ok (.iload_n 1, 1) := by decide +kernel
theorem dX9_passes_1 : decode cX9_passes 1 = .ok (.ifCond .ne 8, 3) := by decide +kernel
theorem dX9_passes_4 : decode cX9_passes 4 = .ok (.aload_n 0, 1) := by decide +kernel
theorem dX9_passes_5 : decode cX9_passes 5 = .ok (.iconst 1, 1) := by decide +kernel
theorem dX9_passes_6 : decode cX9_passes 6 = .ok (.invokevirtual 131, 3) := by decide +kernel
theorem dX9_passes_9 : decode cX9_passes 9 = .ok (.aload_n 0, 1) := by decide +kernel
theorem dX9_passes_10 : decode cX9_passes 10 = .ok (.getfield 111, 3) := by decide +kernel
theorem dX9_passes_13 : decode cX9_passes 13 = .ok (.ifCond .ne 7, 3) := by decide +kernel
theorem dX9_passes_16 : decode cX9_passes 16 = .ok (.aload_n 0, 1) := by decide +kernel
theorem dX9_passes_17 : decode cX9_passes 17 = .ok (.invokevirtual 135, 3) := by decide +kernel
theorem dX9_passes_20 : decode cX9_passes 20 = .ok (.return_, 1) := by decide +kernel
theorem dX9_reads_0 : decode cX9_reads 0 = .ok (.aload_n 0, 1) := by decide +kernel
theorem dX9_reads_1 : decode cX9_reads 1 = .ok (.getfield 98, 3) := by decide +kernel
theorem dX9_reads_4 : decode cX9_reads 4 = .ok (.istore_n 3, 1) := by decide +kernel
theorem dX9_reads_5 : decode cX9_reads 5 = .ok (.aload_n 0, 1) := by decide +kernel
theorem dX9_reads_6 : decode cX9_reads 6 = .ok (.getfield 101, 3) := by decide +kernel
theorem dX9_reads_9 : decode cX9_reads 9 = .ok (.iconst 2, 1) := by decide +kernel
theorem dX9_reads_10 : decode cX9_reads 10 = .ok (.if_icmp .eq 11, 3) := by decide +kernel
theorem dX9_reads_13 : decode cX9_reads 13 = .ok (.aload_n 0, 1) := by decide +kernel
theorem dX9_reads_14 : decode cX9_reads 14 = .ok (.iconst 1, 1) := by decide +kernel
theorem dX9_reads_15 : decode cX9_reads 15 = .ok (.invokevirtual 131, 3) := by decide +kernel
theorem dX9_reads_18 : decode cX9_reads 18 = .ok (.goto 20, 3) := by decide +kernel
theorem dX9_reads_21 : decode cX9_reads 21 = .ok (.iload_n 3, 1) := by decide +kernel
theorem dX9_reads_22 : decode cX9_reads 22 = .ok (.i2l, 1) := by decide +kernel
theorem dX9_reads_23 : decode cX9_reads 23 = .ok (.iload_n 1, 1) := by decide +kernel
theorem dX9_reads_24 : decode cX9_reads 24 = .ok (.i2l, 1) := by decide +kernel
theorem dX9_reads_25 : decode cX9_reads 25 = .ok (.iload_n 2, 1) := by decide +kernel
theorem dX9_reads_26 : decode cX9_reads 26 = .ok (.i2l, 1) := by decide +kernel
theorem dX9_reads_27 : decode cX9_reads 27 = .ok (.invokestatic 84, 3) := by decide +kernel
theorem dX9_reads_30 : decode cX9_reads 30 = .ok (.ifCond .ne 8, 3) := by decide +kernel
theorem dX9_reads_33 : decode cX9_reads 33 = .ok (.aload_n 0, 1) := by decide +kernel
theorem dX9_reads_34 : decode cX9_reads 34 = .ok (.iconst 2, 1) := by decide +kernel
theorem dX9_reads_35 : decode cX9_reads 35 = .ok (.invokevirtual 131, 3) := by decide +kernel
theorem dX9_reads_38 : decode cX9_reads 38 = .ok (.aload_n 0, 1) := by decide +kernel
theorem dX9_reads_39 : decode cX9_reads 39 = .ok (.iconst 1, 1) := by decide +kernel
theorem dX9_reads_40 : decode cX9_reads 40 = .ok (.invokevirtual 138, 3) := by decide +kernel
theorem dX9_reads_43 : decode cX9_reads 43 = .ok (.iload_n 3, 1) := by decide +kernel
theorem dX9_reads_44 : decode cX9_reads 44 = .ok (.ireturn, 1) := by decide +kernel
theorem dX9_named_0 : decode cX9_named 0 = .ok (.aload_n 0, 1) := by decide +kernel
theorem dX9_named_1 : decode cX9_named 1 = .ok (.aload_n 0, 1) := by decide +kernel
theorem dX9_named_2 : decode cX9_named 2 = .ok (.getfield 111, 3) := by decide +kernel
theorem dX9_named_5 : decode cX9_named 5 = .ok (.ifCond .ne 11, 3) := by decide +kernel
theorem dX9_named_8 : decode cX9_named 8 = .ok (.aload_n 0, 1) := by decide +kernel
theorem dX9_named_9 : decode cX9_named 9 = .ok (.aload_n 1, 1) := by decide +kernel
theorem dX9_named_10 : decode cX9_named 10 = .ok (.invokevirtual 142, 3) := by decide +kernel
theorem dX9_named_13 : decode cX9_named 13 = .ok (.ifCond .eq 7, 3) := by decide +kernel
theorem dX9_named_16 : decode cX9_named 16 = .ok (.iconst 1, 1) := by decide +kernel
theorem dX9_named_17 : decode cX9_named 17 = .ok (.goto 4, 3) := by decide +kernel
theorem dX9_named_20 : decode cX9_named 20 = .ok (.iconst 0, 1) := by decide +kernel
theorem dX9_named_21 : decode cX9_named 21 = .ok (.invokevirtual 138, 3) := by decide +kernel
theorem dX9_named_24 : decode cX9_named 24 = .ok (.aload_n 0, 1) := by decide +kernel
theorem dX9_named_25 : decode cX9_named 25 = .ok (.getfield 111, 3) := by decide +kernel
theorem dX9_named_28 : decode cX9_named 28 = .ok (.ifCond .eq 7, 3) := by decide +kernel
theorem dX9_named_31 : decode cX9_named 31 = .ok (.iconst 0, 1) := by decide +kernel
theorem dX9_named_32 : decode cX9_named 32 = .ok (.goto 9, 3) := by decide +kernel
theorem dX9_named_35 : decode cX9_named 35 = .ok (.aload_n 0, 1) := by decide +kernel
theorem dX9_named_36 : decode cX9_named 36 = .ok (.iload_n 2, 1) := by decide +kernel
theorem dX9_named_37 : decode cX9_named 37 = .ok (.iload_n 3, 1) := by decide +kernel
theorem dX9_named_38 : decode cX9_named 38 = .ok (.invokevirtual 146, 3) := by decide +kernel
theorem dX9_named_41 : decode cX9_named 41 = .ok (.ireturn, 1) := by decide +kernel
theorem dX9_readsChannel_0 : decode cX9_readsChannel 0 = .ok (.aload_n 0, 1) := by decide +kernel
theorem dX9_readsChannel_1 : decode cX9_readsChannel 1 = .ok (.aload_n 0, 1) := by decide +kernel
theorem dX9_readsChannel_2 : decode cX9_readsChannel 2 = .ok (.ldc 149, 2) := by decide +kernel
theorem dX9_readsChannel_4 : decode cX9_readsChannel 4 = .ok (.invokevirtual 142, 3) := by decide +kernel
theorem dX9_readsChannel_7 : decode cX9_readsChannel 7 = .ok (.invokevirtual 138, 3) := by decide +kernel
theorem dX9_readsChannel_10 : decode cX9_readsChannel 10 = .ok (.aload_n 0, 1) := by decide +kernel
theorem dX9_readsChannel_11 : decode cX9_readsChannel 11 = .ok (.getfield 9, 3) := by decide +kernel
theorem dX9_readsChannel_14 : decode cX9_readsChannel 14 = .ok (.iconst 0, 1) := by decide +kernel
theorem dX9_readsChannel_15 : decode cX9_readsChannel 15 = .ok (.aload_n 0, 1) := by decide +kernel
theorem dX9_readsChannel_16 : decode cX9_readsChannel 16 = .ok (.ldc 151, 2) := by decide +kernel
theorem dX9_readsChannel_18 : decode cX9_readsChannel 18 = .ok (.iconst 0, 1) := by decide +kernel
theorem dX9_readsChannel_19 : decode cX9_readsChannel 19 = .ok (.iconst 3, 1) := by decide +kernel
theorem dX9_readsChannel_20 : decode cX9_readsChannel 20 = .ok (.invokevirtual 153, 3) := by decide +kernel
theorem dX9_readsChannel_23 : decode cX9_readsChannel 23 = .ok (.iastore, 1) := by decide +kernel
theorem dX9_readsChannel_24 : decode cX9_readsChannel 24 = .ok (.aload_n 0, 1) := by decide +kernel
theorem dX9_readsChannel_25 : decode cX9_readsChannel 25 = .ok (.getfield 9, 3) := by decide +kernel
theorem dX9_readsChannel_28 : decode cX9_readsChannel 28 = .ok (.iconst 1, 1) := by decide +kernel
theorem dX9_readsChannel_29 : decode cX9_readsChannel 29 = .ok (.aload_n 0, 1) := by decide +kernel
theorem dX9_readsChannel_30 : decode cX9_readsChannel 30 = .ok (.ldc 157, 2) := by decide +kernel
theorem dX9_readsChannel_32 : decode cX9_readsChannel 32 = .ok (.iconst 1, 1) := by decide +kernel
theorem dX9_readsChannel_33 : decode cX9_readsChannel 33 = .ok (.sipush 200, 3) := by decide +kernel
theorem dX9_readsChannel_36 : decode cX9_readsChannel 36 = .ok (.invokevirtual 153, 3) := by decide +kernel
theorem dX9_readsChannel_39 : decode cX9_readsChannel 39 = .ok (.iastore, 1) := by decide +kernel
theorem dX9_readsChannel_40 : decode cX9_readsChannel 40 = .ok (.aload_n 0, 1) := by decide +kernel
theorem dX9_readsChannel_41 : decode cX9_readsChannel 41 = .ok (.getfield 9, 3) := by decide +kernel
theorem dX9_readsChannel_44 : decode cX9_readsChannel 44 = .ok (.iconst 2, 1) := by decide +kernel
theorem dX9_readsChannel_45 : decode cX9_readsChannel 45 = .ok (.aload_n 0, 1) := by decide +kernel
theorem dX9_readsChannel_46 : decode cX9_readsChannel 46 = .ok (.ldc 159, 2) := by decide +kernel
theorem dX9_readsChannel_48 : decode cX9_readsChannel 48 = .ok (.iconst 0, 1) := by decide +kernel
theorem dX9_readsChannel_49 : decode cX9_readsChannel 49 = .ok (.bipush 9, 2) := by decide +kernel
theorem dX9_readsChannel_51 : decode cX9_readsChannel 51 = .ok (.invokevirtual 153, 3) := by decide +kernel
theorem dX9_readsChannel_54 : decode cX9_readsChannel 54 = .ok (.iastore, 1) := by decide +kernel
theorem dX9_readsChannel_55 : decode cX9_readsChannel 55 = .ok (.aload_n 0, 1) := by decide +kernel
theorem dX9_readsChannel_56 : decode cX9_readsChannel 56 = .ok (.getfield 9, 3) := by decide +kernel
theorem dX9_readsChannel_59 : decode cX9_readsChannel 59 = .ok (.iconst 3, 1) := by decide +kernel
theorem dX9_readsChannel_60 : decode cX9_readsChannel 60 = .ok (.aload_n 0, 1) := by decide +kernel
theorem dX9_readsChannel_61 : decode cX9_readsChannel 61 = .ok (.ldc 161, 2) := by decide +kernel
theorem dX9_readsChannel_63 : decode cX9_readsChannel 63 = .ok (.iconst 1, 1) := by decide +kernel
theorem dX9_readsChannel_64 : decode cX9_readsChannel 64 = .ok (.bipush 20, 2) := by decide +kernel
theorem dX9_readsChannel_66 : decode cX9_readsChannel 66 = .ok (.invokevirtual 153, 3) := by decide +kernel
theorem dX9_readsChannel_69 : decode cX9_readsChannel 69 = .ok (.iastore, 1) := by decide +kernel
theorem dX9_readsChannel_70 : decode cX9_readsChannel 70 = .ok (.return_, 1) := by decide +kernel
theorem dX9_readsSender_0 : decode cX9_readsSender 0 = .ok (.aload_n 0, 1) := by decide +kernel
theorem dX9_readsSender_1 : decode cX9_readsSender 1 = .ok (.getfield 9, 3) := by decide +kernel
theorem dX9_readsSender_4 : decode cX9_readsSender 4 = .ok (.iconst 4, 1) := by decide +kernel
theorem dX9_readsSender_5 : decode cX9_readsSender 5 = .ok (.iaload, 1) := by decide +kernel
theorem dX9_readsSender_6 : decode cX9_readsSender 6 = .ok (.bipush 10, 2) := by decide +kernel
theorem dX9_readsSender_8 : decode cX9_readsSender 8 = .ok (.if_icmp .ne 9, 3) := by decide +kernel
theorem dX9_readsSender_11 : decode cX9_readsSender 11 = .ok (.aload_n 0, 1) := by decide +kernel
theorem dX9_readsSender_12 : decode cX9_readsSender 12 = .ok (.iconst 3, 1) := by decide +kernel
theorem dX9_readsSender_13 : decode cX9_readsSender 13 = .ok (.invokevirtual 131, 3) := by decide +kernel
theorem dX9_readsSender_16 : decode cX9_readsSender 16 = .ok (.return_, 1) := by decide +kernel
theorem dX9_readsSender_17 : decode cX9_readsSender 17 = .ok (.aload_n 0, 1) := by decide +kernel
theorem dX9_readsSender_18 : decode cX9_readsSender 18 = .ok (.invokevirtual 135, 3) := by decide +kernel
theorem dX9_readsSender_21 : decode cX9_readsSender 21 = .ok (.aload_n 0, 1) := by decide +kernel
theorem dX9_readsSender_22 : decode cX9_readsSender 22 = .ok (.getfield 9, 3) := by decide +kernel
theorem dX9_readsSender_25 : decode cX9_readsSender 25 = .ok (.iconst 4, 1) := by decide +kernel
theorem dX9_readsSender_26 : decode cX9_readsSender 26 = .ok (.iaload, 1) := by decide +kernel
theorem dX9_readsSender_27 : decode cX9_readsSender 27 = .ok (.istore_n 1, 1) := by decide +kernel
theorem dX9_readsSender_28 : decode cX9_readsSender 28 = .ok (.aload_n 0, 1) := by decide +kernel
theorem dX9_readsSender_29 : decode cX9_readsSender 29 = .ok (.getfield 9, 3) := by decide +kernel
theorem dX9_readsSender_32 : decode cX9_readsSender 32 = .ok (.bipush 7, 2) := by decide +kernel
theorem dX9_readsSender_34 : decode cX9_readsSender 34 = .ok (.iload_n 1, 1) := by decide +kernel
theorem dX9_readsSender_35 : decode cX9_readsSender 35 = .ok (.iadd, 1) := by decide +kernel
theorem dX9_readsSender_36 : decode cX9_readsSender 36 = .ok (.aload_n 0, 1) := by decide +kernel
theorem dX9_readsSender_37 : decode cX9_readsSender 37 = .ok (.ldc 163, 2) := by decide +kernel
theorem dX9_readsSender_39 : decode cX9_readsSender 39 = .ok (.iconst 0, 1) := by decide +kernel
theorem dX9_readsSender_40 : decode cX9_readsSender 40 = .ok (.sipush 199, 3) := by decide +kernel
theorem dX9_readsSender_43 : decode cX9_readsSender 43 = .ok (.invokevirtual 153, 3) := by decide +kernel
theorem dX9_readsSender_46 : decode cX9_readsSender 46 = .ok (.iastore, 1) := by decide +kernel
theorem dX9_readsSender_47 : decode cX9_readsSender 47 = .ok (.aload_n 0, 1) := by decide +kernel
theorem dX9_readsSender_48 : decode cX9_readsSender 48 = .ok (.aload_n 0, 1) := by decide +kernel
theorem dX9_readsSender_49 : decode cX9_readsSender 49 = .ok (.getfield 111, 3) := by decide +kernel
theorem dX9_readsSender_52 : decode cX9_readsSender 52 = .ok (.ifCond .ne 12, 3) := by decide +kernel
theorem dX9_readsSender_55 : decode cX9_readsSender 55 = .ok (.aload_n 0, 1) := by decide +kernel
theorem dX9_readsSender_56 : decode cX9_readsSender 56 = .ok (.ldc 164, 2) := by decide +kernel
theorem dX9_readsSender_58 : decode cX9_readsSender 58 = .ok (.invokevirtual 142, 3) := by decide +kernel
theorem dX9_readsSender_61 : decode cX9_readsSender 61 = .ok (.ifCond .eq 7, 3) := by decide +kernel
theorem dX9_readsSender_64 : decode cX9_readsSender 64 = .ok (.iconst 1, 1) := by decide +kernel
theorem dX9_readsSender_65 : decode cX9_readsSender 65 = .ok (.goto 4, 3) := by decide +kernel
theorem dX9_readsSender_68 : decode cX9_readsSender 68 = .ok (.iconst 0, 1) := by decide +kernel
theorem dX9_readsSender_69 : decode cX9_readsSender 69 = .ok (.invokevirtual 138, 3) := by decide +kernel
theorem dX9_readsSender_72 : decode cX9_readsSender 72 = .ok (.aload_n 0, 1) := by decide +kernel
theorem dX9_readsSender_73 : decode cX9_readsSender 73 = .ok (.getfield 111, 3) := by decide +kernel
theorem dX9_readsSender_76 : decode cX9_readsSender 76 = .ok (.ifCond .ne 11, 3) := by decide +kernel
theorem dX9_readsSender_79 : decode cX9_readsSender 79 = .ok (.aload_n 0, 1) := by decide +kernel
theorem dX9_readsSender_80 : decode cX9_readsSender 80 = .ok (.getfield 101, 3) := by decide +kernel
theorem dX9_readsSender_83 : decode cX9_readsSender 83 = .ok (.iconst 2, 1) := by decide +kernel
theorem dX9_readsSender_84 : decode cX9_readsSender 84 = .ok (.if_icmp .eq 9, 3) := by decide +kernel
theorem dX9_readsSender_87 : decode cX9_readsSender 87 = .ok (.aload_n 0, 1) := by decide +kernel
theorem dX9_readsSender_88 : decode cX9_readsSender 88 = .ok (.iconst 1, 1) := by decide +kernel
theorem dX9_readsSender_89 : decode cX9_readsSender 89 = .ok (.invokevirtual 131, 3) := by decide +kernel
theorem dX9_readsSender_92 : decode cX9_readsSender 92 = .ok (.return_, 1) := by decide +kernel
theorem dX9_readsSender_93 : decode cX9_readsSender 93 = .ok (.aload_n 0, 1) := by decide +kernel
theorem dX9_readsSender_94 : decode cX9_readsSender 94 = .ok (.getfield 88, 3) := by decide +kernel
theorem dX9_readsSender_97 : decode cX9_readsSender 97 = .ok (.aload_n 0, 1) := by decide +kernel
theorem dX9_readsSender_98 : decode cX9_readsSender 98 = .ok (.getfield 95, 3) := by decide +kernel
theorem dX9_readsSender_101 : decode cX9_readsSender 101 = .ok (.isub, 1) := by decide +kernel
theorem dX9_readsSender_102 : decode cX9_readsSender 102 = .ok (.bipush 12, 2) := by decide +kernel
theorem dX9_readsSender_104 : decode cX9_readsSender 104 = .ok (.if_icmp .le 8, 3) := by decide +kernel
theorem dX9_readsSender_107 : decode cX9_readsSender 107 = .ok (.aload_n 0, 1) := by decide +kernel
theorem dX9_readsSender_108 : decode cX9_readsSender 108 = .ok (.iconst 2, 1) := by decide +kernel
theorem dX9_readsSender_109 : decode cX9_readsSender 109 = .ok (.invokevirtual 131, 3) := by decide +kernel
theorem dX9_readsSender_112 : decode cX9_readsSender 112 = .ok (.aload_n 0, 1) := by decide +kernel
theorem dX9_readsSender_113 : decode cX9_readsSender 113 = .ok (.getfield 95, 3) := by decide +kernel
theorem dX9_readsSender_116 : decode cX9_readsSender 116 = .ok (.istore_n 2, 1) := by decide +kernel
theorem dX9_readsSender_117 : decode cX9_readsSender 117 = .ok (.iload_n 2, 1) := by decide +kernel
theorem dX9_readsSender_118 : decode cX9_readsSender 118 = .ok (.aload_n 0, 1) := by decide +kernel
theorem dX9_readsSender_119 : decode cX9_readsSender 119 = .ok (.getfield 88, 3) := by decide +kernel
theorem dX9_readsSender_122 : decode cX9_readsSender 122 = .ok (.if_icmp .ge 62, 3) := by decide +kernel
theorem dX9_readsSender_125 : decode cX9_readsSender 125 = .ok (.aload_n 0, 1) := by decide +kernel
theorem dX9_readsSender_126 : decode cX9_readsSender 126 = .ok (.getfield 111, 3) := by decide +kernel
theorem dX9_readsSender_129 : decode cX9_readsSender 129 = .ok (.ifCond .ne 55, 3) := by decide +kernel
theorem dX9_readsSender_132 : decode cX9_readsSender 132 = .ok (.aload_n 0, 1) := by decide +kernel
theorem dX9_readsSender_133 : decode cX9_readsSender 133 = .ok (.getfield 19, 3) := by decide +kernel
theorem dX9_readsSender_136 : decode cX9_readsSender 136 = .ok (.iload_n 2, 1) := by decide +kernel
theorem dX9_readsSender_137 : decode cX9_readsSender 137 = .ok (.iaload, 1) := by decide +kernel
theorem dX9_readsSender_138 : decode cX9_readsSender 138 = .ok (.bipush 49, 2) := by decide +kernel
theorem dX9_readsSender_140 : decode cX9_readsSender 140 = .ok (.if_icmp .le 8, 3) := by decide +kernel
theorem dX9_readsSender_143 : decode cX9_readsSender 143 = .ok (.aload_n 0, 1) := by decide +kernel
theorem dX9_readsSender_144 : decode cX9_readsSender 144 = .ok (.iconst 2, 1) := by decide +kernel
theorem dX9_readsSender_145 : decode cX9_readsSender 145 = .ok (.invokevirtual 131, 3) := by decide +kernel
theorem dX9_readsSender_148 : decode cX9_readsSender 148 = .ok (.aload_n 0, 1) := by decide +kernel
theorem dX9_readsSender_149 : decode cX9_readsSender 149 = .ok (.getfield 9, 3) := by decide +kernel
theorem dX9_readsSender_152 : decode cX9_readsSender 152 = .ok (.bipush 27, 2) := by decide +kernel
theorem dX9_readsSender_154 : decode cX9_readsSender 154 = .ok (.iload_n 1, 1) := by decide +kernel
theorem dX9_readsSender_155 : decode cX9_readsSender 155 = .ok (.iadd, 1) := by decide +kernel
theorem dX9_readsSender_156 : decode cX9_readsSender 156 = .ok (.iconst 2, 1) := by decide +kernel
theorem dX9_readsSender_157 : decode cX9_readsSender 157 = .ok (.aload_n 0, 1) := by decide +kernel
theorem dX9_readsSender_158 : decode cX9_readsSender 158 = .ok (.getfield 9, 3) := by decide +kernel
theorem dX9_readsSender_161 : decode cX9_readsSender 161 = .ok (.bipush 27, 2) := by decide +kernel
theorem dX9_readsSender_163 : decode cX9_readsSender 163 = .ok (.iload_n 1, 1) := by decide +kernel
theorem dX9_readsSender_164 : decode cX9_readsSender 164 = .ok (.iadd, 1) := by decide +kernel
theorem dX9_readsSender_165 : decode cX9_readsSender 165 = .ok (.iaload, 1) := by decide +kernel
theorem dX9_readsSender_166 : decode cX9_readsSender 166 = .ok (.imul, 1) := by decide +kernel
theorem dX9_readsSender_167 : decode cX9_readsSender 167 = .ok (.aload_n 0, 1) := by decide +kernel
theorem dX9_readsSender_168 : decode cX9_readsSender 168 = .ok (.getfield 19, 3) := by decide +kernel
theorem dX9_readsSender_171 : decode cX9_readsSender 171 = .ok (.iload_n 2, 1) := by decide +kernel
theorem dX9_readsSender_172 : decode cX9_readsSender 172 = .ok (.iaload, 1) := by decide +kernel
theorem dX9_readsSender_173 : decode cX9_readsSender 173 = .ok (.iadd, 1) := by decide +kernel
theorem dX9_readsSender_174 : decode cX9_readsSender 174 = .ok (.bipush 48, 2) := by decide +kernel
theorem dX9_readsSender_176 : decode cX9_readsSender 176 = .ok (.isub, 1) := by decide +kernel
theorem dX9_readsSender_177 : decode cX9_readsSender 177 = .ok (.iastore, 1) := by decide +kernel
theorem dX9_readsSender_178 : decode cX9_readsSender 178 = .ok (.iinc 2 1, 3) := by decide +kernel
theorem dX9_readsSender_181 : decode cX9_readsSender 181 = .ok (.goto (-64), 3) := by decide +kernel
theorem dX9_readsSender_184 : decode cX9_readsSender 184 = .ok (.aload_n 0, 1) := by decide +kernel
theorem dX9_readsSender_185 : decode cX9_readsSender 185 = .ok (.getfield 9, 3) := by decide +kernel
theorem dX9_readsSender_188 : decode cX9_readsSender 188 = .ok (.bipush 17, 2) := by decide +kernel
theorem dX9_readsSender_190 : decode cX9_readsSender 190 = .ok (.iload_n 1, 1) := by decide +kernel
theorem dX9_readsSender_191 : decode cX9_readsSender 191 = .ok (.iadd, 1) := by decide +kernel
theorem dX9_readsSender_192 : decode cX9_readsSender 192 = .ok (.aload_n 0, 1) := by decide +kernel
theorem dX9_readsSender_193 : decode cX9_readsSender 193 = .ok (.getfield 88, 3) := by decide +kernel
theorem dX9_readsSender_196 : decode cX9_readsSender 196 = .ok (.aload_n 0, 1) := by decide +kernel
theorem dX9_readsSender_197 : decode cX9_readsSender 197 = .ok (.getfield 95, 3) := by decide +kernel
theorem dX9_readsSender_200 : decode cX9_readsSender 200 = .ok (.isub, 1) := by decide +kernel
theorem dX9_readsSender_201 : decode cX9_readsSender 201 = .ok (.iastore, 1) := by decide +kernel
theorem dX9_readsSender_202 : decode cX9_readsSender 202 = .ok (.aload_n 0, 1) := by decide +kernel
theorem dX9_readsSender_203 : decode cX9_readsSender 203 = .ok (.iconst 1, 1) := by decide +kernel
theorem dX9_readsSender_204 : decode cX9_readsSender 204 = .ok (.invokevirtual 138, 3) := by decide +kernel
theorem dX9_readsSender_207 : decode cX9_readsSender 207 = .ok (.aload_n 0, 1) := by decide +kernel
theorem dX9_readsSender_208 : decode cX9_readsSender 208 = .ok (.getfield 9, 3) := by decide +kernel
theorem dX9_readsSender_211 : decode cX9_readsSender 211 = .ok (.iconst 4, 1) := by decide +kernel
theorem dX9_readsSender_212 : decode cX9_readsSender 212 = .ok (.dup2, 1) := by decide +kernel
theorem dX9_readsSender_213 : decode cX9_readsSender 213 = .ok (.iaload, 1) := by decide +kernel
theorem dX9_readsSender_214 : decode cX9_readsSender 214 = .ok (.iconst 1, 1) := by decide +kernel
theorem dX9_readsSender_215 : decode cX9_readsSender 215 = .ok (.iadd, 1) := by decide +kernel
theorem dX9_readsSender_216 : decode cX9_readsSender 216 = .ok (.iastore, 1) := by decide +kernel
theorem dX9_readsSender_217 : decode cX9_readsSender 217 = .ok (.return_, 1) := by decide +kernel
theorem dX9_isNoisy_0 : decode cX9_isNoisy 0 = .ok (.iconst 0, 1) := by decide +kernel
theorem dX9_isNoisy_1 : decode cX9_isNoisy 1 = .ok (.istore_n 2, 1) := by decide +kernel
theorem dX9_isNoisy_2 : decode cX9_isNoisy 2 = .ok (.iload_n 2, 1) := by decide +kernel
theorem dX9_isNoisy_3 : decode cX9_isNoisy 3 = .ok (.aload_n 0, 1) := by decide +kernel
theorem dX9_isNoisy_4 : decode cX9_isNoisy 4 = .ok (.getfield 9, 3) := by decide +kernel
theorem dX9_isNoisy_7 : decode cX9_isNoisy 7 = .ok (.iconst 5, 1) := by decide +kernel
theorem dX9_isNoisy_8 : decode cX9_isNoisy 8 = .ok (.iaload, 1) := by decide +kernel
theorem dX9_isNoisy_9 : decode cX9_isNoisy 9 = .ok (.if_icmp .ge 24, 3) := by decide +kernel
theorem dX9_isNoisy_12 : decode cX9_isNoisy 12 = .ok (.aload_n 0, 1) := by decide +kernel
theorem dX9_isNoisy_13 : decode cX9_isNoisy 13 = .ok (.getfield 9, 3) := by decide +kernel
theorem dX9_isNoisy_16 : decode cX9_isNoisy 16 = .ok (.bipush 37, 2) := by decide +kernel
theorem dX9_isNoisy_18 : decode cX9_isNoisy 18 = .ok (.iload_n 2, 1) := by decide +kernel
theorem dX9_isNoisy_19 : decode cX9_isNoisy 19 = .ok (.iadd, 1) := by decide +kernel
theorem dX9_isNoisy_20 : decode cX9_isNoisy 20 = .ok (.iaload, 1) := by decide +kernel
theorem dX9_isNoisy_21 : decode cX9_isNoisy 21 = .ok (.iload_n 1, 1) := by decide +kernel
theorem dX9_isNoisy_22 : decode cX9_isNoisy 22 = .ok (.if_icmp .ne 5, 3) := by decide +kernel
theorem dX9_isNoisy_25 : decode cX9_isNoisy 25 = .ok (.iconst 1, 1) := by decide +kernel
theorem dX9_isNoisy_26 : decode cX9_isNoisy 26 = .ok (.ireturn, 1) := by decide +kernel
theorem dX9_isNoisy_27 : decode cX9_isNoisy 27 = .ok (.iinc 2 1, 3) := by decide +kernel
theorem dX9_isNoisy_30 : decode cX9_isNoisy 30 = .ok (.goto (-28), 3) := by decide +kernel
theorem dX9_isNoisy_33 : decode cX9_isNoisy 33 = .ok (.iconst 0, 1) := by decide +kernel
theorem dX9_isNoisy_34 : decode cX9_isNoisy 34 = .ok (.ireturn, 1) := by decide +kernel
theorem dX9_readsNoise_0 : decode cX9_readsNoise 0 = .ok (.aload_n 0, 1) := by decide +kernel
theorem dX9_readsNoise_1 : decode cX9_readsNoise 1 = .ok (.getfield 9, 3) := by decide +kernel
theorem dX9_readsNoise_4 : decode cX9_readsNoise 4 = .ok (.iconst 5, 1) := by decide +kernel
theorem dX9_readsNoise_5 : decode cX9_readsNoise 5 = .ok (.iaload, 1) := by decide +kernel
theorem dX9_readsNoise_6 : decode cX9_readsNoise 6 = .ok (.bipush 10, 2) := by decide +kernel
theorem dX9_readsNoise_8 : decode cX9_readsNoise 8 = .ok (.if_icmp .ne 9, 3) := by decide +kernel
theorem dX9_readsNoise_11 : decode cX9_readsNoise 11 = .ok (.aload_n 0, 1) := by decide +kernel
theorem dX9_readsNoise_12 : decode cX9_readsNoise 12 = .ok (.iconst 3, 1) := by decide +kernel
theorem dX9_readsNoise_13 : decode cX9_readsNoise 13 = .ok (.invokevirtual 131, 3) := by decide +kernel
theorem dX9_readsNoise_16 : decode cX9_readsNoise 16 = .ok (.return_, 1) := by decide +kernel
theorem dX9_readsNoise_17 : decode cX9_readsNoise 17 = .ok (.aload_n 0, 1) := by decide +kernel
theorem dX9_readsNoise_18 : decode cX9_readsNoise 18 = .ok (.invokevirtual 135, 3) := by decide +kernel
theorem dX9_readsNoise_21 : decode cX9_readsNoise 21 = .ok (.aload_n 0, 1) := by decide +kernel
theorem dX9_readsNoise_22 : decode cX9_readsNoise 22 = .ok (.aload_n 0, 1) := by decide +kernel
theorem dX9_readsNoise_23 : decode cX9_readsNoise 23 = .ok (.ldc 163, 2) := by decide +kernel
theorem dX9_readsNoise_25 : decode cX9_readsNoise 25 = .ok (.invokevirtual 142, 3) := by decide +kernel
theorem dX9_readsNoise_28 : decode cX9_readsNoise 28 = .ok (.invokevirtual 138, 3) := by decide +kernel
theorem dX9_readsNoise_31 : decode cX9_readsNoise 31 = .ok (.aload_n 0, 1) := by decide +kernel
theorem dX9_readsNoise_32 : decode cX9_readsNoise 32 = .ok (.getfield 111, 3) := by decide +kernel
theorem dX9_readsNoise_35 : decode cX9_readsNoise 35 = .ok (.ifCond .ne 27, 3) := by decide +kernel
theorem dX9_readsNoise_38 : decode cX9_readsNoise 38 = .ok (.aload_n 0, 1) := by decide +kernel
theorem dX9_readsNoise_39 : decode cX9_readsNoise 39 = .ok (.getfield 101, 3) := by decide +kernel
theorem dX9_readsNoise_42 : decode cX9_readsNoise 42 = .ok (.iconst 2, 1) := by decide +kernel
theorem dX9_readsNoise_43 : decode cX9_readsNoise 43 = .ok (.if_icmp .ne 19, 3) := by decide +kernel
theorem dX9_readsNoise_46 : decode cX9_readsNoise 46 = .ok (.aload_n 0, 1) := by decide +kernel
theorem dX9_readsNoise_47 : decode cX9_readsNoise 47 = .ok (.aload_n 0, 1) := by decide +kernel
theorem dX9_readsNoise_48 : decode cX9_readsNoise 48 = .ok (.getfield 98, 3) := by decide +kernel
theorem dX9_readsNoise_51 : decode cX9_readsNoise 51 = .ok (.invokevirtual 166, 3) := by decide +kernel
theorem dX9_readsNoise_54 : decode cX9_readsNoise 54 = .ok (.ifCond .eq 8, 3) := by decide +kernel
theorem dX9_readsNoise_57 : decode cX9_readsNoise 57 = .ok (.aload_n 0, 1) := by decide +kernel
theorem dX9_readsNoise_58 : decode cX9_readsNoise 58 = .ok (.iconst 2, 1) := by decide +kernel
theorem dX9_readsNoise_59 : decode cX9_readsNoise 59 = .ok (.invokevirtual 131, 3) := by decide +kernel
theorem dX9_readsNoise_62 : decode cX9_readsNoise 62 = .ok (.aload_n 0, 1) := by decide +kernel
theorem dX9_readsNoise_63 : decode cX9_readsNoise 63 = .ok (.getfield 111, 3) := by decide +kernel
theorem dX9_readsNoise_66 : decode cX9_readsNoise 66 = .ok (.ifCond .eq 7, 3) := by decide +kernel
theorem dX9_readsNoise_69 : decode cX9_readsNoise 69 = .ok (.iconst 0, 1) := by decide +kernel
theorem dX9_readsNoise_70 : decode cX9_readsNoise 70 = .ok (.goto 11, 3) := by decide +kernel
theorem dX9_readsNoise_73 : decode cX9_readsNoise 73 = .ok (.aload_n 0, 1) := by decide +kernel
theorem dX9_readsNoise_74 : decode cX9_readsNoise 74 = .ok (.iconst 0, 1) := by decide +kernel
theorem dX9_readsNoise_75 : decode cX9_readsNoise 75 = .ok (.sipush 199, 3) := by decide +kernel
theorem dX9_readsNoise_78 : decode cX9_readsNoise 78 = .ok (.invokevirtual 146, 3) := by decide +kernel
theorem dX9_readsNoise_81 : decode cX9_readsNoise 81 = .ok (.istore_n 1, 1) := by decide +kernel
theorem dX9_readsNoise_82 : decode cX9_readsNoise 82 = .ok (.aload_n 0, 1) := by decide +kernel
theorem dX9_readsNoise_83 : decode cX9_readsNoise 83 = .ok (.aload_n 0, 1) := by decide +kernel
theorem dX9_readsNoise_84 : decode cX9_readsNoise 84 = .ok (.getfield 111, 3) := by decide +kernel
theorem dX9_readsNoise_87 : decode cX9_readsNoise 87 = .ok (.ifCond .ne 12, 3) := by decide +kernel
theorem dX9_readsNoise_90 : decode cX9_readsNoise 90 = .ok (.aload_n 0, 1) := by decide +kernel
theorem dX9_readsNoise_91 : decode cX9_readsNoise 91 = .ok (.ldc 170, 2) := by decide +kernel
theorem dX9_readsNoise_93 : decode cX9_readsNoise 93 = .ok (.invokevirtual 142, 3) := by decide +kernel
theorem dX9_readsNoise_96 : decode cX9_readsNoise 96 = .ok (.ifCond .eq 7, 3) := by decide +kernel
theorem dX9_readsNoise_99 : decode cX9_readsNoise 99 = .ok (.iconst 1, 1) := by decide +kernel
theorem dX9_readsNoise_100 : decode cX9_readsNoise 100 = .ok (.goto 4, 3) := by decide +kernel
theorem dX9_readsNoise_103 : decode cX9_readsNoise 103 = .ok (.iconst 0, 1) := by decide +kernel
theorem dX9_readsNoise_104 : decode cX9_readsNoise 104 = .ok (.invokevirtual 138, 3) := by decide +kernel
theorem dX9_readsNoise_107 : decode cX9_readsNoise 107 = .ok (.aload_n 0, 1) := by decide +kernel
theorem dX9_readsNoise_108 : decode cX9_readsNoise 108 = .ok (.ldc 172, 2) := by decide +kernel
theorem dX9_readsNoise_110 : decode cX9_readsNoise 110 = .ok (.invokevirtual 142, 3) := by decide +kernel
theorem dX9_readsNoise_113 : decode cX9_readsNoise 113 = .ok (.ifCond .eq 7, 3) := by decide +kernel
theorem dX9_readsNoise_116 : decode cX9_readsNoise 116 = .ok (.iconst 0, 1) := by decide +kernel
theorem dX9_readsNoise_117 : decode cX9_readsNoise 117 = .ok (.goto 17, 3) := by decide +kernel
theorem dX9_readsNoise_120 : decode cX9_readsNoise 120 = .ok (.aload_n 0, 1) := by decide +kernel
theorem dX9_readsNoise_121 : decode cX9_readsNoise 121 = .ok (.ldc 174, 2) := by decide +kernel
theorem dX9_readsNoise_123 : decode cX9_readsNoise 123 = .ok (.invokevirtual 142, 3) := by decide +kernel
theorem dX9_readsNoise_126 : decode cX9_readsNoise 126 = .ok (.ifCond .eq 7, 3) := by decide +kernel
theorem dX9_readsNoise_129 : decode cX9_readsNoise 129 = .ok (.iconst 1, 1) := by decide +kernel
theorem dX9_readsNoise_130 : decode cX9_readsNoise 130 = .ok (.goto 4, 3) := by decide +kernel
theorem dX9_readsNoise_133 : decode cX9_readsNoise 133 = .ok (.iconst 2, 1) := by decide +kernel
theorem dX9_readsNoise_134 : decode cX9_readsNoise 134 = .ok (.istore_n 2, 1) := by decide +kernel
theorem dX9_readsNoise_135 : decode cX9_readsNoise 135 = .ok (.aload_n 0, 1) := by decide +kernel
theorem dX9_readsNoise_136 : decode cX9_readsNoise 136 = .ok (.aload_n 0, 1) := by decide +kernel
theorem dX9_readsNoise_137 : decode cX9_readsNoise 137 = .ok (.getfield 111, 3) := by decide +kernel
theorem dX9_readsNoise_140 : decode cX9_readsNoise 140 = .ok (.ifCond .ne 17, 3) := by decide +kernel
theorem dX9_readsNoise_143 : decode cX9_readsNoise 143 = .ok (.iload_n 2, 1) := by decide +kernel
theorem dX9_readsNoise_144 : decode cX9_readsNoise 144 = .ok (.iconst 2, 1) := by decide +kernel
theorem dX9_readsNoise_145 : decode cX9_readsNoise 145 = .ok (.if_icmp .lt 12, 3) := by decide +kernel
theorem dX9_readsNoise_148 : decode cX9_readsNoise 148 = .ok (.aload_n 0, 1) := by decide +kernel
theorem dX9_readsNoise_149 : decode cX9_readsNoise 149 = .ok (.ldc 176, 2) := by decide +kernel
theorem dX9_readsNoise_151 : decode cX9_readsNoise 151 = .ok (.invokevirtual 142, 3) := by decide +kernel
theorem dX9_readsNoise_154 : decode cX9_readsNoise 154 = .ok (.ifCond .eq 7, 3) := by decide +kernel
theorem dX9_readsNoise_157 : decode cX9_readsNoise 157 = .ok (.iconst 1, 1) := by decide +kernel
theorem dX9_readsNoise_158 : decode cX9_readsNoise 158 = .ok (.goto 4, 3) := by decide +kernel
theorem dX9_readsNoise_161 : decode cX9_readsNoise 161 = .ok (.iconst 0, 1) := by decide +kernel
theorem dX9_readsNoise_162 : decode cX9_readsNoise 162 = .ok (.invokevirtual 138, 3) := by decide +kernel
theorem dX9_readsNoise_165 : decode cX9_readsNoise 165 = .ok (.aload_n 0, 1) := by decide +kernel
theorem dX9_readsNoise_166 : decode cX9_readsNoise 166 = .ok (.getfield 9, 3) := by decide +kernel
theorem dX9_readsNoise_169 : decode cX9_readsNoise 169 = .ok (.bipush 37, 2) := by decide +kernel
theorem dX9_readsNoise_171 : decode cX9_readsNoise 171 = .ok (.aload_n 0, 1) := by decide +kernel
theorem dX9_readsNoise_172 : decode cX9_readsNoise 172 = .ok (.getfield 9, 3) := by decide +kernel
theorem dX9_readsNoise_175 : decode cX9_readsNoise 175 = .ok (.iconst 5, 1) := by decide +kernel
theorem dX9_readsNoise_176 : decode cX9_readsNoise 176 = .ok (.iaload, 1) := by decide +kernel
theorem dX9_readsNoise_177 : decode cX9_readsNoise 177 = .ok (.iadd, 1) := by decide +kernel
theorem dX9_readsNoise_178 : decode cX9_readsNoise 178 = .ok (.iload_n 1, 1) := by decide +kernel
theorem dX9_readsNoise_179 : decode cX9_readsNoise 179 = .ok (.iastore, 1) := by decide +kernel
theorem dX9_readsNoise_180 : decode cX9_readsNoise 180 = .ok (.aload_n 0, 1) := by decide +kernel
theorem dX9_readsNoise_181 : decode cX9_readsNoise 181 = .ok (.getfield 9, 3) := by decide +kernel
theorem dX9_readsNoise_184 : decode cX9_readsNoise 184 = .ok (.bipush 47, 2) := by decide +kernel
theorem dX9_readsNoise_186 : decode cX9_readsNoise 186 = .ok (.aload_n 0, 1) := by decide +kernel
theorem dX9_readsNoise_187 : decode cX9_readsNoise 187 = .ok (.getfield 9, 3) := by decide +kernel
theorem dX9_readsNoise_190 : decode cX9_readsNoise 190 = .ok (.iconst 5, 1) := by decide +kernel
theorem dX9_readsNoise_191 : decode cX9_readsNoise 191 = .ok (.iaload, 1) := by decide +kernel
theorem dX9_readsNoise_192 : decode cX9_readsNoise 192 = .ok (.iadd, 1) := by decide +kernel
theorem dX9_readsNoise_193 : decode cX9_readsNoise 193 = .ok (.iload_n 2, 1) := by decide +kernel
theorem dX9_readsNoise_194 : decode cX9_readsNoise 194 = .ok (.iastore, 1) := by decide +kernel
theorem dX9_readsNoise_195 : decode cX9_readsNoise 195 = .ok (.aload_n 0, 1) := by decide +kernel
theorem dX9_readsNoise_196 : decode cX9_readsNoise 196 = .ok (.getfield 9, 3) := by decide +kernel
theorem dX9_readsNoise_199 : decode cX9_readsNoise 199 = .ok (.iconst 5, 1) := by decide +kernel
theorem dX9_readsNoise_200 : decode cX9_readsNoise 200 = .ok (.dup2, 1) := by decide +kernel
theorem dX9_readsNoise_201 : decode cX9_readsNoise 201 = .ok (.iaload, 1) := by decide +kernel
theorem dX9_readsNoise_202 : decode cX9_readsNoise 202 = .ok (.iconst 1, 1) := by decide +kernel
theorem dX9_readsNoise_203 : decode cX9_readsNoise 203 = .ok (.iadd, 1) := by decide +kernel
theorem dX9_readsNoise_204 : decode cX9_readsNoise 204 = .ok (.iastore, 1) := by decide +kernel
theorem dX9_readsNoise_205 : decode cX9_readsNoise 205 = .ok (.return_, 1) := by decide +kernel
theorem dX9_channel_0 : decode cX9_channel 0 = .ok (.iconst 0, 1) := by decide +kernel
theorem dX9_channel_1 : decode cX9_channel 1 = .ok (.istore_n 1, 1) := by decide +kernel
theorem dX9_channel_2 : decode cX9_channel 2 = .ok (.iload_n 1, 1) := by decide +kernel
theorem dX9_channel_3 : decode cX9_channel 3 = .ok (.bipush 57, 2) := by decide +kernel
theorem dX9_channel_5 : decode cX9_channel 5 = .ok (.if_icmp .ge 28, 3) := by decide +kernel
theorem dX9_channel_8 : decode cX9_channel 8 = .ok (.aload_n 0, 1) := by decide +kernel
theorem dX9_channel_9 : decode cX9_channel 9 = .ok (.getfield 13, 3) := by decide +kernel
theorem dX9_channel_12 : decode cX9_channel 12 = .ok (.iload_n 1, 1) := by decide +kernel
theorem dX9_channel_13 : decode cX9_channel 13 = .ok (.aload_n 0, 1) := by decide +kernel
theorem dX9_channel_14 : decode cX9_channel 14 = .ok (.getfield 9, 3) := by decide +kernel
theorem dX9_channel_17 : decode cX9_channel 17 = .ok (.iload_n 1, 1) := by decide +kernel
theorem dX9_channel_18 : decode cX9_channel 18 = .ok (.iaload, 1) := by decide +kernel
theorem dX9_channel_19 : decode cX9_channel 19 = .ok (.iastore, 1) := by decide +kernel
theorem dX9_channel_20 : decode cX9_channel 20 = .ok (.aload_n 0, 1) := by decide +kernel
theorem dX9_channel_21 : decode cX9_channel 21 = .ok (.getfield 9, 3) := by decide +kernel
theorem dX9_channel_24 : decode cX9_channel 24 = .ok (.iload_n 1, 1) := by decide +kernel
theorem dX9_channel_25 : decode cX9_channel 25 = .ok (.iconst 0, 1) := by decide +kernel
theorem dX9_channel_26 : decode cX9_channel 26 = .ok (.iastore, 1) := by decide +kernel
theorem dX9_channel_27 : decode cX9_channel 27 = .ok (.iinc 1 1, 3) := by decide +kernel
theorem dX9_channel_30 : decode cX9_channel 30 = .ok (.goto (-28), 3) := by decide +kernel
theorem dX9_channel_33 : decode cX9_channel 33 = .ok (.aload_n 0, 1) := by decide +kernel
theorem dX9_channel_34 : decode cX9_channel 34 = .ok (.iconst 0, 1) := by decide +kernel
theorem dX9_channel_35 : decode cX9_channel 35 = .ok (.putfield 88, 3) := by decide +kernel
theorem dX9_channel_38 : decode cX9_channel 38 = .ok (.aload_n 0, 1) := by decide +kernel
theorem dX9_channel_39 : decode cX9_channel 39 = .ok (.iconst 0, 1) := by decide +kernel
theorem dX9_channel_40 : decode cX9_channel 40 = .ok (.putfield 111, 3) := by decide +kernel
theorem dX9_channel_43 : decode cX9_channel 43 = .ok (.aload_n 0, 1) := by decide +kernel
theorem dX9_channel_44 : decode cX9_channel 44 = .ok (.iconst 0, 1) := by decide +kernel
theorem dX9_channel_45 : decode cX9_channel 45 = .ok (.putfield 115, 3) := by decide +kernel
theorem dX9_channel_48 : decode cX9_channel 48 = .ok (.aload_n 0, 1) := by decide +kernel
theorem dX9_channel_49 : decode cX9_channel 49 = .ok (.iconst (-1), 1) := by decide +kernel
theorem dX9_channel_50 : decode cX9_channel 50 = .ok (.putfield 118, 3) := by decide +kernel
theorem dX9_channel_53 : decode cX9_channel 53 = .ok (.aload_n 0, 1) := by decide +kernel
theorem dX9_channel_54 : decode cX9_channel 54 = .ok (.invokevirtual 135, 3) := by decide +kernel
theorem dX9_channel_57 : decode cX9_channel 57 = .ok (.aload_n 0, 1) := by decide +kernel
theorem dX9_channel_58 : decode cX9_channel 58 = .ok (.getfield 111, 3) := by decide +kernel
theorem dX9_channel_61 : decode cX9_channel 61 = .ok (.ifCond .ne 102, 3) := by decide +kernel
theorem dX9_channel_64 : decode cX9_channel 64 = .ok (.aload_n 0, 1) := by decide +kernel
theorem dX9_channel_65 : decode cX9_channel 65 = .ok (.getfield 101, 3) := by decide +kernel
theorem dX9_channel_68 : decode cX9_channel 68 = .ok (.ifCond .eq 95, 3) := by decide +kernel
theorem dX9_channel_71 : decode cX9_channel 71 = .ok (.aload_n 0, 1) := by decide +kernel
theorem dX9_channel_72 : decode cX9_channel 72 = .ok (.getfield 9, 3) := by decide +kernel
theorem dX9_channel_75 : decode cX9_channel 75 = .ok (.bipush 6, 2) := by decide +kernel
theorem dX9_channel_77 : decode cX9_channel 77 = .ok (.iaload, 1) := by decide +kernel
theorem dX9_channel_78 : decode cX9_channel 78 = .ok (.ifCond .ne 10, 3) := by decide +kernel
theorem dX9_channel_81 : decode cX9_channel 81 = .ok (.aload_n 0, 1) := by decide +kernel
theorem dX9_channel_82 : decode cX9_channel 82 = .ok (.invokevirtual 178, 3) := by decide +kernel
theorem dX9_channel_85 : decode cX9_channel 85 = .ok (.goto 40, 3) := by decide +kernel
theorem dX9_channel_88 : decode cX9_channel 88 = .ok (.aload_n 0, 1) := by decide +kernel
theorem dX9_channel_89 : decode cX9_channel 89 = .ok (.ldc 181, 2) := by decide +kernel
theorem dX9_channel_91 : decode cX9_channel 91 = .ok (.invokevirtual 142, 3) := by decide +kernel
theorem dX9_channel_94 : decode cX9_channel 94 = .ok (.ifCond .eq 10, 3) := by decide +kernel
theorem dX9_channel_97 : decode cX9_channel 97 = .ok (.aload_n 0, 1) := by decide +kernel
theorem dX9_channel_98 : decode cX9_channel 98 = .ok (.invokevirtual 183, 3) := by decide +kernel
theorem dX9_channel_101 : decode cX9_channel 101 = .ok (.goto 24, 3) := by decide +kernel
theorem dX9_channel_104 : decode cX9_channel 104 = .ok (.aload_n 0, 1) := by decide +kernel
theorem dX9_channel_105 : decode cX9_channel 105 = .ok (.ldc 186, 2) := by decide +kernel
theorem dX9_channel_107 : decode cX9_channel 107 = .ok (.invokevirtual 142, 3) := by decide +kernel
theorem dX9_channel_110 : decode cX9_channel 110 = .ok (.ifCond .eq 10, 3) := by decide +kernel
theorem dX9_channel_113 : decode cX9_channel 113 = .ok (.aload_n 0, 1) := by decide +kernel
theorem dX9_channel_114 : decode cX9_channel 114 = .ok (.invokevirtual 188, 3) := by decide +kernel
theorem dX9_channel_117 : decode cX9_channel 117 = .ok (.goto 8, 3) := by decide +kernel
theorem dX9_channel_120 : decode cX9_channel 120 = .ok (.aload_n 0, 1) := by decide +kernel
theorem dX9_channel_121 : decode cX9_channel 121 = .ok (.iconst 1, 1) := by decide +kernel
theorem dX9_channel_122 : decode cX9_channel 122 = .ok (.invokevirtual 131, 3) := by decide +kernel
theorem dX9_channel_125 : decode cX9_channel 125 = .ok (.aload_n 0, 1) := by decide +kernel
theorem dX9_channel_126 : decode cX9_channel 126 = .ok (.aload_n 0, 1) := by decide +kernel
theorem dX9_channel_127 : decode cX9_channel 127 = .ok (.getfield 111, 3) := by decide +kernel
theorem dX9_channel_130 : decode cX9_channel 130 = .ok (.ifCond .ne 11, 3) := by decide +kernel
theorem dX9_channel_133 : decode cX9_channel 133 = .ok (.aload_n 0, 1) := by decide +kernel
theorem dX9_channel_134 : decode cX9_channel 134 = .ok (.getfield 101, 3) := by decide +kernel
theorem dX9_channel_137 : decode cX9_channel 137 = .ok (.iconst 3, 1) := by decide +kernel
theorem dX9_channel_138 : decode cX9_channel 138 = .ok (.if_icmp .ne 7, 3) := by decide +kernel
theorem dX9_channel_141 : decode cX9_channel 141 = .ok (.iconst 1, 1) := by decide +kernel
theorem dX9_channel_142 : decode cX9_channel 142 = .ok (.goto 4, 3) := by decide +kernel
theorem dX9_channel_145 : decode cX9_channel 145 = .ok (.iconst 0, 1) := by decide +kernel
theorem dX9_channel_146 : decode cX9_channel 146 = .ok (.invokevirtual 138, 3) := by decide +kernel
theorem dX9_channel_149 : decode cX9_channel 149 = .ok (.aload_n 0, 1) := by decide +kernel
theorem dX9_channel_150 : decode cX9_channel 150 = .ok (.getfield 9, 3) := by decide +kernel
theorem dX9_channel_153 : decode cX9_channel 153 = .ok (.bipush 6, 2) := by decide +kernel
theorem dX9_channel_155 : decode cX9_channel 155 = .ok (.dup2, 1) := by decide +kernel
theorem dX9_channel_156 : decode cX9_channel 156 = .ok (.iaload, 1) := by decide +kernel
theorem dX9_channel_157 : decode cX9_channel 157 = .ok (.iconst 1, 1) := by decide +kernel
theorem dX9_channel_158 : decode cX9_channel 158 = .ok (.iadd, 1) := by decide +kernel
theorem dX9_channel_159 : decode cX9_channel 159 = .ok (.iastore, 1) := by decide +kernel
theorem dX9_channel_160 : decode cX9_channel 160 = .ok (.goto (-103), 3) := by decide +kernel
theorem dX9_channel_163 : decode cX9_channel 163 = .ok (.aload_n 0, 1) := by decide +kernel
theorem dX9_channel_164 : decode cX9_channel 164 = .ok (.iconst 0, 1) := by decide +kernel
theorem dX9_channel_165 : decode cX9_channel 165 = .ok (.putfield 81, 3) := by decide +kernel
theorem dX9_channel_168 : decode cX9_channel 168 = .ok (.aload_n 0, 1) := by decide +kernel
theorem dX9_channel_169 : decode cX9_channel 169 = .ok (.aload_n 0, 1) := by decide +kernel
theorem dX9_channel_170 : decode cX9_channel 170 = .ok (.getfield 115, 3) := by decide +kernel
theorem dX9_channel_173 : decode cX9_channel 173 = .ok (.putfield 191, 3) := by decide +kernel
theorem dX9_channel_176 : decode cX9_channel 176 = .ok (.aload_n 0, 1) := by decide +kernel
theorem dX9_channel_177 : decode cX9_channel 177 = .ok (.aload_n 0, 1) := by decide +kernel
theorem dX9_channel_178 : decode cX9_channel 178 = .ok (.getfield 118, 3) := by decide +kernel
theorem dX9_channel_181 : decode cX9_channel 181 = .ok (.putfield 22, 3) := by decide +kernel
theorem dX9_channel_184 : decode cX9_channel 184 = .ok (.aload_n 0, 1) := by decide +kernel
theorem dX9_channel_185 : decode cX9_channel 185 = .ok (.getfield 111, 3) := by decide +kernel
theorem dX9_channel_188 : decode cX9_channel 188 = .ok (.ifCond .eq 32, 3) := by decide +kernel
theorem dX9_channel_191 : decode cX9_channel 191 = .ok (.iconst 0, 1) := by decide +kernel
theorem dX9_channel_192 : decode cX9_channel 192 = .ok (.istore_n 1, 1) := by decide +kernel
theorem dX9_channel_193 : decode cX9_channel 193 = .ok (.iload_n 1, 1) := by decide +kernel
theorem dX9_channel_194 : decode cX9_channel 194 = .ok (.bipush 57, 2) := by decide +kernel
theorem dX9_channel_196 : decode cX9_channel 196 = .ok (.if_icmp .ge 21, 3) := by decide +kernel
theorem dX9_channel_199 : decode cX9_channel 199 = .ok (.aload_n 0, 1) := by decide +kernel
theorem dX9_channel_200 : decode cX9_channel 200 = .ok (.getfield 9, 3) := by decide +kernel
theorem dX9_channel_203 : decode cX9_channel 203 = .ok (.iload_n 1, 1) := by decide +kernel
theorem dX9_channel_204 : decode cX9_channel 204 = .ok (.aload_n 0, 1) := by decide +kernel
theorem dX9_channel_205 : decode cX9_channel 205 = .ok (.getfield 13, 3) := by decide +kernel
theorem dX9_channel_208 : decode cX9_channel 208 = .ok (.iload_n 1, 1) := by decide +kernel
theorem dX9_channel_209 : decode cX9_channel 209 = .ok (.iaload, 1) := by decide +kernel
theorem dX9_channel_210 : decode cX9_channel 210 = .ok (.iastore, 1) := by decide +kernel
theorem dX9_channel_211 : decode cX9_channel 211 = .ok (.iinc 1 1, 3) := by decide +kernel
theorem dX9_channel_214 : decode cX9_channel 214 = .ok (.goto (-21), 3) := by decide +kernel
theorem dX9_channel_217 : decode cX9_channel 217 = .ok (.bipush (-4), 2) := by decide +kernel
theorem dX9_channel_219 : decode cX9_channel 219 = .ok (.ireturn, 1) := by decide +kernel
theorem dX9_channel_220 : decode cX9_channel 220 = .ok (.aload_n 0, 1) := by decide +kernel
theorem dX9_channel_221 : decode cX9_channel 221 = .ok (.iconst 0, 1) := by decide +kernel
theorem dX9_channel_222 : decode cX9_channel 222 = .ok (.putfield 194, 3) := by decide +kernel
theorem dX9_channel_225 : decode cX9_channel 225 = .ok (.aload_n 0, 1) := by decide +kernel
theorem dX9_channel_226 : decode cX9_channel 226 = .ok (.getfield 9, 3) := by decide +kernel
theorem dX9_channel_229 : decode cX9_channel 229 = .ok (.bipush 6, 2) := by decide +kernel
theorem dX9_channel_231 : decode cX9_channel 231 = .ok (.iaload, 1) := by decide +kernel
theorem dX9_channel_232 : decode cX9_channel 232 = .ok (.ireturn, 1) := by decide +kernel
theorem dX9_fault_0 : decode cX9_fault 0 = .ok (.iload_n 1, 1) := by decide +kernel
theorem dX9_fault_1 : decode cX9_fault 1 = .ok (.ifCond .ne 10, 3) := by decide +kernel
theorem dX9_fault_4 : decode cX9_fault 4 = .ok (.aload_n 0, 1) := by decide +kernel
theorem dX9_fault_5 : decode cX9_fault 5 = .ok (.getfield 191, 3) := by decide +kernel
theorem dX9_fault_8 : decode cX9_fault 8 = .ok (.goto 16, 3) := by decide +kernel
theorem dX9_fault_11 : decode cX9_fault 11 = .ok (.iload_n 1, 1) := by decide +kernel
theorem dX9_fault_12 : decode cX9_fault 12 = .ok (.iconst 1, 1) := by decide +kernel
theorem dX9_fault_13 : decode cX9_fault 13 = .ok (.if_icmp .ne 10, 3) := by decide +kernel
theorem dX9_fault_16 : decode cX9_fault 16 = .ok (.aload_n 0, 1) := by decide +kernel
theorem dX9_fault_17 : decode cX9_fault 17 = .ok (.getfield 22, 3) := by decide +kernel
theorem dX9_fault_20 : decode cX9_fault 20 = .ok (.goto 4, 3) := by decide +kernel
theorem dX9_fault_23 : decode cX9_fault 23 = .ok (.iconst (-1), 1) := by decide +kernel
theorem dX9_fault_24 : decode cX9_fault 24 = .ok (.ireturn, 1) := by decide +kernel
theorem dX9_is_0 : decode cX9_is 0 = .ok (.aload_n 0, 1) := by decide +kernel
theorem dX9_is_1 : decode cX9_is 1 = .ok (.getfield 9, 3) := by decide +kernel
theorem dX9_is_4 : decode cX9_is 4 = .ok (.bipush 6, 2) := by decide +kernel
theorem dX9_is_6 : decode cX9_is 6 = .ok (.iaload, 1) := by decide +kernel
theorem dX9_is_7 : decode cX9_is 7 = .ok (.ifCond .le 7, 3) := by decide +kernel
theorem dX9_is_10 : decode cX9_is 10 = .ok (.iconst 1, 1) := by decide +kernel
theorem dX9_is_11 : decode cX9_is 11 = .ok (.goto 4, 3) := by decide +kernel
theorem dX9_is_14 : decode cX9_is 14 = .ok (.iconst 0, 1) := by decide +kernel
theorem dX9_is_15 : decode cX9_is 15 = .ok (.ireturn, 1) := by decide +kernel
theorem dX9_isSender_0 : decode cX9_isSender 0 = .ok (.iload_n 1, 1) := by decide +kernel
theorem dX9_isSender_1 : decode cX9_isSender 1 = .ok (.i2l, 1) := by decide +kernel
theorem dX9_isSender_2 : decode cX9_isSender 2 = .ok (.lconst 0, 1) := by decide +kernel
theorem dX9_isSender_3 : decode cX9_isSender 3 = .ok (.aload_n 0, 1) := by decide +kernel
theorem dX9_isSender_4 : decode cX9_isSender 4 = .ok (.getfield 9, 3) := by decide +kernel
theorem dX9_isSender_7 : decode cX9_isSender 7 = .ok (.iconst 4, 1) := by decide +kernel
theorem dX9_isSender_8 : decode cX9_isSender 8 = .ok (.iaload, 1) := by decide +kernel
theorem dX9_isSender_9 : decode cX9_isSender 9 = .ok (.iconst 1, 1) := by decide +kernel
theorem dX9_isSender_10 : decode cX9_isSender 10 = .ok (.isub, 1) := by decide +kernel
theorem dX9_isSender_11 : decode cX9_isSender 11 = .ok (.i2l, 1) := by decide +kernel
theorem dX9_isSender_12 : decode cX9_isSender 12 = .ok (.invokestatic 84, 3) := by decide +kernel
theorem dX9_isSender_15 : decode cX9_isSender 15 = .ok (.ireturn, 1) := by decide +kernel
theorem dX9_count_0 : decode cX9_count 0 = .ok (.iload_n 1, 1) := by decide +kernel
theorem dX9_count_1 : decode cX9_count 1 = .ok (.tableswitch 76 0 8 #[51, 51, 51, 51, 51, 51, 58, 63, 71], 51) := by decide +kernel
theorem dX9_count_52 : decode cX9_count 52 = .ok (.aload_n 0, 1) := by decide +kernel
theorem dX9_count_53 : decode cX9_count 53 = .ok (.getfield 9, 3) := by decide +kernel
theorem dX9_count_56 : decode cX9_count 56 = .ok (.iload_n 1, 1) := by decide +kernel
theorem dX9_count_57 : decode cX9_count 57 = .ok (.iaload, 1) := by decide +kernel
theorem dX9_count_58 : decode cX9_count 58 = .ok (.ireturn, 1) := by decide +kernel
theorem dX9_count_59 : decode cX9_count 59 = .ok (.aload_n 0, 1) := by decide +kernel
theorem dX9_count_60 : decode cX9_count 60 = .ok (.getfield 194, 3) := by decide +kernel
theorem dX9_count_63 : decode cX9_count 63 = .ok (.ireturn, 1) := by decide +kernel
theorem dX9_count_64 : decode cX9_count 64 = .ok (.aload_n 0, 1) := by decide +kernel
theorem dX9_count_65 : decode cX9_count 65 = .ok (.getfield 9, 3) := by decide +kernel
theorem dX9_count_68 : decode cX9_count 68 = .ok (.bipush 6, 2) := by decide +kernel
theorem dX9_count_70 : decode cX9_count 70 = .ok (.iaload, 1) := by decide +kernel
theorem dX9_count_71 : decode cX9_count 71 = .ok (.ireturn, 1) := by decide +kernel
theorem dX9_count_72 : decode cX9_count 72 = .ok (.aload_n 0, 1) := by decide +kernel
theorem dX9_count_73 : decode cX9_count 73 = .ok (.getfield 81, 3) := by decide +kernel
theorem dX9_count_76 : decode cX9_count 76 = .ok (.ireturn, 1) := by decide +kernel
theorem dX9_count_77 : decode cX9_count 77 = .ok (.iconst (-1), 1) := by decide +kernel
theorem dX9_count_78 : decode cX9_count 78 = .ok (.ireturn, 1) := by decide +kernel
theorem dX9_bitOf_0 : decode cX9_bitOf 0 = .ok (.aload_n 0, 1) := by decide +kernel
theorem dX9_bitOf_1 : decode cX9_bitOf 1 = .ok (.getfield 9, 3) := by decide +kernel
theorem dX9_bitOf_4 : decode cX9_bitOf 4 = .ok (.bipush 27, 2) := by decide +kernel
theorem dX9_bitOf_6 : decode cX9_bitOf 6 = .ok (.iload_n 1, 1) := by decide +kernel
theorem dX9_bitOf_7 : decode cX9_bitOf 7 = .ok (.iadd, 1) := by decide +kernel
theorem dX9_bitOf_8 : decode cX9_bitOf 8 = .ok (.iaload, 1) := by decide +kernel
theorem dX9_bitOf_9 : decode cX9_bitOf 9 = .ok (.aload_n 0, 1) := by decide +kernel
theorem dX9_bitOf_10 : decode cX9_bitOf 10 = .ok (.getfield 9, 3) := by decide +kernel
theorem dX9_bitOf_13 : decode cX9_bitOf 13 = .ok (.bipush 17, 2) := by decide +kernel
theorem dX9_bitOf_15 : decode cX9_bitOf 15 = .ok (.iload_n 1, 1) := by decide +kernel
theorem dX9_bitOf_16 : decode cX9_bitOf 16 = .ok (.iadd, 1) := by decide +kernel
theorem dX9_bitOf_17 : decode cX9_bitOf 17 = .ok (.iaload, 1) := by decide +kernel
theorem dX9_bitOf_18 : decode cX9_bitOf 18 = .ok (.iconst 1, 1) := by decide +kernel
theorem dX9_bitOf_19 : decode cX9_bitOf 19 = .ok (.isub, 1) := by decide +kernel
theorem dX9_bitOf_20 : decode cX9_bitOf 20 = .ok (.iload_n 2, 1) := by decide +kernel
theorem dX9_bitOf_21 : decode cX9_bitOf 21 = .ok (.aload_n 0, 1) := by decide +kernel
theorem dX9_bitOf_22 : decode cX9_bitOf 22 = .ok (.getfield 9, 3) := by decide +kernel
theorem dX9_bitOf_25 : decode cX9_bitOf 25 = .ok (.bipush 17, 2) := by decide +kernel
theorem dX9_bitOf_27 : decode cX9_bitOf 27 = .ok (.iload_n 1, 1) := by decide +kernel
theorem dX9_bitOf_28 : decode cX9_bitOf 28 = .ok (.iadd, 1) := by decide +kernel
theorem dX9_bitOf_29 : decode cX9_bitOf 29 = .ok (.iaload, 1) := by decide +kernel
theorem dX9_bitOf_30 : decode cX9_bitOf 30 = .ok (.irem, 1) := by decide +kernel
theorem dX9_bitOf_31 : decode cX9_bitOf 31 = .ok (.isub, 1) := by decide +kernel
theorem dX9_bitOf_32 : decode cX9_bitOf 32 = .ok (.ishr, 1) := by decide +kernel
theorem dX9_bitOf_33 : decode cX9_bitOf 33 = .ok (.iconst 1, 1) := by decide +kernel
theorem dX9_bitOf_34 : decode cX9_bitOf 34 = .ok (.iand, 1) := by decide +kernel
theorem dX9_bitOf_35 : decode cX9_bitOf 35 = .ok (.ireturn, 1) := by decide +kernel
theorem dX9_sender_0 : decode cX9_sender 0 = .ok (.aload_n 0, 1) := by decide +kernel
theorem dX9_sender_1 : decode cX9_sender 1 = .ok (.iload_n 1, 1) := by decide +kernel
theorem dX9_sender_2 : decode cX9_sender 2 = .ok (.invokevirtual 197, 3) := by decide +kernel
theorem dX9_sender_5 : decode cX9_sender 5 = .ok (.ifCond .eq 15, 3) := by decide +kernel
theorem dX9_sender_8 : decode cX9_sender 8 = .ok (.iload_n 2, 1) := by decide +kernel
theorem dX9_sender_9 : decode cX9_sender 9 = .ok (.i2l, 1) := by decide +kernel
theorem dX9_sender_10 : decode cX9_sender 10 = .ok (.lconst 0, 1) := by decide +kernel
theorem dX9_sender_11 : decode cX9_sender 11 = .ok (.ldc2_w 200, 3) := by decide +kernel
theorem dX9_sender_14 : decode cX9_sender 14 = .ok (.invokestatic 84, 3) := by decide +kernel
theorem dX9_sender_17 : decode cX9_sender 17 = .ok (.ifCond .ne 6, 3) := by decide +kernel
theorem dX9_sender_20 : decode cX9_sender 20 = .ok (.bipush (-2), 2) := by decide +kernel
theorem dX9_sender_22 : decode cX9_sender 22 = .ok (.ireturn, 1) := by decide +kernel
theorem dX9_sender_23 : decode cX9_sender 23 = .ok (.iload_n 2, 1) := by decide +kernel
theorem dX9_sender_24 : decode cX9_sender 24 = .ok (.iconst 2, 1) := by decide +kernel
theorem dX9_sender_25 : decode cX9_sender 25 = .ok (.if_icmp .ge 22, 3) := by decide +kernel
theorem dX9_sender_28 : decode cX9_sender 28 = .ok (.aload_n 0, 1) := by decide +kernel
theorem dX9_sender_29 : decode cX9_sender 29 = .ok (.getfield 9, 3) := by decide +kernel
theorem dX9_sender_32 : decode cX9_sender 32 = .ok (.iload_n 2, 1) := by decide +kernel
theorem dX9_sender_33 : decode cX9_sender 33 = .ok (.ifCond .ne 8, 3) := by decide +kernel
theorem dX9_sender_36 : decode cX9_sender 36 = .ok (.bipush 7, 2) := by decide +kernel
theorem dX9_sender_38 : decode cX9_sender 38 = .ok (.goto 5, 3) := by decide +kernel
theorem dX9_sender_41 : decode cX9_sender 41 = .ok (.bipush 17, 2) := by decide +kernel
theorem dX9_sender_43 : decode cX9_sender 43 = .ok (.iload_n 1, 1) := by decide +kernel
theorem dX9_sender_44 : decode cX9_sender 44 = .ok (.iadd, 1) := by decide +kernel
theorem dX9_sender_45 : decode cX9_sender 45 = .ok (.iaload, 1) := by decide +kernel
theorem dX9_sender_46 : decode cX9_sender 46 = .ok (.ireturn, 1) := by decide +kernel
theorem dX9_sender_47 : decode cX9_sender 47 = .ok (.iload_n 2, 1) := by decide +kernel
theorem dX9_sender_48 : decode cX9_sender 48 = .ok (.iconst 2, 1) := by decide +kernel
theorem dX9_sender_49 : decode cX9_sender 49 = .ok (.isub, 1) := by decide +kernel
theorem dX9_sender_50 : decode cX9_sender 50 = .ok (.aload_n 0, 1) := by decide +kernel
theorem dX9_sender_51 : decode cX9_sender 51 = .ok (.getfield 9, 3) := by decide +kernel
theorem dX9_sender_54 : decode cX9_sender 54 = .ok (.bipush 17, 2) := by decide +kernel
theorem dX9_sender_56 : decode cX9_sender 56 = .ok (.iload_n 1, 1) := by decide +kernel
theorem dX9_sender_57 : decode cX9_sender 57 = .ok (.iadd, 1) := by decide +kernel
theorem dX9_sender_58 : decode cX9_sender 58 = .ok (.iaload, 1) := by decide +kernel
theorem dX9_sender_59 : decode cX9_sender 59 = .ok (.if_icmp .ge 14, 3) := by decide +kernel
theorem dX9_sender_62 : decode cX9_sender 62 = .ok (.aload_n 0, 1) := by decide +kernel
theorem dX9_sender_63 : decode cX9_sender 63 = .ok (.iload_n 1, 1) := by decide +kernel
theorem dX9_sender_64 : decode cX9_sender 64 = .ok (.iload_n 2, 1) := by decide +kernel
theorem dX9_sender_65 : decode cX9_sender 65 = .ok (.iconst 2, 1) := by decide +kernel
theorem dX9_sender_66 : decode cX9_sender 66 = .ok (.isub, 1) := by decide +kernel
theorem dX9_sender_67 : decode cX9_sender 67 = .ok (.invokevirtual 202, 3) := by decide +kernel
theorem dX9_sender_70 : decode cX9_sender 70 = .ok (.goto 4, 3) := by decide +kernel
theorem dX9_sender_73 : decode cX9_sender 73 = .ok (.iconst (-1), 1) := by decide +kernel
theorem dX9_sender_74 : decode cX9_sender 74 = .ok (.ireturn, 1) := by decide +kernel
theorem dX9_noise_0 : decode cX9_noise 0 = .ok (.iload_n 1, 1) := by decide +kernel
theorem dX9_noise_1 : decode cX9_noise 1 = .ok (.i2l, 1) := by decide +kernel
theorem dX9_noise_2 : decode cX9_noise 2 = .ok (.lconst 0, 1) := by decide +kernel
theorem dX9_noise_3 : decode cX9_noise 3 = .ok (.aload_n 0, 1) := by decide +kernel
theorem dX9_noise_4 : decode cX9_noise 4 = .ok (.getfield 9, 3) := by decide +kernel
theorem dX9_noise_7 : decode cX9_noise 7 = .ok (.iconst 5, 1) := by decide +kernel
theorem dX9_noise_8 : decode cX9_noise 8 = .ok (.iaload, 1) := by decide +kernel
theorem dX9_noise_9 : decode cX9_noise 9 = .ok (.iconst 1, 1) := by decide +kernel
theorem dX9_noise_10 : decode cX9_noise 10 = .ok (.isub, 1) := by decide +kernel
theorem dX9_noise_11 : decode cX9_noise 11 = .ok (.i2l, 1) := by decide +kernel
theorem dX9_noise_12 : decode cX9_noise 12 = .ok (.invokestatic 84, 3) := by decide +kernel
theorem dX9_noise_15 : decode cX9_noise 15 = .ok (.ifCond .eq 34, 3) := by decide +kernel
theorem dX9_noise_18 : decode cX9_noise 18 = .ok (.iload_n 2, 1) := by decide +kernel
theorem dX9_noise_19 : decode cX9_noise 19 = .ok (.i2l, 1) := by decide +kernel
theorem dX9_noise_20 : decode cX9_noise 20 = .ok (.lconst 0, 1) := by decide +kernel
theorem dX9_noise_21 : decode cX9_noise 21 = .ok (.lconst 1, 1) := by decide +kernel
theorem dX9_noise_22 : decode cX9_noise 22 = .ok (.invokestatic 84, 3) := by decide +kernel
theorem dX9_noise_25 : decode cX9_noise 25 = .ok (.ifCond .eq 24, 3) := by decide +kernel
theorem dX9_noise_28 : decode cX9_noise 28 = .ok (.aload_n 0, 1) := by decide +kernel
theorem dX9_noise_29 : decode cX9_noise 29 = .ok (.getfield 9, 3) := by decide +kernel
theorem dX9_noise_32 : decode cX9_noise 32 = .ok (.iload_n 2, 1) := by decide +kernel
theorem dX9_noise_33 : decode cX9_noise 33 = .ok (.ifCond .ne 8, 3) := by decide +kernel
theorem dX9_noise_36 : decode cX9_noise 36 = .ok (.bipush 37, 2) := by decide +kernel
theorem dX9_noise_38 : decode cX9_noise 38 = .ok (.goto 5, 3) := by decide +kernel
theorem dX9_noise_41 : decode cX9_noise 41 = .ok (.bipush 47, 2) := by decide +kernel
theorem dX9_noise_43 : decode cX9_noise 43 = .ok (.iload_n 1, 1) := by decide +kernel
theorem dX9_noise_44 : decode cX9_noise 44 = .ok (.iadd, 1) := by decide +kernel
theorem dX9_noise_45 : decode cX9_noise 45 = .ok (.iaload, 1) := by decide +kernel
theorem dX9_noise_46 : decode cX9_noise 46 = .ok (.goto 5, 3) := by decide +kernel
theorem dX9_noise_49 : decode cX9_noise 49 = .ok (.bipush (-2), 2) := by decide +kernel
theorem dX9_noise_51 : decode cX9_noise 51 = .ok (.ireturn, 1) := by decide +kernel
theorem dX9_momentOf_0 : decode cX9_momentOf 0 = .ok (.bipush 16, 2) := by decide +kernel
theorem dX9_momentOf_2 : decode cX9_momentOf 2 = .ok (.iload_n 0, 1) := by decide +kernel
theorem dX9_momentOf_3 : decode cX9_momentOf 3 = .ok (.imul, 1) := by decide +kernel
theorem dX9_momentOf_4 : decode cX9_momentOf 4 = .ok (.iload_n 1, 1) := by decide +kernel
theorem dX9_momentOf_5 : decode cX9_momentOf 5 = .ok (.iadd, 1) := by decide +kernel
theorem dX9_momentOf_6 : decode cX9_momentOf 6 = .ok (.ireturn, 1) := by decide +kernel
theorem dX9_runs_0 : decode cX9_runs 0 = .ok (.aload_n 0, 1) := by decide +kernel
theorem dX9_runs_1 : decode cX9_runs 1 = .ok (.aload_n 0, 1) := by decide +kernel
theorem dX9_runs_2 : decode cX9_runs 2 = .ok (.getfield 9, 3) := by decide +kernel
theorem dX9_runs_5 : decode cX9_runs 5 = .ok (.iconst 0, 1) := by decide +kernel
theorem dX9_runs_6 : decode cX9_runs 6 = .ok (.iaload, 1) := by decide +kernel
theorem dX9_runs_7 : decode cX9_runs 7 = .ok (.iconst (-1), 1) := by decide +kernel
theorem dX9_runs_8 : decode cX9_runs 8 = .ok (.iconst (-1), 1) := by decide +kernel
theorem dX9_runs_9 : decode cX9_runs 9 = .ok (.invokevirtual 205, 3) := by decide +kernel
theorem dX9_runs_12 : decode cX9_runs 12 = .ok (.return_, 1) := by decide +kernel
theorem dX9_runsBy_0 : decode cX9_runsBy 0 = .ok (.aload_n 0, 1) := by decide +kernel
theorem dX9_runsBy_1 : decode cX9_runsBy 1 = .ok (.iload_n 1, 1) := by decide +kernel
theorem dX9_runsBy_2 : decode cX9_runsBy 2 = .ok (.putfield 209, 3) := by decide +kernel
theorem dX9_runsBy_5 : decode cX9_runsBy 5 = .ok (.aload_n 0, 1) := by decide +kernel
theorem dX9_runsBy_6 : decode cX9_runsBy 6 = .ok (.iload_n 2, 1) := by decide +kernel
theorem dX9_runsBy_7 : decode cX9_runsBy 7 = .ok (.putfield 212, 3) := by decide +kernel
theorem dX9_runsBy_10 : decode cX9_runsBy 10 = .ok (.aload_n 0, 1) := by decide +kernel
theorem dX9_runsBy_11 : decode cX9_runsBy 11 = .ok (.iload_n 3, 1) := by decide +kernel
theorem dX9_runsBy_12 : decode cX9_runsBy 12 = .ok (.putfield 215, 3) := by decide +kernel
theorem dX9_runsBy_15 : decode cX9_runsBy 15 = .ok (.aload_n 0, 1) := by decide +kernel
theorem dX9_runsBy_16 : decode cX9_runsBy 16 = .ok (.iconst 0, 1) := by decide +kernel
theorem dX9_runsBy_17 : decode cX9_runsBy 17 = .ok (.putfield 218, 3) := by decide +kernel
theorem dX9_runsBy_20 : decode cX9_runsBy 20 = .ok (.aload_n 0, 1) := by decide +kernel
theorem dX9_runsBy_21 : decode cX9_runsBy 21 = .ok (.iconst 0, 1) := by decide +kernel
theorem dX9_runsBy_22 : decode cX9_runsBy 22 = .ok (.putfield 221, 3) := by decide +kernel
theorem dX9_runsBy_25 : decode cX9_runsBy 25 = .ok (.aload_n 0, 1) := by decide +kernel
theorem dX9_runsBy_26 : decode cX9_runsBy 26 = .ok (.iconst 0, 1) := by decide +kernel
theorem dX9_runsBy_27 : decode cX9_runsBy 27 = .ok (.putfield 224, 3) := by decide +kernel
theorem dX9_runsBy_30 : decode cX9_runsBy 30 = .ok (.aload_n 0, 1) := by decide +kernel
theorem dX9_runsBy_31 : decode cX9_runsBy 31 = .ok (.iconst 0, 1) := by decide +kernel
theorem dX9_runsBy_32 : decode cX9_runsBy 32 = .ok (.putfield 227, 3) := by decide +kernel
theorem dX9_runsBy_35 : decode cX9_runsBy 35 = .ok (.aload_n 0, 1) := by decide +kernel
theorem dX9_runsBy_36 : decode cX9_runsBy 36 = .ok (.iconst 0, 1) := by decide +kernel
theorem dX9_runsBy_37 : decode cX9_runsBy 37 = .ok (.putfield 230, 3) := by decide +kernel
theorem dX9_runsBy_40 : decode cX9_runsBy 40 = .ok (.aload_n 0, 1) := by decide +kernel
theorem dX9_runsBy_41 : decode cX9_runsBy 41 = .ok (.iconst 0, 1) := by decide +kernel
theorem dX9_runsBy_42 : decode cX9_runsBy 42 = .ok (.putfield 233, 3) := by decide +kernel
theorem dX9_runsBy_45 : decode cX9_runsBy 45 = .ok (.aload_n 0, 1) := by decide +kernel
theorem dX9_runsBy_46 : decode cX9_runsBy 46 = .ok (.iconst 0, 1) := by decide +kernel
theorem dX9_runsBy_47 : decode cX9_runsBy 47 = .ok (.putfield 236, 3) := by decide +kernel
theorem dX9_runsBy_50 : decode cX9_runsBy 50 = .ok (.iconst 0, 1) := by decide +kernel
theorem dX9_runsBy_51 : decode cX9_runsBy 51 = .ok (.istore 4, 2) := by decide +kernel
theorem dX9_runsBy_53 : decode cX9_runsBy 53 = .ok (.iload 4, 2) := by decide +kernel
theorem dX9_runsBy_55 : decode cX9_runsBy 55 = .ok (.bipush 10, 2) := by decide +kernel
theorem dX9_runsBy_57 : decode cX9_runsBy 57 = .ok (.if_icmp .ge 33, 3) := by decide +kernel
theorem dX9_runsBy_60 : decode cX9_runsBy 60 = .ok (.aload_n 0, 1) := by decide +kernel
theorem dX9_runsBy_61 : decode cX9_runsBy 61 = .ok (.getfield 35, 3) := by decide +kernel
theorem dX9_runsBy_64 : decode cX9_runsBy 64 = .ok (.iload 4, 2) := by decide +kernel
theorem dX9_runsBy_66 : decode cX9_runsBy 66 = .ok (.iconst 0, 1) := by decide +kernel
theorem dX9_runsBy_67 : decode cX9_runsBy 67 = .ok (.iastore, 1) := by decide +kernel
theorem dX9_runsBy_68 : decode cX9_runsBy 68 = .ok (.aload_n 0, 1) := by decide +kernel
theorem dX9_runsBy_69 : decode cX9_runsBy 69 = .ok (.getfield 38, 3) := by decide +kernel
theorem dX9_runsBy_72 : decode cX9_runsBy 72 = .ok (.iload 4, 2) := by decide +kernel
theorem dX9_runsBy_74 : decode cX9_runsBy 74 = .ok (.iconst 0, 1) := by decide +kernel
theorem dX9_runsBy_75 : decode cX9_runsBy 75 = .ok (.iastore, 1) := by decide +kernel
theorem dX9_runsBy_76 : decode cX9_runsBy 76 = .ok (.aload_n 0, 1) := by decide +kernel
theorem dX9_runsBy_77 : decode cX9_runsBy 77 = .ok (.getfield 41, 3) := by decide +kernel
theorem dX9_runsBy_80 : decode cX9_runsBy 80 = .ok (.iload 4, 2) := by decide +kernel
theorem dX9_runsBy_82 : decode cX9_runsBy 82 = .ok (.iconst (-1), 1) := by decide +kernel
theorem dX9_runsBy_83 : decode cX9_runsBy 83 = .ok (.iastore, 1) := by decide +kernel
theorem dX9_runsBy_84 : decode cX9_runsBy 84 = .ok (.iinc 4 1, 3) := by decide +kernel
theorem dX9_runsBy_87 : decode cX9_runsBy 87 = .ok (.goto (-34), 3) := by decide +kernel
theorem dX9_runsBy_90 : decode cX9_runsBy 90 = .ok (.iconst 0, 1) := by decide +kernel
theorem dX9_runsBy_91 : decode cX9_runsBy 91 = .ok (.istore 4, 2) := by decide +kernel
theorem dX9_runsBy_93 : decode cX9_runsBy 93 = .ok (.iload 4, 2) := by decide +kernel
theorem dX9_runsBy_95 : decode cX9_runsBy 95 = .ok (.aload_n 0, 1) := by decide +kernel
theorem dX9_runsBy_96 : decode cX9_runsBy 96 = .ok (.getfield 9, 3) := by decide +kernel
theorem dX9_runsBy_99 : decode cX9_runsBy 99 = .ok (.iconst 1, 1) := by decide +kernel
theorem dX9_runsBy_100 : decode cX9_runsBy 100 = .ok (.iaload, 1) := by decide +kernel
theorem dX9_runsBy_101 : decode cX9_runsBy 101 = .ok (.if_icmp .ge 50, 3) := by decide +kernel
theorem dX9_runsBy_104 : decode cX9_runsBy 104 = .ok (.aload_n 0, 1) := by decide +kernel
theorem dX9_runsBy_105 : decode cX9_runsBy 105 = .ok (.aload_n 0, 1) := by decide +kernel
theorem dX9_runsBy_106 : decode cX9_runsBy 106 = .ok (.iload 4, 2) := by decide +kernel
theorem dX9_runsBy_108 : decode cX9_runsBy 108 = .ok (.invokevirtual 239, 3) := by decide +kernel
theorem dX9_runsBy_111 : decode cX9_runsBy 111 = .ok (.putfield 243, 3) := by decide +kernel
theorem dX9_runsBy_114 : decode cX9_runsBy 114 = .ok (.aload_n 0, 1) := by decide +kernel
theorem dX9_runsBy_115 : decode cX9_runsBy 115 = .ok (.getfield 56, 3) := by decide +kernel
theorem dX9_runsBy_118 : decode cX9_runsBy 118 = .ok (.iload 4, 2) := by decide +kernel
theorem dX9_runsBy_120 : decode cX9_runsBy 120 = .ok (.iconst 0, 1) := by decide +kernel
theorem dX9_runsBy_121 : decode cX9_runsBy 121 = .ok (.iastore, 1) := by decide +kernel
theorem dX9_runsBy_122 : decode cX9_runsBy 122 = .ok (.aload_n 0, 1) := by decide +kernel
theorem dX9_runsBy_123 : decode cX9_runsBy 123 = .ok (.getfield 209, 3) := by decide +kernel
theorem dX9_runsBy_126 : decode cX9_runsBy 126 = .ok (.iconst 2, 1) := by decide +kernel
theorem dX9_runsBy_127 : decode cX9_runsBy 127 = .ok (.if_icmp .ne 12, 3) := by decide +kernel
theorem dX9_runsBy_130 : decode cX9_runsBy 130 = .ok (.aload_n 0, 1) := by decide +kernel
theorem dX9_runsBy_131 : decode cX9_runsBy 131 = .ok (.iload 4, 2) := by decide +kernel
theorem dX9_runsBy_133 : decode cX9_runsBy 133 = .ok (.invokevirtual 246, 3) := by decide +kernel
theorem dX9_runsBy_136 : decode cX9_runsBy 136 = .ok (.goto 9, 3) := by decide +kernel
theorem dX9_runsBy_139 : decode cX9_runsBy 139 = .ok (.aload_n 0, 1) := by decide +kernel
theorem dX9_runsBy_140 : decode cX9_runsBy 140 = .ok (.iload 4, 2) := by decide +kernel
theorem dX9_runsBy_142 : decode cX9_runsBy 142 = .ok (.invokevirtual 249, 3) := by decide +kernel
theorem dX9_runsBy_145 : decode cX9_runsBy 145 = .ok (.iinc 4 1, 3) := by decide +kernel
theorem dX9_runsBy_148 : decode cX9_runsBy 148 = .ok (.goto (-55), 3) := by decide +kernel
theorem dX9_runsBy_151 : decode cX9_runsBy 151 = .ok (.return_, 1) := by decide +kernel
theorem dX9_waiting_0 : decode cX9_waiting 0 = .ok (.iconst 0, 1) := by decide +kernel
theorem dX9_waiting_1 : decode cX9_waiting 1 = .ok (.istore_n 2, 1) := by decide +kernel
theorem dX9_waiting_2 : decode cX9_waiting 2 = .ok (.iconst 0, 1) := by decide +kernel
theorem dX9_waiting_3 : decode cX9_waiting 3 = .ok (.istore_n 3, 1) := by decide +kernel
theorem dX9_waiting_4 : decode cX9_waiting 4 = .ok (.iload_n 3, 1) := by decide +kernel
theorem dX9_waiting_5 : decode cX9_waiting 5 = .ok (.aload_n 0, 1) := by decide +kernel
theorem dX9_waiting_6 : decode cX9_waiting 6 = .ok (.getfield 9, 3) := by decide +kernel
theorem dX9_waiting_9 : decode cX9_waiting 9 = .ok (.iconst 4, 1) := by decide +kernel
theorem dX9_waiting_10 : decode cX9_waiting 10 = .ok (.iaload, 1) := by decide +kernel
theorem dX9_waiting_11 : decode cX9_waiting 11 = .ok (.if_icmp .ge 50, 3) := by decide +kernel
theorem dX9_waiting_14 : decode cX9_waiting 14 = .ok (.iload_n 2, 1) := by decide +kernel
theorem dX9_waiting_15 : decode cX9_waiting 15 = .ok (.iload_n 3, 1) := by decide +kernel
theorem dX9_waiting_16 : decode cX9_waiting 16 = .ok (.aload_n 0, 1) := by decide +kernel
theorem dX9_waiting_17 : decode cX9_waiting 17 = .ok (.getfield 215, 3) := by decide +kernel
theorem dX9_waiting_20 : decode cX9_waiting 20 = .ok (.if_icmp .eq 32, 3) := by decide +kernel
theorem dX9_waiting_23 : decode cX9_waiting 23 = .ok (.aload_n 0, 1) := by decide +kernel
theorem dX9_waiting_24 : decode cX9_waiting 24 = .ok (.getfield 9, 3) := by decide +kernel
theorem dX9_waiting_27 : decode cX9_waiting 27 = .ok (.bipush 7, 2) := by decide +kernel
theorem dX9_waiting_29 : decode cX9_waiting 29 = .ok (.iload_n 3, 1) := by decide +kernel
theorem dX9_waiting_30 : decode cX9_waiting 30 = .ok (.iadd, 1) := by decide +kernel
theorem dX9_waiting_31 : decode cX9_waiting 31 = .ok (.iaload, 1) := by decide +kernel
theorem dX9_waiting_32 : decode cX9_waiting 32 = .ok (.iload_n 1, 1) := by decide +kernel
theorem dX9_waiting_33 : decode cX9_waiting 33 = .ok (.if_icmp .gt 19, 3) := by decide +kernel
theorem dX9_waiting_36 : decode cX9_waiting 36 = .ok (.aload_n 0, 1) := by decide +kernel
theorem dX9_waiting_37 : decode cX9_waiting 37 = .ok (.getfield 41, 3) := by decide +kernel
theorem dX9_waiting_40 : decode cX9_waiting 40 = .ok (.iload_n 3, 1) := by decide +kernel
theorem dX9_waiting_41 : decode cX9_waiting 41 = .ok (.iaload, 1) := by decide +kernel
theorem dX9_waiting_42 : decode cX9_waiting 42 = .ok (.iconst (-1), 1) := by decide +kernel
theorem dX9_waiting_43 : decode cX9_waiting 43 = .ok (.if_icmp .ne 9, 3) := by decide +kernel
theorem dX9_waiting_46 : decode cX9_waiting 46 = .ok (.iconst 1, 1) := by decide +kernel
theorem dX9_waiting_47 : decode cX9_waiting 47 = .ok (.iload_n 3, 1) := by decide +kernel
theorem dX9_waiting_48 : decode cX9_waiting 48 = .ok (.ishl, 1) := by decide +kernel
theorem dX9_waiting_49 : decode cX9_waiting 49 = .ok (.goto 4, 3) := by decide +kernel
theorem dX9_waiting_52 : decode cX9_waiting 52 = .ok (.iconst 0, 1) := by decide +kernel
theorem dX9_waiting_53 : decode cX9_waiting 53 = .ok (.ior, 1) := by decide +kernel
theorem dX9_waiting_54 : decode cX9_waiting 54 = .ok (.istore_n 2, 1) := by decide +kernel
theorem dX9_waiting_55 : decode cX9_waiting 55 = .ok (.iinc 3 1, 3) := by decide +kernel
theorem dX9_waiting_58 : decode cX9_waiting 58 = .ok (.goto (-54), 3) := by decide +kernel
theorem dX9_waiting_61 : decode cX9_waiting 61 = .ok (.iload_n 2, 1) := by decide +kernel
theorem dX9_waiting_62 : decode cX9_waiting 62 = .ok (.ireturn, 1) := by decide +kernel
theorem dX9_heardAt_0 : decode cX9_heardAt 0 = .ok (.iconst 0, 1) := by decide +kernel
theorem dX9_heardAt_1 : decode cX9_heardAt 1 = .ok (.istore_n 3, 1) := by decide +kernel
theorem dX9_heardAt_2 : decode cX9_heardAt 2 = .ok (.iload_n 3, 1) := by decide +kernel
theorem dX9_heardAt_3 : decode cX9_heardAt 3 = .ok (.aload_n 0, 1) := by decide +kernel
theorem dX9_heardAt_4 : decode cX9_heardAt 4 = .ok (.getfield 9, 3) := by decide +kernel
theorem dX9_heardAt_7 : decode cX9_heardAt 7 = .ok (.iconst 5, 1) := by decide +kernel
theorem dX9_heardAt_8 : decode cX9_heardAt 8 = .ok (.iaload, 1) := by decide +kernel
theorem dX9_heardAt_9 : decode cX9_heardAt 9 = .ok (.if_icmp .ge 40, 3) := by decide +kernel
theorem dX9_heardAt_12 : decode cX9_heardAt 12 = .ok (.aload_n 0, 1) := by decide +kernel
theorem dX9_heardAt_13 : decode cX9_heardAt 13 = .ok (.getfield 9, 3) := by decide +kernel
theorem dX9_heardAt_16 : decode cX9_heardAt 16 = .ok (.bipush 37, 2) := by decide +kernel
theorem dX9_heardAt_18 : decode cX9_heardAt 18 = .ok (.iload_n 3, 1) := by decide +kernel
theorem dX9_heardAt_19 : decode cX9_heardAt 19 = .ok (.iadd, 1) := by decide +kernel
theorem dX9_heardAt_20 : decode cX9_heardAt 20 = .ok (.iaload, 1) := by decide +kernel
theorem dX9_heardAt_21 : decode cX9_heardAt 21 = .ok (.iload_n 1, 1) := by decide +kernel
theorem dX9_heardAt_22 : decode cX9_heardAt 22 = .ok (.if_icmp .ne 21, 3) := by decide +kernel
theorem dX9_heardAt_25 : decode cX9_heardAt 25 = .ok (.iload_n 3, 1) := by decide +kernel
theorem dX9_heardAt_26 : decode cX9_heardAt 26 = .ok (.aload_n 0, 1) := by decide +kernel
theorem dX9_heardAt_27 : decode cX9_heardAt 27 = .ok (.getfield 212, 3) := by decide +kernel
theorem dX9_heardAt_30 : decode cX9_heardAt 30 = .ok (.if_icmp .eq 13, 3) := by decide +kernel
theorem dX9_heardAt_33 : decode cX9_heardAt 33 = .ok (.aload_n 0, 1) := by decide +kernel
theorem dX9_heardAt_34 : decode cX9_heardAt 34 = .ok (.getfield 9, 3) := by decide +kernel
theorem dX9_heardAt_37 : decode cX9_heardAt 37 = .ok (.bipush 47, 2) := by decide +kernel
theorem dX9_heardAt_39 : decode cX9_heardAt 39 = .ok (.iload_n 3, 1) := by decide +kernel
theorem dX9_heardAt_40 : decode cX9_heardAt 40 = .ok (.iadd, 1) := by decide +kernel
theorem dX9_heardAt_41 : decode cX9_heardAt 41 = .ok (.iaload, 1) := by decide +kernel
theorem dX9_heardAt_42 : decode cX9_heardAt 42 = .ok (.ireturn, 1) := by decide +kernel
theorem dX9_heardAt_43 : decode cX9_heardAt 43 = .ok (.iinc 3 1, 3) := by decide +kernel
theorem dX9_heardAt_46 : decode cX9_heardAt 46 = .ok (.goto (-44), 3) := by decide +kernel
theorem dX9_heardAt_49 : decode cX9_heardAt 49 = .ok (.iconst 2, 1) := by decide +kernel
theorem dX9_heardAt_50 : decode cX9_heardAt 50 = .ok (.iload_n 2, 1) := by decide +kernel
theorem dX9_heardAt_51 : decode cX9_heardAt 51 = .ok (.invokestatic 105, 3) := by decide +kernel
theorem dX9_heardAt_54 : decode cX9_heardAt 54 = .ok (.ireturn, 1) := by decide +kernel
theorem dX9_sent_0 : decode cX9_sent 0 = .ok (.aload_n 0, 1) := by decide +kernel
theorem dX9_sent_1 : decode cX9_sent 1 = .ok (.getfield 44, 3) := by decide +kernel
theorem dX9_sent_4 : decode cX9_sent 4 = .ok (.iload_n 1, 1) := by decide +kernel
theorem dX9_sent_5 : decode cX9_sent 5 = .ok (.iload_n 2, 1) := by decide +kernel
theorem dX9_sent_6 : decode cX9_sent 6 = .ok (.iastore, 1) := by decide +kernel
theorem dX9_sent_7 : decode cX9_sent 7 = .ok (.aload_n 0, 1) := by decide +kernel
theorem dX9_sent_8 : decode cX9_sent 8 = .ok (.getfield 47, 3) := by decide +kernel
theorem dX9_sent_11 : decode cX9_sent 11 = .ok (.iload_n 1, 1) := by decide +kernel
theorem dX9_sent_12 : decode cX9_sent 12 = .ok (.aload_n 0, 1) := by decide +kernel
theorem dX9_sent_13 : decode cX9_sent 13 = .ok (.iload_n 1, 1) := by decide +kernel
theorem dX9_sent_14 : decode cX9_sent 14 = .ok (.iload_n 2, 1) := by decide +kernel
theorem dX9_sent_15 : decode cX9_sent 15 = .ok (.invokestatic 252, 3) := by decide +kernel
theorem dX9_sent_18 : decode cX9_sent 18 = .ok (.invokevirtual 255, 3) := by decide +kernel
theorem dX9_sent_21 : decode cX9_sent 21 = .ok (.iastore, 1) := by decide +kernel
theorem dX9_sent_22 : decode cX9_sent 22 = .ok (.aload_n 0, 1) := by decide +kernel
theorem dX9_sent_23 : decode cX9_sent 23 = .ok (.getfield 50, 3) := by decide +kernel
theorem dX9_sent_26 : decode cX9_sent 26 = .ok (.iload_n 1, 1) := by decide +kernel
theorem dX9_sent_27 : decode cX9_sent 27 = .ok (.iconst (-1), 1) := by decide +kernel
theorem dX9_sent_28 : decode cX9_sent 28 = .ok (.iastore, 1) := by decide +kernel
theorem dX9_sent_29 : decode cX9_sent 29 = .ok (.aload_n 0, 1) := by decide +kernel
theorem dX9_sent_30 : decode cX9_sent 30 = .ok (.getfield 47, 3) := by decide +kernel
theorem dX9_sent_33 : decode cX9_sent 33 = .ok (.iload_n 1, 1) := by decide +kernel
theorem dX9_sent_34 : decode cX9_sent 34 = .ok (.iaload, 1) := by decide +kernel
theorem dX9_sent_35 : decode cX9_sent 35 = .ok (.iconst 1, 1) := by decide +kernel
theorem dX9_sent_36 : decode cX9_sent 36 = .ok (.if_icmp .ne 51, 3) := by decide +kernel
theorem dX9_sent_39 : decode cX9_sent 39 = .ok (.iload_n 2, 1) := by decide +kernel
theorem dX9_sent_40 : decode cX9_sent 40 = .ok (.invokestatic 252, 3) := by decide +kernel
theorem dX9_sent_43 : decode cX9_sent 43 = .ok (.iconst 1, 1) := by decide +kernel
theorem dX9_sent_44 : decode cX9_sent 44 = .ok (.if_icmp .ne 43, 3) := by decide +kernel
theorem dX9_sent_47 : decode cX9_sent 47 = .ok (.iconst 0, 1) := by decide +kernel
theorem dX9_sent_48 : decode cX9_sent 48 = .ok (.istore_n 3, 1) := by decide +kernel
