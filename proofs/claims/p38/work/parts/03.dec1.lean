theorem dX0_init_0 : decode cX0_init 0 = .ok (.aload_n 0, 1) := by decide +kernel
theorem dX0_init_1 : decode cX0_init 1 = .ok (.invokespecial 3, 3) := by decide +kernel
theorem dX0_init_4 : decode cX0_init 4 = .ok (.aload_n 0, 1) := by decide +kernel
theorem dX0_init_5 : decode cX0_init 5 = .ok (.bipush 20, 2) := by decide +kernel
theorem dX0_init_7 : decode cX0_init 7 = .ok (.newarray .int, 2) := by decide +kernel
theorem dX0_init_9 : decode cX0_init 9 = .ok (.putfield 9, 3) := by decide +kernel
theorem dX0_init_12 : decode cX0_init 12 = .ok (.aload_n 0, 1) := by decide +kernel
theorem dX0_init_13 : decode cX0_init 13 = .ok (.bipush 20, 2) := by decide +kernel
theorem dX0_init_15 : decode cX0_init 15 = .ok (.newarray .int, 2) := by decide +kernel
theorem dX0_init_17 : decode cX0_init 17 = .ok (.putfield 15, 3) := by decide +kernel
theorem dX0_init_20 : decode cX0_init 20 = .ok (.return_, 1) := by decide +kernel
theorem dX0_note_0 : decode cX0_note 0 = .ok (.aload_n 0, 1) := by decide +kernel
theorem dX0_note_1 : decode cX0_note 1 = .ok (.getfield 9, 3) := by decide +kernel
theorem dX0_note_4 : decode cX0_note 4 = .ok (.aload_n 0, 1) := by decide +kernel
theorem dX0_note_5 : decode cX0_note 5 = .ok (.getfield 18, 3) := by decide +kernel
theorem dX0_note_8 : decode cX0_note 8 = .ok (.iload_n 1, 1) := by decide +kernel
theorem dX0_note_9 : decode cX0_note 9 = .ok (.invokestatic 22, 3) := by decide +kernel
theorem dX0_note_12 : decode cX0_note 12 = .ok (.aload_n 0, 1) := by decide +kernel
theorem dX0_note_13 : decode cX0_note 13 = .ok (.getfield 15, 3) := by decide +kernel
theorem dX0_note_16 : decode cX0_note 16 = .ok (.aload_n 0, 1) := by decide +kernel
theorem dX0_note_17 : decode cX0_note 17 = .ok (.getfield 18, 3) := by decide +kernel
theorem dX0_note_20 : decode cX0_note 20 = .ok (.iload_n 2, 1) := by decide +kernel
theorem dX0_note_21 : decode cX0_note 21 = .ok (.invokestatic 22, 3) := by decide +kernel
theorem dX0_note_24 : decode cX0_note 24 = .ok (.aload_n 0, 1) := by decide +kernel
theorem dX0_note_25 : decode cX0_note 25 = .ok (.dup, 1) := by decide +kernel
theorem dX0_note_26 : decode cX0_note 26 = .ok (.getfield 18, 3) := by decide +kernel
theorem dX0_note_29 : decode cX0_note 29 = .ok (.iconst 1, 1) := by decide +kernel
theorem dX0_note_30 : decode cX0_note 30 = .ok (.iadd, 1) := by decide +kernel
theorem dX0_note_31 : decode cX0_note 31 = .ok (.putfield 18, 3) := by decide +kernel
theorem dX0_note_34 : decode cX0_note 34 = .ok (.return_, 1) := by decide +kernel
theorem dX0_takeBack_0 : decode cX0_takeBack 0 = .ok (.aload_n 0, 1) := by decide +kernel
theorem dX0_takeBack_1 : decode cX0_takeBack 1 = .ok (.getfield 18, 3) := by decide +kernel
theorem dX0_takeBack_4 : decode cX0_takeBack 4 = .ok (.ifCond .ne 4, 3) := by decide +kernel
theorem dX0_takeBack_7 : decode cX0_takeBack 7 = .ok (.return_, 1) := by decide +kernel
theorem dX0_takeBack_8 : decode cX0_takeBack 8 = .ok (.aload_n 0, 1) := by decide +kernel
theorem dX0_takeBack_9 : decode cX0_takeBack 9 = .ok (.dup, 1) := by decide +kernel
theorem dX0_takeBack_10 : decode cX0_takeBack 10 = .ok (.getfield 18, 3) := by decide +kernel
theorem dX0_takeBack_13 : decode cX0_takeBack 13 = .ok (.iconst 1, 1) := by decide +kernel
theorem dX0_takeBack_14 : decode cX0_takeBack 14 = .ok (.isub, 1) := by decide +kernel
theorem dX0_takeBack_15 : decode cX0_takeBack 15 = .ok (.putfield 18, 3) := by decide +kernel
theorem dX0_takeBack_18 : decode cX0_takeBack 18 = .ok (.aload_n 0, 1) := by decide +kernel
theorem dX0_takeBack_19 : decode cX0_takeBack 19 = .ok (.getfield 9, 3) := by decide +kernel
theorem dX0_takeBack_22 : decode cX0_takeBack 22 = .ok (.aload_n 0, 1) := by decide +kernel
theorem dX0_takeBack_23 : decode cX0_takeBack 23 = .ok (.getfield 18, 3) := by decide +kernel
theorem dX0_takeBack_26 : decode cX0_takeBack 26 = .ok (.invokestatic 26, 3) := by decide +kernel
theorem dX0_takeBack_29 : decode cX0_takeBack 29 = .ok (.istore_n 2, 1) := by decide +kernel
theorem dX0_takeBack_30 : decode cX0_takeBack 30 = .ok (.iload_n 2, 1) := by decide +kernel
theorem dX0_takeBack_31 : decode cX0_takeBack 31 = .ok (.ifCond .ne 16, 3) := by decide +kernel
theorem dX0_takeBack_34 : decode cX0_takeBack 34 = .ok (.aload_n 1, 1) := by decide +kernel
theorem dX0_takeBack_35 : decode cX0_takeBack 35 = .ok (.dup, 1) := by decide +kernel
theorem dX0_takeBack_36 : decode cX0_takeBack 36 = .ok (.getfield 30, 3) := by decide +kernel
theorem dX0_takeBack_39 : decode cX0_takeBack 39 = .ok (.iconst 1, 1) := by decide +kernel
theorem dX0_takeBack_40 : decode cX0_takeBack 40 = .ok (.isub, 1) := by decide +kernel
theorem dX0_takeBack_41 : decode cX0_takeBack 41 = .ok (.putfield 30, 3) := by decide +kernel
theorem dX0_takeBack_44 : decode cX0_takeBack 44 = .ok (.goto 36, 3) := by decide +kernel
theorem dX0_takeBack_47 : decode cX0_takeBack 47 = .ok (.iload_n 2, 1) := by decide +kernel
theorem dX0_takeBack_48 : decode cX0_takeBack 48 = .ok (.iconst 1, 1) := by decide +kernel
theorem dX0_takeBack_49 : decode cX0_takeBack 49 = .ok (.if_icmp .ne 16, 3) := by decide +kernel
theorem dX0_takeBack_52 : decode cX0_takeBack 52 = .ok (.aload_n 1, 1) := by decide +kernel
theorem dX0_takeBack_53 : decode cX0_takeBack 53 = .ok (.dup, 1) := by decide +kernel
theorem dX0_takeBack_54 : decode cX0_takeBack 54 = .ok (.getfield 35, 3) := by decide +kernel
theorem dX0_takeBack_57 : decode cX0_takeBack 57 = .ok (.iconst 1, 1) := by decide +kernel
theorem dX0_takeBack_58 : decode cX0_takeBack 58 = .ok (.isub, 1) := by decide +kernel
theorem dX0_takeBack_59 : decode cX0_takeBack 59 = .ok (.putfield 35, 3) := by decide +kernel
theorem dX0_takeBack_62 : decode cX0_takeBack 62 = .ok (.goto 18, 3) := by decide +kernel
theorem dX0_takeBack_65 : decode cX0_takeBack 65 = .ok (.aload_n 1, 1) := by decide +kernel
theorem dX0_takeBack_66 : decode cX0_takeBack 66 = .ok (.aload_n 0, 1) := by decide +kernel
theorem dX0_takeBack_67 : decode cX0_takeBack 67 = .ok (.getfield 15, 3) := by decide +kernel
theorem dX0_takeBack_70 : decode cX0_takeBack 70 = .ok (.aload_n 0, 1) := by decide +kernel
theorem dX0_takeBack_71 : decode cX0_takeBack 71 = .ok (.getfield 18, 3) := by decide +kernel
theorem dX0_takeBack_74 : decode cX0_takeBack 74 = .ok (.invokestatic 26, 3) := by decide +kernel
theorem dX0_takeBack_77 : decode cX0_takeBack 77 = .ok (.putfield 38, 3) := by decide +kernel
theorem dX0_takeBack_80 : decode cX0_takeBack 80 = .ok (.return_, 1) := by decide +kernel
theorem dX1_init_0 : decode cX1_init 0 = .ok (.aload_n 0, 1) := by decide +kernel
theorem dX1_init_1 : decode cX1_init 1 = .ok (.invokespecial 3, 3) := by decide +kernel
theorem dX1_init_4 : decode cX1_init 4 = .ok (.aload_n 0, 1) := by decide +kernel
theorem dX1_init_5 : decode cX1_init 5 = .ok (.sipush 200, 3) := by decide +kernel
theorem dX1_init_8 : decode cX1_init 8 = .ok (.newarray .int, 2) := by decide +kernel
theorem dX1_init_10 : decode cX1_init 10 = .ok (.putfield 9, 3) := by decide +kernel
theorem dX1_init_13 : decode cX1_init 13 = .ok (.aload_n 0, 1) := by decide +kernel
theorem dX1_init_14 : decode cX1_init 14 = .ok (.sipush 200, 3) := by decide +kernel
theorem dX1_init_17 : decode cX1_init 17 = .ok (.newarray .int, 2) := by decide +kernel
theorem dX1_init_19 : decode cX1_init 19 = .ok (.putfield 15, 3) := by decide +kernel
theorem dX1_init_22 : decode cX1_init 22 = .ok (.aload_n 0, 1) := by decide +kernel
theorem dX1_init_23 : decode cX1_init 23 = .ok (.sipush 200, 3) := by decide +kernel
theorem dX1_init_26 : decode cX1_init 26 = .ok (.newarray .int, 2) := by decide +kernel
theorem dX1_init_28 : decode cX1_init 28 = .ok (.putfield 18, 3) := by decide +kernel
theorem dX1_init_31 : decode cX1_init 31 = .ok (.aload_n 0, 1) := by decide +kernel
theorem dX1_init_32 : decode cX1_init 32 = .ok (.sipush 200, 3) := by decide +kernel
theorem dX1_init_35 : decode cX1_init 35 = .ok (.newarray .int, 2) := by decide +kernel
theorem dX1_init_37 : decode cX1_init 37 = .ok (.putfield 21, 3) := by decide +kernel
theorem dX1_init_40 : decode cX1_init 40 = .ok (.aload_n 0, 1) := by decide +kernel
theorem dX1_init_41 : decode cX1_init 41 = .ok (.sipush 200, 3) := by decide +kernel
theorem dX1_init_44 : decode cX1_init 44 = .ok (.newarray .int, 2) := by decide +kernel
theorem dX1_init_46 : decode cX1_init 46 = .ok (.putfield 24, 3) := by decide +kernel
theorem dX1_init_49 : decode cX1_init 49 = .ok (.aload_n 0, 1) := by decide +kernel
theorem dX1_init_50 : decode cX1_init 50 = .ok (.bipush 10, 2) := by decide +kernel
theorem dX1_init_52 : decode cX1_init 52 = .ok (.newarray .int, 2) := by decide +kernel
theorem dX1_init_54 : decode cX1_init 54 = .ok (.putfield 27, 3) := by decide +kernel
theorem dX1_init_57 : decode cX1_init 57 = .ok (.aload_n 0, 1) := by decide +kernel
theorem dX1_init_58 : decode cX1_init 58 = .ok (.bipush 10, 2) := by decide +kernel
theorem dX1_init_60 : decode cX1_init 60 = .ok (.newarray .int, 2) := by decide +kernel
theorem dX1_init_62 : decode cX1_init 62 = .ok (.putfield 30, 3) := by decide +kernel
theorem dX1_init_65 : decode cX1_init 65 = .ok (.aload_n 0, 1) := by decide +kernel
theorem dX1_init_66 : decode cX1_init 66 = .ok (.bipush 10, 2) := by decide +kernel
theorem dX1_init_68 : decode cX1_init 68 = .ok (.newarray .int, 2) := by decide +kernel
theorem dX1_init_70 : decode cX1_init 70 = .ok (.putfield 33, 3) := by decide +kernel
theorem dX1_init_73 : decode cX1_init 73 = .ok (.aload_n 0, 1) := by decide +kernel
theorem dX1_init_74 : decode cX1_init 74 = .ok (.bipush 10, 2) := by decide +kernel
theorem dX1_init_76 : decode cX1_init 76 = .ok (.newarray .int, 2) := by decide +kernel
theorem dX1_init_78 : decode cX1_init 78 = .ok (.putfield 36, 3) := by decide +kernel
theorem dX1_init_81 : decode cX1_init 81 = .ok (.aload_n 0, 1) := by decide +kernel
theorem dX1_init_82 : decode cX1_init 82 = .ok (.sipush 200, 3) := by decide +kernel
theorem dX1_init_85 : decode cX1_init 85 = .ok (.newarray .int, 2) := by decide +kernel
theorem dX1_init_87 : decode cX1_init 87 = .ok (.putfield 39, 3) := by decide +kernel
theorem dX1_init_90 : decode cX1_init 90 = .ok (.aload_n 0, 1) := by decide +kernel
theorem dX1_init_91 : decode cX1_init 91 = .ok (.sipush 200, 3) := by decide +kernel
theorem dX1_init_94 : decode cX1_init 94 = .ok (.newarray .int, 2) := by decide +kernel
theorem dX1_init_96 : decode cX1_init 96 = .ok (.putfield 42, 3) := by decide +kernel
theorem dX1_init_99 : decode cX1_init 99 = .ok (.aload_n 0, 1) := by decide +kernel
theorem dX1_init_100 : decode cX1_init 100 = .ok (.sipush 200, 3) := by decide +kernel
theorem dX1_init_103 : decode cX1_init 103 = .ok (.newarray .int, 2) := by decide +kernel
theorem dX1_init_105 : decode cX1_init 105 = .ok (.putfield 45, 3) := by decide +kernel
theorem dX1_init_108 : decode cX1_init 108 = .ok (.return_, 1) := by decide +kernel
theorem dX1_clear_0 : decode cX1_clear 0 = .ok (.aload_n 0, 1) := by decide +kernel
theorem dX1_clear_1 : decode cX1_clear 1 = .ok (.getfield 18, 3) := by decide +kernel
theorem dX1_clear_4 : decode cX1_clear 4 = .ok (.iconst (-1), 1) := by decide +kernel
theorem dX1_clear_5 : decode cX1_clear 5 = .ok (.invokestatic 48, 3) := by decide +kernel
theorem dX1_clear_8 : decode cX1_clear 8 = .ok (.aload_n 0, 1) := by decide +kernel
theorem dX1_clear_9 : decode cX1_clear 9 = .ok (.getfield 24, 3) := by decide +kernel
theorem dX1_clear_12 : decode cX1_clear 12 = .ok (.iconst 0, 1) := by decide +kernel
theorem dX1_clear_13 : decode cX1_clear 13 = .ok (.invokestatic 48, 3) := by decide +kernel
theorem dX1_clear_16 : decode cX1_clear 16 = .ok (.aload_n 0, 1) := by decide +kernel
theorem dX1_clear_17 : decode cX1_clear 17 = .ok (.getfield 27, 3) := by decide +kernel
theorem dX1_clear_20 : decode cX1_clear 20 = .ok (.iconst (-1), 1) := by decide +kernel
theorem dX1_clear_21 : decode cX1_clear 21 = .ok (.invokestatic 48, 3) := by decide +kernel
theorem dX1_clear_24 : decode cX1_clear 24 = .ok (.aload_n 0, 1) := by decide +kernel
theorem dX1_clear_25 : decode cX1_clear 25 = .ok (.getfield 30, 3) := by decide +kernel
theorem dX1_clear_28 : decode cX1_clear 28 = .ok (.iconst 0, 1) := by decide +kernel
theorem dX1_clear_29 : decode cX1_clear 29 = .ok (.invokestatic 48, 3) := by decide +kernel
theorem dX1_clear_32 : decode cX1_clear 32 = .ok (.aload_n 0, 1) := by decide +kernel
theorem dX1_clear_33 : decode cX1_clear 33 = .ok (.getfield 33, 3) := by decide +kernel
theorem dX1_clear_36 : decode cX1_clear 36 = .ok (.iconst 0, 1) := by decide +kernel
theorem dX1_clear_37 : decode cX1_clear 37 = .ok (.invokestatic 48, 3) := by decide +kernel
theorem dX1_clear_40 : decode cX1_clear 40 = .ok (.aload_n 0, 1) := by decide +kernel
theorem dX1_clear_41 : decode cX1_clear 41 = .ok (.iconst 0, 1) := by decide +kernel
theorem dX1_clear_42 : decode cX1_clear 42 = .ok (.putfield 54, 3) := by decide +kernel
theorem dX1_clear_45 : decode cX1_clear 45 = .ok (.aload_n 0, 1) := by decide +kernel
theorem dX1_clear_46 : decode cX1_clear 46 = .ok (.iconst 0, 1) := by decide +kernel
theorem dX1_clear_47 : decode cX1_clear 47 = .ok (.putfield 58, 3) := by decide +kernel
theorem dX1_clear_50 : decode cX1_clear 50 = .ok (.return_, 1) := by decide +kernel
theorem dX1_deliver_0 : decode cX1_deliver 0 = .ok (.aload_n 0, 1) := by decide +kernel
theorem dX1_deliver_1 : decode cX1_deliver 1 = .ok (.getfield 18, 3) := by decide +kernel
theorem dX1_deliver_4 : decode cX1_deliver 4 = .ok (.iload_n 2, 1) := by decide +kernel
theorem dX1_deliver_5 : decode cX1_deliver 5 = .ok (.iload_n 1, 1) := by decide +kernel
theorem dX1_deliver_6 : decode cX1_deliver 6 = .ok (.invokestatic 61, 3) := by decide +kernel
theorem dX1_deliver_9 : decode cX1_deliver 9 = .ok (.aload_n 0, 1) := by decide +kernel
theorem dX1_deliver_10 : decode cX1_deliver 10 = .ok (.getfield 27, 3) := by decide +kernel
theorem dX1_deliver_13 : decode cX1_deliver 13 = .ok (.iload_n 1, 1) := by decide +kernel
theorem dX1_deliver_14 : decode cX1_deliver 14 = .ok (.iload_n 2, 1) := by decide +kernel
theorem dX1_deliver_15 : decode cX1_deliver 15 = .ok (.invokestatic 61, 3) := by decide +kernel
theorem dX1_deliver_18 : decode cX1_deliver 18 = .ok (.aload_n 0, 1) := by decide +kernel
theorem dX1_deliver_19 : decode cX1_deliver 19 = .ok (.getfield 36, 3) := by decide +kernel
theorem dX1_deliver_22 : decode cX1_deliver 22 = .ok (.aload_n 0, 1) := by decide +kernel
theorem dX1_deliver_23 : decode cX1_deliver 23 = .ok (.getfield 54, 3) := by decide +kernel
theorem dX1_deliver_26 : decode cX1_deliver 26 = .ok (.iload_n 1, 1) := by decide +kernel
theorem dX1_deliver_27 : decode cX1_deliver 27 = .ok (.invokestatic 61, 3) := by decide +kernel
theorem dX1_deliver_30 : decode cX1_deliver 30 = .ok (.aload_n 0, 1) := by decide +kernel
theorem dX1_deliver_31 : decode cX1_deliver 31 = .ok (.dup, 1) := by decide +kernel
theorem dX1_deliver_32 : decode cX1_deliver 32 = .ok (.getfield 54, 3) := by decide +kernel
theorem dX1_deliver_35 : decode cX1_deliver 35 = .ok (.iconst 1, 1) := by decide +kernel
theorem dX1_deliver_36 : decode cX1_deliver 36 = .ok (.iadd, 1) := by decide +kernel
theorem dX1_deliver_37 : decode cX1_deliver 37 = .ok (.putfield 54, 3) := by decide +kernel
theorem dX1_deliver_40 : decode cX1_deliver 40 = .ok (.return_, 1) := by decide +kernel
theorem dX1_openEpoch_0 : decode cX1_openEpoch 0 = .ok (.aload_n 0, 1) := by decide +kernel
theorem dX1_openEpoch_1 : decode cX1_openEpoch 1 = .ok (.getfield 39, 3) := by decide +kernel
theorem dX1_openEpoch_4 : decode cX1_openEpoch 4 = .ok (.aload_n 0, 1) := by decide +kernel
theorem dX1_openEpoch_5 : decode cX1_openEpoch 5 = .ok (.getfield 58, 3) := by decide +kernel
theorem dX1_openEpoch_8 : decode cX1_openEpoch 8 = .ok (.iload_n 1, 1) := by decide +kernel
theorem dX1_openEpoch_9 : decode cX1_openEpoch 9 = .ok (.invokestatic 61, 3) := by decide +kernel
theorem dX1_openEpoch_12 : decode cX1_openEpoch 12 = .ok (.aload_n 0, 1) := by decide +kernel
theorem dX1_openEpoch_13 : decode cX1_openEpoch 13 = .ok (.getfield 42, 3) := by decide +kernel
theorem dX1_openEpoch_16 : decode cX1_openEpoch 16 = .ok (.aload_n 0, 1) := by decide +kernel
theorem dX1_openEpoch_17 : decode cX1_openEpoch 17 = .ok (.getfield 58, 3) := by decide +kernel
theorem dX1_openEpoch_20 : decode cX1_openEpoch 20 = .ok (.iconst (-1), 1) := by decide +kernel
theorem dX1_openEpoch_21 : decode cX1_openEpoch 21 = .ok (.invokestatic 61, 3) := by decide +kernel
theorem dX1_openEpoch_24 : decode cX1_openEpoch 24 = .ok (.aload_n 0, 1) := by decide +kernel
theorem dX1_openEpoch_25 : decode cX1_openEpoch 25 = .ok (.getfield 45, 3) := by decide +kernel
theorem dX1_openEpoch_28 : decode cX1_openEpoch 28 = .ok (.aload_n 0, 1) := by decide +kernel
theorem dX1_openEpoch_29 : decode cX1_openEpoch 29 = .ok (.getfield 58, 3) := by decide +kernel
theorem dX1_openEpoch_32 : decode cX1_openEpoch 32 = .ok (.iload_n 2, 1) := by decide +kernel
theorem dX1_openEpoch_33 : decode cX1_openEpoch 33 = .ok (.invokestatic 61, 3) := by decide +kernel
theorem dX1_openEpoch_36 : decode cX1_openEpoch 36 = .ok (.aload_n 0, 1) := by decide +kernel
theorem dX1_openEpoch_37 : decode cX1_openEpoch 37 = .ok (.dup, 1) := by decide +kernel
theorem dX1_openEpoch_38 : decode cX1_openEpoch 38 = .ok (.getfield 58, 3) := by decide +kernel
theorem dX1_openEpoch_41 : decode cX1_openEpoch 41 = .ok (.iconst 1, 1) := by decide +kernel
theorem dX1_openEpoch_42 : decode cX1_openEpoch 42 = .ok (.iadd, 1) := by decide +kernel
theorem dX1_openEpoch_43 : decode cX1_openEpoch 43 = .ok (.putfield 58, 3) := by decide +kernel
theorem dX1_openEpoch_46 : decode cX1_openEpoch 46 = .ok (.return_, 1) := by decide +kernel
theorem dX1_lastSlot_0 : decode cX1_lastSlot 0 = .ok (.iload_n 1, 1) := by decide +kernel
theorem dX1_lastSlot_1 : decode cX1_lastSlot 1 = .ok (.ifCond .eq 11, 3) := by decide +kernel
theorem dX1_lastSlot_4 : decode cX1_lastSlot 4 = .ok (.aload_n 0, 1) := by decide +kernel
theorem dX1_lastSlot_5 : decode cX1_lastSlot 5 = .ok (.getfield 54, 3) := by decide +kernel
theorem dX1_lastSlot_8 : decode cX1_lastSlot 8 = .ok (.iload_n 1, 1) := by decide +kernel
theorem dX1_lastSlot_9 : decode cX1_lastSlot 9 = .ok (.if_icmp .ge 5, 3) := by decide +kernel
theorem dX1_lastSlot_12 : decode cX1_lastSlot 12 = .ok (.iconst (-1), 1) := by decide +kernel
theorem dX1_lastSlot_13 : decode cX1_lastSlot 13 = .ok (.ireturn, 1) := by decide +kernel
theorem dX1_lastSlot_14 : decode cX1_lastSlot 14 = .ok (.aload_n 0, 1) := by decide +kernel
theorem dX1_lastSlot_15 : decode cX1_lastSlot 15 = .ok (.getfield 27, 3) := by decide +kernel
theorem dX1_lastSlot_18 : decode cX1_lastSlot 18 = .ok (.aload_n 0, 1) := by decide +kernel
theorem dX1_lastSlot_19 : decode cX1_lastSlot 19 = .ok (.getfield 36, 3) := by decide +kernel
theorem dX1_lastSlot_22 : decode cX1_lastSlot 22 = .ok (.aload_n 0, 1) := by decide +kernel
theorem dX1_lastSlot_23 : decode cX1_lastSlot 23 = .ok (.getfield 54, 3) := by decide +kernel
theorem dX1_lastSlot_26 : decode cX1_lastSlot 26 = .ok (.iconst 1, 1) := by decide +kernel
theorem dX1_lastSlot_27 : decode cX1_lastSlot 27 = .ok (.isub, 1) := by decide +kernel
theorem dX1_lastSlot_28 : decode cX1_lastSlot 28 = .ok (.invokestatic 65, 3) := by decide +kernel
theorem dX1_lastSlot_31 : decode cX1_lastSlot 31 = .ok (.invokestatic 65, 3) := by decide +kernel
theorem dX1_lastSlot_34 : decode cX1_lastSlot 34 = .ok (.ireturn, 1) := by decide +kernel
theorem dX1_slotsHeard_0 : decode cX1_slotsHeard 0 = .ok (.iconst 0, 1) := by decide +kernel
theorem dX1_slotsHeard_1 : decode cX1_slotsHeard 1 = .ok (.istore_n 3, 1) := by decide +kernel
theorem dX1_slotsHeard_2 : decode cX1_slotsHeard 2 = .ok (.iconst 0, 1) := by decide +kernel
theorem dX1_slotsHeard_3 : decode cX1_slotsHeard 3 = .ok (.istore 4, 2) := by decide +kernel
theorem dX1_slotsHeard_5 : decode cX1_slotsHeard 5 = .ok (.iload 4, 2) := by decide +kernel
theorem dX1_slotsHeard_7 : decode cX1_slotsHeard 7 = .ok (.iload_n 2, 1) := by decide +kernel
theorem dX1_slotsHeard_8 : decode cX1_slotsHeard 8 = .ok (.if_icmp .ge 25, 3) := by decide +kernel
theorem dX1_slotsHeard_11 : decode cX1_slotsHeard 11 = .ok (.aload_n 0, 1) := by decide +kernel
theorem dX1_slotsHeard_12 : decode cX1_slotsHeard 12 = .ok (.getfield 15, 3) := by decide +kernel
theorem dX1_slotsHeard_15 : decode cX1_slotsHeard 15 = .ok (.iload 4, 2) := by decide +kernel
theorem dX1_slotsHeard_17 : decode cX1_slotsHeard 17 = .ok (.invokestatic 65, 3) := by decide +kernel
theorem dX1_slotsHeard_20 : decode cX1_slotsHeard 20 = .ok (.iload_n 1, 1) := by decide +kernel
theorem dX1_slotsHeard_21 : decode cX1_slotsHeard 21 = .ok (.if_icmp .ne 6, 3) := by decide +kernel
theorem dX1_slotsHeard_24 : decode cX1_slotsHeard 24 = .ok (.iinc 3 1, 3) := by decide +kernel
theorem dX1_slotsHeard_27 : decode cX1_slotsHeard 27 = .ok (.iinc 4 1, 3) := by decide +kernel
theorem dX1_slotsHeard_30 : decode cX1_slotsHeard 30 = .ok (.goto (-25), 3) := by decide +kernel
theorem dX1_slotsHeard_33 : decode cX1_slotsHeard 33 = .ok (.iload_n 3, 1) := by decide +kernel
theorem dX1_slotsHeard_34 : decode cX1_slotsHeard 34 = .ok (.ireturn, 1) := by decide +kernel
theorem dX1_collisions_0 : decode cX1_collisions 0 = .ok (.iconst 0, 1) := by decide +kernel
theorem dX1_collisions_1 : decode cX1_collisions 1 = .ok (.istore_n 2, 1) := by decide +kernel
theorem dX1_collisions_2 : decode cX1_collisions 2 = .ok (.iconst 0, 1) := by decide +kernel
theorem dX1_collisions_3 : decode cX1_collisions 3 = .ok (.istore_n 3, 1) := by decide +kernel
theorem dX1_collisions_4 : decode cX1_collisions 4 = .ok (.iload_n 3, 1) := by decide +kernel
theorem dX1_collisions_5 : decode cX1_collisions 5 = .ok (.iload_n 1, 1) := by decide +kernel
theorem dX1_collisions_6 : decode cX1_collisions 6 = .ok (.if_icmp .ge 27, 3) := by decide +kernel
theorem dX1_collisions_9 : decode cX1_collisions 9 = .ok (.aload_n 0, 1) := by decide +kernel
theorem dX1_collisions_10 : decode cX1_collisions 10 = .ok (.getfield 9, 3) := by decide +kernel
theorem dX1_collisions_13 : decode cX1_collisions 13 = .ok (.iload_n 3, 1) := by decide +kernel
theorem dX1_collisions_14 : decode cX1_collisions 14 = .ok (.invokestatic 65, 3) := by decide +kernel
theorem dX1_collisions_17 : decode cX1_collisions 17 = .ok (.invokestatic 69, 3) := by decide +kernel
theorem dX1_collisions_20 : decode cX1_collisions 20 = .ok (.iconst 1, 1) := by decide +kernel
theorem dX1_collisions_21 : decode cX1_collisions 21 = .ok (.if_icmp .le 6, 3) := by decide +kernel
theorem dX1_collisions_24 : decode cX1_collisions 24 = .ok (.iinc 2 1, 3) := by decide +kernel
theorem dX1_collisions_27 : decode cX1_collisions 27 = .ok (.iinc 3 1, 3) := by decide +kernel
theorem dX1_collisions_30 : decode cX1_collisions 30 = .ok (.goto (-26), 3) := by decide +kernel
theorem dX1_collisions_33 : decode cX1_collisions 33 = .ok (.iload_n 2, 1) := by decide +kernel
theorem dX1_collisions_34 : decode cX1_collisions 34 = .ok (.ireturn, 1) := by decide +kernel
theorem dX1_skipsMade_0 : decode cX1_skipsMade 0 = .ok (.iconst 0, 1) := by decide +kernel
theorem dX1_skipsMade_1 : decode cX1_skipsMade 1 = .ok (.istore_n 2, 1) := by decide +kernel
theorem dX1_skipsMade_2 : decode cX1_skipsMade 2 = .ok (.iconst 0, 1) := by decide +kernel
theorem dX1_skipsMade_3 : decode cX1_skipsMade 3 = .ok (.istore_n 3, 1) := by decide +kernel
theorem dX1_skipsMade_4 : decode cX1_skipsMade 4 = .ok (.iload_n 3, 1) := by decide +kernel
theorem dX1_skipsMade_5 : decode cX1_skipsMade 5 = .ok (.iload_n 1, 1) := by decide +kernel
theorem dX1_skipsMade_6 : decode cX1_skipsMade 6 = .ok (.if_icmp .ge 20, 3) := by decide +kernel
theorem dX1_skipsMade_9 : decode cX1_skipsMade 9 = .ok (.iload_n 2, 1) := by decide +kernel
theorem dX1_skipsMade_10 : decode cX1_skipsMade 10 = .ok (.aload_n 0, 1) := by decide +kernel
theorem dX1_skipsMade_11 : decode cX1_skipsMade 11 = .ok (.getfield 24, 3) := by decide +kernel
theorem dX1_skipsMade_14 : decode cX1_skipsMade 14 = .ok (.iload_n 3, 1) := by decide +kernel
theorem dX1_skipsMade_15 : decode cX1_skipsMade 15 = .ok (.invokestatic 65, 3) := by decide +kernel
theorem dX1_skipsMade_18 : decode cX1_skipsMade 18 = .ok (.iadd, 1) := by decide +kernel
theorem dX1_skipsMade_19 : decode cX1_skipsMade 19 = .ok (.istore_n 2, 1) := by decide +kernel
theorem dX1_skipsMade_20 : decode cX1_skipsMade 20 = .ok (.iinc 3 1, 3) := by decide +kernel
theorem dX1_skipsMade_23 : decode cX1_skipsMade 23 = .ok (.goto (-19), 3) := by decide +kernel
theorem dX1_skipsMade_26 : decode cX1_skipsMade 26 = .ok (.iload_n 2, 1) := by decide +kernel
theorem dX1_skipsMade_27 : decode cX1_skipsMade 27 = .ok (.ireturn, 1) := by decide +kernel
theorem dX1_greatestDepth_0 : decode cX1_greatestDepth 0 = .ok (.iconst 0, 1) := by decide +kernel
theorem dX1_greatestDepth_1 : decode cX1_greatestDepth 1 = .ok (.istore_n 2, 1) := by decide +kernel
theorem dX1_greatestDepth_2 : decode cX1_greatestDepth 2 = .ok (.iconst 0, 1) := by decide +kernel
theorem dX1_greatestDepth_3 : decode cX1_greatestDepth 3 = .ok (.istore_n 3, 1) := by decide +kernel
theorem dX1_greatestDepth_4 : decode cX1_greatestDepth 4 = .ok (.iload_n 3, 1) := by decide +kernel
theorem dX1_greatestDepth_5 : decode cX1_greatestDepth 5 = .ok (.iload_n 1, 1) := by decide +kernel
theorem dX1_greatestDepth_6 : decode cX1_greatestDepth 6 = .ok (.if_icmp .ge 22, 3) := by decide +kernel
theorem dX1_greatestDepth_9 : decode cX1_greatestDepth 9 = .ok (.iload_n 2, 1) := by decide +kernel
theorem dX1_greatestDepth_10 : decode cX1_greatestDepth 10 = .ok (.aload_n 0, 1) := by decide +kernel
theorem dX1_greatestDepth_11 : decode cX1_greatestDepth 11 = .ok (.getfield 21, 3) := by decide +kernel
theorem dX1_greatestDepth_14 : decode cX1_greatestDepth 14 = .ok (.iload_n 3, 1) := by decide +kernel
theorem dX1_greatestDepth_15 : decode cX1_greatestDepth 15 = .ok (.invokestatic 65, 3) := by decide +kernel
theorem dX1_greatestDepth_18 : decode cX1_greatestDepth 18 = .ok (.invokestatic 75, 3) := by decide +kernel
theorem dX1_greatestDepth_21 : decode cX1_greatestDepth 21 = .ok (.istore_n 2, 1) := by decide +kernel
theorem dX1_greatestDepth_22 : decode cX1_greatestDepth 22 = .ok (.iinc 3 1, 3) := by decide +kernel
theorem dX1_greatestDepth_25 : decode cX1_greatestDepth 25 = .ok (.goto (-21), 3) := by decide +kernel
theorem dX1_greatestDepth_28 : decode cX1_greatestDepth 28 = .ok (.iload_n 2, 1) := by decide +kernel
theorem dX1_greatestDepth_29 : decode cX1_greatestDepth 29 = .ok (.ireturn, 1) := by decide +kernel
theorem dX2_init_0 : decode cX2_init 0 = .ok (.aload_n 0, 1) := by decide +kernel
theorem dX2_init_1 : decode cX2_init 1 = .ok (.invokespecial 3, 3) := by decide +kernel
theorem dX2_init_4 : decode cX2_init 4 = .ok (.aload_n 0, 1) := by decide +kernel
theorem dX2_init_5 : decode cX2_init 5 = .ok (.bipush 9, 2) := by decide +kernel
theorem dX2_init_7 : decode cX2_init 7 = .ok (.newarray .long, 2) := by decide +kernel
theorem dX2_init_9 : decode cX2_init 9 = .ok (.putfield 11, 3) := by decide +kernel
theorem dX2_init_12 : decode cX2_init 12 = .ok (.aload_n 0, 1) := by decide +kernel
theorem dX2_init_13 : decode cX2_init 13 = .ok (.bipush 9, 2) := by decide +kernel
theorem dX2_init_15 : decode cX2_init 15 = .ok (.newarray .long, 2) := by decide +kernel
theorem dX2_init_17 : decode cX2_init 17 = .ok (.putfield 15, 3) := by decide +kernel
theorem dX2_init_20 : decode cX2_init 20 = .ok (.aload_n 0, 1) := by decide +kernel
theorem dX2_init_21 : decode cX2_init 21 = .ok (.bipush 52, 2) := by decide +kernel
theorem dX2_init_23 : decode cX2_init 23 = .ok (.newarray .long, 2) := by decide +kernel
theorem dX2_init_25 : decode cX2_init 25 = .ok (.putfield 18, 3) := by decide +kernel
theorem dX2_init_28 : decode cX2_init 28 = .ok (.return_, 1) := by decide +kernel
theorem dX3_init_0 : decode cX3_init 0 = .ok (.aload_n 0, 1) := by decide +kernel
theorem dX3_init_1 : decode cX3_init 1 = .ok (.invokespecial 3, 3) := by decide +kernel
theorem dX3_init_4 : decode cX3_init 4 = .ok (.aload_n 0, 1) := by decide +kernel
theorem dX3_init_5 : decode cX3_init 5 = .ok (.bipush 10, 2) := by decide +kernel
theorem dX3_init_7 : decode cX3_init 7 = .ok (.newarray .int, 2) := by decide +kernel
theorem dX3_init_9 : decode cX3_init 9 = .ok (.putfield 9, 3) := by decide +kernel
theorem dX3_init_12 : decode cX3_init 12 = .ok (.aload_n 0, 1) := by decide +kernel
theorem dX3_init_13 : decode cX3_init 13 = .ok (.bipush 10, 2) := by decide +kernel
theorem dX3_init_15 : decode cX3_init 15 = .ok (.newarray .int, 2) := by decide +kernel
theorem dX3_init_17 : decode cX3_init 17 = .ok (.putfield 15, 3) := by decide +kernel
theorem dX3_init_20 : decode cX3_init 20 = .ok (.aload_n 0, 1) := by decide +kernel
theorem dX3_init_21 : decode cX3_init 21 = .ok (.bipush 10, 2) := by decide +kernel
theorem dX3_init_23 : decode cX3_init 23 = .ok (.newarray .int, 2) := by decide +kernel
theorem dX3_init_25 : decode cX3_init 25 = .ok (.putfield 18, 3) := by decide +kernel
theorem dX3_init_28 : decode cX3_init 28 = .ok (.aload_n 0, 1) := by decide +kernel
theorem dX3_init_29 : decode cX3_init 29 = .ok (.bipush 10, 2) := by decide +kernel
theorem dX3_init_31 : decode cX3_init 31 = .ok (.newarray .int, 2) := by decide +kernel
theorem dX3_init_33 : decode cX3_init 33 = .ok (.putfield 21, 3) := by decide +kernel
theorem dX3_init_36 : decode cX3_init 36 = .ok (.aload_n 0, 1) := by decide +kernel
theorem dX3_init_37 : decode cX3_init 37 = .ok (.bipush 10, 2) := by decide +kernel
theorem dX3_init_39 : decode cX3_init 39 = .ok (.newarray .int, 2) := by decide +kernel
theorem dX3_init_41 : decode cX3_init 41 = .ok (.putfield 24, 3) := by decide +kernel
theorem dX3_init_44 : decode cX3_init 44 = .ok (.return_, 1) := by decide +kernel
theorem dX3_clear_0 : decode cX3_clear 0 = .ok (.aload_n 0, 1) := by decide +kernel
theorem dX3_clear_1 : decode cX3_clear 1 = .ok (.iconst 0, 1) := by decide +kernel
theorem dX3_clear_2 : decode cX3_clear 2 = .ok (.putfield 27, 3) := by decide +kernel
theorem dX3_clear_5 : decode cX3_clear 5 = .ok (.aload_n 0, 1) := by decide +kernel
theorem dX3_clear_6 : decode cX3_clear 6 = .ok (.iconst 0, 1) := by decide +kernel
theorem dX3_clear_7 : decode cX3_clear 7 = .ok (.putfield 31, 3) := by decide +kernel
theorem dX3_clear_10 : decode cX3_clear 10 = .ok (.aload_n 0, 1) := by decide +kernel
theorem dX3_clear_11 : decode cX3_clear 11 = .ok (.iconst 0, 1) := by decide +kernel
theorem dX3_clear_12 : decode cX3_clear 12 = .ok (.putfield 34, 3) := by decide +kernel
theorem dX3_clear_15 : decode cX3_clear 15 = .ok (.aload_n 0, 1) := by decide +kernel
theorem dX3_clear_16 : decode cX3_clear 16 = .ok (.iconst 0, 1) := by decide +kernel
theorem dX3_clear_17 : decode cX3_clear 17 = .ok (.putfield 37, 3) := by decide +kernel
theorem dX3_clear_20 : decode cX3_clear 20 = .ok (.aload_n 0, 1) := by decide +kernel
theorem dX3_clear_21 : decode cX3_clear 21 = .ok (.iconst 0, 1) := by decide +kernel
theorem dX3_clear_22 : decode cX3_clear 22 = .ok (.putfield 40, 3) := by decide +kernel
theorem dX3_clear_25 : decode cX3_clear 25 = .ok (.aload_n 0, 1) := by decide +kernel
theorem dX3_clear_26 : decode cX3_clear 26 = .ok (.iconst 0, 1) := by decide +kernel
theorem dX3_clear_27 : decode cX3_clear 27 = .ok (.putfield 43, 3) := by decide +kernel
theorem dX3_clear_30 : decode cX3_clear 30 = .ok (.aload_n 0, 1) := by decide +kernel
theorem dX3_clear_31 : decode cX3_clear 31 = .ok (.iconst 0, 1) := by decide +kernel
theorem dX3_clear_32 : decode cX3_clear 32 = .ok (.putfield 46, 3) := by decide +kernel
theorem dX3_clear_35 : decode cX3_clear 35 = .ok (.return_, 1) := by decide +kernel
theorem dX3_become_0 : decode cX3_become 0 = .ok (.aload_n 0, 1) := by decide +kernel
theorem dX3_become_1 : decode cX3_become 1 = .ok (.invokevirtual 49, 3) := by decide +kernel
theorem dX3_become_4 : decode cX3_become 4 = .ok (.iconst 0, 1) := by decide +kernel
theorem dX3_become_5 : decode cX3_become 5 = .ok (.istore_n 2, 1) := by decide +kernel
theorem dX3_become_6 : decode cX3_become 6 = .ok (.iload_n 2, 1) := by decide +kernel
theorem dX3_become_7 : decode cX3_become 7 = .ok (.aload_n 1, 1) := by decide +kernel
theorem dX3_become_8 : decode cX3_become 8 = .ok (.getfield 43, 3) := by decide +kernel
theorem dX3_become_11 : decode cX3_become 11 = .ok (.if_icmp .ge 37, 3) := by decide +kernel
theorem dX3_become_14 : decode cX3_become 14 = .ok (.aload_n 0, 1) := by decide +kernel
theorem dX3_become_15 : decode cX3_become 15 = .ok (.aload_n 1, 1) := by decide +kernel
theorem dX3_become_16 : decode cX3_become 16 = .ok (.getfield 9, 3) := by decide +kernel
theorem dX3_become_19 : decode cX3_become 19 = .ok (.iload_n 2, 1) := by decide +kernel
theorem dX3_become_20 : decode cX3_become 20 = .ok (.invokestatic 52, 3) := by decide +kernel
theorem dX3_become_23 : decode cX3_become 23 = .ok (.aload_n 1, 1) := by decide +kernel
theorem dX3_become_24 : decode cX3_become 24 = .ok (.getfield 18, 3) := by decide +kernel
theorem dX3_become_27 : decode cX3_become 27 = .ok (.iload_n 2, 1) := by decide +kernel
theorem dX3_become_28 : decode cX3_become 28 = .ok (.invokestatic 52, 3) := by decide +kernel
theorem dX3_become_31 : decode cX3_become 31 = .ok (.aload_n 1, 1) := by decide +kernel
theorem dX3_become_32 : decode cX3_become 32 = .ok (.getfield 15, 3) := by decide +kernel
theorem dX3_become_35 : decode cX3_become 35 = .ok (.iload_n 2, 1) := by decide +kernel
theorem dX3_become_36 : decode cX3_become 36 = .ok (.invokestatic 52, 3) := by decide +kernel
theorem dX3_become_39 : decode cX3_become 39 = .ok (.invokevirtual 56, 3) := by decide +kernel
theorem dX3_become_42 : decode cX3_become 42 = .ok (.iinc 2 1, 3) := by decide +kernel
theorem dX3_become_45 : decode cX3_become 45 = .ok (.goto (-39), 3) := by decide +kernel
theorem dX3_become_48 : decode cX3_become 48 = .ok (.iconst 0, 1) := by decide +kernel
theorem dX3_become_49 : decode cX3_become 49 = .ok (.istore_n 2, 1) := by decide +kernel
theorem dX3_become_50 : decode cX3_become 50 = .ok (.iload_n 2, 1) := by decide +kernel
theorem dX3_become_51 : decode cX3_become 51 = .ok (.aload_n 1, 1) := by decide +kernel
theorem dX3_become_52 : decode cX3_become 52 = .ok (.getfield 46, 3) := by decide +kernel
theorem dX3_become_55 : decode cX3_become 55 = .ok (.if_icmp .ge 29, 3) := by decide +kernel
theorem dX3_become_58 : decode cX3_become 58 = .ok (.aload_n 0, 1) := by decide +kernel
theorem dX3_become_59 : decode cX3_become 59 = .ok (.aload_n 1, 1) := by decide +kernel
theorem dX3_become_60 : decode cX3_become 60 = .ok (.getfield 21, 3) := by decide +kernel
theorem dX3_become_63 : decode cX3_become 63 = .ok (.iload_n 2, 1) := by decide +kernel
theorem dX3_become_64 : decode cX3_become 64 = .ok (.invokestatic 52, 3) := by decide +kernel
theorem dX3_become_67 : decode cX3_become 67 = .ok (.aload_n 1, 1) := by decide +kernel
theorem dX3_become_68 : decode cX3_become 68 = .ok (.getfield 24, 3) := by decide +kernel
theorem dX3_become_71 : decode cX3_become 71 = .ok (.iload_n 2, 1) := by decide +kernel
theorem dX3_become_72 : decode cX3_become 72 = .ok (.invokestatic 52, 3) := by decide +kernel
theorem dX3_become_75 : decode cX3_become 75 = .ok (.invokevirtual 60, 3) := by decide +kernel
theorem dX3_become_78 : decode cX3_become 78 = .ok (.iinc 2 1, 3) := by decide +kernel
theorem dX3_become_81 : decode cX3_become 81 = .ok (.goto (-31), 3) := by decide +kernel
theorem dX3_become_84 : decode cX3_become 84 = .ok (.aload_n 0, 1) := by decide +kernel
theorem dX3_become_85 : decode cX3_become 85 = .ok (.aload_n 1, 1) := by decide +kernel
theorem dX3_become_86 : decode cX3_become 86 = .ok (.getfield 27, 3) := by decide +kernel
theorem dX3_become_89 : decode cX3_become 89 = .ok (.putfield 27, 3) := by decide +kernel
theorem dX3_become_92 : decode cX3_become 92 = .ok (.aload_n 0, 1) := by decide +kernel
theorem dX3_become_93 : decode cX3_become 93 = .ok (.aload_n 1, 1) := by decide +kernel
theorem dX3_become_94 : decode cX3_become 94 = .ok (.getfield 31, 3) := by decide +kernel
theorem dX3_become_97 : decode cX3_become 97 = .ok (.putfield 31, 3) := by decide +kernel
theorem dX3_become_100 : decode cX3_become 100 = .ok (.aload_n 0, 1) := by decide +kernel
theorem dX3_become_101 : decode cX3_become 101 = .ok (.aload_n 1, 1) := by decide +kernel
theorem dX3_become_102 : decode cX3_become 102 = .ok (.getfield 34, 3) := by decide +kernel
theorem dX3_become_105 : decode cX3_become 105 = .ok (.putfield 34, 3) := by decide +kernel
theorem dX3_become_108 : decode cX3_become 108 = .ok (.aload_n 0, 1) := by decide +kernel
theorem dX3_become_109 : decode cX3_become 109 = .ok (.aload_n 1, 1) := by decide +kernel
theorem dX3_become_110 : decode cX3_become 110 = .ok (.getfield 37, 3) := by decide +kernel
theorem dX3_become_113 : decode cX3_become 113 = .ok (.putfield 37, 3) := by decide +kernel
theorem dX3_become_116 : decode cX3_become 116 = .ok (.aload_n 0, 1) := by decide +kernel
theorem dX3_become_117 : decode cX3_become 117 = .ok (.aload_n 1, 1) := by decide +kernel
theorem dX3_become_118 : decode cX3_become 118 = .ok (.getfield 40, 3) := by decide +kernel
theorem dX3_become_121 : decode cX3_become 121 = .ok (.putfield 40, 3) := by decide +kernel
theorem dX3_become_124 : decode cX3_become 124 = .ok (.return_, 1) := by decide +kernel
theorem dX3_addSender_0 : decode cX3_addSender 0 = .ok (.aload_n 0, 1) := by decide +kernel
theorem dX3_addSender_1 : decode cX3_addSender 1 = .ok (.getfield 9, 3) := by decide +kernel
theorem dX3_addSender_4 : decode cX3_addSender 4 = .ok (.aload_n 0, 1) := by decide +kernel
theorem dX3_addSender_5 : decode cX3_addSender 5 = .ok (.getfield 43, 3) := by decide +kernel
theorem dX3_addSender_8 : decode cX3_addSender 8 = .ok (.iload_n 1, 1) := by decide +kernel
theorem dX3_addSender_9 : decode cX3_addSender 9 = .ok (.invokestatic 64, 3) := by decide +kernel
theorem dX3_addSender_12 : decode cX3_addSender 12 = .ok (.aload_n 0, 1) := by decide +kernel
theorem dX3_addSender_13 : decode cX3_addSender 13 = .ok (.getfield 18, 3) := by decide +kernel
theorem dX3_addSender_16 : decode cX3_addSender 16 = .ok (.aload_n 0, 1) := by decide +kernel
theorem dX3_addSender_17 : decode cX3_addSender 17 = .ok (.getfield 43, 3) := by decide +kernel
theorem dX3_addSender_20 : decode cX3_addSender 20 = .ok (.iload_n 2, 1) := by decide +kernel
theorem dX3_addSender_21 : decode cX3_addSender 21 = .ok (.invokestatic 64, 3) := by decide +kernel
theorem dX3_addSender_24 : decode cX3_addSender 24 = .ok (.aload_n 0, 1) := by decide +kernel
theorem dX3_addSender_25 : decode cX3_addSender 25 = .ok (.getfield 15, 3) := by decide +kernel
theorem dX3_addSender_28 : decode cX3_addSender 28 = .ok (.aload_n 0, 1) := by decide +kernel
theorem dX3_addSender_29 : decode cX3_addSender 29 = .ok (.getfield 43, 3) := by decide +kernel
theorem dX3_addSender_32 : decode cX3_addSender 32 = .ok (.iload_n 3, 1) := by decide +kernel
theorem dX3_addSender_33 : decode cX3_addSender 33 = .ok (.invokestatic 64, 3) := by decide +kernel
theorem dX3_addSender_36 : decode cX3_addSender 36 = .ok (.aload_n 0, 1) := by decide +kernel
theorem dX3_addSender_37 : decode cX3_addSender 37 = .ok (.dup, 1) := by decide +kernel
theorem dX3_addSender_38 : decode cX3_addSender 38 = .ok (.getfield 43, 3) := by decide +kernel
theorem dX3_addSender_41 : decode cX3_addSender 41 = .ok (.iconst 1, 1) := by decide +kernel
theorem dX3_addSender_42 : decode cX3_addSender 42 = .ok (.iadd, 1) := by decide +kernel
theorem dX3_addSender_43 : decode cX3_addSender 43 = .ok (.putfield 43, 3) := by decide +kernel
theorem dX3_addSender_46 : decode cX3_addSender 46 = .ok (.return_, 1) := by decide +kernel
theorem dX3_addNoise_0 : decode cX3_addNoise 0 = .ok (.aload_n 0, 1) := by decide +kernel
theorem dX3_addNoise_1 : decode cX3_addNoise 1 = .ok (.getfield 21, 3) := by decide +kernel
theorem dX3_addNoise_4 : decode cX3_addNoise 4 = .ok (.aload_n 0, 1) := by decide +kernel
theorem dX3_addNoise_5 : decode cX3_addNoise 5 = .ok (.getfield 46, 3) := by decide +kernel
theorem dX3_addNoise_8 : decode cX3_addNoise 8 = .ok (.iload_n 1, 1) := by decide +kernel
theorem dX3_addNoise_9 : decode cX3_addNoise 9 = .ok (.invokestatic 64, 3) := by decide +kernel
theorem dX3_addNoise_12 : decode cX3_addNoise 12 = .ok (.aload_n 0, 1) := by decide +kernel
theorem dX3_addNoise_13 : decode cX3_addNoise 13 = .ok (.getfield 24, 3) := by decide +kernel
theorem dX3_addNoise_16 : decode cX3_addNoise 16 = .ok (.aload_n 0, 1) := by decide +kernel
theorem dX3_addNoise_17 : decode cX3_addNoise 17 = .ok (.getfield 46, 3) := by decide +kernel
theorem dX3_addNoise_20 : decode cX3_addNoise 20 = .ok (.iload_n 2, 1) := by decide +kernel
theorem dX3_addNoise_21 : decode cX3_addNoise 21 = .ok (.invokestatic 64, 3) := by decide +kernel
theorem dX3_addNoise_24 : decode cX3_addNoise 24 = .ok (.aload_n 0, 1) := by decide +kernel
theorem dX3_addNoise_25 : decode cX3_addNoise 25 = .ok (.dup, 1) := by decide +kernel
theorem dX3_addNoise_26 : decode cX3_addNoise 26 = .ok (.getfield 46, 3) := by decide +kernel
theorem dX3_addNoise_29 : decode cX3_addNoise 29 = .ok (.iconst 1, 1) := by decide +kernel
theorem dX3_addNoise_30 : decode cX3_addNoise 30 = .ok (.iadd, 1) := by decide +kernel
theorem dX3_addNoise_31 : decode cX3_addNoise 31 = .ok (.putfield 46, 3) := by decide +kernel
theorem dX3_addNoise_34 : decode cX3_addNoise 34 = .ok (.return_, 1) := by decide +kernel
theorem dX3_stands_0 : decode cX3_stands 0 = .ok (.aload_n 0, 1) := by decide +kernel
theorem dX3_stands_1 : decode cX3_stands 1 = .ok (.getfield 31, 3) := by decide +kernel
theorem dX3_stands_4 : decode cX3_stands 4 = .ok (.ifCond .le 7, 3) := by decide +kernel
theorem dX3_stands_7 : decode cX3_stands 7 = .ok (.iconst 1, 1) := by decide +kernel
theorem dX3_stands_8 : decode cX3_stands 8 = .ok (.goto 4, 3) := by decide +kernel
theorem dX3_stands_11 : decode cX3_stands 11 = .ok (.iconst 0, 1) := by decide +kernel
theorem dX3_stands_12 : decode cX3_stands 12 = .ok (.ireturn, 1) := by decide +kernel
theorem dX3_hasSender_0 : decode cX3_hasSender 0 = .ok (.iload_n 1, 1) := by decide +kernel
theorem dX3_hasSender_1 : decode cX3_hasSender 1 = .ok (.ifCond .lt 15, 3) := by decide +kernel
theorem dX3_hasSender_4 : decode cX3_hasSender 4 = .ok (.iload_n 1, 1) := by decide +kernel
theorem dX3_hasSender_5 : decode cX3_hasSender 5 = .ok (.aload_n 0, 1) := by decide +kernel
theorem dX3_hasSender_6 : decode cX3_hasSender 6 = .ok (.getfield 43, 3) := by decide +kernel
theorem dX3_hasSender_9 : decode cX3_hasSender 9 = .ok (.if_icmp .ge 7, 3) := by decide +kernel
theorem dX3_hasSender_12 : decode cX3_hasSender 12 = .ok (.iconst 1, 1) := by decide +kernel
theorem dX3_hasSender_13 : decode cX3_hasSender 13 = .ok (.goto 4, 3) := by decide +kernel
theorem dX3_hasSender_16 : decode cX3_hasSender 16 = .ok (.iconst 0, 1) := by decide +kernel
theorem dX3_hasSender_17 : decode cX3_hasSender 17 = .ok (.ireturn, 1) := by decide +kernel
theorem dX3_hasSlot_0 : decode cX3_hasSlot 0 = .ok (.iload_n 1, 1) := by decide +kernel
theorem dX3_hasSlot_1 : decode cX3_hasSlot 1 = .ok (.ifCond .lt 15, 3) := by decide +kernel
theorem dX3_hasSlot_4 : decode cX3_hasSlot 4 = .ok (.iload_n 1, 1) := by decide +kernel
theorem dX3_hasSlot_5 : decode cX3_hasSlot 5 = .ok (.aload_n 0, 1) := by decide +kernel
theorem dX3_hasSlot_6 : decode cX3_hasSlot 6 = .ok (.getfield 31, 3) := by decide +kernel
theorem dX3_hasSlot_9 : decode cX3_hasSlot 9 = .ok (.if_icmp .ge 7, 3) := by decide +kernel
theorem dX3_hasSlot_12 : decode cX3_hasSlot 12 = .ok (.iconst 1, 1) := by decide +kernel
theorem dX3_hasSlot_13 : decode cX3_hasSlot 13 = .ok (.goto 4, 3) := by decide +kernel
theorem dX3_hasSlot_16 : decode cX3_hasSlot 16 = .ok (.iconst 0, 1) := by decide +kernel
theorem dX3_hasSlot_17 : decode cX3_hasSlot 17 = .ok (.ireturn, 1) := by decide +kernel
theorem dX3_isNoisy_0 : decode cX3_isNoisy 0 = .ok (.iconst 0, 1) := by decide +kernel
theorem dX3_isNoisy_1 : decode cX3_isNoisy 1 = .ok (.istore_n 2, 1) := by decide +kernel
theorem dX3_isNoisy_2 : decode cX3_isNoisy 2 = .ok (.iload_n 2, 1) := by decide +kernel
theorem dX3_isNoisy_3 : decode cX3_isNoisy 3 = .ok (.aload_n 0, 1) := by decide +kernel
theorem dX3_isNoisy_4 : decode cX3_isNoisy 4 = .ok (.getfield 46, 3) := by decide +kernel
theorem dX3_isNoisy_7 : decode cX3_isNoisy 7 = .ok (.if_icmp .ge 23, 3) := by decide +kernel
theorem dX3_isNoisy_10 : decode cX3_isNoisy 10 = .ok (.aload_n 0, 1) := by decide +kernel
theorem dX3_isNoisy_11 : decode cX3_isNoisy 11 = .ok (.getfield 21, 3) := by decide +kernel
theorem dX3_isNoisy_14 : decode cX3_isNoisy 14 = .ok (.iload_n 2, 1) := by decide +kernel
theorem dX3_isNoisy_15 : decode cX3_isNoisy 15 = .ok (.invokestatic 52, 3) := by decide +kernel
theorem dX3_isNoisy_18 : decode cX3_isNoisy 18 = .ok (.iload_n 1, 1) := by decide +kernel
theorem dX3_isNoisy_19 : decode cX3_isNoisy 19 = .ok (.if_icmp .ne 5, 3) := by decide +kernel
theorem dX3_isNoisy_22 : decode cX3_isNoisy 22 = .ok (.iconst 1, 1) := by decide +kernel
theorem dX3_isNoisy_23 : decode cX3_isNoisy 23 = .ok (.ireturn, 1) := by decide +kernel
theorem dX3_isNoisy_24 : decode cX3_isNoisy 24 = .ok (.iinc 2 1, 3) := by decide +kernel
theorem dX3_isNoisy_27 : decode cX3_isNoisy 27 = .ok (.goto (-25), 3) := by decide +kernel
theorem dX3_isNoisy_30 : decode cX3_isNoisy 30 = .ok (.iconst 0, 1) := by decide +kernel
theorem dX3_isNoisy_31 : decode cX3_isNoisy 31 = .ok (.ireturn, 1) := by decide +kernel
theorem dX3_moment_0 : decode cX3_moment 0 = .ok (.bipush 16, 2) := by decide +kernel
theorem dX3_moment_2 : decode cX3_moment 2 = .ok (.aload_n 0, 1) := by decide +kernel
theorem dX3_moment_3 : decode cX3_moment 3 = .ok (.getfield 9, 3) := by decide +kernel
theorem dX3_moment_6 : decode cX3_moment 6 = .ok (.iload_n 1, 1) := by decide +kernel
theorem dX3_moment_7 : decode cX3_moment 7 = .ok (.invokestatic 52, 3) := by decide +kernel
theorem dX3_moment_10 : decode cX3_moment 10 = .ok (.imul, 1) := by decide +kernel
theorem dX3_moment_11 : decode cX3_moment 11 = .ok (.iload_n 1, 1) := by decide +kernel
theorem dX3_moment_12 : decode cX3_moment 12 = .ok (.iadd, 1) := by decide +kernel
theorem dX3_moment_13 : decode cX3_moment 13 = .ok (.ireturn, 1) := by decide +kernel
theorem dX4_init_0 : decode cX4_init 0 = .ok (.aload_n 0, 1) := by decide +kernel
theorem dX4_init_1 : decode cX4_init 1 = .ok (.invokespecial 3, 3) := by decide +kernel
theorem dX4_init_4 : decode cX4_init 4 = .ok (.aload_n 0, 1) := by decide +kernel
theorem dX4_init_5 : decode cX4_init 5 = .ok (.new 9, 3) := by decide +kernel
theorem dX4_init_8 : decode cX4_init 8 = .ok (.dup, 1) := by decide +kernel
theorem dX4_init_9 : decode cX4_init 9 = .ok (.invokespecial 11, 3) := by decide +kernel
theorem dX4_init_12 : decode cX4_init 12 = .ok (.putfield 12, 3) := by decide +kernel
theorem dX4_init_15 : decode cX4_init 15 = .ok (.aload_n 0, 1) := by decide +kernel
theorem dX4_init_16 : decode cX4_init 16 = .ok (.new 18, 3) := by decide +kernel
theorem dX4_init_19 : decode cX4_init 19 = .ok (.dup, 1) := by decide +kernel
theorem dX4_init_20 : decode cX4_init 20 = .ok (.invokespecial 20, 3) := by decide +kernel
theorem dX4_init_23 : decode cX4_init 23 = .ok (.putfield 21, 3) := by decide +kernel
theorem dX4_init_26 : decode cX4_init 26 = .ok (.aload_n 0, 1) := by decide +kernel
theorem dX4_init_27 : decode cX4_init 27 = .ok (.bipush 10, 2) := by decide +kernel
theorem dX4_init_29 : decode cX4_init 29 = .ok (.newarray .int, 2) := by decide +kernel
theorem dX4_init_31 : decode cX4_init 31 = .ok (.putfield 25, 3) := by decide +kernel
theorem dX4_init_34 : decode cX4_init 34 = .ok (.aload_n 0, 1) := by decide +kernel
theorem dX4_init_35 : decode cX4_init 35 = .ok (.new 29, 3) := by decide +kernel
theorem dX4_init_38 : decode cX4_init 38 = .ok (.dup, 1) := by decide +kernel
theorem dX4_init_39 : decode cX4_init 39 = .ok (.invokespecial 31, 3) := by decide +kernel
theorem dX4_init_42 : decode cX4_init 42 = .ok (.putfield 32, 3) := by decide +kernel
theorem dX4_init_45 : decode cX4_init 45 = .ok (.return_, 1) := by decide +kernel
theorem dX4_run_0 : decode cX4_run 0 = .ok (.aload_n 0, 1) := by decide +kernel
theorem dX4_run_1 : decode cX4_run 1 = .ok (.aload_n 1, 1) := by decide +kernel
theorem dX4_run_2 : decode cX4_run 2 = .ok (.putfield 32, 3) := by decide +kernel
theorem dX4_run_5 : decode cX4_run 5 = .ok (.aload_n 0, 1) := by decide +kernel
theorem dX4_run_6 : decode cX4_run 6 = .ok (.iload_n 2, 1) := by decide +kernel
theorem dX4_run_7 : decode cX4_run 7 = .ok (.putfield 36, 3) := by decide +kernel
theorem dX4_run_10 : decode cX4_run 10 = .ok (.aload_n 0, 1) := by decide +kernel
theorem dX4_run_11 : decode cX4_run 11 = .ok (.iload_n 3, 1) := by decide +kernel
theorem dX4_run_12 : decode cX4_run 12 = .ok (.putfield 40, 3) := by decide +kernel
theorem dX4_run_15 : decode cX4_run 15 = .ok (.aload_n 0, 1) := by decide +kernel
theorem dX4_run_16 : decode cX4_run 16 = .ok (.iload 4, 2) := by decide +kernel
theorem dX4_run_18 : decode cX4_run 18 = .ok (.putfield 43, 3) := by decide +kernel
theorem dX4_run_21 : decode cX4_run 21 = .ok (.aload_n 0, 1) := by decide +kernel
theorem dX4_run_22 : decode cX4_run 22 = .ok (.iconst 0, 1) := by decide +kernel
theorem dX4_run_23 : decode cX4_run 23 = .ok (.putfield 46, 3) := by decide +kernel
theorem dX4_run_26 : decode cX4_run 26 = .ok (.aload_n 0, 1) := by decide +kernel
theorem dX4_run_27 : decode cX4_run 27 = .ok (.iconst 0, 1) := by decide +kernel
theorem dX4_run_28 : decode cX4_run 28 = .ok (.putfield 49, 3) := by decide +kernel
theorem dX4_run_31 : decode cX4_run 31 = .ok (.aload_n 0, 1) := by decide +kernel
theorem dX4_run_32 : decode cX4_run 32 = .ok (.iconst 0, 1) := by decide +kernel
theorem dX4_run_33 : decode cX4_run 33 = .ok (.putfield 52, 3) := by decide +kernel
theorem dX4_run_36 : decode cX4_run 36 = .ok (.aload_n 0, 1) := by decide +kernel
theorem dX4_run_37 : decode cX4_run 37 = .ok (.iconst 0, 1) := by decide +kernel
theorem dX4_run_38 : decode cX4_run 38 = .ok (.putfield 55, 3) := by decide +kernel
theorem dX4_run_41 : decode cX4_run 41 = .ok (.aload_n 0, 1) := by decide +kernel
theorem dX4_run_42 : decode cX4_run 42 = .ok (.iconst 0, 1) := by decide +kernel
theorem dX4_run_43 : decode cX4_run 43 = .ok (.putfield 59, 3) := by decide +kernel
theorem dX4_run_46 : decode cX4_run 46 = .ok (.aload_n 0, 1) := by decide +kernel
theorem dX4_run_47 : decode cX4_run 47 = .ok (.iconst 0, 1) := by decide +kernel
theorem dX4_run_48 : decode cX4_run 48 = .ok (.putfield 62, 3) := by decide +kernel
theorem dX4_run_51 : decode cX4_run 51 = .ok (.aload_n 0, 1) := by decide +kernel
theorem dX4_run_52 : decode cX4_run 52 = .ok (.getfield 21, 3) := by decide +kernel
theorem dX4_run_55 : decode cX4_run 55 = .ok (.iconst 0, 1) := by decide +kernel
theorem dX4_run_56 : decode cX4_run 56 = .ok (.putfield 65, 3) := by decide +kernel
theorem dX4_run_59 : decode cX4_run 59 = .ok (.aload_n 0, 1) := by decide +kernel
theorem dX4_run_60 : decode cX4_run 60 = .ok (.getfield 25, 3) := by decide +kernel
theorem dX4_run_63 : decode cX4_run 63 = .ok (.iconst 0, 1) := by decide +kernel
theorem dX4_run_64 : decode cX4_run 64 = .ok (.invokestatic 68, 3) := by decide +kernel
theorem dX4_run_67 : decode cX4_run 67 = .ok (.aload_n 0, 1) := by decide +kernel
theorem dX4_run_68 : decode cX4_run 68 = .ok (.getfield 32, 3) := by decide +kernel
theorem dX4_run_71 : decode cX4_run 71 = .ok (.invokevirtual 74, 3) := by decide +kernel
theorem dX4_run_74 : decode cX4_run 74 = .ok (.iconst 0, 1) := by decide +kernel
theorem dX4_run_75 : decode cX4_run 75 = .ok (.istore 5, 2) := by decide +kernel
theorem dX4_run_77 : decode cX4_run 77 = .ok (.iload 5, 2) := by decide +kernel
theorem dX4_run_79 : decode cX4_run 79 = .ok (.aload_n 0, 1) := by decide +kernel
theorem dX4_run_80 : decode cX4_run 80 = .ok (.getfield 12, 3) := by decide +kernel
theorem dX4_run_83 : decode cX4_run 83 = .ok (.getfield 77, 3) := by decide +kernel
theorem dX4_run_86 : decode cX4_run 86 = .ok (.if_icmp .ge 38, 3) := by decide +kernel
theorem dX4_run_89 : decode cX4_run 89 = .ok (.aload_n 0, 1) := by decide +kernel
theorem dX4_run_90 : decode cX4_run 90 = .ok (.iload 5, 2) := by decide +kernel
theorem dX4_run_92 : decode cX4_run 92 = .ok (.invokevirtual 80, 3) := by decide +kernel
theorem dX4_run_95 : decode cX4_run 95 = .ok (.aload_n 0, 1) := by decide +kernel
theorem dX4_run_96 : decode cX4_run 96 = .ok (.getfield 36, 3) := by decide +kernel
theorem dX4_run_99 : decode cX4_run 99 = .ok (.iconst 2, 1) := by decide +kernel
theorem dX4_run_100 : decode cX4_run 100 = .ok (.if_icmp .ne 12, 3) := by decide +kernel
theorem dX4_run_103 : decode cX4_run 103 = .ok (.aload_n 0, 1) := by decide +kernel
theorem dX4_run_104 : decode cX4_run 104 = .ok (.iload 5, 2) := by decide +kernel
theorem dX4_run_106 : decode cX4_run 106 = .ok (.invokevirtual 84, 3) := by decide +kernel
theorem dX4_run_109 : decode cX4_run 109 = .ok (.goto 9, 3) := by decide +kernel
theorem dX4_run_112 : decode cX4_run 112 = .ok (.aload_n 0, 1) := by decide +kernel
theorem dX4_run_113 : decode cX4_run 113 = .ok (.iload 5, 2) := by decide +kernel
theorem dX4_run_115 : decode cX4_run 115 = .ok (.invokevirtual 87, 3) := by decide +kernel
theorem dX4_run_118 : decode cX4_run 118 = .ok (.iinc 5 1, 3) := by decide +kernel
theorem dX4_run_121 : decode cX4_run 121 = .ok (.goto (-44), 3) := by decide +kernel
theorem dX4_run_124 : decode cX4_run 124 = .ok (.aload_n 0, 1) := by decide +kernel
theorem dX4_run_125 : decode cX4_run 125 = .ok (.getfield 32, 3) := by decide +kernel
theorem dX4_run_128 : decode cX4_run 128 = .ok (.getfield 90, 3) := by decide +kernel
theorem dX4_run_131 : decode cX4_run 131 = .ok (.ireturn, 1) := by decide +kernel
theorem dX4_welcome_0 : decode cX4_welcome 0 = .ok (.iconst 0, 1) := by decide +kernel
theorem dX4_welcome_1 : decode cX4_welcome 1 = .ok (.istore_n 2, 1) := by decide +kernel
theorem dX4_welcome_2 : decode cX4_welcome 2 = .ok (.iload_n 2, 1) := by decide +kernel
theorem dX4_welcome_3 : decode cX4_welcome 3 = .ok (.aload_n 0, 1) := by decide +kernel
theorem dX4_welcome_4 : decode cX4_welcome 4 = .ok (.getfield 12, 3) := by decide +kernel
theorem dX4_welcome_7 : decode cX4_welcome 7 = .ok (.getfield 93, 3) := by decide +kernel
theorem dX4_welcome_10 : decode cX4_welcome 10 = .ok (.if_icmp .ge 44, 3) := by decide +kernel
theorem dX4_welcome_13 : decode cX4_welcome 13 = .ok (.aload_n 0, 1) := by decide +kernel
theorem dX4_welcome_14 : decode cX4_welcome 14 = .ok (.getfield 12, 3) := by decide +kernel
theorem dX4_welcome_17 : decode cX4_welcome 17 = .ok (.getfield 96, 3) := by decide +kernel
theorem dX4_welcome_20 : decode cX4_welcome 20 = .ok (.iload_n 2, 1) := by decide +kernel
theorem dX4_welcome_21 : decode cX4_welcome 21 = .ok (.invokestatic 99, 3) := by decide +kernel
theorem dX4_welcome_24 : decode cX4_welcome 24 = .ok (.iload_n 1, 1) := by decide +kernel
theorem dX4_welcome_25 : decode cX4_welcome 25 = .ok (.if_icmp .ne 23, 3) := by decide +kernel
theorem dX4_welcome_28 : decode cX4_welcome 28 = .ok (.iload_n 2, 1) := by decide +kernel
theorem dX4_welcome_29 : decode cX4_welcome 29 = .ok (.aload_n 0, 1) := by decide +kernel
theorem dX4_welcome_30 : decode cX4_welcome 30 = .ok (.getfield 43, 3) := by decide +kernel
theorem dX4_welcome_33 : decode cX4_welcome 33 = .ok (.if_icmp .eq 15, 3) := by decide +kernel
theorem dX4_welcome_36 : decode cX4_welcome 36 = .ok (.aload_n 0, 1) := by decide +kernel
theorem dX4_welcome_37 : decode cX4_welcome 37 = .ok (.dup, 1) := by decide +kernel
theorem dX4_welcome_38 : decode cX4_welcome 38 = .ok (.getfield 46, 3) := by decide +kernel
theorem dX4_welcome_41 : decode cX4_welcome 41 = .ok (.iconst 1, 1) := by decide +kernel
theorem dX4_welcome_42 : decode cX4_welcome 42 = .ok (.iload_n 2, 1) := by decide +kernel
theorem dX4_welcome_43 : decode cX4_welcome 43 = .ok (.ishl, 1) := by decide +kernel
theorem dX4_welcome_44 : decode cX4_welcome 44 = .ok (.ior, 1) := by decide +kernel
theorem dX4_welcome_45 : decode cX4_welcome 45 = .ok (.putfield 46, 3) := by decide +kernel
theorem dX4_welcome_48 : decode cX4_welcome 48 = .ok (.iinc 2 1, 3) := by decide +kernel
theorem dX4_welcome_51 : decode cX4_welcome 51 = .ok (.goto (-49), 3) := by decide +kernel
theorem dX4_welcome_54 : decode cX4_welcome 54 = .ok (.return_, 1) := by decide +kernel
theorem dX4_playByGroups_0 : decode cX4_playByGroups 0 = .ok (.aload_n 0, 1) := by decide +kernel
theorem dX4_playByGroups_1 : decode cX4_playByGroups 1 = .ok (.getfield 21, 3) := by decide +kernel
theorem dX4_playByGroups_4 : decode cX4_playByGroups 4 = .ok (.getfield 65, 3) := by decide +kernel
theorem dX4_playByGroups_7 : decode cX4_playByGroups 7 = .ok (.ifCond .ne 8, 3) := by decide +kernel
theorem dX4_playByGroups_10 : decode cX4_playByGroups 10 = .ok (.aload_n 0, 1) := by decide +kernel
theorem dX4_playByGroups_11 : decode cX4_playByGroups 11 = .ok (.iload_n 1, 1) := by decide +kernel
theorem dX4_playByGroups_12 : decode cX4_playByGroups 12 = .ok (.invokevirtual 103, 3) := by decide +kernel
theorem dX4_playByGroups_15 : decode cX4_playByGroups 15 = .ok (.aload_n 0, 1) := by decide +kernel
theorem dX4_playByGroups_16 : decode cX4_playByGroups 16 = .ok (.getfield 21, 3) := by decide +kernel
theorem dX4_playByGroups_19 : decode cX4_playByGroups 19 = .ok (.invokevirtual 106, 3) := by decide +kernel
theorem dX4_playByGroups_22 : decode cX4_playByGroups 22 = .ok (.istore_n 2, 1) := by decide +kernel
theorem dX4_playByGroups_23 : decode cX4_playByGroups 23 = .ok (.aload_n 0, 1) := by decide +kernel
theorem dX4_playByGroups_24 : decode cX4_playByGroups 24 = .ok (.iload_n 1, 1) := by decide +kernel
theorem dX4_playByGroups_25 : decode cX4_playByGroups 25 = .ok (.iload_n 2, 1) := by decide +kernel
theorem dX4_playByGroups_26 : decode cX4_playByGroups 26 = .ok (.invokevirtual 110, 3) := by decide +kernel
theorem dX4_playByGroups_29 : decode cX4_playByGroups 29 = .ok (.istore_n 3, 1) := by decide +kernel
theorem dX4_playByGroups_30 : decode cX4_playByGroups 30 = .ok (.iload_n 3, 1) := by decide +kernel
theorem dX4_playByGroups_31 : decode cX4_playByGroups 31 = .ok (.iconst 2, 1) := by decide +kernel
theorem dX4_playByGroups_32 : decode cX4_playByGroups 32 = .ok (.if_icmp .ne 15, 3) := by decide +kernel
theorem dX4_playByGroups_35 : decode cX4_playByGroups 35 = .ok (.aload_n 0, 1) := by decide +kernel
theorem dX4_playByGroups_36 : decode cX4_playByGroups 36 = .ok (.invokevirtual 114, 3) := by decide +kernel
theorem dX4_playByGroups_39 : decode cX4_playByGroups 39 = .ok (.aload_n 0, 1) := by decide +kernel
theorem dX4_playByGroups_40 : decode cX4_playByGroups 40 = .ok (.iconst 0, 1) := by decide +kernel
theorem dX4_playByGroups_41 : decode cX4_playByGroups 41 = .ok (.putfield 59, 3) := by decide +kernel
theorem dX4_playByGroups_44 : decode cX4_playByGroups 44 = .ok (.goto 71, 3) := by decide +kernel
theorem dX4_playByGroups_47 : decode cX4_playByGroups 47 = .ok (.iload_n 3, 1) := by decide +kernel
theorem dX4_playByGroups_48 : decode cX4_playByGroups 48 = .ok (.ifCond .ne 21, 3) := by decide +kernel
theorem dX4_playByGroups_51 : decode cX4_playByGroups 51 = .ok (.aload_n 0, 1) := by decide +kernel
theorem dX4_playByGroups_52 : decode cX4_playByGroups 52 = .ok (.getfield 55, 3) := by decide +kernel
theorem dX4_playByGroups_55 : decode cX4_playByGroups 55 = .ok (.ifCond .eq 14, 3) := by decide +kernel
theorem dX4_playByGroups_58 : decode cX4_playByGroups 58 = .ok (.aload_n 0, 1) := by decide +kernel
theorem dX4_playByGroups_59 : decode cX4_playByGroups 59 = .ok (.invokevirtual 117, 3) := by decide +kernel
theorem dX4_playByGroups_62 : decode cX4_playByGroups 62 = .ok (.ifCond .eq 7, 3) := by decide +kernel
theorem dX4_playByGroups_65 : decode cX4_playByGroups 65 = .ok (.iconst 1, 1) := by decide +kernel
theorem dX4_playByGroups_66 : decode cX4_playByGroups 66 = .ok (.goto 4, 3) := by decide +kernel
theorem dX4_playByGroups_69 : decode cX4_playByGroups 69 = .ok (.iconst 0, 1) := by decide +kernel
theorem dX4_playByGroups_70 : decode cX4_playByGroups 70 = .ok (.istore 4, 2) := by decide +kernel
theorem dX4_playByGroups_72 : decode cX4_playByGroups 72 = .ok (.aload_n 0, 1) := by decide +kernel
theorem dX4_playByGroups_73 : decode cX4_playByGroups 73 = .ok (.getfield 21, 3) := by decide +kernel
theorem dX4_playByGroups_76 : decode cX4_playByGroups 76 = .ok (.invokevirtual 121, 3) := by decide +kernel
theorem dX4_playByGroups_79 : decode cX4_playByGroups 79 = .ok (.aload_n 0, 1) := by decide +kernel
theorem dX4_playByGroups_80 : decode cX4_playByGroups 80 = .ok (.iconst 0, 1) := by decide +kernel
theorem dX4_playByGroups_81 : decode cX4_playByGroups 81 = .ok (.putfield 55, 3) := by decide +kernel
theorem dX4_playByGroups_84 : decode cX4_playByGroups 84 = .ok (.iload 4, 2) := by decide +kernel
theorem dX4_playByGroups_86 : decode cX4_playByGroups 86 = .ok (.ifCond .eq 29, 3) := by decide +kernel
theorem dX4_playByGroups_89 : decode cX4_playByGroups 89 = .ok (.aload_n 0, 1) := by decide +kernel
theorem dX4_playByGroups_90 : decode cX4_playByGroups 90 = .ok (.invokevirtual 114, 3) := by decide +kernel
theorem dX4_playByGroups_93 : decode cX4_playByGroups 93 = .ok (.aload_n 0, 1) := by decide +kernel
theorem dX4_playByGroups_94 : decode cX4_playByGroups 94 = .ok (.dup, 1) := by decide +kernel
theorem dX4_playByGroups_95 : decode cX4_playByGroups 95 = .ok (.getfield 59, 3) := by decide +kernel
theorem dX4_playByGroups_98 : decode cX4_playByGroups 98 = .ok (.iconst 1, 1) := by decide +kernel
theorem dX4_playByGroups_99 : decode cX4_playByGroups 99 = .ok (.iadd, 1) := by decide +kernel
theorem dX4_playByGroups_100 : decode cX4_playByGroups 100 = .ok (.putfield 59, 3) := by decide +kernel
theorem dX4_playByGroups_103 : decode cX4_playByGroups 103 = .ok (.aload_n 0, 1) := by decide +kernel
theorem dX4_playByGroups_104 : decode cX4_playByGroups 104 = .ok (.getfield 32, 3) := by decide +kernel
theorem dX4_playByGroups_107 : decode cX4_playByGroups 107 = .ok (.getfield 124, 3) := by decide +kernel
theorem dX4_playByGroups_110 : decode cX4_playByGroups 110 = .ok (.iload_n 1, 1) := by decide +kernel
theorem dX4_playByGroups_111 : decode cX4_playByGroups 111 = .ok (.iconst 1, 1) := by decide +kernel
theorem dX4_playByGroups_112 : decode cX4_playByGroups 112 = .ok (.invokestatic 127, 3) := by decide +kernel
theorem dX4_playByGroups_115 : decode cX4_playByGroups 115 = .ok (.aload_n 0, 1) := by decide +kernel
theorem dX4_playByGroups_116 : decode cX4_playByGroups 116 = .ok (.getfield 21, 3) := by decide +kernel
theorem dX4_playByGroups_119 : decode cX4_playByGroups 119 = .ok (.getfield 65, 3) := by decide +kernel
theorem dX4_playByGroups_122 : decode cX4_playByGroups 122 = .ok (.ifCond .ne 8, 3) := by decide +kernel
theorem dX4_playByGroups_125 : decode cX4_playByGroups 125 = .ok (.aload_n 0, 1) := by decide +kernel
theorem dX4_playByGroups_126 : decode cX4_playByGroups 126 = .ok (.iload_n 1, 1) := by decide +kernel
theorem dX4_playByGroups_127 : decode cX4_playByGroups 127 = .ok (.invokevirtual 131, 3) := by decide +kernel
theorem dX4_playByGroups_130 : decode cX4_playByGroups 130 = .ok (.aload_n 0, 1) := by decide +kernel
theorem dX4_playByGroups_131 : decode cX4_playByGroups 131 = .ok (.getfield 32, 3) := by decide +kernel
theorem dX4_playByGroups_134 : decode cX4_playByGroups 134 = .ok (.getfield 134, 3) := by decide +kernel
theorem dX4_playByGroups_137 : decode cX4_playByGroups 137 = .ok (.iload_n 1, 1) := by decide +kernel
theorem dX4_playByGroups_138 : decode cX4_playByGroups 138 = .ok (.aload_n 0, 1) := by decide +kernel
theorem dX4_playByGroups_139 : decode cX4_playByGroups 139 = .ok (.getfield 21, 3) := by decide +kernel
theorem dX4_playByGroups_142 : decode cX4_playByGroups 142 = .ok (.getfield 65, 3) := by decide +kernel
theorem dX4_playByGroups_145 : decode cX4_playByGroups 145 = .ok (.invokestatic 127, 3) := by decide +kernel
theorem dX4_playByGroups_148 : decode cX4_playByGroups 148 = .ok (.return_, 1) := by decide +kernel
theorem dX4_maySkip_0 : decode cX4_maySkip 0 = .ok (.aload_n 0, 1) := by decide +kernel
theorem dX4_maySkip_1 : decode cX4_maySkip 1 = .ok (.getfield 36, 3) := by decide +kernel
theorem dX4_maySkip_4 : decode cX4_maySkip 4 = .ok (.iconst 1, 1) := by decide +kernel
theorem dX4_maySkip_5 : decode cX4_maySkip 5 = .ok (.if_icmp .eq 11, 3) := by decide +kernel
theorem dX4_maySkip_8 : decode cX4_maySkip 8 = .ok (.aload_n 0, 1) := by decide +kernel
theorem dX4_maySkip_9 : decode cX4_maySkip 9 = .ok (.getfield 36, 3) := by decide +kernel
theorem dX4_maySkip_12 : decode cX4_maySkip 12 = .ok (.iconst 3, 1) := by decide +kernel
theorem dX4_maySkip_13 : decode cX4_maySkip 13 = .ok (.if_icmp .ne 21, 3) := by decide +kernel
theorem dX4_maySkip_16 : decode cX4_maySkip 16 = .ok (.aload_n 0, 1) := by decide +kernel
theorem dX4_maySkip_17 : decode cX4_maySkip 17 = .ok (.getfield 59, 3) := by decide +kernel
theorem dX4_maySkip_20 : decode cX4_maySkip 20 = .ok (.aload_n 0, 1) := by decide +kernel
theorem dX4_maySkip_21 : decode cX4_maySkip 21 = .ok (.getfield 12, 3) := by decide +kernel
theorem dX4_maySkip_24 : decode cX4_maySkip 24 = .ok (.getfield 137, 3) := by decide +kernel
theorem dX4_maySkip_27 : decode cX4_maySkip 27 = .ok (.if_icmp .ge 7, 3) := by decide +kernel
theorem dX4_maySkip_30 : decode cX4_maySkip 30 = .ok (.iconst 1, 1) := by decide +kernel
theorem dX4_maySkip_31 : decode cX4_maySkip 31 = .ok (.goto 4, 3) := by decide +kernel
theorem dX4_maySkip_34 : decode cX4_maySkip 34 = .ok (.iconst 0, 1) := by decide +kernel
theorem dX4_maySkip_35 : decode cX4_maySkip 35 = .ok (.ireturn, 1) := by decide +kernel
theorem dX4_beginEpoch_0 : decode cX4_beginEpoch 0 = .ok (.aload_n 0, 1) := by decide +kernel
theorem dX4_beginEpoch_1 : decode cX4_beginEpoch 1 = .ok (.getfield 46, 3) := by decide +kernel
theorem dX4_beginEpoch_4 : decode cX4_beginEpoch 4 = .ok (.istore_n 2, 1) := by decide +kernel
theorem dX4_beginEpoch_5 : decode cX4_beginEpoch 5 = .ok (.aload_n 0, 1) := by decide +kernel
theorem dX4_beginEpoch_6 : decode cX4_beginEpoch 6 = .ok (.getfield 52, 3) := by decide +kernel
theorem dX4_beginEpoch_9 : decode cX4_beginEpoch 9 = .ok (.istore_n 3, 1) := by decide +kernel
theorem dX4_beginEpoch_10 : decode cX4_beginEpoch 10 = .ok (.aload_n 0, 1) := by decide +kernel
theorem dX4_beginEpoch_11 : decode cX4_beginEpoch 11 = .ok (.getfield 52, 3) := by decide +kernel
theorem dX4_beginEpoch_14 : decode cX4_beginEpoch 14 = .ok (.istore 4, 2) := by decide +kernel
theorem dX4_beginEpoch_16 : decode cX4_beginEpoch 16 = .ok (.aload_n 0, 1) := by decide +kernel
theorem dX4_beginEpoch_17 : decode cX4_beginEpoch 17 = .ok (.getfield 36, 3) := by decide +kernel
theorem dX4_beginEpoch_20 : decode cX4_beginEpoch 20 = .ok (.iconst 3, 1) := by decide +kernel
theorem dX4_beginEpoch_21 : decode cX4_beginEpoch 21 = .ok (.if_icmp .ne 58, 3) := by decide +kernel
theorem dX4_beginEpoch_24 : decode cX4_beginEpoch 24 = .ok (.aload_n 0, 1) := by decide +kernel
theorem dX4_beginEpoch_25 : decode cX4_beginEpoch 25 = .ok (.getfield 52, 3) := by decide +kernel
theorem dX4_beginEpoch_28 : decode cX4_beginEpoch 28 = .ok (.bipush 16, 2) := by decide +kernel
theorem dX4_beginEpoch_30 : decode cX4_beginEpoch 30 = .ok (.aload_n 0, 1) := by decide +kernel
theorem dX4_beginEpoch_31 : decode cX4_beginEpoch 31 = .ok (.getfield 12, 3) := by decide +kernel
theorem dX4_beginEpoch_34 : decode cX4_beginEpoch 34 = .ok (.getfield 140, 3) := by decide +kernel
theorem dX4_beginEpoch_37 : decode cX4_beginEpoch 37 = .ok (.imul, 1) := by decide +kernel
theorem dX4_beginEpoch_38 : decode cX4_beginEpoch 38 = .ok (.iadd, 1) := by decide +kernel
theorem dX4_beginEpoch_39 : decode cX4_beginEpoch 39 = .ok (.bipush 16, 2) := by decide +kernel
theorem dX4_beginEpoch_41 : decode cX4_beginEpoch 41 = .ok (.iload_n 1, 1) := by decide +kernel
theorem dX4_beginEpoch_42 : decode cX4_beginEpoch 42 = .ok (.imul, 1) := by decide +kernel
theorem dX4_beginEpoch_43 : decode cX4_beginEpoch 43 = .ok (.bipush 16, 2) := by decide +kernel
theorem dX4_beginEpoch_45 : decode cX4_beginEpoch 45 = .ok (.iadd, 1) := by decide +kernel
theorem dX4_beginEpoch_46 : decode cX4_beginEpoch 46 = .ok (.invokestatic 143, 3) := by decide +kernel
theorem dX4_beginEpoch_49 : decode cX4_beginEpoch 49 = .ok (.istore 4, 2) := by decide +kernel
theorem dX4_beginEpoch_51 : decode cX4_beginEpoch 51 = .ok (.aload_n 0, 1) := by decide +kernel
theorem dX4_beginEpoch_52 : decode cX4_beginEpoch 52 = .ok (.aload_n 0, 1) := by decide +kernel
theorem dX4_beginEpoch_53 : decode cX4_beginEpoch 53 = .ok (.getfield 46, 3) := by decide +kernel
theorem dX4_beginEpoch_56 : decode cX4_beginEpoch 56 = .ok (.iload_n 3, 1) := by decide +kernel
theorem dX4_beginEpoch_57 : decode cX4_beginEpoch 57 = .ok (.iload 4, 2) := by decide +kernel
theorem dX4_beginEpoch_59 : decode cX4_beginEpoch 59 = .ok (.invokevirtual 148, 3) := by decide +kernel
theorem dX4_beginEpoch_62 : decode cX4_beginEpoch 62 = .ok (.istore_n 2, 1) := by decide +kernel
theorem dX4_beginEpoch_63 : decode cX4_beginEpoch 63 = .ok (.aload_n 0, 1) := by decide +kernel
theorem dX4_beginEpoch_64 : decode cX4_beginEpoch 64 = .ok (.dup, 1) := by decide +kernel
theorem dX4_beginEpoch_65 : decode cX4_beginEpoch 65 = .ok (.getfield 49, 3) := by decide +kernel
theorem dX4_beginEpoch_68 : decode cX4_beginEpoch 68 = .ok (.iload_n 2, 1) := by decide +kernel
theorem dX4_beginEpoch_69 : decode cX4_beginEpoch 69 = .ok (.ior, 1) := by decide +kernel
theorem dX4_beginEpoch_70 : decode cX4_beginEpoch 70 = .ok (.putfield 49, 3) := by decide +kernel
theorem dX4_beginEpoch_73 : decode cX4_beginEpoch 73 = .ok (.aload_n 0, 1) := by decide +kernel
theorem dX4_beginEpoch_74 : decode cX4_beginEpoch 74 = .ok (.iload 4, 2) := by decide +kernel
theorem dX4_beginEpoch_76 : decode cX4_beginEpoch 76 = .ok (.putfield 52, 3) := by decide +kernel
theorem dX4_beginEpoch_79 : decode cX4_beginEpoch 79 = .ok (.aload_n 0, 1) := by decide +kernel
theorem dX4_beginEpoch_80 : decode cX4_beginEpoch 80 = .ok (.getfield 21, 3) := by decide +kernel
theorem dX4_beginEpoch_83 : decode cX4_beginEpoch 83 = .ok (.iload_n 2, 1) := by decide +kernel
theorem dX4_beginEpoch_84 : decode cX4_beginEpoch 84 = .ok (.iload_n 3, 1) := by decide +kernel
theorem dX4_beginEpoch_85 : decode cX4_beginEpoch 85 = .ok (.iload 4, 2) := by decide +kernel
theorem dX4_beginEpoch_87 : decode cX4_beginEpoch 87 = .ok (.invokevirtual 152, 3) := by decide +kernel
theorem dX4_beginEpoch_90 : decode cX4_beginEpoch 90 = .ok (.aload_n 0, 1) := by decide +kernel
theorem dX4_beginEpoch_91 : decode cX4_beginEpoch 91 = .ok (.iload_n 2, 1) := by decide +kernel
theorem dX4_beginEpoch_92 : decode cX4_beginEpoch 92 = .ok (.ifCond .eq 7, 3) := by decide +kernel
theorem dX4_beginEpoch_95 : decode cX4_beginEpoch 95 = .ok (.iconst 1, 1) := by decide +kernel
theorem dX4_beginEpoch_96 : decode cX4_beginEpoch 96 = .ok (.goto 4, 3) := by decide +kernel
theorem dX4_beginEpoch_99 : decode cX4_beginEpoch 99 = .ok (.iconst 0, 1) := by decide +kernel
theorem dX4_beginEpoch_100 : decode cX4_beginEpoch 100 = .ok (.putfield 62, 3) := by decide +kernel
theorem dX4_beginEpoch_103 : decode cX4_beginEpoch 103 = .ok (.aload_n 0, 1) := by decide +kernel
theorem dX4_beginEpoch_104 : decode cX4_beginEpoch 104 = .ok (.getfield 62, 3) := by decide +kernel
theorem dX4_beginEpoch_107 : decode cX4_beginEpoch 107 = .ok (.ifCond .eq 12, 3) := by decide +kernel
theorem dX4_beginEpoch_110 : decode cX4_beginEpoch 110 = .ok (.aload_n 0, 1) := by decide +kernel
theorem dX4_beginEpoch_111 : decode cX4_beginEpoch 111 = .ok (.getfield 32, 3) := by decide +kernel
theorem dX4_beginEpoch_114 : decode cX4_beginEpoch 114 = .ok (.iload_n 1, 1) := by decide +kernel
theorem dX4_beginEpoch_115 : decode cX4_beginEpoch 115 = .ok (.iload_n 2, 1) := by decide +kernel
theorem dX4_beginEpoch_116 : decode cX4_beginEpoch 116 = .ok (.invokevirtual 156, 3) := by decide +kernel
theorem dX4_beginEpoch_119 : decode cX4_beginEpoch 119 = .ok (.return_, 1) := by decide +kernel
theorem dX4_endEpoch_0 : decode cX4_endEpoch 0 = .ok (.aload_n 0, 1) := by decide +kernel
theorem dX4_endEpoch_1 : decode cX4_endEpoch 1 = .ok (.getfield 62, 3) := by decide +kernel
theorem dX4_endEpoch_4 : decode cX4_endEpoch 4 = .ok (.ifCond .eq 23, 3) := by decide +kernel
theorem dX4_endEpoch_7 : decode cX4_endEpoch 7 = .ok (.aload_n 0, 1) := by decide +kernel
theorem dX4_endEpoch_8 : decode cX4_endEpoch 8 = .ok (.getfield 32, 3) := by decide +kernel
theorem dX4_endEpoch_11 : decode cX4_endEpoch 11 = .ok (.getfield 160, 3) := by decide +kernel
theorem dX4_endEpoch_14 : decode cX4_endEpoch 14 = .ok (.aload_n 0, 1) := by decide +kernel
theorem dX4_endEpoch_15 : decode cX4_endEpoch 15 = .ok (.getfield 32, 3) := by decide +kernel
theorem dX4_endEpoch_18 : decode cX4_endEpoch 18 = .ok (.getfield 163, 3) := by decide +kernel
theorem dX4_endEpoch_21 : decode cX4_endEpoch 21 = .ok (.iconst 1, 1) := by decide +kernel
theorem dX4_endEpoch_22 : decode cX4_endEpoch 22 = .ok (.isub, 1) := by decide +kernel
theorem dX4_endEpoch_23 : decode cX4_endEpoch 23 = .ok (.iload_n 1, 1) := by decide +kernel
theorem dX4_endEpoch_24 : decode cX4_endEpoch 24 = .ok (.invokestatic 127, 3) := by decide +kernel
theorem dX4_endEpoch_27 : decode cX4_endEpoch 27 = .ok (.aload_n 0, 1) := by decide +kernel
theorem dX4_endEpoch_28 : decode cX4_endEpoch 28 = .ok (.getfield 49, 3) := by decide +kernel
theorem dX4_endEpoch_31 : decode cX4_endEpoch 31 = .ok (.aload_n 0, 1) := by decide +kernel
theorem dX4_endEpoch_32 : decode cX4_endEpoch 32 = .ok (.getfield 46, 3) := by decide +kernel
theorem dX4_endEpoch_35 : decode cX4_endEpoch 35 = .ok (.iand, 1) := by decide +kernel
theorem dX4_endEpoch_36 : decode cX4_endEpoch 36 = .ok (.istore_n 2, 1) := by decide +kernel
theorem dX4_endEpoch_37 : decode cX4_endEpoch 37 = .ok (.iconst 0, 1) := by decide +kernel
theorem dX4_endEpoch_38 : decode cX4_endEpoch 38 = .ok (.istore_n 3, 1) := by decide +kernel
theorem dX4_endEpoch_39 : decode cX4_endEpoch 39 = .ok (.iload_n 3, 1) := by decide +kernel
theorem dX4_endEpoch_40 : decode cX4_endEpoch 40 = .ok (.aload_n 0, 1) := by decide +kernel
theorem dX4_endEpoch_41 : decode cX4_endEpoch 41 = .ok (.getfield 12, 3) := by decide +kernel
theorem dX4_endEpoch_44 : decode cX4_endEpoch 44 = .ok (.getfield 93, 3) := by decide +kernel
theorem dX4_endEpoch_47 : decode cX4_endEpoch 47 = .ok (.if_icmp .ge 43, 3) := by decide +kernel
theorem dX4_endEpoch_50 : decode cX4_endEpoch 50 = .ok (.iload_n 2, 1) := by decide +kernel
theorem dX4_endEpoch_51 : decode cX4_endEpoch 51 = .ok (.iload_n 3, 1) := by decide +kernel
theorem dX4_endEpoch_52 : decode cX4_endEpoch 52 = .ok (.ishr, 1) := by decide +kernel
theorem dX4_endEpoch_53 : decode cX4_endEpoch 53 = .ok (.ifCond .eq 37, 3) := by decide +kernel
theorem dX4_endEpoch_56 : decode cX4_endEpoch 56 = .ok (.iload_n 2, 1) := by decide +kernel
theorem dX4_endEpoch_57 : decode cX4_endEpoch 57 = .ok (.iload_n 3, 1) := by decide +kernel
theorem dX4_endEpoch_58 : decode cX4_endEpoch 58 = .ok (.ishr, 1) := by decide +kernel
theorem dX4_endEpoch_59 : decode cX4_endEpoch 59 = .ok (.iconst 1, 1) := by decide +kernel
theorem dX4_endEpoch_60 : decode cX4_endEpoch 60 = .ok (.iand, 1) := by decide +kernel
theorem dX4_endEpoch_61 : decode cX4_endEpoch 61 = .ok (.iconst 1, 1) := by decide +kernel
theorem dX4_endEpoch_62 : decode cX4_endEpoch 62 = .ok (.if_icmp .ne 22, 3) := by decide +kernel
theorem dX4_endEpoch_65 : decode cX4_endEpoch 65 = .ok (.aload_n 0, 1) := by decide +kernel
theorem dX4_endEpoch_66 : decode cX4_endEpoch 66 = .ok (.aload_n 0, 1) := by decide +kernel
theorem dX4_endEpoch_67 : decode cX4_endEpoch 67 = .ok (.getfield 52, 3) := by decide +kernel
theorem dX4_endEpoch_70 : decode cX4_endEpoch 70 = .ok (.aload_n 0, 1) := by decide +kernel
theorem dX4_endEpoch_71 : decode cX4_endEpoch 71 = .ok (.getfield 12, 3) := by decide +kernel
theorem dX4_endEpoch_74 : decode cX4_endEpoch 74 = .ok (.iload_n 3, 1) := by decide +kernel
theorem dX4_endEpoch_75 : decode cX4_endEpoch 75 = .ok (.invokevirtual 166, 3) := by decide +kernel
theorem dX4_endEpoch_78 : decode cX4_endEpoch 78 = .ok (.invokestatic 143, 3) := by decide +kernel
theorem dX4_endEpoch_81 : decode cX4_endEpoch 81 = .ok (.putfield 52, 3) := by decide +kernel
theorem dX4_endEpoch_84 : decode cX4_endEpoch 84 = .ok (.iinc 3 1, 3) := by decide +kernel
theorem dX4_endEpoch_87 : decode cX4_endEpoch 87 = .ok (.goto (-48), 3) := by decide +kernel
theorem dX4_endEpoch_90 : decode cX4_endEpoch 90 = .ok (.return_, 1) := by decide +kernel
theorem dX4_within_0 : decode cX4_within 0 = .ok (.iconst 0, 1) := by decide +kernel
theorem dX4_within_1 : decode cX4_within 1 = .ok (.istore 4, 2) := by decide +kernel
theorem dX4_within_3 : decode cX4_within 3 = .ok (.iconst 0, 1) := by decide +kernel
theorem dX4_within_4 : decode cX4_within 4 = .ok (.istore 5, 2) := by decide +kernel
theorem dX4_within_6 : decode cX4_within 6 = .ok (.iload 5, 2) := by decide +kernel
theorem dX4_within_8 : decode cX4_within 8 = .ok (.aload_n 0, 1) := by decide +kernel
theorem dX4_within_9 : decode cX4_within 9 = .ok (.getfield 12, 3) := by decide +kernel
theorem dX4_within_12 : decode cX4_within 12 = .ok (.getfield 93, 3) := by decide +kernel
theorem dX4_within_15 : decode cX4_within 15 = .ok (.if_icmp .ge 58, 3) := by decide +kernel
theorem dX4_within_18 : decode cX4_within 18 = .ok (.iload_n 1, 1) := by decide +kernel
theorem dX4_within_19 : decode cX4_within 19 = .ok (.iload 5, 2) := by decide +kernel
theorem dX4_within_21 : decode cX4_within 21 = .ok (.ishr, 1) := by decide +kernel
theorem dX4_within_22 : decode cX4_within 22 = .ok (.ifCond .eq 51, 3) := by decide +kernel
theorem dX4_within_25 : decode cX4_within 25 = .ok (.aload_n 0, 1) := by decide +kernel
theorem dX4_within_26 : decode cX4_within 26 = .ok (.getfield 12, 3) := by decide +kernel
theorem dX4_within_29 : decode cX4_within 29 = .ok (.iload 5, 2) := by decide +kernel
theorem dX4_within_31 : decode cX4_within 31 = .ok (.invokevirtual 166, 3) := by decide +kernel
theorem dX4_within_34 : decode cX4_within 34 = .ok (.istore 6, 2) := by decide +kernel
theorem dX4_within_36 : decode cX4_within 36 = .ok (.iload_n 1, 1) := by decide +kernel
theorem dX4_within_37 : decode cX4_within 37 = .ok (.iload 5, 2) := by decide +kernel
theorem dX4_within_39 : decode cX4_within 39 = .ok (.ishr, 1) := by decide +kernel
theorem dX4_within_40 : decode cX4_within 40 = .ok (.iconst 1, 1) := by decide +kernel
theorem dX4_within_41 : decode cX4_within 41 = .ok (.iand, 1) := by decide +kernel
theorem dX4_within_42 : decode cX4_within 42 = .ok (.iconst 1, 1) := by decide +kernel
theorem dX4_within_43 : decode cX4_within 43 = .ok (.if_icmp .ne 24, 3) := by decide +kernel
theorem dX4_within_46 : decode cX4_within 46 = .ok (.iload 6, 2) := by decide +kernel
theorem dX4_within_48 : decode cX4_within 48 = .ok (.iload_n 2, 1) := by decide +kernel
theorem dX4_within_49 : decode cX4_within 49 = .ok (.if_icmp .lt 18, 3) := by decide +kernel
theorem dX4_within_52 : decode cX4_within 52 = .ok (.iload 6, 2) := by decide +kernel
theorem dX4_within_54 : decode cX4_within 54 = .ok (.iload_n 3, 1) := by decide +kernel
theorem dX4_within_55 : decode cX4_within 55 = .ok (.if_icmp .ge 12, 3) := by decide +kernel
theorem dX4_within_58 : decode cX4_within 58 = .ok (.iload 4, 2) := by decide +kernel
theorem dX4_within_60 : decode cX4_within 60 = .ok (.iconst 1, 1) := by decide +kernel
theorem dX4_within_61 : decode cX4_within 61 = .ok (.iload 5, 2) := by decide +kernel
theorem dX4_within_63 : decode cX4_within 63 = .ok (.ishl, 1) := by decide +kernel
theorem dX4_within_64 : decode cX4_within 64 = .ok (.ior, 1) := by decide +kernel
theorem dX4_within_65 : decode cX4_within 65 = .ok (.istore 4, 2) := by decide +kernel
theorem dX4_within_67 : decode cX4_within 67 = .ok (.iinc 5 1, 3) := by decide +kernel
theorem dX4_within_70 : decode cX4_within 70 = .ok (.goto (-64), 3) := by decide +kernel
theorem dX4_within_73 : decode cX4_within 73 = .ok (.iload 4, 2) := by decide +kernel
theorem dX4_within_75 : decode cX4_within 75 = .ok (.ireturn, 1) := by decide +kernel
theorem dX4_splitTop_0 : decode cX4_splitTop 0 = .ok (.aload_n 0, 1) := by decide +kernel
theorem dX4_splitTop_1 : decode cX4_splitTop 1 = .ok (.getfield 21, 3) := by decide +kernel
theorem dX4_splitTop_4 : decode cX4_splitTop 4 = .ok (.invokevirtual 106, 3) := by decide +kernel
theorem dX4_splitTop_7 : decode cX4_splitTop 7 = .ok (.istore_n 1, 1) := by decide +kernel
theorem dX4_splitTop_8 : decode cX4_splitTop 8 = .ok (.aload_n 0, 1) := by decide +kernel
theorem dX4_splitTop_9 : decode cX4_splitTop 9 = .ok (.getfield 21, 3) := by decide +kernel
theorem dX4_splitTop_12 : decode cX4_splitTop 12 = .ok (.getfield 170, 3) := by decide +kernel
theorem dX4_splitTop_15 : decode cX4_splitTop 15 = .ok (.aload_n 0, 1) := by decide +kernel
theorem dX4_splitTop_16 : decode cX4_splitTop 16 = .ok (.getfield 21, 3) := by decide +kernel
theorem dX4_splitTop_19 : decode cX4_splitTop 19 = .ok (.getfield 65, 3) := by decide +kernel
theorem dX4_splitTop_22 : decode cX4_splitTop 22 = .ok (.iconst 1, 1) := by decide +kernel
theorem dX4_splitTop_23 : decode cX4_splitTop 23 = .ok (.isub, 1) := by decide +kernel
theorem dX4_splitTop_24 : decode cX4_splitTop 24 = .ok (.invokestatic 99, 3) := by decide +kernel
theorem dX4_splitTop_27 : decode cX4_splitTop 27 = .ok (.istore_n 2, 1) := by decide +kernel
theorem dX4_splitTop_28 : decode cX4_splitTop 28 = .ok (.aload_n 0, 1) := by decide +kernel
theorem dX4_splitTop_29 : decode cX4_splitTop 29 = .ok (.getfield 21, 3) := by decide +kernel
theorem dX4_splitTop_32 : decode cX4_splitTop 32 = .ok (.getfield 173, 3) := by decide +kernel
theorem dX4_splitTop_35 : decode cX4_splitTop 35 = .ok (.aload_n 0, 1) := by decide +kernel
theorem dX4_splitTop_36 : decode cX4_splitTop 36 = .ok (.getfield 21, 3) := by decide +kernel
theorem dX4_splitTop_39 : decode cX4_splitTop 39 = .ok (.getfield 65, 3) := by decide +kernel
theorem dX4_splitTop_42 : decode cX4_splitTop 42 = .ok (.iconst 1, 1) := by decide +kernel
theorem dX4_splitTop_43 : decode cX4_splitTop 43 = .ok (.isub, 1) := by decide +kernel
theorem dX4_splitTop_44 : decode cX4_splitTop 44 = .ok (.invokestatic 99, 3) := by decide +kernel
theorem dX4_splitTop_47 : decode cX4_splitTop 47 = .ok (.istore_n 3, 1) := by decide +kernel
theorem dX4_splitTop_48 : decode cX4_splitTop 48 = .ok (.iload_n 2, 1) := by decide +kernel
theorem dX4_splitTop_49 : decode cX4_splitTop 49 = .ok (.iload_n 3, 1) := by decide +kernel
theorem dX4_splitTop_50 : decode cX4_splitTop 50 = .ok (.iload_n 2, 1) := by decide +kernel
theorem dX4_splitTop_51 : decode cX4_splitTop 51 = .ok (.isub, 1) := by decide +kernel
theorem dX4_splitTop_52 : decode cX4_splitTop 52 = .ok (.iconst 2, 1) := by decide +kernel
theorem dX4_splitTop_53 : decode cX4_splitTop 53 = .ok (.idiv, 1) := by decide +kernel
theorem dX4_splitTop_54 : decode cX4_splitTop 54 = .ok (.iadd, 1) := by decide +kernel
theorem dX4_splitTop_55 : decode cX4_splitTop 55 = .ok (.istore 4, 2) := by decide +kernel
theorem dX4_splitTop_57 : decode cX4_splitTop 57 = .ok (.aload_n 0, 1) := by decide +kernel
theorem dX4_splitTop_58 : decode cX4_splitTop 58 = .ok (.getfield 36, 3) := by decide +kernel
theorem dX4_splitTop_61 : decode cX4_splitTop 61 = .ok (.iconst 3, 1) := by decide +kernel
theorem dX4_splitTop_62 : decode cX4_splitTop 62 = .ok (.if_icmp .ne 14, 3) := by decide +kernel
theorem dX4_splitTop_65 : decode cX4_splitTop 65 = .ok (.aload_n 0, 1) := by decide +kernel
theorem dX4_splitTop_66 : decode cX4_splitTop 66 = .ok (.iload_n 1, 1) := by decide +kernel
theorem dX4_splitTop_67 : decode cX4_splitTop 67 = .ok (.iload_n 2, 1) := by decide +kernel
theorem dX4_splitTop_68 : decode cX4_splitTop 68 = .ok (.iload 4, 2) := by decide +kernel
theorem dX4_splitTop_70 : decode cX4_splitTop 70 = .ok (.invokevirtual 148, 3) := by decide +kernel
theorem dX4_splitTop_73 : decode cX4_splitTop 73 = .ok (.goto 8, 3) := by decide +kernel
theorem dX4_splitTop_76 : decode cX4_splitTop 76 = .ok (.aload_n 0, 1) := by decide +kernel
theorem dX4_splitTop_77 : decode cX4_splitTop 77 = .ok (.iload_n 1, 1) := by decide +kernel
theorem dX4_splitTop_78 : decode cX4_splitTop 78 = .ok (.invokevirtual 176, 3) := by decide +kernel
theorem dX4_splitTop_81 : decode cX4_splitTop 81 = .ok (.istore 5, 2) := by decide +kernel
theorem dX4_splitTop_83 : decode cX4_splitTop 83 = .ok (.aload_n 0, 1) := by decide +kernel
theorem dX4_splitTop_84 : decode cX4_splitTop 84 = .ok (.getfield 21, 3) := by decide +kernel
theorem dX4_splitTop_87 : decode cX4_splitTop 87 = .ok (.invokevirtual 121, 3) := by decide +kernel
theorem dX4_splitTop_90 : decode cX4_splitTop 90 = .ok (.aload_n 0, 1) := by decide +kernel
theorem dX4_splitTop_91 : decode cX4_splitTop 91 = .ok (.getfield 21, 3) := by decide +kernel
theorem dX4_splitTop_94 : decode cX4_splitTop 94 = .ok (.iload_n 1, 1) := by decide +kernel
theorem dX4_splitTop_95 : decode cX4_splitTop 95 = .ok (.iload 5, 2) := by decide +kernel
theorem dX4_splitTop_97 : decode cX4_splitTop 97 = .ok (.iconst (-1), 1) := by decide +kernel
theorem dX4_splitTop_98 : decode cX4_splitTop 98 = .ok (.ixor, 1) := by decide +kernel
theorem dX4_splitTop_99 : decode cX4_splitTop 99 = .ok (.iand, 1) := by decide +kernel
theorem dX4_splitTop_100 : decode cX4_splitTop 100 = .ok (.iload 4, 2) := by decide +kernel
theorem dX4_splitTop_102 : decode cX4_splitTop 102 = .ok (.iload_n 3, 1) := by decide +kernel
theorem dX4_splitTop_103 : decode cX4_splitTop 103 = .ok (.invokevirtual 152, 3) := by decide +kernel
theorem dX4_splitTop_106 : decode cX4_splitTop 106 = .ok (.aload_n 0, 1) := by decide +kernel
theorem dX4_splitTop_107 : decode cX4_splitTop 107 = .ok (.getfield 21, 3) := by decide +kernel
theorem dX4_splitTop_110 : decode cX4_splitTop 110 = .ok (.iload 5, 2) := by decide +kernel
theorem dX4_splitTop_112 : decode cX4_splitTop 112 = .ok (.iload_n 2, 1) := by decide +kernel
theorem dX4_splitTop_113 : decode cX4_splitTop 113 = .ok (.iload 4, 2) := by decide +kernel
theorem dX4_splitTop_115 : decode cX4_splitTop 115 = .ok (.invokevirtual 152, 3) := by decide +kernel
theorem dX4_splitTop_118 : decode cX4_splitTop 118 = .ok (.aload_n 0, 1) := by decide +kernel
theorem dX4_splitTop_119 : decode cX4_splitTop 119 = .ok (.iconst 1, 1) := by decide +kernel
theorem dX4_splitTop_120 : decode cX4_splitTop 120 = .ok (.putfield 55, 3) := by decide +kernel
theorem dX4_splitTop_123 : decode cX4_splitTop 123 = .ok (.return_, 1) := by decide +kernel
theorem dX4_takeBits_0 : decode cX4_takeBits 0 = .ok (.iconst 0, 1) := by decide +kernel
theorem dX4_takeBits_1 : decode cX4_takeBits 1 = .ok (.istore_n 2, 1) := by decide +kernel
theorem dX4_takeBits_2 : decode cX4_takeBits 2 = .ok (.iconst 0, 1) := by decide +kernel
theorem dX4_takeBits_3 : decode cX4_takeBits 3 = .ok (.istore_n 3, 1) := by decide +kernel
theorem dX4_takeBits_4 : decode cX4_takeBits 4 = .ok (.iload_n 3, 1) := by decide +kernel
theorem dX4_takeBits_5 : decode cX4_takeBits 5 = .ok (.aload_n 0, 1) := by decide +kernel
theorem dX4_takeBits_6 : decode cX4_takeBits 6 = .ok (.getfield 12, 3) := by decide +kernel
theorem dX4_takeBits_9 : decode cX4_takeBits 9 = .ok (.getfield 93, 3) := by decide +kernel
theorem dX4_takeBits_12 : decode cX4_takeBits 12 = .ok (.if_icmp .ge 38, 3) := by decide +kernel
theorem dX4_takeBits_15 : decode cX4_takeBits 15 = .ok (.iload_n 1, 1) := by decide +kernel
theorem dX4_takeBits_16 : decode cX4_takeBits 16 = .ok (.iload_n 3, 1) := by decide +kernel
theorem dX4_takeBits_17 : decode cX4_takeBits 17 = .ok (.ishr, 1) := by decide +kernel
theorem dX4_takeBits_18 : decode cX4_takeBits 18 = .ok (.ifCond .eq 32, 3) := by decide +kernel
theorem dX4_takeBits_21 : decode cX4_takeBits 21 = .ok (.iload_n 1, 1) := by decide +kernel
theorem dX4_takeBits_22 : decode cX4_takeBits 22 = .ok (.iload_n 3, 1) := by decide +kernel
theorem dX4_takeBits_23 : decode cX4_takeBits 23 = .ok (.ishr, 1) := by decide +kernel
theorem dX4_takeBits_24 : decode cX4_takeBits 24 = .ok (.iconst 1, 1) := by decide +kernel
theorem dX4_takeBits_25 : decode cX4_takeBits 25 = .ok (.iand, 1) := by decide +kernel
theorem dX4_takeBits_26 : decode cX4_takeBits 26 = .ok (.iconst 1, 1) := by decide +kernel
theorem dX4_takeBits_27 : decode cX4_takeBits 27 = .ok (.if_icmp .ne 17, 3) := by decide +kernel
theorem dX4_takeBits_30 : decode cX4_takeBits 30 = .ok (.aload_n 0, 1) := by decide +kernel
theorem dX4_takeBits_31 : decode cX4_takeBits 31 = .ok (.iload_n 3, 1) := by decide +kernel
theorem dX4_takeBits_32 : decode cX4_takeBits 32 = .ok (.invokevirtual 179, 3) := by decide +kernel
theorem dX4_takeBits_35 : decode cX4_takeBits 35 = .ok (.ifCond .ne 9, 3) := by decide +kernel
theorem dX4_takeBits_38 : decode cX4_takeBits 38 = .ok (.iload_n 2, 1) := by decide +kernel
theorem dX4_takeBits_39 : decode cX4_takeBits 39 = .ok (.iconst 1, 1) := by decide +kernel
theorem dX4_takeBits_40 : decode cX4_takeBits 40 = .ok (.iload_n 3, 1) := by decide +kernel
theorem dX4_takeBits_41 : decode cX4_takeBits 41 = .ok (.ishl, 1) := by decide +kernel
theorem dX4_takeBits_42 : decode cX4_takeBits 42 = .ok (.ior, 1) := by decide +kernel
theorem dX4_takeBits_43 : decode cX4_takeBits 43 = .ok (.istore_n 2, 1) := by decide +kernel
theorem dX4_takeBits_44 : decode cX4_takeBits 44 = .ok (.iinc 3 1, 3) := by decide +kernel
theorem dX4_takeBits_47 : decode cX4_takeBits 47 = .ok (.goto (-43), 3) := by decide +kernel
theorem dX4_takeBits_50 : decode cX4_takeBits 50 = .ok (.iload_n 2, 1) := by decide +kernel
theorem dX4_takeBits_51 : decode cX4_takeBits 51 = .ok (.ireturn, 1) := by decide +kernel
theorem dX4_nextBit_0 : decode cX4_nextBit 0 = .ok (.aload_n 0, 1) := by decide +kernel
theorem dX4_nextBit_1 : decode cX4_nextBit 1 = .ok (.getfield 32, 3) := by decide +kernel
theorem dX4_nextBit_4 : decode cX4_nextBit 4 = .ok (.getfield 182, 3) := by decide +kernel
theorem dX4_nextBit_7 : decode cX4_nextBit 7 = .ok (.iload_n 1, 1) := by decide +kernel
theorem dX4_nextBit_8 : decode cX4_nextBit 8 = .ok (.invokestatic 99, 3) := by decide +kernel
theorem dX4_nextBit_11 : decode cX4_nextBit 11 = .ok (.istore_n 2, 1) := by decide +kernel
theorem dX4_nextBit_12 : decode cX4_nextBit 12 = .ok (.aload_n 0, 1) := by decide +kernel
theorem dX4_nextBit_13 : decode cX4_nextBit 13 = .ok (.getfield 12, 3) := by decide +kernel
theorem dX4_nextBit_16 : decode cX4_nextBit 16 = .ok (.getfield 185, 3) := by decide +kernel
theorem dX4_nextBit_19 : decode cX4_nextBit 19 = .ok (.iload_n 1, 1) := by decide +kernel
theorem dX4_nextBit_20 : decode cX4_nextBit 20 = .ok (.invokestatic 99, 3) := by decide +kernel
theorem dX4_nextBit_23 : decode cX4_nextBit 23 = .ok (.istore_n 3, 1) := by decide +kernel
theorem dX4_nextBit_24 : decode cX4_nextBit 24 = .ok (.aload_n 0, 1) := by decide +kernel
theorem dX4_nextBit_25 : decode cX4_nextBit 25 = .ok (.getfield 32, 3) := by decide +kernel
theorem dX4_nextBit_28 : decode cX4_nextBit 28 = .ok (.getfield 182, 3) := by decide +kernel
theorem dX4_nextBit_31 : decode cX4_nextBit 31 = .ok (.iload_n 1, 1) := by decide +kernel
theorem dX4_nextBit_32 : decode cX4_nextBit 32 = .ok (.iload_n 2, 1) := by decide +kernel
theorem dX4_nextBit_33 : decode cX4_nextBit 33 = .ok (.iconst 1, 1) := by decide +kernel
theorem dX4_nextBit_34 : decode cX4_nextBit 34 = .ok (.iadd, 1) := by decide +kernel
theorem dX4_nextBit_35 : decode cX4_nextBit 35 = .ok (.invokestatic 127, 3) := by decide +kernel
theorem dX4_nextBit_38 : decode cX4_nextBit 38 = .ok (.iload_n 3, 1) := by decide +kernel
theorem dX4_nextBit_39 : decode cX4_nextBit 39 = .ok (.ifCond .le 27, 3) := by decide +kernel
theorem dX4_nextBit_42 : decode cX4_nextBit 42 = .ok (.aload_n 0, 1) := by decide +kernel
theorem dX4_nextBit_43 : decode cX4_nextBit 43 = .ok (.getfield 12, 3) := by decide +kernel
theorem dX4_nextBit_46 : decode cX4_nextBit 46 = .ok (.getfield 188, 3) := by decide +kernel
theorem dX4_nextBit_49 : decode cX4_nextBit 49 = .ok (.iload_n 1, 1) := by decide +kernel
theorem dX4_nextBit_50 : decode cX4_nextBit 50 = .ok (.invokestatic 99, 3) := by decide +kernel
theorem dX4_nextBit_53 : decode cX4_nextBit 53 = .ok (.iload_n 3, 1) := by decide +kernel
theorem dX4_nextBit_54 : decode cX4_nextBit 54 = .ok (.iconst 1, 1) := by decide +kernel
theorem dX4_nextBit_55 : decode cX4_nextBit 55 = .ok (.isub, 1) := by decide +kernel
theorem dX4_nextBit_56 : decode cX4_nextBit 56 = .ok (.iload_n 2, 1) := by decide +kernel
theorem dX4_nextBit_57 : decode cX4_nextBit 57 = .ok (.iload_n 3, 1) := by decide +kernel
theorem dX4_nextBit_58 : decode cX4_nextBit 58 = .ok (.irem, 1) := by decide +kernel
theorem dX4_nextBit_59 : decode cX4_nextBit 59 = .ok (.isub, 1) := by decide +kernel
theorem dX4_nextBit_60 : decode cX4_nextBit 60 = .ok (.ishr, 1) := by decide +kernel
theorem dX4_nextBit_61 : decode cX4_nextBit 61 = .ok (.iconst 1, 1) := by decide +kernel
theorem dX4_nextBit_62 : decode cX4_nextBit 62 = .ok (.iand, 1) := by decide +kernel
theorem dX4_nextBit_63 : decode cX4_nextBit 63 = .ok (.goto 4, 3) := by decide +kernel
theorem dX4_nextBit_66 : decode cX4_nextBit 66 = .ok (.iconst 0, 1) := by decide +kernel
theorem dX4_nextBit_67 : decode cX4_nextBit 67 = .ok (.ireturn, 1) := by decide +kernel
theorem dX4_listen_0 : decode cX4_listen 0 = .ok (.iload_n 2, 1) := by decide +kernel
theorem dX4_listen_1 : decode cX4_listen 1 = .ok (.invokestatic 191, 3) := by decide +kernel
theorem dX4_listen_4 : decode cX4_listen 4 = .ok (.istore_n 3, 1) := by decide +kernel
theorem dX4_listen_5 : decode cX4_listen 5 = .ok (.aload_n 0, 1) := by decide +kernel
theorem dX4_listen_6 : decode cX4_listen 6 = .ok (.iload_n 1, 1) := by decide +kernel
theorem dX4_listen_7 : decode cX4_listen 7 = .ok (.iload_n 3, 1) := by decide +kernel
theorem dX4_listen_8 : decode cX4_listen 8 = .ok (.iconst 2, 1) := by decide +kernel
theorem dX4_listen_9 : decode cX4_listen 9 = .ok (.invokestatic 143, 3) := by decide +kernel
theorem dX4_listen_12 : decode cX4_listen 12 = .ok (.invokevirtual 196, 3) := by decide +kernel
theorem dX4_listen_15 : decode cX4_listen 15 = .ok (.istore 4, 2) := by decide +kernel
theorem dX4_listen_17 : decode cX4_listen 17 = .ok (.aload_n 0, 1) := by decide +kernel
theorem dX4_listen_18 : decode cX4_listen 18 = .ok (.getfield 32, 3) := by decide +kernel
theorem dX4_listen_21 : decode cX4_listen 21 = .ok (.getfield 199, 3) := by decide +kernel
theorem dX4_listen_24 : decode cX4_listen 24 = .ok (.iload_n 1, 1) := by decide +kernel
theorem dX4_listen_25 : decode cX4_listen 25 = .ok (.iload_n 2, 1) := by decide +kernel
theorem dX4_listen_26 : decode cX4_listen 26 = .ok (.invokestatic 127, 3) := by decide +kernel
theorem dX4_listen_29 : decode cX4_listen 29 = .ok (.aload_n 0, 1) := by decide +kernel
theorem dX4_listen_30 : decode cX4_listen 30 = .ok (.getfield 32, 3) := by decide +kernel
theorem dX4_listen_33 : decode cX4_listen 33 = .ok (.getfield 202, 3) := by decide +kernel
theorem dX4_listen_36 : decode cX4_listen 36 = .ok (.iload_n 1, 1) := by decide +kernel
theorem dX4_listen_37 : decode cX4_listen 37 = .ok (.iload 4, 2) := by decide +kernel
theorem dX4_listen_39 : decode cX4_listen 39 = .ok (.invokestatic 127, 3) := by decide +kernel
theorem dX4_listen_42 : decode cX4_listen 42 = .ok (.iload_n 3, 1) := by decide +kernel
theorem dX4_listen_43 : decode cX4_listen 43 = .ok (.iconst 1, 1) := by decide +kernel
theorem dX4_listen_44 : decode cX4_listen 44 = .ok (.if_icmp .ne 13, 3) := by decide +kernel
theorem dX4_listen_47 : decode cX4_listen 47 = .ok (.iload 4, 2) := by decide +kernel
theorem dX4_listen_49 : decode cX4_listen 49 = .ok (.iconst 1, 1) := by decide +kernel
theorem dX4_listen_50 : decode cX4_listen 50 = .ok (.if_icmp .ne 7, 3) := by decide +kernel
theorem dX4_listen_53 : decode cX4_listen 53 = .ok (.iconst 1, 1) := by decide +kernel
theorem dX4_listen_54 : decode cX4_listen 54 = .ok (.goto 4, 3) := by decide +kernel
theorem dX4_listen_57 : decode cX4_listen 57 = .ok (.iconst 0, 1) := by decide +kernel
theorem dX4_listen_58 : decode cX4_listen 58 = .ok (.istore 5, 2) := by decide +kernel
theorem dX4_listen_60 : decode cX4_listen 60 = .ok (.iconst 0, 1) := by decide +kernel
theorem dX4_listen_61 : decode cX4_listen 61 = .ok (.istore 6, 2) := by decide +kernel
theorem dX4_listen_63 : decode cX4_listen 63 = .ok (.iload 6, 2) := by decide +kernel
theorem dX4_listen_65 : decode cX4_listen 65 = .ok (.aload_n 0, 1) := by decide +kernel
theorem dX4_listen_66 : decode cX4_listen 66 = .ok (.getfield 12, 3) := by decide +kernel
theorem dX4_listen_69 : decode cX4_listen 69 = .ok (.getfield 93, 3) := by decide +kernel
theorem dX4_listen_72 : decode cX4_listen 72 = .ok (.if_icmp .ge 67, 3) := by decide +kernel
theorem dX4_listen_75 : decode cX4_listen 75 = .ok (.iload_n 2, 1) := by decide +kernel
theorem dX4_listen_76 : decode cX4_listen 76 = .ok (.iload 6, 2) := by decide +kernel
theorem dX4_listen_78 : decode cX4_listen 78 = .ok (.ishr, 1) := by decide +kernel
theorem dX4_listen_79 : decode cX4_listen 79 = .ok (.ifCond .eq 60, 3) := by decide +kernel
theorem dX4_listen_82 : decode cX4_listen 82 = .ok (.iload_n 2, 1) := by decide +kernel
theorem dX4_listen_83 : decode cX4_listen 83 = .ok (.iload 6, 2) := by decide +kernel
theorem dX4_listen_85 : decode cX4_listen 85 = .ok (.ishr, 1) := by decide +kernel
theorem dX4_listen_86 : decode cX4_listen 86 = .ok (.iconst 1, 1) := by decide +kernel
theorem dX4_listen_87 : decode cX4_listen 87 = .ok (.iand, 1) := by decide +kernel
theorem dX4_listen_88 : decode cX4_listen 88 = .ok (.iconst 1, 1) := by decide +kernel
theorem dX4_listen_89 : decode cX4_listen 89 = .ok (.if_icmp .ne 44, 3) := by decide +kernel
theorem dX4_listen_92 : decode cX4_listen 92 = .ok (.aload_n 0, 1) := by decide +kernel
theorem dX4_listen_93 : decode cX4_listen 93 = .ok (.getfield 32, 3) := by decide +kernel
theorem dX4_listen_96 : decode cX4_listen 96 = .ok (.getfield 205, 3) := by decide +kernel
theorem dX4_listen_99 : decode cX4_listen 99 = .ok (.iload 6, 2) := by decide +kernel
theorem dX4_listen_101 : decode cX4_listen 101 = .ok (.aload_n 0, 1) := by decide +kernel
theorem dX4_listen_102 : decode cX4_listen 102 = .ok (.getfield 32, 3) := by decide +kernel
theorem dX4_listen_105 : decode cX4_listen 105 = .ok (.getfield 205, 3) := by decide +kernel
theorem dX4_listen_108 : decode cX4_listen 108 = .ok (.iload 6, 2) := by decide +kernel
theorem dX4_listen_110 : decode cX4_listen 110 = .ok (.invokestatic 99, 3) := by decide +kernel
theorem dX4_listen_113 : decode cX4_listen 113 = .ok (.iconst 1, 1) := by decide +kernel
theorem dX4_listen_114 : decode cX4_listen 114 = .ok (.iadd, 1) := by decide +kernel
theorem dX4_listen_115 : decode cX4_listen 115 = .ok (.invokestatic 127, 3) := by decide +kernel
theorem dX4_listen_118 : decode cX4_listen 118 = .ok (.iload 5, 2) := by decide +kernel
theorem dX4_listen_120 : decode cX4_listen 120 = .ok (.ifCond .eq 13, 3) := by decide +kernel
theorem dX4_listen_123 : decode cX4_listen 123 = .ok (.aload_n 0, 1) := by decide +kernel
theorem dX4_listen_124 : decode cX4_listen 124 = .ok (.getfield 32, 3) := by decide +kernel
theorem dX4_listen_127 : decode cX4_listen 127 = .ok (.iload 6, 2) := by decide +kernel
theorem dX4_listen_129 : decode cX4_listen 129 = .ok (.iload_n 1, 1) := by decide +kernel
theorem dX4_listen_130 : decode cX4_listen 130 = .ok (.invokevirtual 208, 3) := by decide +kernel
theorem dX4_listen_133 : decode cX4_listen 133 = .ok (.iinc 6 1, 3) := by decide +kernel
theorem dX4_listen_136 : decode cX4_listen 136 = .ok (.goto (-73), 3) := by decide +kernel
theorem dX4_listen_139 : decode cX4_listen 139 = .ok (.iload 5, 2) := by decide +kernel
theorem dX4_listen_141 : decode cX4_listen 141 = .ok (.ifCond .eq 15, 3) := by decide +kernel
theorem dX4_listen_144 : decode cX4_listen 144 = .ok (.aload_n 0, 1) := by decide +kernel
theorem dX4_listen_145 : decode cX4_listen 145 = .ok (.dup, 1) := by decide +kernel
theorem dX4_listen_146 : decode cX4_listen 146 = .ok (.getfield 46, 3) := by decide +kernel
theorem dX4_listen_149 : decode cX4_listen 149 = .ok (.iload_n 2, 1) := by decide +kernel
theorem dX4_listen_150 : decode cX4_listen 150 = .ok (.iconst (-1), 1) := by decide +kernel
theorem dX4_listen_151 : decode cX4_listen 151 = .ok (.ixor, 1) := by decide +kernel
theorem dX4_listen_152 : decode cX4_listen 152 = .ok (.iand, 1) := by decide +kernel
theorem dX4_listen_153 : decode cX4_listen 153 = .ok (.putfield 46, 3) := by decide +kernel
theorem dX4_listen_156 : decode cX4_listen 156 = .ok (.iload 4, 2) := by decide +kernel
theorem dX4_listen_158 : decode cX4_listen 158 = .ok (.ireturn, 1) := by decide +kernel
theorem dX4_heardAt_0 : decode cX4_heardAt 0 = .ok (.iconst 0, 1) := by decide +kernel
theorem dX4_heardAt_1 : decode cX4_heardAt 1 = .ok (.istore_n 3, 1) := by decide +kernel
theorem dX4_heardAt_2 : decode cX4_heardAt 2 = .ok (.iload_n 3, 1) := by decide +kernel
theorem dX4_heardAt_3 : decode cX4_heardAt 3 = .ok (.aload_n 0, 1) := by decide +kernel
theorem dX4_heardAt_4 : decode cX4_heardAt 4 = .ok (.getfield 12, 3) := by decide +kernel
theorem dX4_heardAt_7 : decode cX4_heardAt 7 = .ok (.getfield 211, 3) := by decide +kernel
theorem dX4_heardAt_10 : decode cX4_heardAt 10 = .ok (.if_icmp .ge 44, 3) := by decide +kernel
theorem dX4_heardAt_13 : decode cX4_heardAt 13 = .ok (.aload_n 0, 1) := by decide +kernel
theorem dX4_heardAt_14 : decode cX4_heardAt 14 = .ok (.getfield 12, 3) := by decide +kernel
theorem dX4_heardAt_17 : decode cX4_heardAt 17 = .ok (.getfield 214, 3) := by decide +kernel
theorem dX4_heardAt_20 : decode cX4_heardAt 20 = .ok (.iload_n 3, 1) := by decide +kernel
theorem dX4_heardAt_21 : decode cX4_heardAt 21 = .ok (.invokestatic 99, 3) := by decide +kernel
theorem dX4_heardAt_24 : decode cX4_heardAt 24 = .ok (.iload_n 1, 1) := by decide +kernel
theorem dX4_heardAt_25 : decode cX4_heardAt 25 = .ok (.if_icmp .ne 23, 3) := by decide +kernel
theorem dX4_heardAt_28 : decode cX4_heardAt 28 = .ok (.iload_n 3, 1) := by decide +kernel
theorem dX4_heardAt_29 : decode cX4_heardAt 29 = .ok (.aload_n 0, 1) := by decide +kernel
theorem dX4_heardAt_30 : decode cX4_heardAt 30 = .ok (.getfield 40, 3) := by decide +kernel
theorem dX4_heardAt_33 : decode cX4_heardAt 33 = .ok (.if_icmp .eq 15, 3) := by decide +kernel
theorem dX4_heardAt_36 : decode cX4_heardAt 36 = .ok (.aload_n 0, 1) := by decide +kernel
theorem dX4_heardAt_37 : decode cX4_heardAt 37 = .ok (.getfield 12, 3) := by decide +kernel
theorem dX4_heardAt_40 : decode cX4_heardAt 40 = .ok (.getfield 217, 3) := by decide +kernel
theorem dX4_heardAt_43 : decode cX4_heardAt 43 = .ok (.iload_n 3, 1) := by decide +kernel
theorem dX4_heardAt_44 : decode cX4_heardAt 44 = .ok (.invokestatic 99, 3) := by decide +kernel
theorem dX4_heardAt_47 : decode cX4_heardAt 47 = .ok (.ireturn, 1) := by decide +kernel
theorem dX4_heardAt_48 : decode cX4_heardAt 48 = .ok (.iinc 3 1, 3) := by decide +kernel
theorem dX4_heardAt_51 : decode cX4_heardAt 51 = .ok (.goto (-49), 3) := by decide +kernel
theorem dX4_heardAt_54 : decode cX4_heardAt 54 = .ok (.iload_n 2, 1) := by decide +kernel
theorem dX4_heardAt_55 : decode cX4_heardAt 55 = .ok (.ireturn, 1) := by decide +kernel
theorem dX4_playByCounters_0 : decode cX4_playByCounters 0 = .ok (.iconst 0, 1) := by decide +kernel
theorem dX4_playByCounters_1 : decode cX4_playByCounters 1 = .ok (.istore_n 2, 1) := by decide +kernel
theorem dX4_playByCounters_2 : decode cX4_playByCounters 2 = .ok (.iconst 0, 1) := by decide +kernel
theorem dX4_playByCounters_3 : decode cX4_playByCounters 3 = .ok (.istore_n 3, 1) := by decide +kernel
theorem dX4_playByCounters_4 : decode cX4_playByCounters 4 = .ok (.iload_n 3, 1) := by decide +kernel
theorem dX4_playByCounters_5 : decode cX4_playByCounters 5 = .ok (.aload_n 0, 1) := by decide +kernel
theorem dX4_playByCounters_6 : decode cX4_playByCounters 6 = .ok (.getfield 12, 3) := by decide +kernel
theorem dX4_playByCounters_9 : decode cX4_playByCounters 9 = .ok (.getfield 93, 3) := by decide +kernel
theorem dX4_playByCounters_12 : decode cX4_playByCounters 12 = .ok (.if_icmp .ge 47, 3) := by decide +kernel
theorem dX4_playByCounters_15 : decode cX4_playByCounters 15 = .ok (.aload_n 0, 1) := by decide +kernel
theorem dX4_playByCounters_16 : decode cX4_playByCounters 16 = .ok (.getfield 46, 3) := by decide +kernel
theorem dX4_playByCounters_19 : decode cX4_playByCounters 19 = .ok (.iload_n 3, 1) := by decide +kernel
theorem dX4_playByCounters_20 : decode cX4_playByCounters 20 = .ok (.ishr, 1) := by decide +kernel
theorem dX4_playByCounters_21 : decode cX4_playByCounters 21 = .ok (.ifCond .eq 38, 3) := by decide +kernel
theorem dX4_playByCounters_24 : decode cX4_playByCounters 24 = .ok (.aload_n 0, 1) := by decide +kernel
theorem dX4_playByCounters_25 : decode cX4_playByCounters 25 = .ok (.getfield 46, 3) := by decide +kernel
theorem dX4_playByCounters_28 : decode cX4_playByCounters 28 = .ok (.iload_n 3, 1) := by decide +kernel
theorem dX4_playByCounters_29 : decode cX4_playByCounters 29 = .ok (.ishr, 1) := by decide +kernel
theorem dX4_playByCounters_30 : decode cX4_playByCounters 30 = .ok (.iconst 1, 1) := by decide +kernel
theorem dX4_playByCounters_31 : decode cX4_playByCounters 31 = .ok (.iand, 1) := by decide +kernel
theorem dX4_playByCounters_32 : decode cX4_playByCounters 32 = .ok (.iconst 1, 1) := by decide +kernel
theorem dX4_playByCounters_33 : decode cX4_playByCounters 33 = .ok (.if_icmp .ne 20, 3) := by decide +kernel
theorem dX4_playByCounters_36 : decode cX4_playByCounters 36 = .ok (.aload_n 0, 1) := by decide +kernel
theorem dX4_playByCounters_37 : decode cX4_playByCounters 37 = .ok (.getfield 25, 3) := by decide +kernel
theorem dX4_playByCounters_40 : decode cX4_playByCounters 40 = .ok (.iload_n 3, 1) := by decide +kernel
theorem dX4_playByCounters_41 : decode cX4_playByCounters 41 = .ok (.invokestatic 99, 3) := by decide +kernel
theorem dX4_playByCounters_44 : decode cX4_playByCounters 44 = .ok (.ifCond .ne 9, 3) := by decide +kernel
theorem dX4_playByCounters_47 : decode cX4_playByCounters 47 = .ok (.iload_n 2, 1) := by decide +kernel
theorem dX4_playByCounters_48 : decode cX4_playByCounters 48 = .ok (.iconst 1, 1) := by decide +kernel
theorem dX4_playByCounters_49 : decode cX4_playByCounters 49 = .ok (.iload_n 3, 1) := by decide +kernel
theorem dX4_playByCounters_50 : decode cX4_playByCounters 50 = .ok (.ishl, 1) := by decide +kernel
theorem dX4_playByCounters_51 : decode cX4_playByCounters 51 = .ok (.ior, 1) := by decide +kernel
theorem dX4_playByCounters_52 : decode cX4_playByCounters 52 = .ok (.istore_n 2, 1) := by decide +kernel
theorem dX4_playByCounters_53 : decode cX4_playByCounters 53 = .ok (.iinc 3 1, 3) := by decide +kernel
theorem dX4_playByCounters_56 : decode cX4_playByCounters 56 = .ok (.goto (-52), 3) := by decide +kernel
theorem dX4_playByCounters_59 : decode cX4_playByCounters 59 = .ok (.aload_n 0, 1) := by decide +kernel
theorem dX4_playByCounters_60 : decode cX4_playByCounters 60 = .ok (.iload_n 1, 1) := by decide +kernel
theorem dX4_playByCounters_61 : decode cX4_playByCounters 61 = .ok (.iload_n 2, 1) := by decide +kernel
theorem dX4_playByCounters_62 : decode cX4_playByCounters 62 = .ok (.invokevirtual 110, 3) := by decide +kernel
theorem dX4_playByCounters_65 : decode cX4_playByCounters 65 = .ok (.istore_n 3, 1) := by decide +kernel
theorem dX4_playByCounters_66 : decode cX4_playByCounters 66 = .ok (.iconst (-1), 1) := by decide +kernel
theorem dX4_playByCounters_67 : decode cX4_playByCounters 67 = .ok (.istore 4, 2) := by decide +kernel
theorem dX4_playByCounters_69 : decode cX4_playByCounters 69 = .ok (.iconst 0, 1) := by decide +kernel
theorem dX4_playByCounters_70 : decode cX4_playByCounters 70 = .ok (.istore 5, 2) := by decide +kernel
theorem dX4_playByCounters_72 : decode cX4_playByCounters 72 = .ok (.iload 5, 2) := by decide +kernel
theorem dX4_playByCounters_74 : decode cX4_playByCounters 74 = .ok (.aload_n 0, 1) := by decide +kernel
theorem dX4_playByCounters_75 : decode cX4_playByCounters 75 = .ok (.getfield 12, 3) := by decide +kernel
theorem dX4_playByCounters_78 : decode cX4_playByCounters 78 = .ok (.getfield 93, 3) := by decide +kernel
theorem dX4_playByCounters_81 : decode cX4_playByCounters 81 = .ok (.if_icmp .ge 88, 3) := by decide +kernel
theorem dX4_playByCounters_84 : decode cX4_playByCounters 84 = .ok (.aload_n 0, 1) := by decide +kernel
theorem dX4_playByCounters_85 : decode cX4_playByCounters 85 = .ok (.getfield 46, 3) := by decide +kernel
theorem dX4_playByCounters_88 : decode cX4_playByCounters 88 = .ok (.iload 5, 2) := by decide +kernel
theorem dX4_playByCounters_90 : decode cX4_playByCounters 90 = .ok (.ishr, 1) := by decide +kernel
theorem dX4_playByCounters_91 : decode cX4_playByCounters 91 = .ok (.ifCond .eq 78, 3) := by decide +kernel
theorem dX4_playByCounters_94 : decode cX4_playByCounters 94 = .ok (.aload_n 0, 1) := by decide +kernel
theorem dX4_playByCounters_95 : decode cX4_playByCounters 95 = .ok (.getfield 46, 3) := by decide +kernel
theorem dX4_playByCounters_98 : decode cX4_playByCounters 98 = .ok (.iload 5, 2) := by decide +kernel
theorem dX4_playByCounters_100 : decode cX4_playByCounters 100 = .ok (.ishr, 1) := by decide +kernel
theorem dX4_playByCounters_101 : decode cX4_playByCounters 101 = .ok (.iconst 1, 1) := by decide +kernel
theorem dX4_playByCounters_102 : decode cX4_playByCounters 102 = .ok (.iand, 1) := by decide +kernel
theorem dX4_playByCounters_103 : decode cX4_playByCounters 103 = .ok (.iconst 1, 1) := by decide +kernel
theorem dX4_playByCounters_104 : decode cX4_playByCounters 104 = .ok (.if_icmp .ne 59, 3) := by decide +kernel
theorem dX4_playByCounters_107 : decode cX4_playByCounters 107 = .ok (.aload_n 0, 1) := by decide +kernel
theorem dX4_playByCounters_108 : decode cX4_playByCounters 108 = .ok (.getfield 25, 3) := by decide +kernel
theorem dX4_playByCounters_111 : decode cX4_playByCounters 111 = .ok (.iload 5, 2) := by decide +kernel
theorem dX4_playByCounters_113 : decode cX4_playByCounters 113 = .ok (.aload_n 0, 1) := by decide +kernel
theorem dX4_playByCounters_114 : decode cX4_playByCounters 114 = .ok (.iload 5, 2) := by decide +kernel
theorem dX4_playByCounters_116 : decode cX4_playByCounters 116 = .ok (.iload_n 2, 1) := by decide +kernel
theorem dX4_playByCounters_117 : decode cX4_playByCounters 117 = .ok (.iload 5, 2) := by decide +kernel
theorem dX4_playByCounters_119 : decode cX4_playByCounters 119 = .ok (.ishr, 1) := by decide +kernel
theorem dX4_playByCounters_120 : decode cX4_playByCounters 120 = .ok (.iconst 1, 1) := by decide +kernel
theorem dX4_playByCounters_121 : decode cX4_playByCounters 121 = .ok (.iand, 1) := by decide +kernel
theorem dX4_playByCounters_122 : decode cX4_playByCounters 122 = .ok (.iconst 1, 1) := by decide +kernel
theorem dX4_playByCounters_123 : decode cX4_playByCounters 123 = .ok (.if_icmp .ne 7, 3) := by decide +kernel
theorem dX4_playByCounters_126 : decode cX4_playByCounters 126 = .ok (.iconst 1, 1) := by decide +kernel
theorem dX4_playByCounters_127 : decode cX4_playByCounters 127 = .ok (.goto 4, 3) := by decide +kernel
theorem dX4_playByCounters_130 : decode cX4_playByCounters 130 = .ok (.iconst 0, 1) := by decide +kernel
theorem dX4_playByCounters_131 : decode cX4_playByCounters 131 = .ok (.iload_n 3, 1) := by decide +kernel
theorem dX4_playByCounters_132 : decode cX4_playByCounters 132 = .ok (.iconst 2, 1) := by decide +kernel
theorem dX4_playByCounters_133 : decode cX4_playByCounters 133 = .ok (.if_icmp .ne 7, 3) := by decide +kernel
theorem dX4_playByCounters_136 : decode cX4_playByCounters 136 = .ok (.iconst 1, 1) := by decide +kernel
theorem dX4_playByCounters_137 : decode cX4_playByCounters 137 = .ok (.goto 4, 3) := by decide +kernel
theorem dX4_playByCounters_140 : decode cX4_playByCounters 140 = .ok (.iconst 0, 1) := by decide +kernel
theorem dX4_playByCounters_141 : decode cX4_playByCounters 141 = .ok (.invokevirtual 220, 3) := by decide +kernel
theorem dX4_playByCounters_144 : decode cX4_playByCounters 144 = .ok (.invokestatic 127, 3) := by decide +kernel
theorem dX4_playByCounters_147 : decode cX4_playByCounters 147 = .ok (.iload 4, 2) := by decide +kernel
theorem dX4_playByCounters_149 : decode cX4_playByCounters 149 = .ok (.aload_n 0, 1) := by decide +kernel
theorem dX4_playByCounters_150 : decode cX4_playByCounters 150 = .ok (.getfield 25, 3) := by decide +kernel
theorem dX4_playByCounters_153 : decode cX4_playByCounters 153 = .ok (.iload 5, 2) := by decide +kernel
theorem dX4_playByCounters_155 : decode cX4_playByCounters 155 = .ok (.invokestatic 99, 3) := by decide +kernel
theorem dX4_playByCounters_158 : decode cX4_playByCounters 158 = .ok (.invokestatic 224, 3) := by decide +kernel
theorem dX4_playByCounters_161 : decode cX4_playByCounters 161 = .ok (.istore 4, 2) := by decide +kernel
theorem dX4_playByCounters_163 : decode cX4_playByCounters 163 = .ok (.iinc 5 1, 3) := by decide +kernel
theorem dX4_playByCounters_166 : decode cX4_playByCounters 166 = .ok (.goto (-94), 3) := by decide +kernel
theorem dX4_playByCounters_169 : decode cX4_playByCounters 169 = .ok (.aload_n 0, 1) := by decide +kernel
theorem dX4_playByCounters_170 : decode cX4_playByCounters 170 = .ok (.getfield 32, 3) := by decide +kernel
theorem dX4_playByCounters_173 : decode cX4_playByCounters 173 = .ok (.getfield 134, 3) := by decide +kernel
theorem dX4_playByCounters_176 : decode cX4_playByCounters 176 = .ok (.iload_n 1, 1) := by decide +kernel
theorem dX4_playByCounters_177 : decode cX4_playByCounters 177 = .ok (.iload 4, 2) := by decide +kernel
theorem dX4_playByCounters_179 : decode cX4_playByCounters 179 = .ok (.iconst 1, 1) := by decide +kernel
theorem dX4_playByCounters_180 : decode cX4_playByCounters 180 = .ok (.iadd, 1) := by decide +kernel
theorem dX4_playByCounters_181 : decode cX4_playByCounters 181 = .ok (.invokestatic 127, 3) := by decide +kernel
theorem dX4_playByCounters_184 : decode cX4_playByCounters 184 = .ok (.return_, 1) := by decide +kernel
theorem dX4_counterBehind_0 : decode cX4_counterBehind 0 = .ok (.aload_n 0, 1) := by decide +kernel
theorem dX4_counterBehind_1 : decode cX4_counterBehind 1 = .ok (.getfield 25, 3) := by decide +kernel
theorem dX4_counterBehind_4 : decode cX4_counterBehind 4 = .ok (.iload_n 1, 1) := by decide +kernel
theorem dX4_counterBehind_5 : decode cX4_counterBehind 5 = .ok (.invokestatic 99, 3) := by decide +kernel
theorem dX4_counterBehind_8 : decode cX4_counterBehind 8 = .ok (.istore 4, 2) := by decide +kernel
theorem dX4_counterBehind_10 : decode cX4_counterBehind 10 = .ok (.iload_n 2, 1) := by decide +kernel
theorem dX4_counterBehind_11 : decode cX4_counterBehind 11 = .ok (.ifCond .eq 18, 3) := by decide +kernel
theorem dX4_counterBehind_14 : decode cX4_counterBehind 14 = .ok (.iload_n 3, 1) := by decide +kernel
theorem dX4_counterBehind_15 : decode cX4_counterBehind 15 = .ok (.ifCond .eq 11, 3) := by decide +kernel
theorem dX4_counterBehind_18 : decode cX4_counterBehind 18 = .ok (.aload_n 0, 1) := by decide +kernel
theorem dX4_counterBehind_19 : decode cX4_counterBehind 19 = .ok (.iload_n 1, 1) := by decide +kernel
theorem dX4_counterBehind_20 : decode cX4_counterBehind 20 = .ok (.invokevirtual 179, 3) := by decide +kernel
theorem dX4_counterBehind_23 : decode cX4_counterBehind 23 = .ok (.goto 5, 3) := by decide +kernel
theorem dX4_counterBehind_26 : decode cX4_counterBehind 26 = .ok (.iload 4, 2) := by decide +kernel
theorem dX4_counterBehind_28 : decode cX4_counterBehind 28 = .ok (.ireturn, 1) := by decide +kernel
theorem dX4_counterBehind_29 : decode cX4_counterBehind 29 = .ok (.iload_n 3, 1) := by decide +kernel
theorem dX4_counterBehind_30 : decode cX4_counterBehind 30 = .ok (.ifCond .eq 10, 3) := by decide +kernel
theorem dX4_counterBehind_33 : decode cX4_counterBehind 33 = .ok (.iload 4, 2) := by decide +kernel
theorem dX4_counterBehind_35 : decode cX4_counterBehind 35 = .ok (.iconst 1, 1) := by decide +kernel
theorem dX4_counterBehind_36 : decode cX4_counterBehind 36 = .ok (.iadd, 1) := by decide +kernel
theorem dX4_counterBehind_37 : decode cX4_counterBehind 37 = .ok (.goto 7, 3) := by decide +kernel
theorem dX4_counterBehind_40 : decode cX4_counterBehind 40 = .ok (.iload 4, 2) := by decide +kernel
theorem dX4_counterBehind_42 : decode cX4_counterBehind 42 = .ok (.iconst 1, 1) := by decide +kernel
theorem dX4_counterBehind_43 : decode cX4_counterBehind 43 = .ok (.isub, 1) := by decide +kernel
theorem dX4_counterBehind_44 : decode cX4_counterBehind 44 = .ok (.ireturn, 1) := by decide +kernel
theorem dX5_init_0 : decode cX5_init 0 = .ok (.aload_n 0, 1) := by decide +kernel
theorem dX5_init_1 : decode cX5_init 1 = .ok (.invokespecial 3, 3) := by decide +kernel
theorem dX5_init_4 : decode cX5_init 4 = .ok (.aload_n 0, 1) := by decide +kernel
theorem dX5_init_5 : decode cX5_init 5 = .ok (.new 9, 3) := by decide +kernel
theorem dX5_init_8 : decode cX5_init 8 = .ok (.dup, 1) := by decide +kernel
theorem dX5_init_9 : decode cX5_init 9 = .ok (.invokespecial 11, 3) := by decide +kernel
theorem dX5_init_12 : decode cX5_init 12 = .ok (.putfield 12, 3) := by decide +kernel
theorem dX5_init_15 : decode cX5_init 15 = .ok (.aload_n 0, 1) := by decide +kernel
theorem dX5_init_16 : decode cX5_init 16 = .ok (.new 18, 3) := by decide +kernel
theorem dX5_init_19 : decode cX5_init 19 = .ok (.dup, 1) := by decide +kernel
theorem dX5_init_20 : decode cX5_init 20 = .ok (.invokespecial 20, 3) := by decide +kernel
theorem dX5_init_23 : decode cX5_init 23 = .ok (.putfield 21, 3) := by decide +kernel
theorem dX5_init_26 : decode cX5_init 26 = .ok (.aload_n 0, 1) := by decide +kernel
theorem dX5_init_27 : decode cX5_init 27 = .ok (.iconst (-1), 1) := by decide +kernel
theorem dX5_init_28 : decode cX5_init 28 = .ok (.putfield 25, 3) := by decide +kernel
theorem dX5_init_31 : decode cX5_init 31 = .ok (.return_, 1) := by decide +kernel
theorem dX5_read_0 : decode cX5_read 0 = .ok (.aload_n 0, 1) := by decide +kernel
theorem dX5_read_1 : decode cX5_read 1 = .ok (.getfield 21, 3) := by decide +kernel
theorem dX5_read_4 : decode cX5_read 4 = .ok (.invokevirtual 29, 3) := by decide +kernel
theorem dX5_read_7 : decode cX5_read 7 = .ok (.aload_n 0, 1) := by decide +kernel
theorem dX5_read_8 : decode cX5_read 8 = .ok (.iconst 0, 1) := by decide +kernel
theorem dX5_read_9 : decode cX5_read 9 = .ok (.putfield 32, 3) := by decide +kernel
theorem dX5_read_12 : decode cX5_read 12 = .ok (.aload_n 0, 1) := by decide +kernel
theorem dX5_read_13 : decode cX5_read 13 = .ok (.iconst (-1), 1) := by decide +kernel
theorem dX5_read_14 : decode cX5_read 14 = .ok (.putfield 25, 3) := by decide +kernel
theorem dX5_read_17 : decode cX5_read 17 = .ok (.aload_n 0, 1) := by decide +kernel
theorem dX5_read_18 : decode cX5_read 18 = .ok (.iconst 0, 1) := by decide +kernel
theorem dX5_read_19 : decode cX5_read 19 = .ok (.putfield 35, 3) := by decide +kernel
theorem dX5_read_22 : decode cX5_read 22 = .ok (.iconst 0, 1) := by decide +kernel
theorem dX5_read_23 : decode cX5_read 23 = .ok (.istore_n 1, 1) := by decide +kernel
theorem dX5_read_24 : decode cX5_read 24 = .ok (.iload_n 1, 1) := by decide +kernel
theorem dX5_read_25 : decode cX5_read 25 = .ok (.sipush 500, 3) := by decide +kernel
theorem dX5_read_28 : decode cX5_read 28 = .ok (.if_icmp .gt 44, 3) := by decide +kernel
theorem dX5_read_31 : decode cX5_read 31 = .ok (.aload_n 0, 1) := by decide +kernel
theorem dX5_read_32 : decode cX5_read 32 = .ok (.invokevirtual 38, 3) := by decide +kernel
theorem dX5_read_35 : decode cX5_read 35 = .ok (.aload_n 0, 1) := by decide +kernel
theorem dX5_read_36 : decode cX5_read 36 = .ok (.getfield 41, 3) := by decide +kernel
theorem dX5_read_39 : decode cX5_read 39 = .ok (.ifCond .ne 5, 3) := by decide +kernel
theorem dX5_read_42 : decode cX5_read 42 = .ok (.iconst 1, 1) := by decide +kernel
theorem dX5_read_43 : decode cX5_read 43 = .ok (.ireturn, 1) := by decide +kernel
theorem dX5_read_44 : decode cX5_read 44 = .ok (.aload_n 0, 1) := by decide +kernel
theorem dX5_read_45 : decode cX5_read 45 = .ok (.invokevirtual 44, 3) := by decide +kernel
theorem dX5_read_48 : decode cX5_read 48 = .ok (.ifCond .ne 5, 3) := by decide +kernel
theorem dX5_read_51 : decode cX5_read 51 = .ok (.iconst 0, 1) := by decide +kernel
theorem dX5_read_52 : decode cX5_read 52 = .ok (.ireturn, 1) := by decide +kernel
theorem dX5_read_53 : decode cX5_read 53 = .ok (.aload_n 0, 1) := by decide +kernel
theorem dX5_read_54 : decode cX5_read 54 = .ok (.getfield 21, 3) := by decide +kernel
theorem dX5_read_57 : decode cX5_read 57 = .ok (.dup, 1) := by decide +kernel
theorem dX5_read_58 : decode cX5_read 58 = .ok (.getfield 48, 3) := by decide +kernel
theorem dX5_read_61 : decode cX5_read 61 = .ok (.iconst 1, 1) := by decide +kernel
theorem dX5_read_62 : decode cX5_read 62 = .ok (.iadd, 1) := by decide +kernel
theorem dX5_read_63 : decode cX5_read 63 = .ok (.putfield 48, 3) := by decide +kernel
theorem dX5_read_66 : decode cX5_read 66 = .ok (.iinc 1 1, 3) := by decide +kernel
theorem dX5_read_69 : decode cX5_read 69 = .ok (.goto (-45), 3) := by decide +kernel
theorem dX5_read_72 : decode cX5_read 72 = .ok (.iconst 1, 1) := by decide +kernel
theorem dX5_read_73 : decode cX5_read 73 = .ok (.ireturn, 1) := by decide +kernel
theorem dX5_readLine_0 : decode cX5_readLine 0 = .ok (.aload_n 0, 1) := by decide +kernel
theorem dX5_readLine_1 : decode cX5_readLine 1 = .ok (.ldc 51, 2) := by decide +kernel
theorem dX5_readLine_3 : decode cX5_readLine 3 = .ok (.invokevirtual 53, 3) := by decide +kernel
theorem dX5_readLine_6 : decode cX5_readLine 6 = .ok (.ifCond .eq 26, 3) := by decide +kernel
theorem dX5_readLine_9 : decode cX5_readLine 9 = .ok (.aload_n 0, 1) := by decide +kernel
theorem dX5_readLine_10 : decode cX5_readLine 10 = .ok (.getfield 21, 3) := by decide +kernel
theorem dX5_readLine_13 : decode cX5_readLine 13 = .ok (.getfield 48, 3) := by decide +kernel
theorem dX5_readLine_16 : decode cX5_readLine 16 = .ok (.ifCond .ne 10, 3) := by decide +kernel
theorem dX5_readLine_19 : decode cX5_readLine 19 = .ok (.aload_n 0, 1) := by decide +kernel
theorem dX5_readLine_20 : decode cX5_readLine 20 = .ok (.invokevirtual 57, 3) := by decide +kernel
theorem dX5_readLine_23 : decode cX5_readLine 23 = .ok (.goto 8, 3) := by decide +kernel
theorem dX5_readLine_26 : decode cX5_readLine 26 = .ok (.aload_n 0, 1) := by decide +kernel
theorem dX5_readLine_27 : decode cX5_readLine 27 = .ok (.iconst 1, 1) := by decide +kernel
theorem dX5_readLine_28 : decode cX5_readLine 28 = .ok (.invokevirtual 60, 3) := by decide +kernel
theorem dX5_readLine_31 : decode cX5_readLine 31 = .ok (.ireturn, 1) := by decide +kernel
theorem dX5_readLine_32 : decode cX5_readLine 32 = .ok (.aload_n 0, 1) := by decide +kernel
theorem dX5_readLine_33 : decode cX5_readLine 33 = .ok (.getfield 21, 3) := by decide +kernel
theorem dX5_readLine_36 : decode cX5_readLine 36 = .ok (.getfield 48, 3) := by decide +kernel
theorem dX5_readLine_39 : decode cX5_readLine 39 = .ok (.ifCond .le 17, 3) := by decide +kernel
theorem dX5_readLine_42 : decode cX5_readLine 42 = .ok (.aload_n 0, 1) := by decide +kernel
theorem dX5_readLine_43 : decode cX5_readLine 43 = .ok (.ldc 64, 2) := by decide +kernel
theorem dX5_readLine_45 : decode cX5_readLine 45 = .ok (.invokevirtual 53, 3) := by decide +kernel
theorem dX5_readLine_48 : decode cX5_readLine 48 = .ok (.ifCond .eq 8, 3) := by decide +kernel
theorem dX5_readLine_51 : decode cX5_readLine 51 = .ok (.aload_n 0, 1) := by decide +kernel
theorem dX5_readLine_52 : decode cX5_readLine 52 = .ok (.invokevirtual 66, 3) := by decide +kernel
theorem dX5_readLine_55 : decode cX5_readLine 55 = .ok (.ireturn, 1) := by decide +kernel
theorem dX5_readLine_56 : decode cX5_readLine 56 = .ok (.aload_n 0, 1) := by decide +kernel
theorem dX5_readLine_57 : decode cX5_readLine 57 = .ok (.getfield 21, 3) := by decide +kernel
theorem dX5_readLine_60 : decode cX5_readLine 60 = .ok (.getfield 48, 3) := by decide +kernel
theorem dX5_readLine_63 : decode cX5_readLine 63 = .ok (.ifCond .le 17, 3) := by decide +kernel
theorem dX5_readLine_66 : decode cX5_readLine 66 = .ok (.aload_n 0, 1) := by decide +kernel
theorem dX5_readLine_67 : decode cX5_readLine 67 = .ok (.ldc 69, 2) := by decide +kernel
theorem dX5_readLine_69 : decode cX5_readLine 69 = .ok (.invokevirtual 53, 3) := by decide +kernel
theorem dX5_readLine_72 : decode cX5_readLine 72 = .ok (.ifCond .eq 8, 3) := by decide +kernel
theorem dX5_readLine_75 : decode cX5_readLine 75 = .ok (.aload_n 0, 1) := by decide +kernel
theorem dX5_readLine_76 : decode cX5_readLine 76 = .ok (.invokevirtual 71, 3) := by decide +kernel
theorem dX5_readLine_79 : decode cX5_readLine 79 = .ok (.ireturn, 1) := by decide +kernel
theorem dX5_readLine_80 : decode cX5_readLine 80 = .ok (.aload_n 0, 1) := by decide +kernel
theorem dX5_readLine_81 : decode cX5_readLine 81 = .ok (.iconst 1, 1) := by decide +kernel
theorem dX5_readLine_82 : decode cX5_readLine 82 = .ok (.invokevirtual 60, 3) := by decide +kernel
theorem dX5_readLine_85 : decode cX5_readLine 85 = .ok (.ireturn, 1) := by decide +kernel
theorem dX5_readChannel_0 : decode cX5_readChannel 0 = .ok (.aload_n 0, 1) := by decide +kernel
theorem dX5_readChannel_1 : decode cX5_readChannel 1 = .ok (.ldc 74, 2) := by decide +kernel
theorem dX5_readChannel_3 : decode cX5_readChannel 3 = .ok (.invokevirtual 76, 3) := by decide +kernel
theorem dX5_readChannel_6 : decode cX5_readChannel 6 = .ok (.ifCond .eq 12, 3) := by decide +kernel
theorem dX5_readChannel_9 : decode cX5_readChannel 9 = .ok (.aload_n 0, 1) := by decide +kernel
theorem dX5_readChannel_10 : decode cX5_readChannel 10 = .ok (.iconst 0, 1) := by decide +kernel
theorem dX5_readChannel_11 : decode cX5_readChannel 11 = .ok (.iconst 3, 1) := by decide +kernel
theorem dX5_readChannel_12 : decode cX5_readChannel 12 = .ok (.invokevirtual 79, 3) := by decide +kernel
theorem dX5_readChannel_15 : decode cX5_readChannel 15 = .ok (.ifCond .ne 5, 3) := by decide +kernel
theorem dX5_readChannel_18 : decode cX5_readChannel 18 = .ok (.iconst 0, 1) := by decide +kernel
theorem dX5_readChannel_19 : decode cX5_readChannel 19 = .ok (.ireturn, 1) := by decide +kernel
theorem dX5_readChannel_20 : decode cX5_readChannel 20 = .ok (.aload_n 0, 1) := by decide +kernel
theorem dX5_readChannel_21 : decode cX5_readChannel 21 = .ok (.getfield 21, 3) := by decide +kernel
theorem dX5_readChannel_24 : decode cX5_readChannel 24 = .ok (.aload_n 0, 1) := by decide +kernel
theorem dX5_readChannel_25 : decode cX5_readChannel 25 = .ok (.getfield 83, 3) := by decide +kernel
theorem dX5_readChannel_28 : decode cX5_readChannel 28 = .ok (.putfield 86, 3) := by decide +kernel
theorem dX5_readChannel_31 : decode cX5_readChannel 31 = .ok (.aload_n 0, 1) := by decide +kernel
theorem dX5_readChannel_32 : decode cX5_readChannel 32 = .ok (.ldc 88, 2) := by decide +kernel
theorem dX5_readChannel_34 : decode cX5_readChannel 34 = .ok (.invokevirtual 76, 3) := by decide +kernel
theorem dX5_readChannel_37 : decode cX5_readChannel 37 = .ok (.ifCond .eq 14, 3) := by decide +kernel
theorem dX5_readChannel_40 : decode cX5_readChannel 40 = .ok (.aload_n 0, 1) := by decide +kernel
theorem dX5_readChannel_41 : decode cX5_readChannel 41 = .ok (.iconst 1, 1) := by decide +kernel
theorem dX5_readChannel_42 : decode cX5_readChannel 42 = .ok (.sipush 200, 3) := by decide +kernel
theorem dX5_readChannel_45 : decode cX5_readChannel 45 = .ok (.invokevirtual 79, 3) := by decide +kernel
theorem dX5_readChannel_48 : decode cX5_readChannel 48 = .ok (.ifCond .ne 5, 3) := by decide +kernel
theorem dX5_readChannel_51 : decode cX5_readChannel 51 = .ok (.iconst 0, 1) := by decide +kernel
theorem dX5_readChannel_52 : decode cX5_readChannel 52 = .ok (.ireturn, 1) := by decide +kernel
theorem dX5_readChannel_53 : decode cX5_readChannel 53 = .ok (.aload_n 0, 1) := by decide +kernel
theorem dX5_readChannel_54 : decode cX5_readChannel 54 = .ok (.getfield 21, 3) := by decide +kernel
theorem dX5_readChannel_57 : decode cX5_readChannel 57 = .ok (.aload_n 0, 1) := by decide +kernel
theorem dX5_readChannel_58 : decode cX5_readChannel 58 = .ok (.getfield 83, 3) := by decide +kernel
theorem dX5_readChannel_61 : decode cX5_readChannel 61 = .ok (.putfield 90, 3) := by decide +kernel
theorem dX5_readChannel_64 : decode cX5_readChannel 64 = .ok (.aload_n 0, 1) := by decide +kernel
theorem dX5_readChannel_65 : decode cX5_readChannel 65 = .ok (.ldc 92, 2) := by decide +kernel
theorem dX5_readChannel_67 : decode cX5_readChannel 67 = .ok (.invokevirtual 76, 3) := by decide +kernel
theorem dX5_readChannel_70 : decode cX5_readChannel 70 = .ok (.ifCond .eq 13, 3) := by decide +kernel
theorem dX5_readChannel_73 : decode cX5_readChannel 73 = .ok (.aload_n 0, 1) := by decide +kernel
theorem dX5_readChannel_74 : decode cX5_readChannel 74 = .ok (.iconst 0, 1) := by decide +kernel
theorem dX5_readChannel_75 : decode cX5_readChannel 75 = .ok (.bipush 9, 2) := by decide +kernel
theorem dX5_readChannel_77 : decode cX5_readChannel 77 = .ok (.invokevirtual 79, 3) := by decide +kernel
theorem dX5_readChannel_80 : decode cX5_readChannel 80 = .ok (.ifCond .ne 5, 3) := by decide +kernel
theorem dX5_readChannel_83 : decode cX5_readChannel 83 = .ok (.iconst 0, 1) := by decide +kernel
theorem dX5_readChannel_84 : decode cX5_readChannel 84 = .ok (.ireturn, 1) := by decide +kernel
theorem dX5_readChannel_85 : decode cX5_readChannel 85 = .ok (.aload_n 0, 1) := by decide +kernel
theorem dX5_readChannel_86 : decode cX5_readChannel 86 = .ok (.getfield 21, 3) := by decide +kernel
theorem dX5_readChannel_89 : decode cX5_readChannel 89 = .ok (.aload_n 0, 1) := by decide +kernel
theorem dX5_readChannel_90 : decode cX5_readChannel 90 = .ok (.getfield 83, 3) := by decide +kernel
theorem dX5_readChannel_93 : decode cX5_readChannel 93 = .ok (.putfield 94, 3) := by decide +kernel
theorem dX5_readChannel_96 : decode cX5_readChannel 96 = .ok (.aload_n 0, 1) := by decide +kernel
theorem dX5_readChannel_97 : decode cX5_readChannel 97 = .ok (.ldc 96, 2) := by decide +kernel
theorem dX5_readChannel_99 : decode cX5_readChannel 99 = .ok (.invokevirtual 76, 3) := by decide +kernel
theorem dX5_readChannel_102 : decode cX5_readChannel 102 = .ok (.ifCond .eq 13, 3) := by decide +kernel
theorem dX5_readChannel_105 : decode cX5_readChannel 105 = .ok (.aload_n 0, 1) := by decide +kernel
theorem dX5_readChannel_106 : decode cX5_readChannel 106 = .ok (.iconst 1, 1) := by decide +kernel
theorem dX5_readChannel_107 : decode cX5_readChannel 107 = .ok (.bipush 20, 2) := by decide +kernel
theorem dX5_readChannel_109 : decode cX5_readChannel 109 = .ok (.invokevirtual 79, 3) := by decide +kernel
theorem dX5_readChannel_112 : decode cX5_readChannel 112 = .ok (.ifCond .ne 5, 3) := by decide +kernel
theorem dX5_readChannel_115 : decode cX5_readChannel 115 = .ok (.iconst 0, 1) := by decide +kernel
theorem dX5_readChannel_116 : decode cX5_readChannel 116 = .ok (.ireturn, 1) := by decide +kernel
theorem dX5_readChannel_117 : decode cX5_readChannel 117 = .ok (.aload_n 0, 1) := by decide +kernel
theorem dX5_readChannel_118 : decode cX5_readChannel 118 = .ok (.getfield 21, 3) := by decide +kernel
theorem dX5_readChannel_121 : decode cX5_readChannel 121 = .ok (.aload_n 0, 1) := by decide +kernel
theorem dX5_readChannel_122 : decode cX5_readChannel 122 = .ok (.getfield 83, 3) := by decide +kernel
theorem dX5_readChannel_125 : decode cX5_readChannel 125 = .ok (.putfield 98, 3) := by decide +kernel
theorem dX5_readChannel_128 : decode cX5_readChannel 128 = .ok (.aload_n 0, 1) := by decide +kernel
theorem dX5_readChannel_129 : decode cX5_readChannel 129 = .ok (.invokevirtual 100, 3) := by decide +kernel
theorem dX5_readChannel_132 : decode cX5_readChannel 132 = .ok (.ireturn, 1) := by decide +kernel
theorem dX5_readSender_0 : decode cX5_readSender 0 = .ok (.aload_n 0, 1) := by decide +kernel
theorem dX5_readSender_1 : decode cX5_readSender 1 = .ok (.getfield 21, 3) := by decide +kernel
theorem dX5_readSender_4 : decode cX5_readSender 4 = .ok (.getfield 103, 3) := by decide +kernel
theorem dX5_readSender_7 : decode cX5_readSender 7 = .ok (.bipush 10, 2) := by decide +kernel
theorem dX5_readSender_9 : decode cX5_readSender 9 = .ok (.if_icmp .lt 9, 3) := by decide +kernel
theorem dX5_readSender_12 : decode cX5_readSender 12 = .ok (.aload_n 0, 1) := by decide +kernel
theorem dX5_readSender_13 : decode cX5_readSender 13 = .ok (.iconst 3, 1) := by decide +kernel
theorem dX5_readSender_14 : decode cX5_readSender 14 = .ok (.invokevirtual 60, 3) := by decide +kernel
theorem dX5_readSender_17 : decode cX5_readSender 17 = .ok (.ireturn, 1) := by decide +kernel
theorem dX5_readSender_18 : decode cX5_readSender 18 = .ok (.aload_n 0, 1) := by decide +kernel
theorem dX5_readSender_19 : decode cX5_readSender 19 = .ok (.ldc 106, 2) := by decide +kernel
theorem dX5_readSender_21 : decode cX5_readSender 21 = .ok (.invokevirtual 76, 3) := by decide +kernel
theorem dX5_readSender_24 : decode cX5_readSender 24 = .ok (.ifCond .eq 14, 3) := by decide +kernel
theorem dX5_readSender_27 : decode cX5_readSender 27 = .ok (.aload_n 0, 1) := by decide +kernel
theorem dX5_readSender_28 : decode cX5_readSender 28 = .ok (.iconst 0, 1) := by decide +kernel
theorem dX5_readSender_29 : decode cX5_readSender 29 = .ok (.sipush 199, 3) := by decide +kernel
theorem dX5_readSender_32 : decode cX5_readSender 32 = .ok (.invokevirtual 79, 3) := by decide +kernel
theorem dX5_readSender_35 : decode cX5_readSender 35 = .ok (.ifCond .ne 5, 3) := by decide +kernel
theorem dX5_readSender_38 : decode cX5_readSender 38 = .ok (.iconst 0, 1) := by decide +kernel
theorem dX5_readSender_39 : decode cX5_readSender 39 = .ok (.ireturn, 1) := by decide +kernel
theorem dX5_readSender_40 : decode cX5_readSender 40 = .ok (.aload_n 0, 1) := by decide +kernel
theorem dX5_readSender_41 : decode cX5_readSender 41 = .ok (.getfield 83, 3) := by decide +kernel
theorem dX5_readSender_44 : decode cX5_readSender 44 = .ok (.istore_n 1, 1) := by decide +kernel
theorem dX5_readSender_45 : decode cX5_readSender 45 = .ok (.aload_n 0, 1) := by decide +kernel
theorem dX5_readSender_46 : decode cX5_readSender 46 = .ok (.ldc 108, 2) := by decide +kernel
theorem dX5_readSender_48 : decode cX5_readSender 48 = .ok (.invokevirtual 76, 3) := by decide +kernel
theorem dX5_readSender_51 : decode cX5_readSender 51 = .ok (.ifCond .eq 10, 3) := by decide +kernel
theorem dX5_readSender_54 : decode cX5_readSender 54 = .ok (.aload_n 0, 1) := by decide +kernel
theorem dX5_readSender_55 : decode cX5_readSender 55 = .ok (.invokevirtual 110, 3) := by decide +kernel
theorem dX5_readSender_58 : decode cX5_readSender 58 = .ok (.ifCond .ne 5, 3) := by decide +kernel
theorem dX5_readSender_61 : decode cX5_readSender 61 = .ok (.iconst 0, 1) := by decide +kernel
theorem dX5_readSender_62 : decode cX5_readSender 62 = .ok (.ireturn, 1) := by decide +kernel
theorem dX5_readSender_63 : decode cX5_readSender 63 = .ok (.aload_n 0, 1) := by decide +kernel
theorem dX5_readSender_64 : decode cX5_readSender 64 = .ok (.getfield 21, 3) := by decide +kernel
theorem dX5_readSender_67 : decode cX5_readSender 67 = .ok (.iload_n 1, 1) := by decide +kernel
theorem dX5_readSender_68 : decode cX5_readSender 68 = .ok (.aload_n 0, 1) := by decide +kernel
theorem dX5_readSender_69 : decode cX5_readSender 69 = .ok (.getfield 83, 3) := by decide +kernel
theorem dX5_readSender_72 : decode cX5_readSender 72 = .ok (.aload_n 0, 1) := by decide +kernel
theorem dX5_readSender_73 : decode cX5_readSender 73 = .ok (.getfield 35, 3) := by decide +kernel
theorem dX5_readSender_76 : decode cX5_readSender 76 = .ok (.aload_n 0, 1) := by decide +kernel
theorem dX5_readSender_77 : decode cX5_readSender 77 = .ok (.getfield 113, 3) := by decide +kernel
theorem dX5_readSender_80 : decode cX5_readSender 80 = .ok (.isub, 1) := by decide +kernel
theorem dX5_readSender_81 : decode cX5_readSender 81 = .ok (.invokevirtual 116, 3) := by decide +kernel
theorem dX5_readSender_84 : decode cX5_readSender 84 = .ok (.aload_n 0, 1) := by decide +kernel
theorem dX5_readSender_85 : decode cX5_readSender 85 = .ok (.invokevirtual 100, 3) := by decide +kernel
theorem dX5_readSender_88 : decode cX5_readSender 88 = .ok (.ireturn, 1) := by decide +kernel
theorem dX5_readNoise_0 : decode cX5_readNoise 0 = .ok (.aload_n 0, 1) := by decide +kernel
theorem dX5_readNoise_1 : decode cX5_readNoise 1 = .ok (.getfield 21, 3) := by decide +kernel
theorem dX5_readNoise_4 : decode cX5_readNoise 4 = .ok (.getfield 120, 3) := by decide +kernel
theorem dX5_readNoise_7 : decode cX5_readNoise 7 = .ok (.bipush 10, 2) := by decide +kernel
theorem dX5_readNoise_9 : decode cX5_readNoise 9 = .ok (.if_icmp .lt 9, 3) := by decide +kernel
theorem dX5_readNoise_12 : decode cX5_readNoise 12 = .ok (.aload_n 0, 1) := by decide +kernel
theorem dX5_readNoise_13 : decode cX5_readNoise 13 = .ok (.iconst 3, 1) := by decide +kernel
theorem dX5_readNoise_14 : decode cX5_readNoise 14 = .ok (.invokevirtual 60, 3) := by decide +kernel
theorem dX5_readNoise_17 : decode cX5_readNoise 17 = .ok (.ireturn, 1) := by decide +kernel
theorem dX5_readNoise_18 : decode cX5_readNoise 18 = .ok (.aload_n 0, 1) := by decide +kernel
theorem dX5_readNoise_19 : decode cX5_readNoise 19 = .ok (.ldc 106, 2) := by decide +kernel
theorem dX5_readNoise_21 : decode cX5_readNoise 21 = .ok (.invokevirtual 76, 3) := by decide +kernel
theorem dX5_readNoise_24 : decode cX5_readNoise 24 = .ok (.ifCond .eq 14, 3) := by decide +kernel
theorem dX5_readNoise_27 : decode cX5_readNoise 27 = .ok (.aload_n 0, 1) := by decide +kernel
theorem dX5_readNoise_28 : decode cX5_readNoise 28 = .ok (.iconst 0, 1) := by decide +kernel
theorem dX5_readNoise_29 : decode cX5_readNoise 29 = .ok (.sipush 199, 3) := by decide +kernel
theorem dX5_readNoise_32 : decode cX5_readNoise 32 = .ok (.invokevirtual 79, 3) := by decide +kernel
theorem dX5_readNoise_35 : decode cX5_readNoise 35 = .ok (.ifCond .ne 5, 3) := by decide +kernel
theorem dX5_readNoise_38 : decode cX5_readNoise 38 = .ok (.iconst 0, 1) := by decide +kernel
theorem dX5_readNoise_39 : decode cX5_readNoise 39 = .ok (.ireturn, 1) := by decide +kernel
theorem dX5_readNoise_40 : decode cX5_readNoise 40 = .ok (.aload_n 0, 1) := by decide +kernel
theorem dX5_readNoise_41 : decode cX5_readNoise 41 = .ok (.getfield 21, 3) := by decide +kernel
theorem dX5_readNoise_44 : decode cX5_readNoise 44 = .ok (.aload_n 0, 1) := by decide +kernel
theorem dX5_readNoise_45 : decode cX5_readNoise 45 = .ok (.getfield 83, 3) := by decide +kernel
theorem dX5_readNoise_48 : decode cX5_readNoise 48 = .ok (.invokevirtual 123, 3) := by decide +kernel
theorem dX5_readNoise_51 : decode cX5_readNoise 51 = .ok (.ifCond .eq 9, 3) := by decide +kernel
theorem dX5_readNoise_54 : decode cX5_readNoise 54 = .ok (.aload_n 0, 1) := by decide +kernel
theorem dX5_readNoise_55 : decode cX5_readNoise 55 = .ok (.iconst 2, 1) := by decide +kernel
theorem dX5_readNoise_56 : decode cX5_readNoise 56 = .ok (.invokevirtual 60, 3) := by decide +kernel
theorem dX5_readNoise_59 : decode cX5_readNoise 59 = .ok (.ireturn, 1) := by decide +kernel
theorem dX5_readNoise_60 : decode cX5_readNoise 60 = .ok (.aload_n 0, 1) := by decide +kernel
theorem dX5_readNoise_61 : decode cX5_readNoise 61 = .ok (.getfield 83, 3) := by decide +kernel
theorem dX5_readNoise_64 : decode cX5_readNoise 64 = .ok (.istore_n 1, 1) := by decide +kernel
theorem dX5_readNoise_65 : decode cX5_readNoise 65 = .ok (.aload_n 0, 1) := by decide +kernel
theorem dX5_readNoise_66 : decode cX5_readNoise 66 = .ok (.ldc 126, 2) := by decide +kernel
theorem dX5_readNoise_68 : decode cX5_readNoise 68 = .ok (.invokevirtual 76, 3) := by decide +kernel
theorem dX5_readNoise_71 : decode cX5_readNoise 71 = .ok (.ifCond .eq 10, 3) := by decide +kernel
theorem dX5_readNoise_74 : decode cX5_readNoise 74 = .ok (.aload_n 0, 1) := by decide +kernel
theorem dX5_readNoise_75 : decode cX5_readNoise 75 = .ok (.invokevirtual 128, 3) := by decide +kernel
theorem dX5_readNoise_78 : decode cX5_readNoise 78 = .ok (.ifCond .ne 5, 3) := by decide +kernel
theorem dX5_readNoise_81 : decode cX5_readNoise 81 = .ok (.iconst 0, 1) := by decide +kernel
theorem dX5_readNoise_82 : decode cX5_readNoise 82 = .ok (.ireturn, 1) := by decide +kernel
theorem dX5_readNoise_83 : decode cX5_readNoise 83 = .ok (.aload_n 0, 1) := by decide +kernel
theorem dX5_readNoise_84 : decode cX5_readNoise 84 = .ok (.getfield 21, 3) := by decide +kernel
theorem dX5_readNoise_87 : decode cX5_readNoise 87 = .ok (.iload_n 1, 1) := by decide +kernel
theorem dX5_readNoise_88 : decode cX5_readNoise 88 = .ok (.aload_n 0, 1) := by decide +kernel
theorem dX5_readNoise_89 : decode cX5_readNoise 89 = .ok (.getfield 83, 3) := by decide +kernel
theorem dX5_readNoise_92 : decode cX5_readNoise 92 = .ok (.invokevirtual 131, 3) := by decide +kernel
theorem dX5_readNoise_95 : decode cX5_readNoise 95 = .ok (.aload_n 0, 1) := by decide +kernel
theorem dX5_readNoise_96 : decode cX5_readNoise 96 = .ok (.invokevirtual 100, 3) := by decide +kernel
theorem dX5_readNoise_99 : decode cX5_readNoise 99 = .ok (.ireturn, 1) := by decide +kernel
theorem dX5_readWord_0 : decode cX5_readWord 0 = .ok (.aload_n 0, 1) := by decide +kernel
theorem dX5_readWord_1 : decode cX5_readWord 1 = .ok (.invokevirtual 38, 3) := by decide +kernel
theorem dX5_readWord_4 : decode cX5_readWord 4 = .ok (.aload_n 0, 1) := by decide +kernel
theorem dX5_readWord_5 : decode cX5_readWord 5 = .ok (.aload_n 1, 1) := by decide +kernel
theorem dX5_readWord_6 : decode cX5_readWord 6 = .ok (.invokevirtual 53, 3) := by decide +kernel
theorem dX5_readWord_9 : decode cX5_readWord 9 = .ok (.ifCond .ne 11, 3) := by decide +kernel
theorem dX5_readWord_12 : decode cX5_readWord 12 = .ok (.aload_n 0, 1) := by decide +kernel
theorem dX5_readWord_13 : decode cX5_readWord 13 = .ok (.iconst 1, 1) := by decide +kernel
theorem dX5_readWord_14 : decode cX5_readWord 14 = .ok (.invokevirtual 60, 3) := by decide +kernel
theorem dX5_readWord_17 : decode cX5_readWord 17 = .ok (.ifCond .eq 7, 3) := by decide +kernel
theorem dX5_readWord_20 : decode cX5_readWord 20 = .ok (.iconst 1, 1) := by decide +kernel
theorem dX5_readWord_21 : decode cX5_readWord 21 = .ok (.goto 4, 3) := by decide +kernel
theorem dX5_readWord_24 : decode cX5_readWord 24 = .ok (.iconst 0, 1) := by decide +kernel
theorem dX5_readWord_25 : decode cX5_readWord 25 = .ok (.ireturn, 1) := by decide +kernel
theorem dX5_readNumber_0 : decode cX5_readNumber 0 = .ok (.aload_n 0, 1) := by decide +kernel
theorem dX5_readNumber_1 : decode cX5_readNumber 1 = .ok (.invokevirtual 38, 3) := by decide +kernel
theorem dX5_readNumber_4 : decode cX5_readNumber 4 = .ok (.aload_n 0, 1) := by decide +kernel
theorem dX5_readNumber_5 : decode cX5_readNumber 5 = .ok (.getfield 41, 3) := by decide +kernel
theorem dX5_readNumber_8 : decode cX5_readNumber 8 = .ok (.iconst 2, 1) := by decide +kernel
theorem dX5_readNumber_9 : decode cX5_readNumber 9 = .ok (.if_icmp .eq 9, 3) := by decide +kernel
theorem dX5_readNumber_12 : decode cX5_readNumber 12 = .ok (.aload_n 0, 1) := by decide +kernel
theorem dX5_readNumber_13 : decode cX5_readNumber 13 = .ok (.iconst 1, 1) := by decide +kernel
theorem dX5_readNumber_14 : decode cX5_readNumber 14 = .ok (.invokevirtual 60, 3) := by decide +kernel
theorem dX5_readNumber_17 : decode cX5_readNumber 17 = .ok (.ireturn, 1) := by decide +kernel
theorem dX5_readNumber_18 : decode cX5_readNumber 18 = .ok (.aload_n 0, 1) := by decide +kernel
theorem dX5_readNumber_19 : decode cX5_readNumber 19 = .ok (.iconst 0, 1) := by decide +kernel
theorem dX5_readNumber_20 : decode cX5_readNumber 20 = .ok (.putfield 83, 3) := by decide +kernel
theorem dX5_readNumber_23 : decode cX5_readNumber 23 = .ok (.aload_n 0, 1) := by decide +kernel
theorem dX5_readNumber_24 : decode cX5_readNumber 24 = .ok (.getfield 113, 3) := by decide +kernel
theorem dX5_readNumber_27 : decode cX5_readNumber 27 = .ok (.istore_n 3, 1) := by decide +kernel
theorem dX5_readNumber_28 : decode cX5_readNumber 28 = .ok (.iload_n 3, 1) := by decide +kernel
theorem dX5_readNumber_29 : decode cX5_readNumber 29 = .ok (.aload_n 0, 1) := by decide +kernel
theorem dX5_readNumber_30 : decode cX5_readNumber 30 = .ok (.getfield 35, 3) := by decide +kernel
theorem dX5_readNumber_33 : decode cX5_readNumber 33 = .ok (.if_icmp .ge 50, 3) := by decide +kernel
theorem dX5_readNumber_36 : decode cX5_readNumber 36 = .ok (.aload_n 0, 1) := by decide +kernel
theorem dX5_readNumber_37 : decode cX5_readNumber 37 = .ok (.aload_n 0, 1) := by decide +kernel
theorem dX5_readNumber_38 : decode cX5_readNumber 38 = .ok (.getfield 83, 3) := by decide +kernel
theorem dX5_readNumber_41 : decode cX5_readNumber 41 = .ok (.bipush 10, 2) := by decide +kernel
theorem dX5_readNumber_43 : decode cX5_readNumber 43 = .ok (.imul, 1) := by decide +kernel
theorem dX5_readNumber_44 : decode cX5_readNumber 44 = .ok (.aload_n 0, 1) := by decide +kernel
theorem dX5_readNumber_45 : decode cX5_readNumber 45 = .ok (.getfield 12, 3) := by decide +kernel
theorem dX5_readNumber_48 : decode cX5_readNumber 48 = .ok (.getfield 135, 3) := by decide +kernel
theorem dX5_readNumber_51 : decode cX5_readNumber 51 = .ok (.iload_n 3, 1) := by decide +kernel
theorem dX5_readNumber_52 : decode cX5_readNumber 52 = .ok (.invokestatic 139, 3) := by decide +kernel
theorem dX5_readNumber_55 : decode cX5_readNumber 55 = .ok (.iadd, 1) := by decide +kernel
theorem dX5_readNumber_56 : decode cX5_readNumber 56 = .ok (.bipush 48, 2) := by decide +kernel
theorem dX5_readNumber_58 : decode cX5_readNumber 58 = .ok (.isub, 1) := by decide +kernel
theorem dX5_readNumber_59 : decode cX5_readNumber 59 = .ok (.putfield 83, 3) := by decide +kernel
theorem dX5_readNumber_62 : decode cX5_readNumber 62 = .ok (.aload_n 0, 1) := by decide +kernel
theorem dX5_readNumber_63 : decode cX5_readNumber 63 = .ok (.getfield 83, 3) := by decide +kernel
theorem dX5_readNumber_66 : decode cX5_readNumber 66 = .ok (.ldc 142, 2) := by decide +kernel
theorem dX5_readNumber_68 : decode cX5_readNumber 68 = .ok (.if_icmp .le 9, 3) := by decide +kernel
theorem dX5_readNumber_71 : decode cX5_readNumber 71 = .ok (.aload_n 0, 1) := by decide +kernel
theorem dX5_readNumber_72 : decode cX5_readNumber 72 = .ok (.ldc 142, 2) := by decide +kernel
theorem dX5_readNumber_74 : decode cX5_readNumber 74 = .ok (.putfield 83, 3) := by decide +kernel
theorem dX5_readNumber_77 : decode cX5_readNumber 77 = .ok (.iinc 3 1, 3) := by decide +kernel
theorem dX5_readNumber_80 : decode cX5_readNumber 80 = .ok (.goto (-52), 3) := by decide +kernel
theorem dX5_readNumber_83 : decode cX5_readNumber 83 = .ok (.aload_n 0, 1) := by decide +kernel
theorem dX5_readNumber_84 : decode cX5_readNumber 84 = .ok (.getfield 83, 3) := by decide +kernel
theorem dX5_readNumber_87 : decode cX5_readNumber 87 = .ok (.iload_n 1, 1) := by decide +kernel
theorem dX5_readNumber_88 : decode cX5_readNumber 88 = .ok (.if_icmp .lt 11, 3) := by decide +kernel
theorem dX5_readNumber_91 : decode cX5_readNumber 91 = .ok (.aload_n 0, 1) := by decide +kernel
theorem dX5_readNumber_92 : decode cX5_readNumber 92 = .ok (.getfield 83, 3) := by decide +kernel
theorem dX5_readNumber_95 : decode cX5_readNumber 95 = .ok (.iload_n 2, 1) := by decide +kernel
theorem dX5_readNumber_96 : decode cX5_readNumber 96 = .ok (.if_icmp .le 11, 3) := by decide +kernel
theorem dX5_readNumber_99 : decode cX5_readNumber 99 = .ok (.aload_n 0, 1) := by decide +kernel
theorem dX5_readNumber_100 : decode cX5_readNumber 100 = .ok (.iconst 2, 1) := by decide +kernel
theorem dX5_readNumber_101 : decode cX5_readNumber 101 = .ok (.invokevirtual 60, 3) := by decide +kernel
theorem dX5_readNumber_104 : decode cX5_readNumber 104 = .ok (.ifCond .eq 7, 3) := by decide +kernel
theorem dX5_readNumber_107 : decode cX5_readNumber 107 = .ok (.iconst 1, 1) := by decide +kernel
theorem dX5_readNumber_108 : decode cX5_readNumber 108 = .ok (.goto 4, 3) := by decide +kernel
theorem dX5_readNumber_111 : decode cX5_readNumber 111 = .ok (.iconst 0, 1) := by decide +kernel
theorem dX5_readNumber_112 : decode cX5_readNumber 112 = .ok (.ireturn, 1) := by decide +kernel
theorem dX5_readBits_0 : decode cX5_readBits 0 = .ok (.aload_n 0, 1) := by decide +kernel
theorem dX5_readBits_1 : decode cX5_readBits 1 = .ok (.invokevirtual 38, 3) := by decide +kernel
theorem dX5_readBits_4 : decode cX5_readBits 4 = .ok (.aload_n 0, 1) := by decide +kernel
theorem dX5_readBits_5 : decode cX5_readBits 5 = .ok (.getfield 41, 3) := by decide +kernel
