theorem dX0_init_0 : decode cX0_init 0 = .ok (.aload_n 0, 1) := by decide +kernel
theorem dX0_init_1 : decode cX0_init 1 = .ok (.invokespecial 1, 3) := by decide +kernel
theorem dX0_init_4 : decode cX0_init 4 = .ok (.aload_n 0, 1) := by decide +kernel
theorem dX0_init_5 : decode cX0_init 5 = .ok (.iload_n 1, 1) := by decide +kernel
theorem dX0_init_6 : decode cX0_init 6 = .ok (.iconst 4, 1) := by decide +kernel
theorem dX0_init_7 : decode cX0_init 7 = .ok (.invokestatic 9, 3) := by decide +kernel
theorem dX0_init_10 : decode cX0_init 10 = .ok (.putfield 13, 3) := by decide +kernel
theorem dX0_init_13 : decode cX0_init 13 = .ok (.aload_n 0, 1) := by decide +kernel
theorem dX0_init_14 : decode cX0_init 14 = .ok (.iload_n 2, 1) := by decide +kernel
theorem dX0_init_15 : decode cX0_init 15 = .ok (.bipush 12, 2) := by decide +kernel
theorem dX0_init_17 : decode cX0_init 17 = .ok (.invokestatic 9, 3) := by decide +kernel
theorem dX0_init_20 : decode cX0_init 20 = .ok (.putfield 17, 3) := by decide +kernel
theorem dX0_init_23 : decode cX0_init 23 = .ok (.aload_n 0, 1) := by decide +kernel
theorem dX0_init_24 : decode cX0_init 24 = .ok (.iload_n 3, 1) := by decide +kernel
theorem dX0_init_25 : decode cX0_init 25 = .ok (.iconst 4, 1) := by decide +kernel
theorem dX0_init_26 : decode cX0_init 26 = .ok (.invokestatic 9, 3) := by decide +kernel
theorem dX0_init_29 : decode cX0_init 29 = .ok (.putfield 20, 3) := by decide +kernel
theorem dX0_init_32 : decode cX0_init 32 = .ok (.aload_n 0, 1) := by decide +kernel
theorem dX0_init_33 : decode cX0_init 33 = .ok (.iload 4, 2) := by decide +kernel
theorem dX0_init_35 : decode cX0_init 35 = .ok (.bipush 6, 2) := by decide +kernel
theorem dX0_init_37 : decode cX0_init 37 = .ok (.invokestatic 9, 3) := by decide +kernel
theorem dX0_init_40 : decode cX0_init 40 = .ok (.putfield 23, 3) := by decide +kernel
theorem dX0_init_43 : decode cX0_init 43 = .ok (.aload_n 0, 1) := by decide +kernel
theorem dX0_init_44 : decode cX0_init 44 = .ok (.aload_n 0, 1) := by decide +kernel
theorem dX0_init_45 : decode cX0_init 45 = .ok (.getfield 13, 3) := by decide +kernel
theorem dX0_init_48 : decode cX0_init 48 = .ok (.newarray .int, 2) := by decide +kernel
theorem dX0_init_50 : decode cX0_init 50 = .ok (.putfield 26, 3) := by decide +kernel
theorem dX0_init_53 : decode cX0_init 53 = .ok (.aload_n 0, 1) := by decide +kernel
theorem dX0_init_54 : decode cX0_init 54 = .ok (.aload_n 0, 1) := by decide +kernel
theorem dX0_init_55 : decode cX0_init 55 = .ok (.getfield 17, 3) := by decide +kernel
theorem dX0_init_58 : decode cX0_init 58 = .ok (.iconst 1, 1) := by decide +kernel
theorem dX0_init_59 : decode cX0_init 59 = .ok (.iadd, 1) := by decide +kernel
theorem dX0_init_60 : decode cX0_init 60 = .ok (.aload_n 0, 1) := by decide +kernel
theorem dX0_init_61 : decode cX0_init 61 = .ok (.getfield 13, 3) := by decide +kernel
theorem dX0_init_64 : decode cX0_init 64 = .ok (.imul, 1) := by decide +kernel
theorem dX0_init_65 : decode cX0_init 65 = .ok (.putfield 30, 3) := by decide +kernel
theorem dX0_init_68 : decode cX0_init 68 = .ok (.aload_n 0, 1) := by decide +kernel
theorem dX0_init_69 : decode cX0_init 69 = .ok (.aload_n 0, 1) := by decide +kernel
theorem dX0_init_70 : decode cX0_init 70 = .ok (.getfield 30, 3) := by decide +kernel
theorem dX0_init_73 : decode cX0_init 73 = .ok (.aload_n 0, 1) := by decide +kernel
theorem dX0_init_74 : decode cX0_init 74 = .ok (.getfield 20, 3) := by decide +kernel
theorem dX0_init_77 : decode cX0_init 77 = .ok (.aload_n 0, 1) := by decide +kernel
theorem dX0_init_78 : decode cX0_init 78 = .ok (.getfield 23, 3) := by decide +kernel
theorem dX0_init_81 : decode cX0_init 81 = .ok (.imul, 1) := by decide +kernel
theorem dX0_init_82 : decode cX0_init 82 = .ok (.iadd, 1) := by decide +kernel
theorem dX0_init_83 : decode cX0_init 83 = .ok (.putfield 33, 3) := by decide +kernel
theorem dX0_init_86 : decode cX0_init 86 = .ok (.aload_n 0, 1) := by decide +kernel
theorem dX0_init_87 : decode cX0_init 87 = .ok (.new 36, 3) := by decide +kernel
theorem dX0_init_90 : decode cX0_init 90 = .ok (.dup, 1) := by decide +kernel
theorem dX0_init_91 : decode cX0_init 91 = .ok (.aload_n 0, 1) := by decide +kernel
theorem dX0_init_92 : decode cX0_init 92 = .ok (.getfield 33, 3) := by decide +kernel
theorem dX0_init_95 : decode cX0_init 95 = .ok (.iconst 4, 1) := by decide +kernel
theorem dX0_init_96 : decode cX0_init 96 = .ok (.iadd, 1) := by decide +kernel
theorem dX0_init_97 : decode cX0_init 97 = .ok (.invokespecial 38, 3) := by decide +kernel
theorem dX0_init_100 : decode cX0_init 100 = .ok (.putfield 41, 3) := by decide +kernel
theorem dX0_init_103 : decode cX0_init 103 = .ok (.return_, 1) := by decide +kernel
theorem dX0_within_0 : decode cX0_within 0 = .ok (.iconst 1, 1) := by decide +kernel
theorem dX0_within_1 : decode cX0_within 1 = .ok (.iload_n 0, 1) := by decide +kernel
theorem dX0_within_2 : decode cX0_within 2 = .ok (.iload_n 1, 1) := by decide +kernel
theorem dX0_within_3 : decode cX0_within 3 = .ok (.invokestatic 105, 3) := by decide +kernel
theorem dX0_within_6 : decode cX0_within 6 = .ok (.invokestatic 110, 3) := by decide +kernel
theorem dX0_within_9 : decode cX0_within 9 = .ok (.ireturn, 1) := by decide +kernel
theorem dX1_init_0 : decode cX1_init 0 = .ok (.aload_n 0, 1) := by decide +kernel
theorem dX1_init_1 : decode cX1_init 1 = .ok (.invokespecial 1, 3) := by decide +kernel
theorem dX1_init_4 : decode cX1_init 4 = .ok (.aload_n 0, 1) := by decide +kernel
theorem dX1_init_5 : decode cX1_init 5 = .ok (.iload_n 1, 1) := by decide +kernel
theorem dX1_init_6 : decode cX1_init 6 = .ok (.newarray .int, 2) := by decide +kernel
theorem dX1_init_8 : decode cX1_init 8 = .ok (.putfield 7, 3) := by decide +kernel
theorem dX1_init_11 : decode cX1_init 11 = .ok (.return_, 1) := by decide +kernel
theorem dX0_format_0 : decode cX0_format 0 = .ok (.aload_n 0, 1) := by decide +kernel
theorem dX0_format_1 : decode cX0_format 1 = .ok (.getfield 41, 3) := by decide +kernel
theorem dX0_format_4 : decode cX0_format 4 = .ok (.invokevirtual 45, 3) := by decide +kernel
theorem dX0_format_7 : decode cX0_format 7 = .ok (.aload_n 0, 1) := by decide +kernel
theorem dX0_format_8 : decode cX0_format 8 = .ok (.invokevirtual 48, 3) := by decide +kernel
theorem dX0_format_11 : decode cX0_format 11 = .ok (.iconst 0, 1) := by decide +kernel
theorem dX0_format_12 : decode cX0_format 12 = .ok (.ireturn, 1) := by decide +kernel
theorem dX1_wipe_0 : decode cX1_wipe 0 = .ok (.aload_n 0, 1) := by decide +kernel
theorem dX1_wipe_1 : decode cX1_wipe 1 = .ok (.getfield 7, 3) := by decide +kernel
theorem dX1_wipe_4 : decode cX1_wipe 4 = .ok (.iconst 0, 1) := by decide +kernel
theorem dX1_wipe_5 : decode cX1_wipe 5 = .ok (.invokestatic 13, 3) := by decide +kernel
theorem dX1_wipe_8 : decode cX1_wipe 8 = .ok (.aload_n 0, 1) := by decide +kernel
theorem dX1_wipe_9 : decode cX1_wipe 9 = .ok (.iconst 0, 1) := by decide +kernel
theorem dX1_wipe_10 : decode cX1_wipe 10 = .ok (.putfield 19, 3) := by decide +kernel
theorem dX1_wipe_13 : decode cX1_wipe 13 = .ok (.aload_n 0, 1) := by decide +kernel
theorem dX1_wipe_14 : decode cX1_wipe 14 = .ok (.iconst 0, 1) := by decide +kernel
theorem dX1_wipe_15 : decode cX1_wipe 15 = .ok (.putfield 23, 3) := by decide +kernel
theorem dX1_wipe_18 : decode cX1_wipe 18 = .ok (.return_, 1) := by decide +kernel
theorem dJ0_fill_0 : decode cJ0_fill 0 = .ok (.iconst 0, 1) := by decide +kernel
theorem dJ0_fill_1 : decode cJ0_fill 1 = .ok (.istore_n 2, 1) := by decide +kernel
theorem dJ0_fill_2 : decode cJ0_fill 2 = .ok (.aload_n 0, 1) := by decide +kernel
theorem dJ0_fill_3 : decode cJ0_fill 3 = .ok (.arraylength, 1) := by decide +kernel
theorem dJ0_fill_4 : decode cJ0_fill 4 = .ok (.istore_n 3, 1) := by decide +kernel
theorem dJ0_fill_5 : decode cJ0_fill 5 = .ok (.iload_n 2, 1) := by decide +kernel
theorem dJ0_fill_6 : decode cJ0_fill 6 = .ok (.iload_n 3, 1) := by decide +kernel
theorem dJ0_fill_7 : decode cJ0_fill 7 = .ok (.if_icmp .ge 13, 3) := by decide +kernel
theorem dJ0_fill_10 : decode cJ0_fill 10 = .ok (.aload_n 0, 1) := by decide +kernel
theorem dJ0_fill_11 : decode cJ0_fill 11 = .ok (.iload_n 2, 1) := by decide +kernel
theorem dJ0_fill_12 : decode cJ0_fill 12 = .ok (.iload_n 1, 1) := by decide +kernel
theorem dJ0_fill_13 : decode cJ0_fill 13 = .ok (.iastore, 1) := by decide +kernel
theorem dJ0_fill_14 : decode cJ0_fill 14 = .ok (.iinc 2 1, 3) := by decide +kernel
theorem dJ0_fill_17 : decode cJ0_fill 17 = .ok (.goto (-12), 3) := by decide +kernel
theorem dJ0_fill_20 : decode cJ0_fill 20 = .ok (.return_, 1) := by decide +kernel
theorem dX0_clearStaged_0 : decode cX0_clearStaged 0 = .ok (.aload_n 0, 1) := by decide +kernel
theorem dX0_clearStaged_1 : decode cX0_clearStaged 1 = .ok (.getfield 26, 3) := by decide +kernel
theorem dX0_clearStaged_4 : decode cX0_clearStaged 4 = .ok (.iconst 0, 1) := by decide +kernel
theorem dX0_clearStaged_5 : decode cX0_clearStaged 5 = .ok (.invokestatic 126, 3) := by decide +kernel
theorem dX0_clearStaged_8 : decode cX0_clearStaged 8 = .ok (.return_, 1) := by decide +kernel
theorem dX0_stageWord_0 : decode cX0_stageWord 0 = .ok (.aload_n 0, 1) := by decide +kernel
theorem dX0_stageWord_1 : decode cX0_stageWord 1 = .ok (.getfield 41, 3) := by decide +kernel
theorem dX0_stageWord_4 : decode cX0_stageWord 4 = .ok (.invokevirtual 51, 3) := by decide +kernel
theorem dX0_stageWord_7 : decode cX0_stageWord 7 = .ok (.ifCond .eq 6, 3) := by decide +kernel
theorem dX0_stageWord_10 : decode cX0_stageWord 10 = .ok (.bipush (-4), 2) := by decide +kernel
theorem dX0_stageWord_12 : decode cX0_stageWord 12 = .ok (.ireturn, 1) := by decide +kernel
theorem dX0_stageWord_13 : decode cX0_stageWord 13 = .ok (.aload_n 0, 1) := by decide +kernel
theorem dX0_stageWord_14 : decode cX0_stageWord 14 = .ok (.iload_n 1, 1) := by decide +kernel
theorem dX0_stageWord_15 : decode cX0_stageWord 15 = .ok (.invokevirtual 55, 3) := by decide +kernel
theorem dX0_stageWord_18 : decode cX0_stageWord 18 = .ok (.ifCond .ne 5, 3) := by decide +kernel
theorem dX0_stageWord_21 : decode cX0_stageWord 21 = .ok (.iconst (-1), 1) := by decide +kernel
theorem dX0_stageWord_22 : decode cX0_stageWord 22 = .ok (.ireturn, 1) := by decide +kernel
theorem dX0_stageWord_23 : decode cX0_stageWord 23 = .ok (.aload_n 0, 1) := by decide +kernel
theorem dX0_stageWord_24 : decode cX0_stageWord 24 = .ok (.getfield 26, 3) := by decide +kernel
theorem dX0_stageWord_27 : decode cX0_stageWord 27 = .ok (.iload_n 1, 1) := by decide +kernel
theorem dX0_stageWord_28 : decode cX0_stageWord 28 = .ok (.iload_n 2, 1) := by decide +kernel
theorem dX0_stageWord_29 : decode cX0_stageWord 29 = .ok (.iastore, 1) := by decide +kernel
theorem dX0_stageWord_30 : decode cX0_stageWord 30 = .ok (.iconst 0, 1) := by decide +kernel
theorem dX0_stageWord_31 : decode cX0_stageWord 31 = .ok (.ireturn, 1) := by decide +kernel
theorem dX1_isDown_0 : decode cX1_isDown 0 = .ok (.aload_n 0, 1) := by decide +kernel
theorem dX1_isDown_1 : decode cX1_isDown 1 = .ok (.getfield 23, 3) := by decide +kernel
theorem dX1_isDown_4 : decode cX1_isDown 4 = .ok (.ireturn, 1) := by decide +kernel
theorem dX0_isWord_0 : decode cX0_isWord 0 = .ok (.iload_n 1, 1) := by decide +kernel
theorem dX0_isWord_1 : decode cX0_isWord 1 = .ok (.ifCond .lt 15, 3) := by decide +kernel
theorem dX0_isWord_4 : decode cX0_isWord 4 = .ok (.iload_n 1, 1) := by decide +kernel
theorem dX0_isWord_5 : decode cX0_isWord 5 = .ok (.aload_n 0, 1) := by decide +kernel
theorem dX0_isWord_6 : decode cX0_isWord 6 = .ok (.getfield 13, 3) := by decide +kernel
theorem dX0_isWord_9 : decode cX0_isWord 9 = .ok (.if_icmp .ge 7, 3) := by decide +kernel
theorem dX0_isWord_12 : decode cX0_isWord 12 = .ok (.iconst 1, 1) := by decide +kernel
theorem dX0_isWord_13 : decode cX0_isWord 13 = .ok (.goto 4, 3) := by decide +kernel
theorem dX0_isWord_16 : decode cX0_isWord 16 = .ok (.iconst 0, 1) := by decide +kernel
theorem dX0_isWord_17 : decode cX0_isWord 17 = .ok (.ireturn, 1) := by decide +kernel
theorem dX0_writeBlock_0 : decode cX0_writeBlock 0 = .ok (.aload_n 0, 1) := by decide +kernel
theorem dX0_writeBlock_1 : decode cX0_writeBlock 1 = .ok (.getfield 41, 3) := by decide +kernel
theorem dX0_writeBlock_4 : decode cX0_writeBlock 4 = .ok (.invokevirtual 51, 3) := by decide +kernel
theorem dX0_writeBlock_7 : decode cX0_writeBlock 7 = .ok (.ifCond .eq 6, 3) := by decide +kernel
theorem dX0_writeBlock_10 : decode cX0_writeBlock 10 = .ok (.bipush (-4), 2) := by decide +kernel
theorem dX0_writeBlock_12 : decode cX0_writeBlock 12 = .ok (.ireturn, 1) := by decide +kernel
theorem dX0_writeBlock_13 : decode cX0_writeBlock 13 = .ok (.aload_n 0, 1) := by decide +kernel
theorem dX0_writeBlock_14 : decode cX0_writeBlock 14 = .ok (.iload_n 1, 1) := by decide +kernel
theorem dX0_writeBlock_15 : decode cX0_writeBlock 15 = .ok (.iload_n 2, 1) := by decide +kernel
theorem dX0_writeBlock_16 : decode cX0_writeBlock 16 = .ok (.invokevirtual 59, 3) := by decide +kernel
theorem dX0_writeBlock_19 : decode cX0_writeBlock 19 = .ok (.ifCond .ne 5, 3) := by decide +kernel
theorem dX0_writeBlock_22 : decode cX0_writeBlock 22 = .ok (.iconst (-1), 1) := by decide +kernel
theorem dX0_writeBlock_23 : decode cX0_writeBlock 23 = .ok (.ireturn, 1) := by decide +kernel
theorem dX0_writeBlock_24 : decode cX0_writeBlock 24 = .ok (.aload_n 0, 1) := by decide +kernel
theorem dX0_writeBlock_25 : decode cX0_writeBlock 25 = .ok (.invokevirtual 63, 3) := by decide +kernel
theorem dX0_writeBlock_28 : decode cX0_writeBlock 28 = .ok (.istore_n 3, 1) := by decide +kernel
theorem dX0_writeBlock_29 : decode cX0_writeBlock 29 = .ok (.iload_n 3, 1) := by decide +kernel
theorem dX0_writeBlock_30 : decode cX0_writeBlock 30 = .ok (.iconst (-1), 1) := by decide +kernel
theorem dX0_writeBlock_31 : decode cX0_writeBlock 31 = .ok (.if_icmp .ne 10, 3) := by decide +kernel
theorem dX0_writeBlock_34 : decode cX0_writeBlock 34 = .ok (.aload_n 0, 1) := by decide +kernel
theorem dX0_writeBlock_35 : decode cX0_writeBlock 35 = .ok (.iload_n 1, 1) := by decide +kernel
theorem dX0_writeBlock_36 : decode cX0_writeBlock 36 = .ok (.iload_n 2, 1) := by decide +kernel
theorem dX0_writeBlock_37 : decode cX0_writeBlock 37 = .ok (.invokevirtual 67, 3) := by decide +kernel
theorem dX0_writeBlock_40 : decode cX0_writeBlock 40 = .ok (.ireturn, 1) := by decide +kernel
theorem dX0_writeBlock_41 : decode cX0_writeBlock 41 = .ok (.iload_n 3, 1) := by decide +kernel
theorem dX0_writeBlock_42 : decode cX0_writeBlock 42 = .ok (.aload_n 0, 1) := by decide +kernel
theorem dX0_writeBlock_43 : decode cX0_writeBlock 43 = .ok (.iload_n 1, 1) := by decide +kernel
theorem dX0_writeBlock_44 : decode cX0_writeBlock 44 = .ok (.iload_n 2, 1) := by decide +kernel
theorem dX0_writeBlock_45 : decode cX0_writeBlock 45 = .ok (.invokevirtual 70, 3) := by decide +kernel
theorem dX0_writeBlock_48 : decode cX0_writeBlock 48 = .ok (.if_icmp .ne 5, 3) := by decide +kernel
theorem dX0_writeBlock_51 : decode cX0_writeBlock 51 = .ok (.iconst 0, 1) := by decide +kernel
theorem dX0_writeBlock_52 : decode cX0_writeBlock 52 = .ok (.ireturn, 1) := by decide +kernel
theorem dX0_writeBlock_53 : decode cX0_writeBlock 53 = .ok (.aload_n 0, 1) := by decide +kernel
theorem dX0_writeBlock_54 : decode cX0_writeBlock 54 = .ok (.iconst 1, 1) := by decide +kernel
theorem dX0_writeBlock_55 : decode cX0_writeBlock 55 = .ok (.iload_n 1, 1) := by decide +kernel
theorem dX0_writeBlock_56 : decode cX0_writeBlock 56 = .ok (.iload_n 2, 1) := by decide +kernel
theorem dX0_writeBlock_57 : decode cX0_writeBlock 57 = .ok (.iload_n 3, 1) := by decide +kernel
theorem dX0_writeBlock_58 : decode cX0_writeBlock 58 = .ok (.invokevirtual 73, 3) := by decide +kernel
theorem dX0_writeBlock_61 : decode cX0_writeBlock 61 = .ok (.ireturn, 1) := by decide +kernel
theorem dX0_isBlock_0 : decode cX0_isBlock 0 = .ok (.aload_n 0, 1) := by decide +kernel
theorem dX0_isBlock_1 : decode cX0_isBlock 1 = .ok (.iload_n 1, 1) := by decide +kernel
theorem dX0_isBlock_2 : decode cX0_isBlock 2 = .ok (.invokevirtual 84, 3) := by decide +kernel
theorem dX0_isBlock_5 : decode cX0_isBlock 5 = .ok (.ifCond .eq 19, 3) := by decide +kernel
theorem dX0_isBlock_8 : decode cX0_isBlock 8 = .ok (.iload_n 2, 1) := by decide +kernel
theorem dX0_isBlock_9 : decode cX0_isBlock 9 = .ok (.ifCond .lt 15, 3) := by decide +kernel
theorem dX0_isBlock_12 : decode cX0_isBlock 12 = .ok (.iload_n 2, 1) := by decide +kernel
theorem dX0_isBlock_13 : decode cX0_isBlock 13 = .ok (.aload_n 0, 1) := by decide +kernel
theorem dX0_isBlock_14 : decode cX0_isBlock 14 = .ok (.getfield 23, 3) := by decide +kernel
theorem dX0_isBlock_17 : decode cX0_isBlock 17 = .ok (.if_icmp .ge 7, 3) := by decide +kernel
theorem dX0_isBlock_20 : decode cX0_isBlock 20 = .ok (.iconst 1, 1) := by decide +kernel
theorem dX0_isBlock_21 : decode cX0_isBlock 21 = .ok (.goto 4, 3) := by decide +kernel
theorem dX0_isBlock_24 : decode cX0_isBlock 24 = .ok (.iconst 0, 1) := by decide +kernel
theorem dX0_isBlock_25 : decode cX0_isBlock 25 = .ok (.ireturn, 1) := by decide +kernel
theorem dX0_isVolume_0 : decode cX0_isVolume 0 = .ok (.iload_n 1, 1) := by decide +kernel
theorem dX0_isVolume_1 : decode cX0_isVolume 1 = .ok (.ifCond .lt 15, 3) := by decide +kernel
theorem dX0_isVolume_4 : decode cX0_isVolume 4 = .ok (.iload_n 1, 1) := by decide +kernel
theorem dX0_isVolume_5 : decode cX0_isVolume 5 = .ok (.aload_n 0, 1) := by decide +kernel
theorem dX0_isVolume_6 : decode cX0_isVolume 6 = .ok (.getfield 20, 3) := by decide +kernel
theorem dX0_isVolume_9 : decode cX0_isVolume 9 = .ok (.if_icmp .ge 7, 3) := by decide +kernel
theorem dX0_isVolume_12 : decode cX0_isVolume 12 = .ok (.iconst 1, 1) := by decide +kernel
theorem dX0_isVolume_13 : decode cX0_isVolume 13 = .ok (.goto 4, 3) := by decide +kernel
theorem dX0_isVolume_16 : decode cX0_isVolume 16 = .ok (.iconst 0, 1) := by decide +kernel
theorem dX0_isVolume_17 : decode cX0_isVolume 17 = .ok (.ireturn, 1) := by decide +kernel
theorem dX0_usedSlotWithStaged_0 : decode cX0_usedSlotWithStaged 0 = .ok (.iconst 0, 1) := by decide +kernel
theorem dX0_usedSlotWithStaged_1 : decode cX0_usedSlotWithStaged 1 = .ok (.istore_n 1, 1) := by decide +kernel
theorem dX0_usedSlotWithStaged_2 : decode cX0_usedSlotWithStaged 2 = .ok (.iload_n 1, 1) := by decide +kernel
theorem dX0_usedSlotWithStaged_3 : decode cX0_usedSlotWithStaged 3 = .ok (.aload_n 0, 1) := by decide +kernel
theorem dX0_usedSlotWithStaged_4 : decode cX0_usedSlotWithStaged 4 = .ok (.getfield 17, 3) := by decide +kernel
theorem dX0_usedSlotWithStaged_7 : decode cX0_usedSlotWithStaged 7 = .ok (.if_icmp .gt 27, 3) := by decide +kernel
theorem dX0_usedSlotWithStaged_10 : decode cX0_usedSlotWithStaged 10 = .ok (.aload_n 0, 1) := by decide +kernel
theorem dX0_usedSlotWithStaged_11 : decode cX0_usedSlotWithStaged 11 = .ok (.iload_n 1, 1) := by decide +kernel
theorem dX0_usedSlotWithStaged_12 : decode cX0_usedSlotWithStaged 12 = .ok (.invokevirtual 123, 3) := by decide +kernel
theorem dX0_usedSlotWithStaged_15 : decode cX0_usedSlotWithStaged 15 = .ok (.ifCond .eq 13, 3) := by decide +kernel
theorem dX0_usedSlotWithStaged_18 : decode cX0_usedSlotWithStaged 18 = .ok (.aload_n 0, 1) := by decide +kernel
theorem dX0_usedSlotWithStaged_19 : decode cX0_usedSlotWithStaged 19 = .ok (.iload_n 1, 1) := by decide +kernel
theorem dX0_usedSlotWithStaged_20 : decode cX0_usedSlotWithStaged 20 = .ok (.invokevirtual 120, 3) := by decide +kernel
theorem dX0_usedSlotWithStaged_23 : decode cX0_usedSlotWithStaged 23 = .ok (.ifCond .eq 5, 3) := by decide +kernel
theorem dX0_usedSlotWithStaged_26 : decode cX0_usedSlotWithStaged 26 = .ok (.iload_n 1, 1) := by decide +kernel
theorem dX0_usedSlotWithStaged_27 : decode cX0_usedSlotWithStaged 27 = .ok (.ireturn, 1) := by decide +kernel
theorem dX0_usedSlotWithStaged_28 : decode cX0_usedSlotWithStaged 28 = .ok (.iinc 1 1, 3) := by decide +kernel
theorem dX0_usedSlotWithStaged_31 : decode cX0_usedSlotWithStaged 31 = .ok (.goto (-29), 3) := by decide +kernel
theorem dX0_usedSlotWithStaged_34 : decode cX0_usedSlotWithStaged 34 = .ok (.iconst (-1), 1) := by decide +kernel
theorem dX0_usedSlotWithStaged_35 : decode cX0_usedSlotWithStaged 35 = .ok (.ireturn, 1) := by decide +kernel
theorem dX0_hasStagedWords_0 : decode cX0_hasStagedWords 0 = .ok (.iconst 0, 1) := by decide +kernel
theorem dX0_hasStagedWords_1 : decode cX0_hasStagedWords 1 = .ok (.istore_n 2, 1) := by decide +kernel
theorem dX0_hasStagedWords_2 : decode cX0_hasStagedWords 2 = .ok (.iload_n 2, 1) := by decide +kernel
theorem dX0_hasStagedWords_3 : decode cX0_hasStagedWords 3 = .ok (.aload_n 0, 1) := by decide +kernel
theorem dX0_hasStagedWords_4 : decode cX0_hasStagedWords 4 = .ok (.getfield 13, 3) := by decide +kernel
theorem dX0_hasStagedWords_7 : decode cX0_hasStagedWords 7 = .ok (.if_icmp .ge 33, 3) := by decide +kernel
theorem dX0_hasStagedWords_10 : decode cX0_hasStagedWords 10 = .ok (.aload_n 0, 1) := by decide +kernel
theorem dX0_hasStagedWords_11 : decode cX0_hasStagedWords 11 = .ok (.getfield 41, 3) := by decide +kernel
theorem dX0_hasStagedWords_14 : decode cX0_hasStagedWords 14 = .ok (.aload_n 0, 1) := by decide +kernel
theorem dX0_hasStagedWords_15 : decode cX0_hasStagedWords 15 = .ok (.iload_n 1, 1) := by decide +kernel
theorem dX0_hasStagedWords_16 : decode cX0_hasStagedWords 16 = .ok (.iload_n 2, 1) := by decide +kernel
theorem dX0_hasStagedWords_17 : decode cX0_hasStagedWords 17 = .ok (.invokevirtual 77, 3) := by decide +kernel
theorem dX0_hasStagedWords_20 : decode cX0_hasStagedWords 20 = .ok (.invokevirtual 80, 3) := by decide +kernel
theorem dX0_hasStagedWords_23 : decode cX0_hasStagedWords 23 = .ok (.aload_n 0, 1) := by decide +kernel
theorem dX0_hasStagedWords_24 : decode cX0_hasStagedWords 24 = .ok (.getfield 26, 3) := by decide +kernel
theorem dX0_hasStagedWords_27 : decode cX0_hasStagedWords 27 = .ok (.iload_n 2, 1) := by decide +kernel
theorem dX0_hasStagedWords_28 : decode cX0_hasStagedWords 28 = .ok (.iaload, 1) := by decide +kernel
theorem dX0_hasStagedWords_29 : decode cX0_hasStagedWords 29 = .ok (.if_icmp .eq 5, 3) := by decide +kernel
theorem dX0_hasStagedWords_32 : decode cX0_hasStagedWords 32 = .ok (.iconst 0, 1) := by decide +kernel
theorem dX0_hasStagedWords_33 : decode cX0_hasStagedWords 33 = .ok (.ireturn, 1) := by decide +kernel
theorem dX0_hasStagedWords_34 : decode cX0_hasStagedWords 34 = .ok (.iinc 2 1, 3) := by decide +kernel
theorem dX0_hasStagedWords_37 : decode cX0_hasStagedWords 37 = .ok (.goto (-35), 3) := by decide +kernel
theorem dX0_hasStagedWords_40 : decode cX0_hasStagedWords 40 = .ok (.iconst 1, 1) := by decide +kernel
theorem dX0_hasStagedWords_41 : decode cX0_hasStagedWords 41 = .ok (.ireturn, 1) := by decide +kernel
theorem dX0_slotCell_0 : decode cX0_slotCell 0 = .ok (.iload_n 1, 1) := by decide +kernel
theorem dX0_slotCell_1 : decode cX0_slotCell 1 = .ok (.aload_n 0, 1) := by decide +kernel
theorem dX0_slotCell_2 : decode cX0_slotCell 2 = .ok (.getfield 13, 3) := by decide +kernel
theorem dX0_slotCell_5 : decode cX0_slotCell 5 = .ok (.imul, 1) := by decide +kernel
theorem dX0_slotCell_6 : decode cX0_slotCell 6 = .ok (.iload_n 2, 1) := by decide +kernel
theorem dX0_slotCell_7 : decode cX0_slotCell 7 = .ok (.iadd, 1) := by decide +kernel
theorem dX0_slotCell_8 : decode cX0_slotCell 8 = .ok (.ireturn, 1) := by decide +kernel
theorem dX1_read_0 : decode cX1_read 0 = .ok (.aload_n 0, 1) := by decide +kernel
theorem dX1_read_1 : decode cX1_read 1 = .ok (.getfield 7, 3) := by decide +kernel
theorem dX1_read_4 : decode cX1_read 4 = .ok (.iload_n 1, 1) := by decide +kernel
theorem dX1_read_5 : decode cX1_read 5 = .ok (.iaload, 1) := by decide +kernel
theorem dX1_read_6 : decode cX1_read 6 = .ok (.ireturn, 1) := by decide +kernel
theorem dX0_isUsed_0 : decode cX0_isUsed 0 = .ok (.aload_n 0, 1) := by decide +kernel
theorem dX0_isUsed_1 : decode cX0_isUsed 1 = .ok (.iload_n 1, 1) := by decide +kernel
theorem dX0_isUsed_2 : decode cX0_isUsed 2 = .ok (.invokevirtual 90, 3) := by decide +kernel
theorem dX0_isUsed_5 : decode cX0_isUsed 5 = .ok (.ifCond .le 7, 3) := by decide +kernel
theorem dX0_isUsed_8 : decode cX0_isUsed 8 = .ok (.iconst 1, 1) := by decide +kernel
theorem dX0_isUsed_9 : decode cX0_isUsed 9 = .ok (.goto 4, 3) := by decide +kernel
theorem dX0_isUsed_12 : decode cX0_isUsed 12 = .ok (.iconst 0, 1) := by decide +kernel
theorem dX0_isUsed_13 : decode cX0_isUsed 13 = .ok (.ireturn, 1) := by decide +kernel
theorem dX0_blocksMappedTo_0 : decode cX0_blocksMappedTo 0 = .ok (.iconst 0, 1) := by decide +kernel
theorem dX0_blocksMappedTo_1 : decode cX0_blocksMappedTo 1 = .ok (.istore_n 2, 1) := by decide +kernel
theorem dX0_blocksMappedTo_2 : decode cX0_blocksMappedTo 2 = .ok (.aload_n 0, 1) := by decide +kernel
theorem dX0_blocksMappedTo_3 : decode cX0_blocksMappedTo 3 = .ok (.getfield 30, 3) := by decide +kernel
theorem dX0_blocksMappedTo_6 : decode cX0_blocksMappedTo 6 = .ok (.istore_n 3, 1) := by decide +kernel
theorem dX0_blocksMappedTo_7 : decode cX0_blocksMappedTo 7 = .ok (.iload_n 3, 1) := by decide +kernel
theorem dX0_blocksMappedTo_8 : decode cX0_blocksMappedTo 8 = .ok (.aload_n 0, 1) := by decide +kernel
theorem dX0_blocksMappedTo_9 : decode cX0_blocksMappedTo 9 = .ok (.getfield 33, 3) := by decide +kernel
theorem dX0_blocksMappedTo_12 : decode cX0_blocksMappedTo 12 = .ok (.if_icmp .ge 26, 3) := by decide +kernel
theorem dX0_blocksMappedTo_15 : decode cX0_blocksMappedTo 15 = .ok (.aload_n 0, 1) := by decide +kernel
theorem dX0_blocksMappedTo_16 : decode cX0_blocksMappedTo 16 = .ok (.getfield 41, 3) := by decide +kernel
theorem dX0_blocksMappedTo_19 : decode cX0_blocksMappedTo 19 = .ok (.iload_n 3, 1) := by decide +kernel
theorem dX0_blocksMappedTo_20 : decode cX0_blocksMappedTo 20 = .ok (.invokevirtual 80, 3) := by decide +kernel
theorem dX0_blocksMappedTo_23 : decode cX0_blocksMappedTo 23 = .ok (.iload_n 1, 1) := by decide +kernel
theorem dX0_blocksMappedTo_24 : decode cX0_blocksMappedTo 24 = .ok (.iconst 1, 1) := by decide +kernel
theorem dX0_blocksMappedTo_25 : decode cX0_blocksMappedTo 25 = .ok (.iadd, 1) := by decide +kernel
theorem dX0_blocksMappedTo_26 : decode cX0_blocksMappedTo 26 = .ok (.if_icmp .ne 6, 3) := by decide +kernel
theorem dX0_blocksMappedTo_29 : decode cX0_blocksMappedTo 29 = .ok (.iinc 2 1, 3) := by decide +kernel
theorem dX0_blocksMappedTo_32 : decode cX0_blocksMappedTo 32 = .ok (.iinc 3 1, 3) := by decide +kernel
theorem dX0_blocksMappedTo_35 : decode cX0_blocksMappedTo 35 = .ok (.goto (-28), 3) := by decide +kernel
theorem dX0_blocksMappedTo_38 : decode cX0_blocksMappedTo 38 = .ok (.iload_n 2, 1) := by decide +kernel
theorem dX0_blocksMappedTo_39 : decode cX0_blocksMappedTo 39 = .ok (.ireturn, 1) := by decide +kernel
theorem dX0_writeNewContents_0 : decode cX0_writeNewContents 0 = .ok (.aload_n 0, 1) := by decide +kernel
theorem dX0_writeNewContents_1 : decode cX0_writeNewContents 1 = .ok (.iload_n 1, 1) := by decide +kernel
theorem dX0_writeNewContents_2 : decode cX0_writeNewContents 2 = .ok (.iload_n 2, 1) := by decide +kernel
theorem dX0_writeNewContents_3 : decode cX0_writeNewContents 3 = .ok (.invokevirtual 132, 3) := by decide +kernel
theorem dX0_writeNewContents_6 : decode cX0_writeNewContents 6 = .ok (.aload_n 0, 1) := by decide +kernel
theorem dX0_writeNewContents_7 : decode cX0_writeNewContents 7 = .ok (.getfield 17, 3) := by decide +kernel
theorem dX0_writeNewContents_10 : decode cX0_writeNewContents 10 = .ok (.if_icmp .lt 6, 3) := by decide +kernel
theorem dX0_writeNewContents_13 : decode cX0_writeNewContents 13 = .ok (.bipush (-2), 2) := by decide +kernel
theorem dX0_writeNewContents_15 : decode cX0_writeNewContents 15 = .ok (.ireturn, 1) := by decide +kernel
theorem dX0_writeNewContents_16 : decode cX0_writeNewContents 16 = .ok (.aload_n 0, 1) := by decide +kernel
theorem dX0_writeNewContents_17 : decode cX0_writeNewContents 17 = .ok (.invokevirtual 135, 3) := by decide +kernel
theorem dX0_writeNewContents_20 : decode cX0_writeNewContents 20 = .ok (.istore_n 3, 1) := by decide +kernel
theorem dX0_writeNewContents_21 : decode cX0_writeNewContents 21 = .ok (.iconst 0, 1) := by decide +kernel
theorem dX0_writeNewContents_22 : decode cX0_writeNewContents 22 = .ok (.istore 4, 2) := by decide +kernel
theorem dX0_writeNewContents_24 : decode cX0_writeNewContents 24 = .ok (.iload 4, 2) := by decide +kernel
theorem dX0_writeNewContents_26 : decode cX0_writeNewContents 26 = .ok (.aload_n 0, 1) := by decide +kernel
theorem dX0_writeNewContents_27 : decode cX0_writeNewContents 27 = .ok (.getfield 13, 3) := by decide +kernel
theorem dX0_writeNewContents_30 : decode cX0_writeNewContents 30 = .ok (.if_icmp .ge 30, 3) := by decide +kernel
theorem dX0_writeNewContents_33 : decode cX0_writeNewContents 33 = .ok (.aload_n 0, 1) := by decide +kernel
theorem dX0_writeNewContents_34 : decode cX0_writeNewContents 34 = .ok (.getfield 41, 3) := by decide +kernel
theorem dX0_writeNewContents_37 : decode cX0_writeNewContents 37 = .ok (.aload_n 0, 1) := by decide +kernel
theorem dX0_writeNewContents_38 : decode cX0_writeNewContents 38 = .ok (.iload_n 3, 1) := by decide +kernel
theorem dX0_writeNewContents_39 : decode cX0_writeNewContents 39 = .ok (.iload 4, 2) := by decide +kernel
theorem dX0_writeNewContents_41 : decode cX0_writeNewContents 41 = .ok (.invokevirtual 77, 3) := by decide +kernel
theorem dX0_writeNewContents_44 : decode cX0_writeNewContents 44 = .ok (.aload_n 0, 1) := by decide +kernel
theorem dX0_writeNewContents_45 : decode cX0_writeNewContents 45 = .ok (.getfield 26, 3) := by decide +kernel
theorem dX0_writeNewContents_48 : decode cX0_writeNewContents 48 = .ok (.iload 4, 2) := by decide +kernel
theorem dX0_writeNewContents_50 : decode cX0_writeNewContents 50 = .ok (.iaload, 1) := by decide +kernel
theorem dX0_writeNewContents_51 : decode cX0_writeNewContents 51 = .ok (.invokevirtual 116, 3) := by decide +kernel
theorem dX0_writeNewContents_54 : decode cX0_writeNewContents 54 = .ok (.iinc 4 1, 3) := by decide +kernel
theorem dX0_writeNewContents_57 : decode cX0_writeNewContents 57 = .ok (.goto (-33), 3) := by decide +kernel
theorem dX0_writeNewContents_60 : decode cX0_writeNewContents 60 = .ok (.aload_n 0, 1) := by decide +kernel
theorem dX0_writeNewContents_61 : decode cX0_writeNewContents 61 = .ok (.iconst 1, 1) := by decide +kernel
theorem dX0_writeNewContents_62 : decode cX0_writeNewContents 62 = .ok (.iload_n 1, 1) := by decide +kernel
theorem dX0_writeNewContents_63 : decode cX0_writeNewContents 63 = .ok (.iload_n 2, 1) := by decide +kernel
theorem dX0_writeNewContents_64 : decode cX0_writeNewContents 64 = .ok (.iload_n 3, 1) := by decide +kernel
theorem dX0_writeNewContents_65 : decode cX0_writeNewContents 65 = .ok (.invokevirtual 73, 3) := by decide +kernel
theorem dX0_writeNewContents_68 : decode cX0_writeNewContents 68 = .ok (.ireturn, 1) := by decide +kernel
theorem dX0_usedSlotsWithout_0 : decode cX0_usedSlotsWithout 0 = .ok (.aload_n 0, 1) := by decide +kernel
theorem dX0_usedSlotsWithout_1 : decode cX0_usedSlotsWithout 1 = .ok (.iload_n 1, 1) := by decide +kernel
theorem dX0_usedSlotsWithout_2 : decode cX0_usedSlotsWithout 2 = .ok (.iload_n 2, 1) := by decide +kernel
theorem dX0_usedSlotsWithout_3 : decode cX0_usedSlotsWithout 3 = .ok (.invokevirtual 70, 3) := by decide +kernel
theorem dX0_usedSlotsWithout_6 : decode cX0_usedSlotsWithout 6 = .ok (.istore_n 3, 1) := by decide +kernel
theorem dX0_usedSlotsWithout_7 : decode cX0_usedSlotsWithout 7 = .ok (.iload_n 3, 1) := by decide +kernel
theorem dX0_usedSlotsWithout_8 : decode cX0_usedSlotsWithout 8 = .ok (.iconst (-1), 1) := by decide +kernel
theorem dX0_usedSlotsWithout_9 : decode cX0_usedSlotsWithout 9 = .ok (.if_icmp .eq 16, 3) := by decide +kernel
theorem dX0_usedSlotsWithout_12 : decode cX0_usedSlotsWithout 12 = .ok (.aload_n 0, 1) := by decide +kernel
theorem dX0_usedSlotsWithout_13 : decode cX0_usedSlotsWithout 13 = .ok (.iload_n 3, 1) := by decide +kernel
theorem dX0_usedSlotsWithout_14 : decode cX0_usedSlotsWithout 14 = .ok (.invokevirtual 90, 3) := by decide +kernel
theorem dX0_usedSlotsWithout_17 : decode cX0_usedSlotsWithout 17 = .ok (.iconst 1, 1) := by decide +kernel
theorem dX0_usedSlotsWithout_18 : decode cX0_usedSlotsWithout 18 = .ok (.if_icmp .ne 7, 3) := by decide +kernel
theorem dX0_usedSlotsWithout_21 : decode cX0_usedSlotsWithout 21 = .ok (.iconst 1, 1) := by decide +kernel
theorem dX0_usedSlotsWithout_22 : decode cX0_usedSlotsWithout 22 = .ok (.goto 4, 3) := by decide +kernel
theorem dX0_usedSlotsWithout_25 : decode cX0_usedSlotsWithout 25 = .ok (.iconst 0, 1) := by decide +kernel
theorem dX0_usedSlotsWithout_26 : decode cX0_usedSlotsWithout 26 = .ok (.istore 4, 2) := by decide +kernel
theorem dX0_usedSlotsWithout_28 : decode cX0_usedSlotsWithout 28 = .ok (.iload 4, 2) := by decide +kernel
theorem dX0_usedSlotsWithout_30 : decode cX0_usedSlotsWithout 30 = .ok (.ifCond .eq 12, 3) := by decide +kernel
theorem dX0_usedSlotsWithout_33 : decode cX0_usedSlotsWithout 33 = .ok (.aload_n 0, 1) := by decide +kernel
theorem dX0_usedSlotsWithout_34 : decode cX0_usedSlotsWithout 34 = .ok (.invokevirtual 87, 3) := by decide +kernel
theorem dX0_usedSlotsWithout_37 : decode cX0_usedSlotsWithout 37 = .ok (.iconst 1, 1) := by decide +kernel
theorem dX0_usedSlotsWithout_38 : decode cX0_usedSlotsWithout 38 = .ok (.isub, 1) := by decide +kernel
theorem dX0_usedSlotsWithout_39 : decode cX0_usedSlotsWithout 39 = .ok (.goto 7, 3) := by decide +kernel
theorem dX0_usedSlotsWithout_42 : decode cX0_usedSlotsWithout 42 = .ok (.aload_n 0, 1) := by decide +kernel
theorem dX0_usedSlotsWithout_43 : decode cX0_usedSlotsWithout 43 = .ok (.invokevirtual 87, 3) := by decide +kernel
theorem dX0_usedSlotsWithout_46 : decode cX0_usedSlotsWithout 46 = .ok (.ireturn, 1) := by decide +kernel
theorem dX0_mappedSlot_0 : decode cX0_mappedSlot 0 = .ok (.aload_n 0, 1) := by decide +kernel
theorem dX0_mappedSlot_1 : decode cX0_mappedSlot 1 = .ok (.getfield 41, 3) := by decide +kernel
theorem dX0_mappedSlot_4 : decode cX0_mappedSlot 4 = .ok (.aload_n 0, 1) := by decide +kernel
theorem dX0_mappedSlot_5 : decode cX0_mappedSlot 5 = .ok (.iload_n 1, 1) := by decide +kernel
theorem dX0_mappedSlot_6 : decode cX0_mappedSlot 6 = .ok (.iload_n 2, 1) := by decide +kernel
theorem dX0_mappedSlot_7 : decode cX0_mappedSlot 7 = .ok (.invokevirtual 113, 3) := by decide +kernel
theorem dX0_mappedSlot_10 : decode cX0_mappedSlot 10 = .ok (.invokevirtual 80, 3) := by decide +kernel
theorem dX0_mappedSlot_13 : decode cX0_mappedSlot 13 = .ok (.iconst 1, 1) := by decide +kernel
theorem dX0_mappedSlot_14 : decode cX0_mappedSlot 14 = .ok (.isub, 1) := by decide +kernel
theorem dX0_mappedSlot_15 : decode cX0_mappedSlot 15 = .ok (.ireturn, 1) := by decide +kernel
theorem dX0_mapCell_0 : decode cX0_mapCell 0 = .ok (.aload_n 0, 1) := by decide +kernel
theorem dX0_mapCell_1 : decode cX0_mapCell 1 = .ok (.getfield 30, 3) := by decide +kernel
theorem dX0_mapCell_4 : decode cX0_mapCell 4 = .ok (.iload_n 1, 1) := by decide +kernel
theorem dX0_mapCell_5 : decode cX0_mapCell 5 = .ok (.aload_n 0, 1) := by decide +kernel
theorem dX0_mapCell_6 : decode cX0_mapCell 6 = .ok (.getfield 23, 3) := by decide +kernel
theorem dX0_mapCell_9 : decode cX0_mapCell 9 = .ok (.imul, 1) := by decide +kernel
theorem dX0_mapCell_10 : decode cX0_mapCell 10 = .ok (.iadd, 1) := by decide +kernel
theorem dX0_mapCell_11 : decode cX0_mapCell 11 = .ok (.iload_n 2, 1) := by decide +kernel
theorem dX0_mapCell_12 : decode cX0_mapCell 12 = .ok (.iadd, 1) := by decide +kernel
theorem dX0_mapCell_13 : decode cX0_mapCell 13 = .ok (.ireturn, 1) := by decide +kernel
theorem dX0_usedSlots_0 : decode cX0_usedSlots 0 = .ok (.iconst 0, 1) := by decide +kernel
theorem dX0_usedSlots_1 : decode cX0_usedSlots 1 = .ok (.istore_n 1, 1) := by decide +kernel
theorem dX0_usedSlots_2 : decode cX0_usedSlots 2 = .ok (.iconst 0, 1) := by decide +kernel
theorem dX0_usedSlots_3 : decode cX0_usedSlots 3 = .ok (.istore_n 2, 1) := by decide +kernel
theorem dX0_usedSlots_4 : decode cX0_usedSlots 4 = .ok (.iload_n 2, 1) := by decide +kernel
theorem dX0_usedSlots_5 : decode cX0_usedSlots 5 = .ok (.aload_n 0, 1) := by decide +kernel
theorem dX0_usedSlots_6 : decode cX0_usedSlots 6 = .ok (.getfield 17, 3) := by decide +kernel
theorem dX0_usedSlots_9 : decode cX0_usedSlots 9 = .ok (.if_icmp .gt 20, 3) := by decide +kernel
theorem dX0_usedSlots_12 : decode cX0_usedSlots 12 = .ok (.aload_n 0, 1) := by decide +kernel
theorem dX0_usedSlots_13 : decode cX0_usedSlots 13 = .ok (.iload_n 2, 1) := by decide +kernel
theorem dX0_usedSlots_14 : decode cX0_usedSlots 14 = .ok (.invokevirtual 120, 3) := by decide +kernel
theorem dX0_usedSlots_17 : decode cX0_usedSlots 17 = .ok (.ifCond .eq 6, 3) := by decide +kernel
theorem dX0_usedSlots_20 : decode cX0_usedSlots 20 = .ok (.iinc 1 1, 3) := by decide +kernel
theorem dX0_usedSlots_23 : decode cX0_usedSlots 23 = .ok (.iinc 2 1, 3) := by decide +kernel
theorem dX0_usedSlots_26 : decode cX0_usedSlots 26 = .ok (.goto (-22), 3) := by decide +kernel
theorem dX0_usedSlots_29 : decode cX0_usedSlots 29 = .ok (.iload_n 1, 1) := by decide +kernel
theorem dX0_usedSlots_30 : decode cX0_usedSlots 30 = .ok (.ireturn, 1) := by decide +kernel
theorem dX0_lowestUnusedSlot_0 : decode cX0_lowestUnusedSlot 0 = .ok (.iconst 0, 1) := by decide +kernel
theorem dX0_lowestUnusedSlot_1 : decode cX0_lowestUnusedSlot 1 = .ok (.istore_n 1, 1) := by decide +kernel
theorem dX0_lowestUnusedSlot_2 : decode cX0_lowestUnusedSlot 2 = .ok (.iload_n 1, 1) := by decide +kernel
theorem dX0_lowestUnusedSlot_3 : decode cX0_lowestUnusedSlot 3 = .ok (.aload_n 0, 1) := by decide +kernel
theorem dX0_lowestUnusedSlot_4 : decode cX0_lowestUnusedSlot 4 = .ok (.getfield 17, 3) := by decide +kernel
theorem dX0_lowestUnusedSlot_7 : decode cX0_lowestUnusedSlot 7 = .ok (.if_icmp .ge 17, 3) := by decide +kernel
theorem dX0_lowestUnusedSlot_10 : decode cX0_lowestUnusedSlot 10 = .ok (.aload_n 0, 1) := by decide +kernel
theorem dX0_lowestUnusedSlot_11 : decode cX0_lowestUnusedSlot 11 = .ok (.iload_n 1, 1) := by decide +kernel
theorem dX0_lowestUnusedSlot_12 : decode cX0_lowestUnusedSlot 12 = .ok (.invokevirtual 120, 3) := by decide +kernel
theorem dX0_lowestUnusedSlot_15 : decode cX0_lowestUnusedSlot 15 = .ok (.ifCond .eq 9, 3) := by decide +kernel
theorem dX0_lowestUnusedSlot_18 : decode cX0_lowestUnusedSlot 18 = .ok (.iinc 1 1, 3) := by decide +kernel
theorem dX0_lowestUnusedSlot_21 : decode cX0_lowestUnusedSlot 21 = .ok (.goto (-19), 3) := by decide +kernel
theorem dX0_lowestUnusedSlot_24 : decode cX0_lowestUnusedSlot 24 = .ok (.iload_n 1, 1) := by decide +kernel
theorem dX0_lowestUnusedSlot_25 : decode cX0_lowestUnusedSlot 25 = .ok (.ireturn, 1) := by decide +kernel
theorem dX1_write_0 : decode cX1_write 0 = .ok (.aload_n 0, 1) := by decide +kernel
theorem dX1_write_1 : decode cX1_write 1 = .ok (.getfield 23, 3) := by decide +kernel
theorem dX1_write_4 : decode cX1_write 4 = .ok (.ifCond .eq 4, 3) := by decide +kernel
theorem dX1_write_7 : decode cX1_write 7 = .ok (.return_, 1) := by decide +kernel
theorem dX1_write_8 : decode cX1_write 8 = .ok (.aload_n 0, 1) := by decide +kernel
theorem dX1_write_9 : decode cX1_write 9 = .ok (.getfield 19, 3) := by decide +kernel
theorem dX1_write_12 : decode cX1_write 12 = .ok (.ifCond .eq 29, 3) := by decide +kernel
theorem dX1_write_15 : decode cX1_write 15 = .ok (.aload_n 0, 1) := by decide +kernel
theorem dX1_write_16 : decode cX1_write 16 = .ok (.dup, 1) := by decide +kernel
theorem dX1_write_17 : decode cX1_write 17 = .ok (.getfield 19, 3) := by decide +kernel
theorem dX1_write_20 : decode cX1_write 20 = .ok (.iconst 1, 1) := by decide +kernel
theorem dX1_write_21 : decode cX1_write 21 = .ok (.isub, 1) := by decide +kernel
theorem dX1_write_22 : decode cX1_write 22 = .ok (.putfield 19, 3) := by decide +kernel
theorem dX1_write_25 : decode cX1_write 25 = .ok (.aload_n 0, 1) := by decide +kernel
theorem dX1_write_26 : decode cX1_write 26 = .ok (.aload_n 0, 1) := by decide +kernel
theorem dX1_write_27 : decode cX1_write 27 = .ok (.getfield 19, 3) := by decide +kernel
theorem dX1_write_30 : decode cX1_write 30 = .ok (.ifCond .ne 7, 3) := by decide +kernel
theorem dX1_write_33 : decode cX1_write 33 = .ok (.iconst 1, 1) := by decide +kernel
theorem dX1_write_34 : decode cX1_write 34 = .ok (.goto 4, 3) := by decide +kernel
theorem dX1_write_37 : decode cX1_write 37 = .ok (.iconst 0, 1) := by decide +kernel
theorem dX1_write_38 : decode cX1_write 38 = .ok (.putfield 23, 3) := by decide +kernel
theorem dX1_write_41 : decode cX1_write 41 = .ok (.aload_n 0, 1) := by decide +kernel
theorem dX1_write_42 : decode cX1_write 42 = .ok (.getfield 23, 3) := by decide +kernel
theorem dX1_write_45 : decode cX1_write 45 = .ok (.ifCond .ne 20, 3) := by decide +kernel
theorem dX1_write_48 : decode cX1_write 48 = .ok (.aload_n 0, 1) := by decide +kernel
theorem dX1_write_49 : decode cX1_write 49 = .ok (.getfield 7, 3) := by decide +kernel
theorem dX1_write_52 : decode cX1_write 52 = .ok (.iload_n 1, 1) := by decide +kernel
theorem dX1_write_53 : decode cX1_write 53 = .ok (.iload_n 2, 1) := by decide +kernel
theorem dX1_write_54 : decode cX1_write 54 = .ok (.iastore, 1) := by decide +kernel
theorem dX1_write_55 : decode cX1_write 55 = .ok (.aload_n 0, 1) := by decide +kernel
theorem dX1_write_56 : decode cX1_write 56 = .ok (.dup, 1) := by decide +kernel
theorem dX1_write_57 : decode cX1_write 57 = .ok (.getfield 27, 3) := by decide +kernel
theorem dX1_write_60 : decode cX1_write 60 = .ok (.iconst 1, 1) := by decide +kernel
theorem dX1_write_61 : decode cX1_write 61 = .ok (.iadd, 1) := by decide +kernel
theorem dX1_write_62 : decode cX1_write 62 = .ok (.putfield 27, 3) := by decide +kernel
theorem dX1_write_65 : decode cX1_write 65 = .ok (.return_, 1) := by decide +kernel
theorem dX0_change_0 : decode cX0_change 0 = .ok (.aload_n 0, 1) := by decide +kernel
theorem dX0_change_1 : decode cX0_change 1 = .ok (.getfield 41, 3) := by decide +kernel
theorem dX0_change_4 : decode cX0_change 4 = .ok (.aload_n 0, 1) := by decide +kernel
theorem dX0_change_5 : decode cX0_change 5 = .ok (.getfield 33, 3) := by decide +kernel
theorem dX0_change_8 : decode cX0_change 8 = .ok (.iload_n 2, 1) := by decide +kernel
theorem dX0_change_9 : decode cX0_change 9 = .ok (.invokevirtual 116, 3) := by decide +kernel
theorem dX0_change_12 : decode cX0_change 12 = .ok (.aload_n 0, 1) := by decide +kernel
theorem dX0_change_13 : decode cX0_change 13 = .ok (.getfield 41, 3) := by decide +kernel
theorem dX0_change_16 : decode cX0_change 16 = .ok (.aload_n 0, 1) := by decide +kernel
theorem dX0_change_17 : decode cX0_change 17 = .ok (.getfield 33, 3) := by decide +kernel
theorem dX0_change_20 : decode cX0_change 20 = .ok (.iconst 1, 1) := by decide +kernel
theorem dX0_change_21 : decode cX0_change 21 = .ok (.iadd, 1) := by decide +kernel
theorem dX0_change_22 : decode cX0_change 22 = .ok (.iload_n 3, 1) := by decide +kernel
theorem dX0_change_23 : decode cX0_change 23 = .ok (.invokevirtual 116, 3) := by decide +kernel
theorem dX0_change_26 : decode cX0_change 26 = .ok (.aload_n 0, 1) := by decide +kernel
theorem dX0_change_27 : decode cX0_change 27 = .ok (.getfield 41, 3) := by decide +kernel
theorem dX0_change_30 : decode cX0_change 30 = .ok (.aload_n 0, 1) := by decide +kernel
theorem dX0_change_31 : decode cX0_change 31 = .ok (.getfield 33, 3) := by decide +kernel
theorem dX0_change_34 : decode cX0_change 34 = .ok (.iconst 2, 1) := by decide +kernel
theorem dX0_change_35 : decode cX0_change 35 = .ok (.iadd, 1) := by decide +kernel
theorem dX0_change_36 : decode cX0_change 36 = .ok (.iload 4, 2) := by decide +kernel
theorem dX0_change_38 : decode cX0_change 38 = .ok (.invokevirtual 116, 3) := by decide +kernel
theorem dX0_change_41 : decode cX0_change 41 = .ok (.aload_n 0, 1) := by decide +kernel
theorem dX0_change_42 : decode cX0_change 42 = .ok (.getfield 41, 3) := by decide +kernel
theorem dX0_change_45 : decode cX0_change 45 = .ok (.aload_n 0, 1) := by decide +kernel
theorem dX0_change_46 : decode cX0_change 46 = .ok (.getfield 33, 3) := by decide +kernel
theorem dX0_change_49 : decode cX0_change 49 = .ok (.iconst 3, 1) := by decide +kernel
theorem dX0_change_50 : decode cX0_change 50 = .ok (.iadd, 1) := by decide +kernel
theorem dX0_change_51 : decode cX0_change 51 = .ok (.iload_n 1, 1) := by decide +kernel
theorem dX0_change_52 : decode cX0_change 52 = .ok (.invokevirtual 116, 3) := by decide +kernel
theorem dX0_change_55 : decode cX0_change 55 = .ok (.aload_n 0, 1) := by decide +kernel
theorem dX0_change_56 : decode cX0_change 56 = .ok (.invokevirtual 99, 3) := by decide +kernel
theorem dX0_change_59 : decode cX0_change 59 = .ok (.aload_n 0, 1) := by decide +kernel
theorem dX0_change_60 : decode cX0_change 60 = .ok (.getfield 41, 3) := by decide +kernel
theorem dX0_change_63 : decode cX0_change 63 = .ok (.invokevirtual 51, 3) := by decide +kernel
theorem dX0_change_66 : decode cX0_change 66 = .ok (.ifCond .eq 8, 3) := by decide +kernel
theorem dX0_change_69 : decode cX0_change 69 = .ok (.bipush (-4), 2) := by decide +kernel
theorem dX0_change_71 : decode cX0_change 71 = .ok (.goto 4, 3) := by decide +kernel
theorem dX0_change_74 : decode cX0_change 74 = .ok (.iconst 0, 1) := by decide +kernel
theorem dX0_change_75 : decode cX0_change 75 = .ok (.ireturn, 1) := by decide +kernel
theorem dX0_carryOutIntent_0 : decode cX0_carryOutIntent 0 = .ok (.aload_n 0, 1) := by decide +kernel
theorem dX0_carryOutIntent_1 : decode cX0_carryOutIntent 1 = .ok (.getfield 41, 3) := by decide +kernel
theorem dX0_carryOutIntent_4 : decode cX0_carryOutIntent 4 = .ok (.aload_n 0, 1) := by decide +kernel
theorem dX0_carryOutIntent_5 : decode cX0_carryOutIntent 5 = .ok (.getfield 33, 3) := by decide +kernel
theorem dX0_carryOutIntent_8 : decode cX0_carryOutIntent 8 = .ok (.iconst 3, 1) := by decide +kernel
theorem dX0_carryOutIntent_9 : decode cX0_carryOutIntent 9 = .ok (.iadd, 1) := by decide +kernel
theorem dX0_carryOutIntent_10 : decode cX0_carryOutIntent 10 = .ok (.invokevirtual 80, 3) := by decide +kernel
theorem dX0_carryOutIntent_13 : decode cX0_carryOutIntent 13 = .ok (.istore_n 1, 1) := by decide +kernel
theorem dX0_carryOutIntent_14 : decode cX0_carryOutIntent 14 = .ok (.iload_n 1, 1) := by decide +kernel
theorem dX0_carryOutIntent_15 : decode cX0_carryOutIntent 15 = .ok (.ifCond .ne 4, 3) := by decide +kernel
theorem dX0_carryOutIntent_18 : decode cX0_carryOutIntent 18 = .ok (.return_, 1) := by decide +kernel
theorem dX0_carryOutIntent_19 : decode cX0_carryOutIntent 19 = .ok (.aload_n 0, 1) := by decide +kernel
theorem dX0_carryOutIntent_20 : decode cX0_carryOutIntent 20 = .ok (.getfield 41, 3) := by decide +kernel
theorem dX0_carryOutIntent_23 : decode cX0_carryOutIntent 23 = .ok (.aload_n 0, 1) := by decide +kernel
theorem dX0_carryOutIntent_24 : decode cX0_carryOutIntent 24 = .ok (.getfield 33, 3) := by decide +kernel
theorem dX0_carryOutIntent_27 : decode cX0_carryOutIntent 27 = .ok (.invokevirtual 80, 3) := by decide +kernel
theorem dX0_carryOutIntent_30 : decode cX0_carryOutIntent 30 = .ok (.istore_n 2, 1) := by decide +kernel
theorem dX0_carryOutIntent_31 : decode cX0_carryOutIntent 31 = .ok (.aload_n 0, 1) := by decide +kernel
theorem dX0_carryOutIntent_32 : decode cX0_carryOutIntent 32 = .ok (.getfield 41, 3) := by decide +kernel
theorem dX0_carryOutIntent_35 : decode cX0_carryOutIntent 35 = .ok (.aload_n 0, 1) := by decide +kernel
theorem dX0_carryOutIntent_36 : decode cX0_carryOutIntent 36 = .ok (.getfield 33, 3) := by decide +kernel
theorem dX0_carryOutIntent_39 : decode cX0_carryOutIntent 39 = .ok (.iconst 1, 1) := by decide +kernel
theorem dX0_carryOutIntent_40 : decode cX0_carryOutIntent 40 = .ok (.iadd, 1) := by decide +kernel
theorem dX0_carryOutIntent_41 : decode cX0_carryOutIntent 41 = .ok (.invokevirtual 80, 3) := by decide +kernel
theorem dX0_carryOutIntent_44 : decode cX0_carryOutIntent 44 = .ok (.istore_n 3, 1) := by decide +kernel
theorem dX0_carryOutIntent_45 : decode cX0_carryOutIntent 45 = .ok (.iload_n 1, 1) := by decide +kernel
theorem dX0_carryOutIntent_46 : decode cX0_carryOutIntent 46 = .ok (.iconst 1, 1) := by decide +kernel
theorem dX0_carryOutIntent_47 : decode cX0_carryOutIntent 47 = .ok (.if_icmp .ne 25, 3) := by decide +kernel
theorem dX0_carryOutIntent_50 : decode cX0_carryOutIntent 50 = .ok (.aload_n 0, 1) := by decide +kernel
theorem dX0_carryOutIntent_51 : decode cX0_carryOutIntent 51 = .ok (.iload_n 2, 1) := by decide +kernel
theorem dX0_carryOutIntent_52 : decode cX0_carryOutIntent 52 = .ok (.iload_n 3, 1) := by decide +kernel
theorem dX0_carryOutIntent_53 : decode cX0_carryOutIntent 53 = .ok (.aload_n 0, 1) := by decide +kernel
theorem dX0_carryOutIntent_54 : decode cX0_carryOutIntent 54 = .ok (.getfield 41, 3) := by decide +kernel
theorem dX0_carryOutIntent_57 : decode cX0_carryOutIntent 57 = .ok (.aload_n 0, 1) := by decide +kernel
theorem dX0_carryOutIntent_58 : decode cX0_carryOutIntent 58 = .ok (.getfield 33, 3) := by decide +kernel
theorem dX0_carryOutIntent_61 : decode cX0_carryOutIntent 61 = .ok (.iconst 2, 1) := by decide +kernel
theorem dX0_carryOutIntent_62 : decode cX0_carryOutIntent 62 = .ok (.iadd, 1) := by decide +kernel
theorem dX0_carryOutIntent_63 : decode cX0_carryOutIntent 63 = .ok (.invokevirtual 80, 3) := by decide +kernel
theorem dX0_carryOutIntent_66 : decode cX0_carryOutIntent 66 = .ok (.invokevirtual 138, 3) := by decide +kernel
theorem dX0_carryOutIntent_69 : decode cX0_carryOutIntent 69 = .ok (.goto 22, 3) := by decide +kernel
theorem dX0_carryOutIntent_72 : decode cX0_carryOutIntent 72 = .ok (.iload_n 1, 1) := by decide +kernel
theorem dX0_carryOutIntent_73 : decode cX0_carryOutIntent 73 = .ok (.iconst 2, 1) := by decide +kernel
theorem dX0_carryOutIntent_74 : decode cX0_carryOutIntent 74 = .ok (.if_icmp .ne 12, 3) := by decide +kernel
theorem dX0_carryOutIntent_77 : decode cX0_carryOutIntent 77 = .ok (.aload_n 0, 1) := by decide +kernel
theorem dX0_carryOutIntent_78 : decode cX0_carryOutIntent 78 = .ok (.iload_n 2, 1) := by decide +kernel
theorem dX0_carryOutIntent_79 : decode cX0_carryOutIntent 79 = .ok (.iload_n 3, 1) := by decide +kernel
theorem dX0_carryOutIntent_80 : decode cX0_carryOutIntent 80 = .ok (.invokevirtual 142, 3) := by decide +kernel
theorem dX0_carryOutIntent_83 : decode cX0_carryOutIntent 83 = .ok (.goto 8, 3) := by decide +kernel
theorem dX0_carryOutIntent_86 : decode cX0_carryOutIntent 86 = .ok (.aload_n 0, 1) := by decide +kernel
theorem dX0_carryOutIntent_87 : decode cX0_carryOutIntent 87 = .ok (.iload_n 2, 1) := by decide +kernel
theorem dX0_carryOutIntent_88 : decode cX0_carryOutIntent 88 = .ok (.invokevirtual 145, 3) := by decide +kernel
theorem dX0_carryOutIntent_91 : decode cX0_carryOutIntent 91 = .ok (.aload_n 0, 1) := by decide +kernel
theorem dX0_carryOutIntent_92 : decode cX0_carryOutIntent 92 = .ok (.getfield 41, 3) := by decide +kernel
theorem dX0_carryOutIntent_95 : decode cX0_carryOutIntent 95 = .ok (.aload_n 0, 1) := by decide +kernel
theorem dX0_carryOutIntent_96 : decode cX0_carryOutIntent 96 = .ok (.getfield 33, 3) := by decide +kernel
theorem dX0_carryOutIntent_99 : decode cX0_carryOutIntent 99 = .ok (.iconst 3, 1) := by decide +kernel
theorem dX0_carryOutIntent_100 : decode cX0_carryOutIntent 100 = .ok (.iadd, 1) := by decide +kernel
theorem dX0_carryOutIntent_101 : decode cX0_carryOutIntent 101 = .ok (.iconst 0, 1) := by decide +kernel
theorem dX0_carryOutIntent_102 : decode cX0_carryOutIntent 102 = .ok (.invokevirtual 116, 3) := by decide +kernel
theorem dX0_carryOutIntent_105 : decode cX0_carryOutIntent 105 = .ok (.return_, 1) := by decide +kernel
theorem dX0_mapBlock_0 : decode cX0_mapBlock 0 = .ok (.aload_n 0, 1) := by decide +kernel
theorem dX0_mapBlock_1 : decode cX0_mapBlock 1 = .ok (.getfield 41, 3) := by decide +kernel
theorem dX0_mapBlock_4 : decode cX0_mapBlock 4 = .ok (.aload_n 0, 1) := by decide +kernel
theorem dX0_mapBlock_5 : decode cX0_mapBlock 5 = .ok (.iload_n 1, 1) := by decide +kernel
theorem dX0_mapBlock_6 : decode cX0_mapBlock 6 = .ok (.iload_n 2, 1) := by decide +kernel
theorem dX0_mapBlock_7 : decode cX0_mapBlock 7 = .ok (.invokevirtual 113, 3) := by decide +kernel
theorem dX0_mapBlock_10 : decode cX0_mapBlock 10 = .ok (.iload_n 3, 1) := by decide +kernel
theorem dX0_mapBlock_11 : decode cX0_mapBlock 11 = .ok (.iconst 1, 1) := by decide +kernel
theorem dX0_mapBlock_12 : decode cX0_mapBlock 12 = .ok (.iadd, 1) := by decide +kernel
theorem dX0_mapBlock_13 : decode cX0_mapBlock 13 = .ok (.invokevirtual 116, 3) := by decide +kernel
theorem dX0_mapBlock_16 : decode cX0_mapBlock 16 = .ok (.return_, 1) := by decide +kernel
theorem dX0_mapVolumeAs_0 : decode cX0_mapVolumeAs 0 = .ok (.iconst 0, 1) := by decide +kernel
theorem dX0_mapVolumeAs_1 : decode cX0_mapVolumeAs 1 = .ok (.istore_n 3, 1) := by decide +kernel
theorem dX0_mapVolumeAs_2 : decode cX0_mapVolumeAs 2 = .ok (.iload_n 3, 1) := by decide +kernel
theorem dX0_mapVolumeAs_3 : decode cX0_mapVolumeAs 3 = .ok (.aload_n 0, 1) := by decide +kernel
theorem dX0_mapVolumeAs_4 : decode cX0_mapVolumeAs 4 = .ok (.getfield 23, 3) := by decide +kernel
theorem dX0_mapVolumeAs_7 : decode cX0_mapVolumeAs 7 = .ok (.if_icmp .ge 21, 3) := by decide +kernel
theorem dX0_mapVolumeAs_10 : decode cX0_mapVolumeAs 10 = .ok (.aload_n 0, 1) := by decide +kernel
theorem dX0_mapVolumeAs_11 : decode cX0_mapVolumeAs 11 = .ok (.iload_n 1, 1) := by decide +kernel
theorem dX0_mapVolumeAs_12 : decode cX0_mapVolumeAs 12 = .ok (.iload_n 3, 1) := by decide +kernel
theorem dX0_mapVolumeAs_13 : decode cX0_mapVolumeAs 13 = .ok (.aload_n 0, 1) := by decide +kernel
theorem dX0_mapVolumeAs_14 : decode cX0_mapVolumeAs 14 = .ok (.iload_n 2, 1) := by decide +kernel
theorem dX0_mapVolumeAs_15 : decode cX0_mapVolumeAs 15 = .ok (.iload_n 3, 1) := by decide +kernel
theorem dX0_mapVolumeAs_16 : decode cX0_mapVolumeAs 16 = .ok (.invokevirtual 70, 3) := by decide +kernel
theorem dX0_mapVolumeAs_19 : decode cX0_mapVolumeAs 19 = .ok (.invokevirtual 138, 3) := by decide +kernel
theorem dX0_mapVolumeAs_22 : decode cX0_mapVolumeAs 22 = .ok (.iinc 3 1, 3) := by decide +kernel
theorem dX0_mapVolumeAs_25 : decode cX0_mapVolumeAs 25 = .ok (.goto (-23), 3) := by decide +kernel
theorem dX0_mapVolumeAs_28 : decode cX0_mapVolumeAs 28 = .ok (.return_, 1) := by decide +kernel
theorem dX0_unmapVolume_0 : decode cX0_unmapVolume 0 = .ok (.iconst 0, 1) := by decide +kernel
theorem dX0_unmapVolume_1 : decode cX0_unmapVolume 1 = .ok (.istore_n 2, 1) := by decide +kernel
theorem dX0_unmapVolume_2 : decode cX0_unmapVolume 2 = .ok (.iload_n 2, 1) := by decide +kernel
theorem dX0_unmapVolume_3 : decode cX0_unmapVolume 3 = .ok (.aload_n 0, 1) := by decide +kernel
theorem dX0_unmapVolume_4 : decode cX0_unmapVolume 4 = .ok (.getfield 23, 3) := by decide +kernel
theorem dX0_unmapVolume_7 : decode cX0_unmapVolume 7 = .ok (.if_icmp .ge 16, 3) := by decide +kernel
theorem dX0_unmapVolume_10 : decode cX0_unmapVolume 10 = .ok (.aload_n 0, 1) := by decide +kernel
theorem dX0_unmapVolume_11 : decode cX0_unmapVolume 11 = .ok (.iload_n 1, 1) := by decide +kernel
theorem dX0_unmapVolume_12 : decode cX0_unmapVolume 12 = .ok (.iload_n 2, 1) := by decide +kernel
theorem dX0_unmapVolume_13 : decode cX0_unmapVolume 13 = .ok (.iconst (-1), 1) := by decide +kernel
theorem dX0_unmapVolume_14 : decode cX0_unmapVolume 14 = .ok (.invokevirtual 138, 3) := by decide +kernel
theorem dX0_unmapVolume_17 : decode cX0_unmapVolume 17 = .ok (.iinc 2 1, 3) := by decide +kernel
theorem dX0_unmapVolume_20 : decode cX0_unmapVolume 20 = .ok (.goto (-18), 3) := by decide +kernel
theorem dX0_unmapVolume_23 : decode cX0_unmapVolume 23 = .ok (.return_, 1) := by decide +kernel
theorem dX0_readWord_0 : decode cX0_readWord 0 = .ok (.aload_n 0, 1) := by decide +kernel
theorem dX0_readWord_1 : decode cX0_readWord 1 = .ok (.getfield 41, 3) := by decide +kernel
theorem dX0_readWord_4 : decode cX0_readWord 4 = .ok (.invokevirtual 51, 3) := by decide +kernel
theorem dX0_readWord_7 : decode cX0_readWord 7 = .ok (.ifCond .eq 6, 3) := by decide +kernel
theorem dX0_readWord_10 : decode cX0_readWord 10 = .ok (.bipush (-4), 2) := by decide +kernel
theorem dX0_readWord_12 : decode cX0_readWord 12 = .ok (.ireturn, 1) := by decide +kernel
theorem dX0_readWord_13 : decode cX0_readWord 13 = .ok (.aload_n 0, 1) := by decide +kernel
theorem dX0_readWord_14 : decode cX0_readWord 14 = .ok (.iload_n 1, 1) := by decide +kernel
theorem dX0_readWord_15 : decode cX0_readWord 15 = .ok (.iload_n 2, 1) := by decide +kernel
theorem dX0_readWord_16 : decode cX0_readWord 16 = .ok (.invokevirtual 59, 3) := by decide +kernel
theorem dX0_readWord_19 : decode cX0_readWord 19 = .ok (.ifCond .eq 11, 3) := by decide +kernel
theorem dX0_readWord_22 : decode cX0_readWord 22 = .ok (.aload_n 0, 1) := by decide +kernel
theorem dX0_readWord_23 : decode cX0_readWord 23 = .ok (.iload_n 3, 1) := by decide +kernel
theorem dX0_readWord_24 : decode cX0_readWord 24 = .ok (.invokevirtual 55, 3) := by decide +kernel
theorem dX0_readWord_27 : decode cX0_readWord 27 = .ok (.ifCond .ne 5, 3) := by decide +kernel
theorem dX0_readWord_30 : decode cX0_readWord 30 = .ok (.iconst 0, 1) := by decide +kernel
theorem dX0_readWord_31 : decode cX0_readWord 31 = .ok (.ireturn, 1) := by decide +kernel
theorem dX0_readWord_32 : decode cX0_readWord 32 = .ok (.aload_n 0, 1) := by decide +kernel
theorem dX0_readWord_33 : decode cX0_readWord 33 = .ok (.iload_n 1, 1) := by decide +kernel
theorem dX0_readWord_34 : decode cX0_readWord 34 = .ok (.iload_n 2, 1) := by decide +kernel
theorem dX0_readWord_35 : decode cX0_readWord 35 = .ok (.invokevirtual 70, 3) := by decide +kernel
theorem dX0_readWord_38 : decode cX0_readWord 38 = .ok (.istore 4, 2) := by decide +kernel
theorem dX0_readWord_40 : decode cX0_readWord 40 = .ok (.iload 4, 2) := by decide +kernel
theorem dX0_readWord_42 : decode cX0_readWord 42 = .ok (.iconst (-1), 1) := by decide +kernel
theorem dX0_readWord_43 : decode cX0_readWord 43 = .ok (.if_icmp .ne 7, 3) := by decide +kernel
theorem dX0_readWord_46 : decode cX0_readWord 46 = .ok (.iconst 0, 1) := by decide +kernel
theorem dX0_readWord_47 : decode cX0_readWord 47 = .ok (.goto 17, 3) := by decide +kernel
theorem dX0_readWord_50 : decode cX0_readWord 50 = .ok (.aload_n 0, 1) := by decide +kernel
theorem dX0_readWord_51 : decode cX0_readWord 51 = .ok (.getfield 41, 3) := by decide +kernel
theorem dX0_readWord_54 : decode cX0_readWord 54 = .ok (.aload_n 0, 1) := by decide +kernel
theorem dX0_readWord_55 : decode cX0_readWord 55 = .ok (.iload 4, 2) := by decide +kernel
theorem dX0_readWord_57 : decode cX0_readWord 57 = .ok (.iload_n 3, 1) := by decide +kernel
theorem dX0_readWord_58 : decode cX0_readWord 58 = .ok (.invokevirtual 77, 3) := by decide +kernel
theorem dX0_readWord_61 : decode cX0_readWord 61 = .ok (.invokevirtual 80, 3) := by decide +kernel
theorem dX0_readWord_64 : decode cX0_readWord 64 = .ok (.ireturn, 1) := by decide +kernel
theorem dX0_trim_0 : decode cX0_trim 0 = .ok (.aload_n 0, 1) := by decide +kernel
theorem dX0_trim_1 : decode cX0_trim 1 = .ok (.getfield 41, 3) := by decide +kernel
theorem dX0_trim_4 : decode cX0_trim 4 = .ok (.invokevirtual 51, 3) := by decide +kernel
theorem dX0_trim_7 : decode cX0_trim 7 = .ok (.ifCond .eq 6, 3) := by decide +kernel
theorem dX0_trim_10 : decode cX0_trim 10 = .ok (.bipush (-4), 2) := by decide +kernel
theorem dX0_trim_12 : decode cX0_trim 12 = .ok (.ireturn, 1) := by decide +kernel
theorem dX0_trim_13 : decode cX0_trim 13 = .ok (.aload_n 0, 1) := by decide +kernel
theorem dX0_trim_14 : decode cX0_trim 14 = .ok (.iload_n 1, 1) := by decide +kernel
theorem dX0_trim_15 : decode cX0_trim 15 = .ok (.iload_n 2, 1) := by decide +kernel
theorem dX0_trim_16 : decode cX0_trim 16 = .ok (.invokevirtual 59, 3) := by decide +kernel
theorem dX0_trim_19 : decode cX0_trim 19 = .ok (.ifCond .ne 5, 3) := by decide +kernel
theorem dX0_trim_22 : decode cX0_trim 22 = .ok (.iconst (-1), 1) := by decide +kernel
theorem dX0_trim_23 : decode cX0_trim 23 = .ok (.ireturn, 1) := by decide +kernel
theorem dX0_trim_24 : decode cX0_trim 24 = .ok (.aload_n 0, 1) := by decide +kernel
theorem dX0_trim_25 : decode cX0_trim 25 = .ok (.iload_n 1, 1) := by decide +kernel
theorem dX0_trim_26 : decode cX0_trim 26 = .ok (.iload_n 2, 1) := by decide +kernel
theorem dX0_trim_27 : decode cX0_trim 27 = .ok (.invokevirtual 70, 3) := by decide +kernel
theorem dX0_trim_30 : decode cX0_trim 30 = .ok (.iconst (-1), 1) := by decide +kernel
theorem dX0_trim_31 : decode cX0_trim 31 = .ok (.if_icmp .ne 6, 3) := by decide +kernel
theorem dX0_trim_34 : decode cX0_trim 34 = .ok (.bipush (-3), 2) := by decide +kernel
theorem dX0_trim_36 : decode cX0_trim 36 = .ok (.ireturn, 1) := by decide +kernel
theorem dX0_trim_37 : decode cX0_trim 37 = .ok (.aload_n 0, 1) := by decide +kernel
theorem dX0_trim_38 : decode cX0_trim 38 = .ok (.iconst 1, 1) := by decide +kernel
theorem dX0_trim_39 : decode cX0_trim 39 = .ok (.iload_n 1, 1) := by decide +kernel
theorem dX0_trim_40 : decode cX0_trim 40 = .ok (.iload_n 2, 1) := by decide +kernel
theorem dX0_trim_41 : decode cX0_trim 41 = .ok (.iconst (-1), 1) := by decide +kernel
theorem dX0_trim_42 : decode cX0_trim 42 = .ok (.invokevirtual 73, 3) := by decide +kernel
theorem dX0_trim_45 : decode cX0_trim 45 = .ok (.ireturn, 1) := by decide +kernel
theorem dX0_cloneVol_0 : decode cX0_cloneVol 0 = .ok (.aload_n 0, 1) := by decide +kernel
theorem dX0_cloneVol_1 : decode cX0_cloneVol 1 = .ok (.getfield 41, 3) := by decide +kernel
theorem dX0_cloneVol_4 : decode cX0_cloneVol 4 = .ok (.invokevirtual 51, 3) := by decide +kernel
theorem dX0_cloneVol_7 : decode cX0_cloneVol 7 = .ok (.ifCond .eq 6, 3) := by decide +kernel
theorem dX0_cloneVol_10 : decode cX0_cloneVol 10 = .ok (.bipush (-4), 2) := by decide +kernel
theorem dX0_cloneVol_12 : decode cX0_cloneVol 12 = .ok (.ireturn, 1) := by decide +kernel
theorem dX0_cloneVol_13 : decode cX0_cloneVol 13 = .ok (.aload_n 0, 1) := by decide +kernel
theorem dX0_cloneVol_14 : decode cX0_cloneVol 14 = .ok (.iload_n 1, 1) := by decide +kernel
theorem dX0_cloneVol_15 : decode cX0_cloneVol 15 = .ok (.invokevirtual 84, 3) := by decide +kernel
theorem dX0_cloneVol_18 : decode cX0_cloneVol 18 = .ok (.ifCond .eq 11, 3) := by decide +kernel
theorem dX0_cloneVol_21 : decode cX0_cloneVol 21 = .ok (.aload_n 0, 1) := by decide +kernel
theorem dX0_cloneVol_22 : decode cX0_cloneVol 22 = .ok (.iload_n 2, 1) := by decide +kernel
theorem dX0_cloneVol_23 : decode cX0_cloneVol 23 = .ok (.invokevirtual 84, 3) := by decide +kernel
theorem dX0_cloneVol_26 : decode cX0_cloneVol 26 = .ok (.ifCond .ne 5, 3) := by decide +kernel
theorem dX0_cloneVol_29 : decode cX0_cloneVol 29 = .ok (.iconst (-1), 1) := by decide +kernel
theorem dX0_cloneVol_30 : decode cX0_cloneVol 30 = .ok (.ireturn, 1) := by decide +kernel
theorem dX0_cloneVol_31 : decode cX0_cloneVol 31 = .ok (.aload_n 0, 1) := by decide +kernel
theorem dX0_cloneVol_32 : decode cX0_cloneVol 32 = .ok (.iconst 2, 1) := by decide +kernel
theorem dX0_cloneVol_33 : decode cX0_cloneVol 33 = .ok (.iload_n 2, 1) := by decide +kernel
theorem dX0_cloneVol_34 : decode cX0_cloneVol 34 = .ok (.iload_n 1, 1) := by decide +kernel
theorem dX0_cloneVol_35 : decode cX0_cloneVol 35 = .ok (.iconst 0, 1) := by decide +kernel
theorem dX0_cloneVol_36 : decode cX0_cloneVol 36 = .ok (.invokevirtual 73, 3) := by decide +kernel
theorem dX0_cloneVol_39 : decode cX0_cloneVol 39 = .ok (.ireturn, 1) := by decide +kernel
theorem dX0_dropVol_0 : decode cX0_dropVol 0 = .ok (.aload_n 0, 1) := by decide +kernel
theorem dX0_dropVol_1 : decode cX0_dropVol 1 = .ok (.getfield 41, 3) := by decide +kernel
theorem dX0_dropVol_4 : decode cX0_dropVol 4 = .ok (.invokevirtual 51, 3) := by decide +kernel
theorem dX0_dropVol_7 : decode cX0_dropVol 7 = .ok (.ifCond .eq 6, 3) := by decide +kernel
theorem dX0_dropVol_10 : decode cX0_dropVol 10 = .ok (.bipush (-4), 2) := by decide +kernel
theorem dX0_dropVol_12 : decode cX0_dropVol 12 = .ok (.ireturn, 1) := by decide +kernel
theorem dX0_dropVol_13 : decode cX0_dropVol 13 = .ok (.aload_n 0, 1) := by decide +kernel
theorem dX0_dropVol_14 : decode cX0_dropVol 14 = .ok (.iload_n 1, 1) := by decide +kernel
theorem dX0_dropVol_15 : decode cX0_dropVol 15 = .ok (.invokevirtual 84, 3) := by decide +kernel
theorem dX0_dropVol_18 : decode cX0_dropVol 18 = .ok (.ifCond .ne 5, 3) := by decide +kernel
theorem dX0_dropVol_21 : decode cX0_dropVol 21 = .ok (.iconst (-1), 1) := by decide +kernel
theorem dX0_dropVol_22 : decode cX0_dropVol 22 = .ok (.ireturn, 1) := by decide +kernel
theorem dX0_dropVol_23 : decode cX0_dropVol 23 = .ok (.aload_n 0, 1) := by decide +kernel
theorem dX0_dropVol_24 : decode cX0_dropVol 24 = .ok (.iconst 3, 1) := by decide +kernel
theorem dX0_dropVol_25 : decode cX0_dropVol 25 = .ok (.iload_n 1, 1) := by decide +kernel
theorem dX0_dropVol_26 : decode cX0_dropVol 26 = .ok (.iconst 0, 1) := by decide +kernel
theorem dX0_dropVol_27 : decode cX0_dropVol 27 = .ok (.iconst 0, 1) := by decide +kernel
theorem dX0_dropVol_28 : decode cX0_dropVol 28 = .ok (.invokevirtual 73, 3) := by decide +kernel
theorem dX0_dropVol_31 : decode cX0_dropVol 31 = .ok (.ireturn, 1) := by decide +kernel
theorem dX0_chunksUsed_0 : decode cX0_chunksUsed 0 = .ok (.aload_n 0, 1) := by decide +kernel
theorem dX0_chunksUsed_1 : decode cX0_chunksUsed 1 = .ok (.getfield 41, 3) := by decide +kernel
theorem dX0_chunksUsed_4 : decode cX0_chunksUsed 4 = .ok (.invokevirtual 51, 3) := by decide +kernel
theorem dX0_chunksUsed_7 : decode cX0_chunksUsed 7 = .ok (.ifCond .eq 8, 3) := by decide +kernel
theorem dX0_chunksUsed_10 : decode cX0_chunksUsed 10 = .ok (.bipush (-4), 2) := by decide +kernel
theorem dX0_chunksUsed_12 : decode cX0_chunksUsed 12 = .ok (.goto 7, 3) := by decide +kernel
theorem dX0_chunksUsed_15 : decode cX0_chunksUsed 15 = .ok (.aload_n 0, 1) := by decide +kernel
theorem dX0_chunksUsed_16 : decode cX0_chunksUsed 16 = .ok (.invokevirtual 87, 3) := by decide +kernel
theorem dX0_chunksUsed_19 : decode cX0_chunksUsed 19 = .ok (.ireturn, 1) := by decide +kernel
theorem dX0_refsOf_0 : decode cX0_refsOf 0 = .ok (.aload_n 0, 1) := by decide +kernel
theorem dX0_refsOf_1 : decode cX0_refsOf 1 = .ok (.getfield 41, 3) := by decide +kernel
theorem dX0_refsOf_4 : decode cX0_refsOf 4 = .ok (.invokevirtual 51, 3) := by decide +kernel
theorem dX0_refsOf_7 : decode cX0_refsOf 7 = .ok (.ifCond .eq 6, 3) := by decide +kernel
theorem dX0_refsOf_10 : decode cX0_refsOf 10 = .ok (.bipush (-4), 2) := by decide +kernel
theorem dX0_refsOf_12 : decode cX0_refsOf 12 = .ok (.ireturn, 1) := by decide +kernel
theorem dX0_refsOf_13 : decode cX0_refsOf 13 = .ok (.aload_n 0, 1) := by decide +kernel
theorem dX0_refsOf_14 : decode cX0_refsOf 14 = .ok (.iload_n 1, 1) := by decide +kernel
theorem dX0_refsOf_15 : decode cX0_refsOf 15 = .ok (.iload_n 2, 1) := by decide +kernel
theorem dX0_refsOf_16 : decode cX0_refsOf 16 = .ok (.invokevirtual 59, 3) := by decide +kernel
theorem dX0_refsOf_19 : decode cX0_refsOf 19 = .ok (.ifCond .ne 5, 3) := by decide +kernel
theorem dX0_refsOf_22 : decode cX0_refsOf 22 = .ok (.iconst 0, 1) := by decide +kernel
theorem dX0_refsOf_23 : decode cX0_refsOf 23 = .ok (.ireturn, 1) := by decide +kernel
theorem dX0_refsOf_24 : decode cX0_refsOf 24 = .ok (.aload_n 0, 1) := by decide +kernel
theorem dX0_refsOf_25 : decode cX0_refsOf 25 = .ok (.iload_n 1, 1) := by decide +kernel
theorem dX0_refsOf_26 : decode cX0_refsOf 26 = .ok (.iload_n 2, 1) := by decide +kernel
theorem dX0_refsOf_27 : decode cX0_refsOf 27 = .ok (.invokevirtual 70, 3) := by decide +kernel
theorem dX0_refsOf_30 : decode cX0_refsOf 30 = .ok (.istore_n 3, 1) := by decide +kernel
theorem dX0_refsOf_31 : decode cX0_refsOf 31 = .ok (.iload_n 3, 1) := by decide +kernel
theorem dX0_refsOf_32 : decode cX0_refsOf 32 = .ok (.iconst (-1), 1) := by decide +kernel
theorem dX0_refsOf_33 : decode cX0_refsOf 33 = .ok (.if_icmp .ne 7, 3) := by decide +kernel
theorem dX0_refsOf_36 : decode cX0_refsOf 36 = .ok (.iconst 0, 1) := by decide +kernel
theorem dX0_refsOf_37 : decode cX0_refsOf 37 = .ok (.goto 8, 3) := by decide +kernel
theorem dX0_refsOf_40 : decode cX0_refsOf 40 = .ok (.aload_n 0, 1) := by decide +kernel
theorem dX0_refsOf_41 : decode cX0_refsOf 41 = .ok (.iload_n 3, 1) := by decide +kernel
theorem dX0_refsOf_42 : decode cX0_refsOf 42 = .ok (.invokevirtual 90, 3) := by decide +kernel
theorem dX0_refsOf_45 : decode cX0_refsOf 45 = .ok (.ireturn, 1) := by decide +kernel
theorem dX0_slotOf_0 : decode cX0_slotOf 0 = .ok (.aload_n 0, 1) := by decide +kernel
theorem dX0_slotOf_1 : decode cX0_slotOf 1 = .ok (.getfield 41, 3) := by decide +kernel
theorem dX0_slotOf_4 : decode cX0_slotOf 4 = .ok (.invokevirtual 51, 3) := by decide +kernel
theorem dX0_slotOf_7 : decode cX0_slotOf 7 = .ok (.ifCond .eq 6, 3) := by decide +kernel
theorem dX0_slotOf_10 : decode cX0_slotOf 10 = .ok (.bipush (-4), 2) := by decide +kernel
theorem dX0_slotOf_12 : decode cX0_slotOf 12 = .ok (.ireturn, 1) := by decide +kernel
theorem dX0_slotOf_13 : decode cX0_slotOf 13 = .ok (.aload_n 0, 1) := by decide +kernel
theorem dX0_slotOf_14 : decode cX0_slotOf 14 = .ok (.iload_n 1, 1) := by decide +kernel
theorem dX0_slotOf_15 : decode cX0_slotOf 15 = .ok (.iload_n 2, 1) := by decide +kernel
theorem dX0_slotOf_16 : decode cX0_slotOf 16 = .ok (.invokevirtual 59, 3) := by decide +kernel
theorem dX0_slotOf_19 : decode cX0_slotOf 19 = .ok (.ifCond .ne 5, 3) := by decide +kernel
theorem dX0_slotOf_22 : decode cX0_slotOf 22 = .ok (.iconst (-1), 1) := by decide +kernel
theorem dX0_slotOf_23 : decode cX0_slotOf 23 = .ok (.ireturn, 1) := by decide +kernel
theorem dX0_slotOf_24 : decode cX0_slotOf 24 = .ok (.aload_n 0, 1) := by decide +kernel
theorem dX0_slotOf_25 : decode cX0_slotOf 25 = .ok (.iload_n 1, 1) := by decide +kernel
theorem dX0_slotOf_26 : decode cX0_slotOf 26 = .ok (.iload_n 2, 1) := by decide +kernel
theorem dX0_slotOf_27 : decode cX0_slotOf 27 = .ok (.invokevirtual 70, 3) := by decide +kernel
theorem dX0_slotOf_30 : decode cX0_slotOf 30 = .ok (.istore_n 3, 1) := by decide +kernel
theorem dX0_slotOf_31 : decode cX0_slotOf 31 = .ok (.iload_n 3, 1) := by decide +kernel
theorem dX0_slotOf_32 : decode cX0_slotOf 32 = .ok (.iconst (-1), 1) := by decide +kernel
theorem dX0_slotOf_33 : decode cX0_slotOf 33 = .ok (.if_icmp .ne 8, 3) := by decide +kernel
theorem dX0_slotOf_36 : decode cX0_slotOf 36 = .ok (.bipush (-3), 2) := by decide +kernel
theorem dX0_slotOf_38 : decode cX0_slotOf 38 = .ok (.goto 4, 3) := by decide +kernel
theorem dX0_slotOf_41 : decode cX0_slotOf 41 = .ok (.iload_n 3, 1) := by decide +kernel
theorem dX0_slotOf_42 : decode cX0_slotOf 42 = .ok (.ireturn, 1) := by decide +kernel
theorem dX0_slotWord_0 : decode cX0_slotWord 0 = .ok (.aload_n 0, 1) := by decide +kernel
theorem dX0_slotWord_1 : decode cX0_slotWord 1 = .ok (.getfield 41, 3) := by decide +kernel
theorem dX0_slotWord_4 : decode cX0_slotWord 4 = .ok (.invokevirtual 51, 3) := by decide +kernel
theorem dX0_slotWord_7 : decode cX0_slotWord 7 = .ok (.ifCond .eq 6, 3) := by decide +kernel
theorem dX0_slotWord_10 : decode cX0_slotWord 10 = .ok (.bipush (-4), 2) := by decide +kernel
theorem dX0_slotWord_12 : decode cX0_slotWord 12 = .ok (.ireturn, 1) := by decide +kernel
theorem dX0_slotWord_13 : decode cX0_slotWord 13 = .ok (.iload_n 1, 1) := by decide +kernel
theorem dX0_slotWord_14 : decode cX0_slotWord 14 = .ok (.ifCond .lt 19, 3) := by decide +kernel
theorem dX0_slotWord_17 : decode cX0_slotWord 17 = .ok (.iload_n 1, 1) := by decide +kernel
theorem dX0_slotWord_18 : decode cX0_slotWord 18 = .ok (.aload_n 0, 1) := by decide +kernel
theorem dX0_slotWord_19 : decode cX0_slotWord 19 = .ok (.getfield 17, 3) := by decide +kernel
theorem dX0_slotWord_22 : decode cX0_slotWord 22 = .ok (.if_icmp .gt 11, 3) := by decide +kernel
theorem dX0_slotWord_25 : decode cX0_slotWord 25 = .ok (.aload_n 0, 1) := by decide +kernel
theorem dX0_slotWord_26 : decode cX0_slotWord 26 = .ok (.iload_n 2, 1) := by decide +kernel
theorem dX0_slotWord_27 : decode cX0_slotWord 27 = .ok (.invokevirtual 55, 3) := by decide +kernel
theorem dX0_slotWord_30 : decode cX0_slotWord 30 = .ok (.ifCond .ne 5, 3) := by decide +kernel
theorem dX0_slotWord_33 : decode cX0_slotWord 33 = .ok (.iconst 0, 1) := by decide +kernel
theorem dX0_slotWord_34 : decode cX0_slotWord 34 = .ok (.ireturn, 1) := by decide +kernel
theorem dX0_slotWord_35 : decode cX0_slotWord 35 = .ok (.aload_n 0, 1) := by decide +kernel
theorem dX0_slotWord_36 : decode cX0_slotWord 36 = .ok (.getfield 41, 3) := by decide +kernel
theorem dX0_slotWord_39 : decode cX0_slotWord 39 = .ok (.aload_n 0, 1) := by decide +kernel
theorem dX0_slotWord_40 : decode cX0_slotWord 40 = .ok (.iload_n 1, 1) := by decide +kernel
theorem dX0_slotWord_41 : decode cX0_slotWord 41 = .ok (.iload_n 2, 1) := by decide +kernel
theorem dX0_slotWord_42 : decode cX0_slotWord 42 = .ok (.invokevirtual 77, 3) := by decide +kernel
theorem dX0_slotWord_45 : decode cX0_slotWord 45 = .ok (.invokevirtual 80, 3) := by decide +kernel
theorem dX0_slotWord_48 : decode cX0_slotWord 48 = .ok (.ireturn, 1) := by decide +kernel
theorem dX0_crashAfter_0 : decode cX0_crashAfter 0 = .ok (.aload_n 0, 1) := by decide +kernel
theorem dX0_crashAfter_1 : decode cX0_crashAfter 1 = .ok (.getfield 41, 3) := by decide +kernel
theorem dX0_crashAfter_4 : decode cX0_crashAfter 4 = .ok (.iload_n 1, 1) := by decide +kernel
theorem dX0_crashAfter_5 : decode cX0_crashAfter 5 = .ok (.invokevirtual 93, 3) := by decide +kernel
theorem dX0_crashAfter_8 : decode cX0_crashAfter 8 = .ok (.return_, 1) := by decide +kernel
theorem dX1_armLoss_0 : decode cX1_armLoss 0 = .ok (.aload_n 0, 1) := by decide +kernel
theorem dX1_armLoss_1 : decode cX1_armLoss 1 = .ok (.getfield 23, 3) := by decide +kernel
theorem dX1_armLoss_4 : decode cX1_armLoss 4 = .ok (.ifCond .eq 4, 3) := by decide +kernel
theorem dX1_armLoss_7 : decode cX1_armLoss 7 = .ok (.return_, 1) := by decide +kernel
theorem dX1_armLoss_8 : decode cX1_armLoss 8 = .ok (.iload_n 1, 1) := by decide +kernel
theorem dX1_armLoss_9 : decode cX1_armLoss 9 = .ok (.iconst 1, 1) := by decide +kernel
theorem dX1_armLoss_10 : decode cX1_armLoss 10 = .ok (.if_icmp .ge 11, 3) := by decide +kernel
theorem dX1_armLoss_13 : decode cX1_armLoss 13 = .ok (.aload_n 0, 1) := by decide +kernel
theorem dX1_armLoss_14 : decode cX1_armLoss 14 = .ok (.iconst 0, 1) := by decide +kernel
theorem dX1_armLoss_15 : decode cX1_armLoss 15 = .ok (.putfield 19, 3) := by decide +kernel
theorem dX1_armLoss_18 : decode cX1_armLoss 18 = .ok (.goto 27, 3) := by decide +kernel
theorem dX1_armLoss_21 : decode cX1_armLoss 21 = .ok (.aload_n 0, 1) := by decide +kernel
theorem dX1_armLoss_22 : decode cX1_armLoss 22 = .ok (.getfield 30, 3) := by decide +kernel
theorem dX1_armLoss_25 : decode cX1_armLoss 25 = .ok (.bipush 30, 2) := by decide +kernel
theorem dX1_armLoss_27 : decode cX1_armLoss 27 = .ok (.if_icmp .ge 18, 3) := by decide +kernel
theorem dX1_armLoss_30 : decode cX1_armLoss 30 = .ok (.aload_n 0, 1) := by decide +kernel
theorem dX1_armLoss_31 : decode cX1_armLoss 31 = .ok (.dup, 1) := by decide +kernel
theorem dX1_armLoss_32 : decode cX1_armLoss 32 = .ok (.getfield 30, 3) := by decide +kernel
theorem dX1_armLoss_35 : decode cX1_armLoss 35 = .ok (.iconst 1, 1) := by decide +kernel
theorem dX1_armLoss_36 : decode cX1_armLoss 36 = .ok (.iadd, 1) := by decide +kernel
theorem dX1_armLoss_37 : decode cX1_armLoss 37 = .ok (.putfield 30, 3) := by decide +kernel
theorem dX1_armLoss_40 : decode cX1_armLoss 40 = .ok (.aload_n 0, 1) := by decide +kernel
theorem dX1_armLoss_41 : decode cX1_armLoss 41 = .ok (.iload_n 1, 1) := by decide +kernel
theorem dX1_armLoss_42 : decode cX1_armLoss 42 = .ok (.putfield 19, 3) := by decide +kernel
theorem dX1_armLoss_45 : decode cX1_armLoss 45 = .ok (.return_, 1) := by decide +kernel
theorem dX0_down_0 : decode cX0_down 0 = .ok (.aload_n 0, 1) := by decide +kernel
theorem dX0_down_1 : decode cX0_down 1 = .ok (.getfield 41, 3) := by decide +kernel
theorem dX0_down_4 : decode cX0_down 4 = .ok (.invokevirtual 51, 3) := by decide +kernel
theorem dX0_down_7 : decode cX0_down 7 = .ok (.ireturn, 1) := by decide +kernel
theorem dX0_recover_0 : decode cX0_recover 0 = .ok (.aload_n 0, 1) := by decide +kernel
theorem dX0_recover_1 : decode cX0_recover 1 = .ok (.getfield 41, 3) := by decide +kernel
theorem dX0_recover_4 : decode cX0_recover 4 = .ok (.invokevirtual 51, 3) := by decide +kernel
theorem dX0_recover_7 : decode cX0_recover 7 = .ok (.ifCond .eq 18, 3) := by decide +kernel
theorem dX0_recover_10 : decode cX0_recover 10 = .ok (.aload_n 0, 1) := by decide +kernel
theorem dX0_recover_11 : decode cX0_recover 11 = .ok (.getfield 41, 3) := by decide +kernel
theorem dX0_recover_14 : decode cX0_recover 14 = .ok (.invokevirtual 96, 3) := by decide +kernel
theorem dX0_recover_17 : decode cX0_recover 17 = .ok (.aload_n 0, 1) := by decide +kernel
theorem dX0_recover_18 : decode cX0_recover 18 = .ok (.invokevirtual 48, 3) := by decide +kernel
theorem dX0_recover_21 : decode cX0_recover 21 = .ok (.aload_n 0, 1) := by decide +kernel
theorem dX0_recover_22 : decode cX0_recover 22 = .ok (.invokevirtual 99, 3) := by decide +kernel
theorem dX0_recover_25 : decode cX0_recover 25 = .ok (.iconst 0, 1) := by decide +kernel
theorem dX0_recover_26 : decode cX0_recover 26 = .ok (.ireturn, 1) := by decide +kernel
theorem dX1_restorePower_0 : decode cX1_restorePower 0 = .ok (.aload_n 0, 1) := by decide +kernel
theorem dX1_restorePower_1 : decode cX1_restorePower 1 = .ok (.iconst 0, 1) := by decide +kernel
theorem dX1_restorePower_2 : decode cX1_restorePower 2 = .ok (.putfield 23, 3) := by decide +kernel
theorem dX1_restorePower_5 : decode cX1_restorePower 5 = .ok (.return_, 1) := by decide +kernel
theorem dX0_writes_0 : decode cX0_writes 0 = .ok (.aload_n 0, 1) := by decide +kernel
theorem dX0_writes_1 : decode cX0_writes 1 = .ok (.getfield 41, 3) := by decide +kernel
theorem dX0_writes_4 : decode cX0_writes 4 = .ok (.invokevirtual 102, 3) := by decide +kernel
theorem dX0_writes_7 : decode cX0_writes 7 = .ok (.ireturn, 1) := by decide +kernel
theorem dX1_writesDone_0 : decode cX1_writesDone 0 = .ok (.aload_n 0, 1) := by decide +kernel
theorem dX1_writesDone_1 : decode cX1_writesDone 1 = .ok (.getfield 27, 3) := by decide +kernel
theorem dX1_writesDone_4 : decode cX1_writesDone 4 = .ok (.ireturn, 1) := by decide +kernel
