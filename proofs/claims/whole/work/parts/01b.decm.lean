theorem dX2_init_0 : decode cX2_init 0 = .ok (.aload_n 0, 1) := by decide +kernel
theorem dX2_init_1 : decode cX2_init 1 = .ok (.invokespecial 1, 3) := by decide +kernel
theorem dX2_init_4 : decode cX2_init 4 = .ok (.aload_n 0, 1) := by decide +kernel
theorem dX2_init_5 : decode cX2_init 5 = .ok (.bipush 24, 2) := by decide +kernel
theorem dX2_init_7 : decode cX2_init 7 = .ok (.newarray .int, 2) := by decide +kernel
theorem dX2_init_9 : decode cX2_init 9 = .ok (.putfield 7, 3) := by decide +kernel
theorem dX2_init_12 : decode cX2_init 12 = .ok (.aload_n 0, 1) := by decide +kernel
theorem dX2_init_13 : decode cX2_init 13 = .ok (.bipush 24, 2) := by decide +kernel
theorem dX2_init_15 : decode cX2_init 15 = .ok (.newarray .int, 2) := by decide +kernel
theorem dX2_init_17 : decode cX2_init 17 = .ok (.putfield 13, 3) := by decide +kernel
theorem dX2_init_20 : decode cX2_init 20 = .ok (.aload_n 0, 1) := by decide +kernel
theorem dX2_init_21 : decode cX2_init 21 = .ok (.bipush 52, 2) := by decide +kernel
theorem dX2_init_23 : decode cX2_init 23 = .ok (.newarray .int, 2) := by decide +kernel
theorem dX2_init_25 : decode cX2_init 25 = .ok (.putfield 16, 3) := by decide +kernel
theorem dX2_init_28 : decode cX2_init 28 = .ok (.aload_n 0, 1) := by decide +kernel
theorem dX2_init_29 : decode cX2_init 29 = .ok (.iconst 4, 1) := by decide +kernel
theorem dX2_init_30 : decode cX2_init 30 = .ok (.newarray .int, 2) := by decide +kernel
theorem dX2_init_32 : decode cX2_init 32 = .ok (.putfield 19, 3) := by decide +kernel
theorem dX2_init_35 : decode cX2_init 35 = .ok (.aload_n 0, 1) := by decide +kernel
theorem dX2_init_36 : decode cX2_init 36 = .ok (.iload_n 1, 1) := by decide +kernel
theorem dX2_init_37 : decode cX2_init 37 = .ok (.iconst 4, 1) := by decide +kernel
theorem dX2_init_38 : decode cX2_init 38 = .ok (.invokestatic 22, 3) := by decide +kernel
theorem dX2_init_41 : decode cX2_init 41 = .ok (.putfield 26, 3) := by decide +kernel
theorem dX2_init_44 : decode cX2_init 44 = .ok (.aload_n 0, 1) := by decide +kernel
theorem dX2_init_45 : decode cX2_init 45 = .ok (.iload_n 2, 1) := by decide +kernel
theorem dX2_init_46 : decode cX2_init 46 = .ok (.bipush 12, 2) := by decide +kernel
theorem dX2_init_48 : decode cX2_init 48 = .ok (.invokestatic 22, 3) := by decide +kernel
theorem dX2_init_51 : decode cX2_init 51 = .ok (.putfield 30, 3) := by decide +kernel
theorem dX2_init_54 : decode cX2_init 54 = .ok (.aload_n 0, 1) := by decide +kernel
theorem dX2_init_55 : decode cX2_init 55 = .ok (.iload_n 3, 1) := by decide +kernel
theorem dX2_init_56 : decode cX2_init 56 = .ok (.iconst 4, 1) := by decide +kernel
theorem dX2_init_57 : decode cX2_init 57 = .ok (.invokestatic 22, 3) := by decide +kernel
theorem dX2_init_60 : decode cX2_init 60 = .ok (.putfield 33, 3) := by decide +kernel
theorem dX2_init_63 : decode cX2_init 63 = .ok (.aload_n 0, 1) := by decide +kernel
theorem dX2_init_64 : decode cX2_init 64 = .ok (.iload 4, 2) := by decide +kernel
theorem dX2_init_66 : decode cX2_init 66 = .ok (.bipush 6, 2) := by decide +kernel
theorem dX2_init_68 : decode cX2_init 68 = .ok (.invokestatic 22, 3) := by decide +kernel
theorem dX2_init_71 : decode cX2_init 71 = .ok (.putfield 36, 3) := by decide +kernel
theorem dX2_init_74 : decode cX2_init 74 = .ok (.return_, 1) := by decide +kernel
theorem dX2_cut_0 : decode cX2_cut 0 = .ok (.iload_n 0, 1) := by decide +kernel
theorem dX2_cut_1 : decode cX2_cut 1 = .ok (.iconst 1, 1) := by decide +kernel
theorem dX2_cut_2 : decode cX2_cut 2 = .ok (.if_icmp .ge 7, 3) := by decide +kernel
theorem dX2_cut_5 : decode cX2_cut 5 = .ok (.iconst 1, 1) := by decide +kernel
theorem dX2_cut_6 : decode cX2_cut 6 = .ok (.goto 13, 3) := by decide +kernel
theorem dX2_cut_9 : decode cX2_cut 9 = .ok (.iload_n 0, 1) := by decide +kernel
theorem dX2_cut_10 : decode cX2_cut 10 = .ok (.iload_n 1, 1) := by decide +kernel
theorem dX2_cut_11 : decode cX2_cut 11 = .ok (.if_icmp .le 7, 3) := by decide +kernel
theorem dX2_cut_14 : decode cX2_cut 14 = .ok (.iload_n 1, 1) := by decide +kernel
theorem dX2_cut_15 : decode cX2_cut 15 = .ok (.goto 4, 3) := by decide +kernel
theorem dX2_cut_18 : decode cX2_cut 18 = .ok (.iload_n 0, 1) := by decide +kernel
theorem dX2_cut_19 : decode cX2_cut 19 = .ok (.ireturn, 1) := by decide +kernel
theorem dX2_format_0 : decode cX2_format 0 = .ok (.iconst 0, 1) := by decide +kernel
theorem dX2_format_1 : decode cX2_format 1 = .ok (.istore_n 1, 1) := by decide +kernel
theorem dX2_format_2 : decode cX2_format 2 = .ok (.iload_n 1, 1) := by decide +kernel
theorem dX2_format_3 : decode cX2_format 3 = .ok (.bipush 24, 2) := by decide +kernel
theorem dX2_format_5 : decode cX2_format 5 = .ok (.if_icmp .ge 16, 3) := by decide +kernel
theorem dX2_format_8 : decode cX2_format 8 = .ok (.aload_n 0, 1) := by decide +kernel
theorem dX2_format_9 : decode cX2_format 9 = .ok (.getfield 7, 3) := by decide +kernel
theorem dX2_format_12 : decode cX2_format 12 = .ok (.iload_n 1, 1) := by decide +kernel
theorem dX2_format_13 : decode cX2_format 13 = .ok (.iconst 0, 1) := by decide +kernel
theorem dX2_format_14 : decode cX2_format 14 = .ok (.iastore, 1) := by decide +kernel
theorem dX2_format_15 : decode cX2_format 15 = .ok (.iinc 1 1, 3) := by decide +kernel
theorem dX2_format_18 : decode cX2_format 18 = .ok (.goto (-16), 3) := by decide +kernel
theorem dX2_format_21 : decode cX2_format 21 = .ok (.iconst 0, 1) := by decide +kernel
theorem dX2_format_22 : decode cX2_format 22 = .ok (.istore_n 1, 1) := by decide +kernel
theorem dX2_format_23 : decode cX2_format 23 = .ok (.iload_n 1, 1) := by decide +kernel
theorem dX2_format_24 : decode cX2_format 24 = .ok (.bipush 52, 2) := by decide +kernel
theorem dX2_format_26 : decode cX2_format 26 = .ok (.if_icmp .ge 16, 3) := by decide +kernel
theorem dX2_format_29 : decode cX2_format 29 = .ok (.aload_n 0, 1) := by decide +kernel
theorem dX2_format_30 : decode cX2_format 30 = .ok (.getfield 16, 3) := by decide +kernel
theorem dX2_format_33 : decode cX2_format 33 = .ok (.iload_n 1, 1) := by decide +kernel
theorem dX2_format_34 : decode cX2_format 34 = .ok (.iconst 0, 1) := by decide +kernel
theorem dX2_format_35 : decode cX2_format 35 = .ok (.iastore, 1) := by decide +kernel
theorem dX2_format_36 : decode cX2_format 36 = .ok (.iinc 1 1, 3) := by decide +kernel
theorem dX2_format_39 : decode cX2_format 39 = .ok (.goto (-16), 3) := by decide +kernel
theorem dX2_format_42 : decode cX2_format 42 = .ok (.aload_n 0, 1) := by decide +kernel
theorem dX2_format_43 : decode cX2_format 43 = .ok (.invokevirtual 39, 3) := by decide +kernel
theorem dX2_format_46 : decode cX2_format 46 = .ok (.aload_n 0, 1) := by decide +kernel
theorem dX2_format_47 : decode cX2_format 47 = .ok (.iconst 0, 1) := by decide +kernel
theorem dX2_format_48 : decode cX2_format 48 = .ok (.putfield 42, 3) := by decide +kernel
theorem dX2_format_51 : decode cX2_format 51 = .ok (.aload_n 0, 1) := by decide +kernel
theorem dX2_format_52 : decode cX2_format 52 = .ok (.iconst 0, 1) := by decide +kernel
theorem dX2_format_53 : decode cX2_format 53 = .ok (.putfield 46, 3) := by decide +kernel
theorem dX2_format_56 : decode cX2_format 56 = .ok (.aload_n 0, 1) := by decide +kernel
theorem dX2_format_57 : decode cX2_format 57 = .ok (.iconst 0, 1) := by decide +kernel
theorem dX2_format_58 : decode cX2_format 58 = .ok (.putfield 49, 3) := by decide +kernel
theorem dX2_format_61 : decode cX2_format 61 = .ok (.iconst 0, 1) := by decide +kernel
theorem dX2_format_62 : decode cX2_format 62 = .ok (.ireturn, 1) := by decide +kernel
theorem dX2_clearStage_0 : decode cX2_clearStage 0 = .ok (.iconst 0, 1) := by decide +kernel
theorem dX2_clearStage_1 : decode cX2_clearStage 1 = .ok (.istore_n 1, 1) := by decide +kernel
theorem dX2_clearStage_2 : decode cX2_clearStage 2 = .ok (.iload_n 1, 1) := by decide +kernel
theorem dX2_clearStage_3 : decode cX2_clearStage 3 = .ok (.iconst 4, 1) := by decide +kernel
theorem dX2_clearStage_4 : decode cX2_clearStage 4 = .ok (.if_icmp .ge 16, 3) := by decide +kernel
theorem dX2_clearStage_7 : decode cX2_clearStage 7 = .ok (.aload_n 0, 1) := by decide +kernel
theorem dX2_clearStage_8 : decode cX2_clearStage 8 = .ok (.getfield 19, 3) := by decide +kernel
theorem dX2_clearStage_11 : decode cX2_clearStage 11 = .ok (.iload_n 1, 1) := by decide +kernel
theorem dX2_clearStage_12 : decode cX2_clearStage 12 = .ok (.iconst 0, 1) := by decide +kernel
theorem dX2_clearStage_13 : decode cX2_clearStage 13 = .ok (.iastore, 1) := by decide +kernel
theorem dX2_clearStage_14 : decode cX2_clearStage 14 = .ok (.iinc 1 1, 3) := by decide +kernel
theorem dX2_clearStage_17 : decode cX2_clearStage 17 = .ok (.goto (-15), 3) := by decide +kernel
theorem dX2_clearStage_20 : decode cX2_clearStage 20 = .ok (.return_, 1) := by decide +kernel
theorem dX2_stageWord_0 : decode cX2_stageWord 0 = .ok (.aload_n 0, 1) := by decide +kernel
theorem dX2_stageWord_1 : decode cX2_stageWord 1 = .ok (.getfield 42, 3) := by decide +kernel
theorem dX2_stageWord_4 : decode cX2_stageWord 4 = .ok (.ifCond .ne 11, 3) := by decide +kernel
theorem dX2_stageWord_7 : decode cX2_stageWord 7 = .ok (.aload_n 0, 1) := by decide +kernel
theorem dX2_stageWord_8 : decode cX2_stageWord 8 = .ok (.iload_n 1, 1) := by decide +kernel
theorem dX2_stageWord_9 : decode cX2_stageWord 9 = .ok (.invokevirtual 69, 3) := by decide +kernel
theorem dX2_stageWord_12 : decode cX2_stageWord 12 = .ok (.ifCond .ne 17, 3) := by decide +kernel
theorem dX2_stageWord_15 : decode cX2_stageWord 15 = .ok (.aload_n 0, 1) := by decide +kernel
theorem dX2_stageWord_16 : decode cX2_stageWord 16 = .ok (.getfield 42, 3) := by decide +kernel
theorem dX2_stageWord_19 : decode cX2_stageWord 19 = .ok (.ifCond .eq 8, 3) := by decide +kernel
theorem dX2_stageWord_22 : decode cX2_stageWord 22 = .ok (.bipush (-4), 2) := by decide +kernel
theorem dX2_stageWord_24 : decode cX2_stageWord 24 = .ok (.goto 4, 3) := by decide +kernel
theorem dX2_stageWord_27 : decode cX2_stageWord 27 = .ok (.iconst (-1), 1) := by decide +kernel
theorem dX2_stageWord_28 : decode cX2_stageWord 28 = .ok (.ireturn, 1) := by decide +kernel
theorem dX2_stageWord_29 : decode cX2_stageWord 29 = .ok (.aload_n 0, 1) := by decide +kernel
theorem dX2_stageWord_30 : decode cX2_stageWord 30 = .ok (.getfield 19, 3) := by decide +kernel
theorem dX2_stageWord_33 : decode cX2_stageWord 33 = .ok (.iload_n 1, 1) := by decide +kernel
theorem dX2_stageWord_34 : decode cX2_stageWord 34 = .ok (.iload_n 2, 1) := by decide +kernel
theorem dX2_stageWord_35 : decode cX2_stageWord 35 = .ok (.iastore, 1) := by decide +kernel
theorem dX2_stageWord_36 : decode cX2_stageWord 36 = .ok (.iconst 0, 1) := by decide +kernel
theorem dX2_stageWord_37 : decode cX2_stageWord 37 = .ok (.ireturn, 1) := by decide +kernel
theorem dX2_isWord_0 : decode cX2_isWord 0 = .ok (.iload_n 1, 1) := by decide +kernel
theorem dX2_isWord_1 : decode cX2_isWord 1 = .ok (.ifCond .lt 15, 3) := by decide +kernel
theorem dX2_isWord_4 : decode cX2_isWord 4 = .ok (.iload_n 1, 1) := by decide +kernel
theorem dX2_isWord_5 : decode cX2_isWord 5 = .ok (.aload_n 0, 1) := by decide +kernel
theorem dX2_isWord_6 : decode cX2_isWord 6 = .ok (.getfield 26, 3) := by decide +kernel
theorem dX2_isWord_9 : decode cX2_isWord 9 = .ok (.if_icmp .ge 7, 3) := by decide +kernel
theorem dX2_isWord_12 : decode cX2_isWord 12 = .ok (.iconst 1, 1) := by decide +kernel
theorem dX2_isWord_13 : decode cX2_isWord 13 = .ok (.goto 4, 3) := by decide +kernel
theorem dX2_isWord_16 : decode cX2_isWord 16 = .ok (.iconst 0, 1) := by decide +kernel
theorem dX2_isWord_17 : decode cX2_isWord 17 = .ok (.ireturn, 1) := by decide +kernel
theorem dX2_writeBlock_0 : decode cX2_writeBlock 0 = .ok (.aload_n 0, 1) := by decide +kernel
theorem dX2_writeBlock_1 : decode cX2_writeBlock 1 = .ok (.getfield 42, 3) := by decide +kernel
theorem dX2_writeBlock_4 : decode cX2_writeBlock 4 = .ok (.ifCond .eq 6, 3) := by decide +kernel
theorem dX2_writeBlock_7 : decode cX2_writeBlock 7 = .ok (.bipush (-4), 2) := by decide +kernel
theorem dX2_writeBlock_9 : decode cX2_writeBlock 9 = .ok (.ireturn, 1) := by decide +kernel
theorem dX2_writeBlock_10 : decode cX2_writeBlock 10 = .ok (.aload_n 0, 1) := by decide +kernel
theorem dX2_writeBlock_11 : decode cX2_writeBlock 11 = .ok (.iload_n 1, 1) := by decide +kernel
theorem dX2_writeBlock_12 : decode cX2_writeBlock 12 = .ok (.iload_n 2, 1) := by decide +kernel
theorem dX2_writeBlock_13 : decode cX2_writeBlock 13 = .ok (.invokevirtual 72, 3) := by decide +kernel
theorem dX2_writeBlock_16 : decode cX2_writeBlock 16 = .ok (.ifCond .ne 5, 3) := by decide +kernel
theorem dX2_writeBlock_19 : decode cX2_writeBlock 19 = .ok (.iconst (-1), 1) := by decide +kernel
theorem dX2_writeBlock_20 : decode cX2_writeBlock 20 = .ok (.ireturn, 1) := by decide +kernel
theorem dX2_writeBlock_21 : decode cX2_writeBlock 21 = .ok (.bipush 6, 2) := by decide +kernel
theorem dX2_writeBlock_23 : decode cX2_writeBlock 23 = .ok (.iload_n 1, 1) := by decide +kernel
theorem dX2_writeBlock_24 : decode cX2_writeBlock 24 = .ok (.imul, 1) := by decide +kernel
theorem dX2_writeBlock_25 : decode cX2_writeBlock 25 = .ok (.iload_n 2, 1) := by decide +kernel
theorem dX2_writeBlock_26 : decode cX2_writeBlock 26 = .ok (.iadd, 1) := by decide +kernel
theorem dX2_writeBlock_27 : decode cX2_writeBlock 27 = .ok (.istore_n 3, 1) := by decide +kernel
theorem dX2_writeBlock_28 : decode cX2_writeBlock 28 = .ok (.aload_n 0, 1) := by decide +kernel
theorem dX2_writeBlock_29 : decode cX2_writeBlock 29 = .ok (.invokevirtual 76, 3) := by decide +kernel
theorem dX2_writeBlock_32 : decode cX2_writeBlock 32 = .ok (.istore 4, 2) := by decide +kernel
theorem dX2_writeBlock_34 : decode cX2_writeBlock 34 = .ok (.iload 4, 2) := by decide +kernel
theorem dX2_writeBlock_36 : decode cX2_writeBlock 36 = .ok (.ifCond .lt 18, 3) := by decide +kernel
theorem dX2_writeBlock_39 : decode cX2_writeBlock 39 = .ok (.aload_n 0, 1) := by decide +kernel
theorem dX2_writeBlock_40 : decode cX2_writeBlock 40 = .ok (.getfield 7, 3) := by decide +kernel
theorem dX2_writeBlock_43 : decode cX2_writeBlock 43 = .ok (.iload_n 3, 1) := by decide +kernel
theorem dX2_writeBlock_44 : decode cX2_writeBlock 44 = .ok (.iaload, 1) := by decide +kernel
theorem dX2_writeBlock_45 : decode cX2_writeBlock 45 = .ok (.iload 4, 2) := by decide +kernel
theorem dX2_writeBlock_47 : decode cX2_writeBlock 47 = .ok (.iconst 1, 1) := by decide +kernel
theorem dX2_writeBlock_48 : decode cX2_writeBlock 48 = .ok (.iadd, 1) := by decide +kernel
theorem dX2_writeBlock_49 : decode cX2_writeBlock 49 = .ok (.if_icmp .ne 5, 3) := by decide +kernel
theorem dX2_writeBlock_52 : decode cX2_writeBlock 52 = .ok (.iconst 0, 1) := by decide +kernel
theorem dX2_writeBlock_53 : decode cX2_writeBlock 53 = .ok (.ireturn, 1) := by decide +kernel
theorem dX2_writeBlock_54 : decode cX2_writeBlock 54 = .ok (.iload 4, 2) := by decide +kernel
theorem dX2_writeBlock_56 : decode cX2_writeBlock 56 = .ok (.ifCond .ge 118, 3) := by decide +kernel
theorem dX2_writeBlock_59 : decode cX2_writeBlock 59 = .ok (.aload_n 0, 1) := by decide +kernel
theorem dX2_writeBlock_60 : decode cX2_writeBlock 60 = .ok (.getfield 7, 3) := by decide +kernel
theorem dX2_writeBlock_63 : decode cX2_writeBlock 63 = .ok (.iload_n 3, 1) := by decide +kernel
theorem dX2_writeBlock_64 : decode cX2_writeBlock 64 = .ok (.iaload, 1) := by decide +kernel
theorem dX2_writeBlock_65 : decode cX2_writeBlock 65 = .ok (.ifCond .le 28, 3) := by decide +kernel
theorem dX2_writeBlock_68 : decode cX2_writeBlock 68 = .ok (.aload_n 0, 1) := by decide +kernel
theorem dX2_writeBlock_69 : decode cX2_writeBlock 69 = .ok (.aload_n 0, 1) := by decide +kernel
theorem dX2_writeBlock_70 : decode cX2_writeBlock 70 = .ok (.getfield 7, 3) := by decide +kernel
theorem dX2_writeBlock_73 : decode cX2_writeBlock 73 = .ok (.iload_n 3, 1) := by decide +kernel
theorem dX2_writeBlock_74 : decode cX2_writeBlock 74 = .ok (.iaload, 1) := by decide +kernel
theorem dX2_writeBlock_75 : decode cX2_writeBlock 75 = .ok (.iconst 1, 1) := by decide +kernel
theorem dX2_writeBlock_76 : decode cX2_writeBlock 76 = .ok (.isub, 1) := by decide +kernel
theorem dX2_writeBlock_77 : decode cX2_writeBlock 77 = .ok (.invokevirtual 63, 3) := by decide +kernel
theorem dX2_writeBlock_80 : decode cX2_writeBlock 80 = .ok (.iconst 1, 1) := by decide +kernel
theorem dX2_writeBlock_81 : decode cX2_writeBlock 81 = .ok (.if_icmp .ne 12, 3) := by decide +kernel
theorem dX2_writeBlock_84 : decode cX2_writeBlock 84 = .ok (.aload_n 0, 1) := by decide +kernel
theorem dX2_writeBlock_85 : decode cX2_writeBlock 85 = .ok (.invokevirtual 80, 3) := by decide +kernel
theorem dX2_writeBlock_88 : decode cX2_writeBlock 88 = .ok (.iconst 1, 1) := by decide +kernel
theorem dX2_writeBlock_89 : decode cX2_writeBlock 89 = .ok (.isub, 1) := by decide +kernel
theorem dX2_writeBlock_90 : decode cX2_writeBlock 90 = .ok (.goto 7, 3) := by decide +kernel
theorem dX2_writeBlock_93 : decode cX2_writeBlock 93 = .ok (.aload_n 0, 1) := by decide +kernel
theorem dX2_writeBlock_94 : decode cX2_writeBlock 94 = .ok (.invokevirtual 80, 3) := by decide +kernel
theorem dX2_writeBlock_97 : decode cX2_writeBlock 97 = .ok (.istore 5, 2) := by decide +kernel
theorem dX2_writeBlock_99 : decode cX2_writeBlock 99 = .ok (.iload 5, 2) := by decide +kernel
theorem dX2_writeBlock_101 : decode cX2_writeBlock 101 = .ok (.iconst 1, 1) := by decide +kernel
theorem dX2_writeBlock_102 : decode cX2_writeBlock 102 = .ok (.iadd, 1) := by decide +kernel
theorem dX2_writeBlock_103 : decode cX2_writeBlock 103 = .ok (.aload_n 0, 1) := by decide +kernel
theorem dX2_writeBlock_104 : decode cX2_writeBlock 104 = .ok (.getfield 30, 3) := by decide +kernel
theorem dX2_writeBlock_107 : decode cX2_writeBlock 107 = .ok (.if_icmp .le 6, 3) := by decide +kernel
theorem dX2_writeBlock_110 : decode cX2_writeBlock 110 = .ok (.bipush (-2), 2) := by decide +kernel
theorem dX2_writeBlock_112 : decode cX2_writeBlock 112 = .ok (.ireturn, 1) := by decide +kernel
theorem dX2_writeBlock_113 : decode cX2_writeBlock 113 = .ok (.aload_n 0, 1) := by decide +kernel
theorem dX2_writeBlock_114 : decode cX2_writeBlock 114 = .ok (.invokevirtual 83, 3) := by decide +kernel
theorem dX2_writeBlock_117 : decode cX2_writeBlock 117 = .ok (.istore 4, 2) := by decide +kernel
theorem dX2_writeBlock_119 : decode cX2_writeBlock 119 = .ok (.aload_n 0, 1) := by decide +kernel
theorem dX2_writeBlock_120 : decode cX2_writeBlock 120 = .ok (.aload_n 0, 1) := by decide +kernel
theorem dX2_writeBlock_121 : decode cX2_writeBlock 121 = .ok (.getfield 26, 3) := by decide +kernel
theorem dX2_writeBlock_124 : decode cX2_writeBlock 124 = .ok (.invokevirtual 55, 3) := by decide +kernel
theorem dX2_writeBlock_127 : decode cX2_writeBlock 127 = .ok (.istore 6, 2) := by decide +kernel
theorem dX2_writeBlock_129 : decode cX2_writeBlock 129 = .ok (.iconst 0, 1) := by decide +kernel
theorem dX2_writeBlock_130 : decode cX2_writeBlock 130 = .ok (.istore 7, 2) := by decide +kernel
theorem dX2_writeBlock_132 : decode cX2_writeBlock 132 = .ok (.iload 7, 2) := by decide +kernel
theorem dX2_writeBlock_134 : decode cX2_writeBlock 134 = .ok (.iload 6, 2) := by decide +kernel
theorem dX2_writeBlock_136 : decode cX2_writeBlock 136 = .ok (.if_icmp .ge 28, 3) := by decide +kernel
theorem dX2_writeBlock_139 : decode cX2_writeBlock 139 = .ok (.aload_n 0, 1) := by decide +kernel
theorem dX2_writeBlock_140 : decode cX2_writeBlock 140 = .ok (.getfield 16, 3) := by decide +kernel
theorem dX2_writeBlock_143 : decode cX2_writeBlock 143 = .ok (.iconst 4, 1) := by decide +kernel
theorem dX2_writeBlock_144 : decode cX2_writeBlock 144 = .ok (.iload 4, 2) := by decide +kernel
theorem dX2_writeBlock_146 : decode cX2_writeBlock 146 = .ok (.imul, 1) := by decide +kernel
theorem dX2_writeBlock_147 : decode cX2_writeBlock 147 = .ok (.iload 7, 2) := by decide +kernel
theorem dX2_writeBlock_149 : decode cX2_writeBlock 149 = .ok (.iadd, 1) := by decide +kernel
theorem dX2_writeBlock_150 : decode cX2_writeBlock 150 = .ok (.aload_n 0, 1) := by decide +kernel
theorem dX2_writeBlock_151 : decode cX2_writeBlock 151 = .ok (.getfield 19, 3) := by decide +kernel
theorem dX2_writeBlock_154 : decode cX2_writeBlock 154 = .ok (.iload 7, 2) := by decide +kernel
theorem dX2_writeBlock_156 : decode cX2_writeBlock 156 = .ok (.iaload, 1) := by decide +kernel
theorem dX2_writeBlock_157 : decode cX2_writeBlock 157 = .ok (.iastore, 1) := by decide +kernel
theorem dX2_writeBlock_158 : decode cX2_writeBlock 158 = .ok (.iinc 7 1, 3) := by decide +kernel
theorem dX2_writeBlock_161 : decode cX2_writeBlock 161 = .ok (.goto (-29), 3) := by decide +kernel
theorem dX2_writeBlock_164 : decode cX2_writeBlock 164 = .ok (.aload_n 0, 1) := by decide +kernel
theorem dX2_writeBlock_165 : decode cX2_writeBlock 165 = .ok (.getfield 42, 3) := by decide +kernel
theorem dX2_writeBlock_168 : decode cX2_writeBlock 168 = .ok (.ifCond .eq 6, 3) := by decide +kernel
theorem dX2_writeBlock_171 : decode cX2_writeBlock 171 = .ok (.bipush (-4), 2) := by decide +kernel
theorem dX2_writeBlock_173 : decode cX2_writeBlock 173 = .ok (.ireturn, 1) := by decide +kernel
theorem dX2_writeBlock_174 : decode cX2_writeBlock 174 = .ok (.aload_n 0, 1) := by decide +kernel
theorem dX2_writeBlock_175 : decode cX2_writeBlock 175 = .ok (.invokevirtual 86, 3) := by decide +kernel
theorem dX2_writeBlock_178 : decode cX2_writeBlock 178 = .ok (.aload_n 0, 1) := by decide +kernel
theorem dX2_writeBlock_179 : decode cX2_writeBlock 179 = .ok (.getfield 13, 3) := by decide +kernel
theorem dX2_writeBlock_182 : decode cX2_writeBlock 182 = .ok (.iload_n 3, 1) := by decide +kernel
theorem dX2_writeBlock_183 : decode cX2_writeBlock 183 = .ok (.iload 4, 2) := by decide +kernel
theorem dX2_writeBlock_185 : decode cX2_writeBlock 185 = .ok (.iconst 1, 1) := by decide +kernel
theorem dX2_writeBlock_186 : decode cX2_writeBlock 186 = .ok (.iadd, 1) := by decide +kernel
theorem dX2_writeBlock_187 : decode cX2_writeBlock 187 = .ok (.iastore, 1) := by decide +kernel
theorem dX2_writeBlock_188 : decode cX2_writeBlock 188 = .ok (.aload_n 0, 1) := by decide +kernel
theorem dX2_writeBlock_189 : decode cX2_writeBlock 189 = .ok (.iconst 1, 1) := by decide +kernel
theorem dX2_writeBlock_190 : decode cX2_writeBlock 190 = .ok (.invokevirtual 89, 3) := by decide +kernel
theorem dX2_writeBlock_193 : decode cX2_writeBlock 193 = .ok (.ireturn, 1) := by decide +kernel
theorem dX2_block_0 : decode cX2_block 0 = .ok (.aload_n 0, 1) := by decide +kernel
theorem dX2_block_1 : decode cX2_block 1 = .ok (.iload_n 1, 1) := by decide +kernel
theorem dX2_block_2 : decode cX2_block 2 = .ok (.invokevirtual 59, 3) := by decide +kernel
theorem dX2_block_5 : decode cX2_block 5 = .ok (.ifCond .eq 19, 3) := by decide +kernel
theorem dX2_block_8 : decode cX2_block 8 = .ok (.iload_n 2, 1) := by decide +kernel
theorem dX2_block_9 : decode cX2_block 9 = .ok (.ifCond .lt 15, 3) := by decide +kernel
theorem dX2_block_12 : decode cX2_block 12 = .ok (.iload_n 2, 1) := by decide +kernel
theorem dX2_block_13 : decode cX2_block 13 = .ok (.aload_n 0, 1) := by decide +kernel
theorem dX2_block_14 : decode cX2_block 14 = .ok (.getfield 36, 3) := by decide +kernel
theorem dX2_block_17 : decode cX2_block 17 = .ok (.if_icmp .ge 7, 3) := by decide +kernel
theorem dX2_block_20 : decode cX2_block 20 = .ok (.iconst 1, 1) := by decide +kernel
theorem dX2_block_21 : decode cX2_block 21 = .ok (.goto 4, 3) := by decide +kernel
theorem dX2_block_24 : decode cX2_block 24 = .ok (.iconst 0, 1) := by decide +kernel
theorem dX2_block_25 : decode cX2_block 25 = .ok (.ireturn, 1) := by decide +kernel
theorem dX2_volume_0 : decode cX2_volume 0 = .ok (.iload_n 1, 1) := by decide +kernel
theorem dX2_volume_1 : decode cX2_volume 1 = .ok (.ifCond .lt 15, 3) := by decide +kernel
theorem dX2_volume_4 : decode cX2_volume 4 = .ok (.iload_n 1, 1) := by decide +kernel
theorem dX2_volume_5 : decode cX2_volume 5 = .ok (.aload_n 0, 1) := by decide +kernel
theorem dX2_volume_6 : decode cX2_volume 6 = .ok (.getfield 33, 3) := by decide +kernel
theorem dX2_volume_9 : decode cX2_volume 9 = .ok (.if_icmp .ge 7, 3) := by decide +kernel
theorem dX2_volume_12 : decode cX2_volume 12 = .ok (.iconst 1, 1) := by decide +kernel
theorem dX2_volume_13 : decode cX2_volume 13 = .ok (.goto 4, 3) := by decide +kernel
theorem dX2_volume_16 : decode cX2_volume 16 = .ok (.iconst 0, 1) := by decide +kernel
theorem dX2_volume_17 : decode cX2_volume 17 = .ok (.ireturn, 1) := by decide +kernel
theorem dX2_sharing_0 : decode cX2_sharing 0 = .ok (.iconst (-1), 1) := by decide +kernel
theorem dX2_sharing_1 : decode cX2_sharing 1 = .ok (.istore_n 1, 1) := by decide +kernel
theorem dX2_sharing_2 : decode cX2_sharing 2 = .ok (.iconst 0, 1) := by decide +kernel
theorem dX2_sharing_3 : decode cX2_sharing 3 = .ok (.istore_n 2, 1) := by decide +kernel
theorem dX2_sharing_4 : decode cX2_sharing 4 = .ok (.iload_n 2, 1) := by decide +kernel
theorem dX2_sharing_5 : decode cX2_sharing 5 = .ok (.aload_n 0, 1) := by decide +kernel
theorem dX2_sharing_6 : decode cX2_sharing 6 = .ok (.getfield 30, 3) := by decide +kernel
theorem dX2_sharing_9 : decode cX2_sharing 9 = .ok (.if_icmp .gt 31, 3) := by decide +kernel
theorem dX2_sharing_12 : decode cX2_sharing 12 = .ok (.aload_n 0, 1) := by decide +kernel
theorem dX2_sharing_13 : decode cX2_sharing 13 = .ok (.iload_n 2, 1) := by decide +kernel
theorem dX2_sharing_14 : decode cX2_sharing 14 = .ok (.invokevirtual 63, 3) := by decide +kernel
theorem dX2_sharing_17 : decode cX2_sharing 17 = .ok (.ifCond .le 15, 3) := by decide +kernel
theorem dX2_sharing_20 : decode cX2_sharing 20 = .ok (.aload_n 0, 1) := by decide +kernel
theorem dX2_sharing_21 : decode cX2_sharing 21 = .ok (.iload_n 2, 1) := by decide +kernel
theorem dX2_sharing_22 : decode cX2_sharing 22 = .ok (.invokevirtual 66, 3) := by decide +kernel
theorem dX2_sharing_25 : decode cX2_sharing 25 = .ok (.ifCond .eq 7, 3) := by decide +kernel
theorem dX2_sharing_28 : decode cX2_sharing 28 = .ok (.iload_n 2, 1) := by decide +kernel
theorem dX2_sharing_29 : decode cX2_sharing 29 = .ok (.goto 4, 3) := by decide +kernel
theorem dX2_sharing_32 : decode cX2_sharing 32 = .ok (.iload_n 1, 1) := by decide +kernel
theorem dX2_sharing_33 : decode cX2_sharing 33 = .ok (.istore_n 1, 1) := by decide +kernel
theorem dX2_sharing_34 : decode cX2_sharing 34 = .ok (.iinc 2 1, 3) := by decide +kernel
theorem dX2_sharing_37 : decode cX2_sharing 37 = .ok (.goto (-33), 3) := by decide +kernel
theorem dX2_sharing_40 : decode cX2_sharing 40 = .ok (.iload_n 1, 1) := by decide +kernel
theorem dX2_sharing_41 : decode cX2_sharing 41 = .ok (.ireturn, 1) := by decide +kernel
theorem dX2_refs_0 : decode cX2_refs 0 = .ok (.iconst 0, 1) := by decide +kernel
theorem dX2_refs_1 : decode cX2_refs 1 = .ok (.istore_n 2, 1) := by decide +kernel
theorem dX2_refs_2 : decode cX2_refs 2 = .ok (.iconst 0, 1) := by decide +kernel
theorem dX2_refs_3 : decode cX2_refs 3 = .ok (.istore_n 3, 1) := by decide +kernel
theorem dX2_refs_4 : decode cX2_refs 4 = .ok (.iload_n 3, 1) := by decide +kernel
theorem dX2_refs_5 : decode cX2_refs 5 = .ok (.bipush 24, 2) := by decide +kernel
theorem dX2_refs_7 : decode cX2_refs 7 = .ok (.if_icmp .ge 29, 3) := by decide +kernel
theorem dX2_refs_10 : decode cX2_refs 10 = .ok (.aload_n 0, 1) := by decide +kernel
theorem dX2_refs_11 : decode cX2_refs 11 = .ok (.getfield 7, 3) := by decide +kernel
theorem dX2_refs_14 : decode cX2_refs 14 = .ok (.iload_n 3, 1) := by decide +kernel
theorem dX2_refs_15 : decode cX2_refs 15 = .ok (.iaload, 1) := by decide +kernel
theorem dX2_refs_16 : decode cX2_refs 16 = .ok (.iload_n 1, 1) := by decide +kernel
theorem dX2_refs_17 : decode cX2_refs 17 = .ok (.iconst 1, 1) := by decide +kernel
theorem dX2_refs_18 : decode cX2_refs 18 = .ok (.iadd, 1) := by decide +kernel
theorem dX2_refs_19 : decode cX2_refs 19 = .ok (.if_icmp .ne 9, 3) := by decide +kernel
theorem dX2_refs_22 : decode cX2_refs 22 = .ok (.iload_n 2, 1) := by decide +kernel
theorem dX2_refs_23 : decode cX2_refs 23 = .ok (.iconst 1, 1) := by decide +kernel
theorem dX2_refs_24 : decode cX2_refs 24 = .ok (.iadd, 1) := by decide +kernel
theorem dX2_refs_25 : decode cX2_refs 25 = .ok (.goto 4, 3) := by decide +kernel
theorem dX2_refs_28 : decode cX2_refs 28 = .ok (.iload_n 2, 1) := by decide +kernel
theorem dX2_refs_29 : decode cX2_refs 29 = .ok (.istore_n 2, 1) := by decide +kernel
theorem dX2_refs_30 : decode cX2_refs 30 = .ok (.iinc 3 1, 3) := by decide +kernel
theorem dX2_refs_33 : decode cX2_refs 33 = .ok (.goto (-29), 3) := by decide +kernel
theorem dX2_refs_36 : decode cX2_refs 36 = .ok (.iload_n 2, 1) := by decide +kernel
theorem dX2_refs_37 : decode cX2_refs 37 = .ok (.ireturn, 1) := by decide +kernel
theorem dX2_hasStaged_0 : decode cX2_hasStaged 0 = .ok (.iconst 1, 1) := by decide +kernel
theorem dX2_hasStaged_1 : decode cX2_hasStaged 1 = .ok (.istore_n 2, 1) := by decide +kernel
theorem dX2_hasStaged_2 : decode cX2_hasStaged 2 = .ok (.iconst 0, 1) := by decide +kernel
theorem dX2_hasStaged_3 : decode cX2_hasStaged 3 = .ok (.istore_n 3, 1) := by decide +kernel
theorem dX2_hasStaged_4 : decode cX2_hasStaged 4 = .ok (.iload_n 3, 1) := by decide +kernel
theorem dX2_hasStaged_5 : decode cX2_hasStaged 5 = .ok (.aload_n 0, 1) := by decide +kernel
theorem dX2_hasStaged_6 : decode cX2_hasStaged 6 = .ok (.getfield 26, 3) := by decide +kernel
theorem dX2_hasStaged_9 : decode cX2_hasStaged 9 = .ok (.if_icmp .ge 38, 3) := by decide +kernel
theorem dX2_hasStaged_12 : decode cX2_hasStaged 12 = .ok (.iload_n 2, 1) := by decide +kernel
theorem dX2_hasStaged_13 : decode cX2_hasStaged 13 = .ok (.ifCond .eq 26, 3) := by decide +kernel
theorem dX2_hasStaged_16 : decode cX2_hasStaged 16 = .ok (.aload_n 0, 1) := by decide +kernel
theorem dX2_hasStaged_17 : decode cX2_hasStaged 17 = .ok (.getfield 16, 3) := by decide +kernel
theorem dX2_hasStaged_20 : decode cX2_hasStaged 20 = .ok (.iconst 4, 1) := by decide +kernel
theorem dX2_hasStaged_21 : decode cX2_hasStaged 21 = .ok (.iload_n 1, 1) := by decide +kernel
theorem dX2_hasStaged_22 : decode cX2_hasStaged 22 = .ok (.imul, 1) := by decide +kernel
theorem dX2_hasStaged_23 : decode cX2_hasStaged 23 = .ok (.iload_n 3, 1) := by decide +kernel
theorem dX2_hasStaged_24 : decode cX2_hasStaged 24 = .ok (.iadd, 1) := by decide +kernel
theorem dX2_hasStaged_25 : decode cX2_hasStaged 25 = .ok (.iaload, 1) := by decide +kernel
theorem dX2_hasStaged_26 : decode cX2_hasStaged 26 = .ok (.aload_n 0, 1) := by decide +kernel
theorem dX2_hasStaged_27 : decode cX2_hasStaged 27 = .ok (.getfield 19, 3) := by decide +kernel
theorem dX2_hasStaged_30 : decode cX2_hasStaged 30 = .ok (.iload_n 3, 1) := by decide +kernel
theorem dX2_hasStaged_31 : decode cX2_hasStaged 31 = .ok (.iaload, 1) := by decide +kernel
theorem dX2_hasStaged_32 : decode cX2_hasStaged 32 = .ok (.if_icmp .ne 7, 3) := by decide +kernel
theorem dX2_hasStaged_35 : decode cX2_hasStaged 35 = .ok (.iconst 1, 1) := by decide +kernel
theorem dX2_hasStaged_36 : decode cX2_hasStaged 36 = .ok (.goto 4, 3) := by decide +kernel
theorem dX2_hasStaged_39 : decode cX2_hasStaged 39 = .ok (.iconst 0, 1) := by decide +kernel
theorem dX2_hasStaged_40 : decode cX2_hasStaged 40 = .ok (.istore_n 2, 1) := by decide +kernel
theorem dX2_hasStaged_41 : decode cX2_hasStaged 41 = .ok (.iinc 3 1, 3) := by decide +kernel
theorem dX2_hasStaged_44 : decode cX2_hasStaged 44 = .ok (.goto (-40), 3) := by decide +kernel
theorem dX2_hasStaged_47 : decode cX2_hasStaged 47 = .ok (.iload_n 2, 1) := by decide +kernel
theorem dX2_hasStaged_48 : decode cX2_hasStaged 48 = .ok (.ireturn, 1) := by decide +kernel
theorem dX2_used_0 : decode cX2_used 0 = .ok (.iconst 0, 1) := by decide +kernel
theorem dX2_used_1 : decode cX2_used 1 = .ok (.istore_n 1, 1) := by decide +kernel
theorem dX2_used_2 : decode cX2_used 2 = .ok (.iconst 0, 1) := by decide +kernel
theorem dX2_used_3 : decode cX2_used 3 = .ok (.istore_n 2, 1) := by decide +kernel
theorem dX2_used_4 : decode cX2_used 4 = .ok (.iload_n 2, 1) := by decide +kernel
theorem dX2_used_5 : decode cX2_used 5 = .ok (.aload_n 0, 1) := by decide +kernel
theorem dX2_used_6 : decode cX2_used 6 = .ok (.getfield 30, 3) := by decide +kernel
theorem dX2_used_9 : decode cX2_used 9 = .ok (.if_icmp .gt 25, 3) := by decide +kernel
theorem dX2_used_12 : decode cX2_used 12 = .ok (.aload_n 0, 1) := by decide +kernel
theorem dX2_used_13 : decode cX2_used 13 = .ok (.iload_n 2, 1) := by decide +kernel
theorem dX2_used_14 : decode cX2_used 14 = .ok (.invokevirtual 63, 3) := by decide +kernel
theorem dX2_used_17 : decode cX2_used 17 = .ok (.ifCond .le 9, 3) := by decide +kernel
theorem dX2_used_20 : decode cX2_used 20 = .ok (.iload_n 1, 1) := by decide +kernel
theorem dX2_used_21 : decode cX2_used 21 = .ok (.iconst 1, 1) := by decide +kernel
theorem dX2_used_22 : decode cX2_used 22 = .ok (.iadd, 1) := by decide +kernel
theorem dX2_used_23 : decode cX2_used 23 = .ok (.goto 4, 3) := by decide +kernel
theorem dX2_used_26 : decode cX2_used 26 = .ok (.iload_n 1, 1) := by decide +kernel
theorem dX2_used_27 : decode cX2_used 27 = .ok (.istore_n 1, 1) := by decide +kernel
theorem dX2_used_28 : decode cX2_used 28 = .ok (.iinc 2 1, 3) := by decide +kernel
theorem dX2_used_31 : decode cX2_used 31 = .ok (.goto (-27), 3) := by decide +kernel
theorem dX2_used_34 : decode cX2_used 34 = .ok (.iload_n 1, 1) := by decide +kernel
theorem dX2_used_35 : decode cX2_used 35 = .ok (.ireturn, 1) := by decide +kernel
theorem dX2_lowestUnused_0 : decode cX2_lowestUnused 0 = .ok (.iconst 0, 1) := by decide +kernel
theorem dX2_lowestUnused_1 : decode cX2_lowestUnused 1 = .ok (.istore_n 1, 1) := by decide +kernel
theorem dX2_lowestUnused_2 : decode cX2_lowestUnused 2 = .ok (.aload_n 0, 1) := by decide +kernel
theorem dX2_lowestUnused_3 : decode cX2_lowestUnused 3 = .ok (.iload_n 1, 1) := by decide +kernel
theorem dX2_lowestUnused_4 : decode cX2_lowestUnused 4 = .ok (.invokevirtual 63, 3) := by decide +kernel
theorem dX2_lowestUnused_7 : decode cX2_lowestUnused 7 = .ok (.ifCond .le 9, 3) := by decide +kernel
theorem dX2_lowestUnused_10 : decode cX2_lowestUnused 10 = .ok (.iinc 1 1, 3) := by decide +kernel
theorem dX2_lowestUnused_13 : decode cX2_lowestUnused 13 = .ok (.goto (-11), 3) := by decide +kernel
theorem dX2_lowestUnused_16 : decode cX2_lowestUnused 16 = .ok (.iload_n 1, 1) := by decide +kernel
theorem dX2_lowestUnused_17 : decode cX2_lowestUnused 17 = .ok (.ireturn, 1) := by decide +kernel
theorem dX2_spend_0 : decode cX2_spend 0 = .ok (.iload_n 1, 1) := by decide +kernel
theorem dX2_spend_1 : decode cX2_spend 1 = .ok (.istore_n 2, 1) := by decide +kernel
theorem dX2_spend_2 : decode cX2_spend 2 = .ok (.aload_n 0, 1) := by decide +kernel
theorem dX2_spend_3 : decode cX2_spend 3 = .ok (.getfield 46, 3) := by decide +kernel
theorem dX2_spend_6 : decode cX2_spend 6 = .ok (.ifCond .le 31, 3) := by decide +kernel
theorem dX2_spend_9 : decode cX2_spend 9 = .ok (.aload_n 0, 1) := by decide +kernel
theorem dX2_spend_10 : decode cX2_spend 10 = .ok (.getfield 46, 3) := by decide +kernel
theorem dX2_spend_13 : decode cX2_spend 13 = .ok (.iload_n 1, 1) := by decide +kernel
theorem dX2_spend_14 : decode cX2_spend 14 = .ok (.if_icmp .gt 23, 3) := by decide +kernel
theorem dX2_spend_17 : decode cX2_spend 17 = .ok (.aload_n 0, 1) := by decide +kernel
theorem dX2_spend_18 : decode cX2_spend 18 = .ok (.getfield 46, 3) := by decide +kernel
theorem dX2_spend_21 : decode cX2_spend 21 = .ok (.iconst 1, 1) := by decide +kernel
theorem dX2_spend_22 : decode cX2_spend 22 = .ok (.isub, 1) := by decide +kernel
theorem dX2_spend_23 : decode cX2_spend 23 = .ok (.istore_n 2, 1) := by decide +kernel
theorem dX2_spend_24 : decode cX2_spend 24 = .ok (.aload_n 0, 1) := by decide +kernel
theorem dX2_spend_25 : decode cX2_spend 25 = .ok (.iconst 0, 1) := by decide +kernel
theorem dX2_spend_26 : decode cX2_spend 26 = .ok (.putfield 46, 3) := by decide +kernel
theorem dX2_spend_29 : decode cX2_spend 29 = .ok (.aload_n 0, 1) := by decide +kernel
theorem dX2_spend_30 : decode cX2_spend 30 = .ok (.iconst 1, 1) := by decide +kernel
theorem dX2_spend_31 : decode cX2_spend 31 = .ok (.putfield 42, 3) := by decide +kernel
theorem dX2_spend_34 : decode cX2_spend 34 = .ok (.goto 24, 3) := by decide +kernel
theorem dX2_spend_37 : decode cX2_spend 37 = .ok (.aload_n 0, 1) := by decide +kernel
theorem dX2_spend_38 : decode cX2_spend 38 = .ok (.aload_n 0, 1) := by decide +kernel
theorem dX2_spend_39 : decode cX2_spend 39 = .ok (.getfield 46, 3) := by decide +kernel
theorem dX2_spend_42 : decode cX2_spend 42 = .ok (.ifCond .le 12, 3) := by decide +kernel
theorem dX2_spend_45 : decode cX2_spend 45 = .ok (.aload_n 0, 1) := by decide +kernel
theorem dX2_spend_46 : decode cX2_spend 46 = .ok (.getfield 46, 3) := by decide +kernel
theorem dX2_spend_49 : decode cX2_spend 49 = .ok (.iload_n 1, 1) := by decide +kernel
theorem dX2_spend_50 : decode cX2_spend 50 = .ok (.isub, 1) := by decide +kernel
theorem dX2_spend_51 : decode cX2_spend 51 = .ok (.goto 4, 3) := by decide +kernel
theorem dX2_spend_54 : decode cX2_spend 54 = .ok (.iconst 0, 1) := by decide +kernel
theorem dX2_spend_55 : decode cX2_spend 55 = .ok (.putfield 46, 3) := by decide +kernel
theorem dX2_spend_58 : decode cX2_spend 58 = .ok (.aload_n 0, 1) := by decide +kernel
theorem dX2_spend_59 : decode cX2_spend 59 = .ok (.aload_n 0, 1) := by decide +kernel
theorem dX2_spend_60 : decode cX2_spend 60 = .ok (.getfield 52, 3) := by decide +kernel
theorem dX2_spend_63 : decode cX2_spend 63 = .ok (.iload_n 2, 1) := by decide +kernel
theorem dX2_spend_64 : decode cX2_spend 64 = .ok (.iadd, 1) := by decide +kernel
theorem dX2_spend_65 : decode cX2_spend 65 = .ok (.putfield 52, 3) := by decide +kernel
theorem dX2_spend_68 : decode cX2_spend 68 = .ok (.iload_n 2, 1) := by decide +kernel
theorem dX2_spend_69 : decode cX2_spend 69 = .ok (.ireturn, 1) := by decide +kernel
theorem dX2_wantAsIs_0 : decode cX2_wantAsIs 0 = .ok (.iconst 0, 1) := by decide +kernel
theorem dX2_wantAsIs_1 : decode cX2_wantAsIs 1 = .ok (.istore_n 1, 1) := by decide +kernel
theorem dX2_wantAsIs_2 : decode cX2_wantAsIs 2 = .ok (.iload_n 1, 1) := by decide +kernel
theorem dX2_wantAsIs_3 : decode cX2_wantAsIs 3 = .ok (.bipush 24, 2) := by decide +kernel
theorem dX2_wantAsIs_5 : decode cX2_wantAsIs 5 = .ok (.if_icmp .ge 21, 3) := by decide +kernel
theorem dX2_wantAsIs_8 : decode cX2_wantAsIs 8 = .ok (.aload_n 0, 1) := by decide +kernel
theorem dX2_wantAsIs_9 : decode cX2_wantAsIs 9 = .ok (.getfield 13, 3) := by decide +kernel
theorem dX2_wantAsIs_12 : decode cX2_wantAsIs 12 = .ok (.iload_n 1, 1) := by decide +kernel
theorem dX2_wantAsIs_13 : decode cX2_wantAsIs 13 = .ok (.aload_n 0, 1) := by decide +kernel
theorem dX2_wantAsIs_14 : decode cX2_wantAsIs 14 = .ok (.getfield 7, 3) := by decide +kernel
theorem dX2_wantAsIs_17 : decode cX2_wantAsIs 17 = .ok (.iload_n 1, 1) := by decide +kernel
theorem dX2_wantAsIs_18 : decode cX2_wantAsIs 18 = .ok (.iaload, 1) := by decide +kernel
theorem dX2_wantAsIs_19 : decode cX2_wantAsIs 19 = .ok (.iastore, 1) := by decide +kernel
theorem dX2_wantAsIs_20 : decode cX2_wantAsIs 20 = .ok (.iinc 1 1, 3) := by decide +kernel
theorem dX2_wantAsIs_23 : decode cX2_wantAsIs 23 = .ok (.goto (-21), 3) := by decide +kernel
theorem dX2_wantAsIs_26 : decode cX2_wantAsIs 26 = .ok (.return_, 1) := by decide +kernel
theorem dX2_change_0 : decode cX2_change 0 = .ok (.aload_n 0, 1) := by decide +kernel
theorem dX2_change_1 : decode cX2_change 1 = .ok (.iload_n 1, 1) := by decide +kernel
theorem dX2_change_2 : decode cX2_change 2 = .ok (.iconst 5, 1) := by decide +kernel
theorem dX2_change_3 : decode cX2_change 3 = .ok (.iadd, 1) := by decide +kernel
theorem dX2_change_4 : decode cX2_change 4 = .ok (.invokevirtual 55, 3) := by decide +kernel
theorem dX2_change_7 : decode cX2_change 7 = .ok (.istore_n 2, 1) := by decide +kernel
theorem dX2_change_8 : decode cX2_change 8 = .ok (.iload_n 2, 1) := by decide +kernel
theorem dX2_change_9 : decode cX2_change 9 = .ok (.iconst 4, 1) := by decide +kernel
theorem dX2_change_10 : decode cX2_change 10 = .ok (.if_icmp .lt 45, 3) := by decide +kernel
theorem dX2_change_13 : decode cX2_change 13 = .ok (.iconst 0, 1) := by decide +kernel
theorem dX2_change_14 : decode cX2_change 14 = .ok (.istore_n 3, 1) := by decide +kernel
theorem dX2_change_15 : decode cX2_change 15 = .ok (.iload_n 3, 1) := by decide +kernel
theorem dX2_change_16 : decode cX2_change 16 = .ok (.bipush 24, 2) := by decide +kernel
theorem dX2_change_18 : decode cX2_change 18 = .ok (.if_icmp .ge 21, 3) := by decide +kernel
theorem dX2_change_21 : decode cX2_change 21 = .ok (.aload_n 0, 1) := by decide +kernel
theorem dX2_change_22 : decode cX2_change 22 = .ok (.getfield 7, 3) := by decide +kernel
theorem dX2_change_25 : decode cX2_change 25 = .ok (.iload_n 3, 1) := by decide +kernel
theorem dX2_change_26 : decode cX2_change 26 = .ok (.aload_n 0, 1) := by decide +kernel
theorem dX2_change_27 : decode cX2_change 27 = .ok (.getfield 13, 3) := by decide +kernel
theorem dX2_change_30 : decode cX2_change 30 = .ok (.iload_n 3, 1) := by decide +kernel
theorem dX2_change_31 : decode cX2_change 31 = .ok (.iaload, 1) := by decide +kernel
theorem dX2_change_32 : decode cX2_change 32 = .ok (.iastore, 1) := by decide +kernel
theorem dX2_change_33 : decode cX2_change 33 = .ok (.iinc 3 1, 3) := by decide +kernel
theorem dX2_change_36 : decode cX2_change 36 = .ok (.goto (-21), 3) := by decide +kernel
theorem dX2_change_39 : decode cX2_change 39 = .ok (.aload_n 0, 1) := by decide +kernel
theorem dX2_change_40 : decode cX2_change 40 = .ok (.aload_n 0, 1) := by decide +kernel
theorem dX2_change_41 : decode cX2_change 41 = .ok (.getfield 42, 3) := by decide +kernel
theorem dX2_change_44 : decode cX2_change 44 = .ok (.ifCond .eq 7, 3) := by decide +kernel
theorem dX2_change_47 : decode cX2_change 47 = .ok (.iload_n 1, 1) := by decide +kernel
theorem dX2_change_48 : decode cX2_change 48 = .ok (.goto 4, 3) := by decide +kernel
theorem dX2_change_51 : decode cX2_change 51 = .ok (.iconst 0, 1) := by decide +kernel
theorem dX2_change_52 : decode cX2_change 52 = .ok (.putfield 49, 3) := by decide +kernel
theorem dX2_change_55 : decode cX2_change 55 = .ok (.aload_n 0, 1) := by decide +kernel
theorem dX2_change_56 : decode cX2_change 56 = .ok (.getfield 42, 3) := by decide +kernel
theorem dX2_change_59 : decode cX2_change 59 = .ok (.ifCond .eq 8, 3) := by decide +kernel
theorem dX2_change_62 : decode cX2_change 62 = .ok (.bipush (-4), 2) := by decide +kernel
theorem dX2_change_64 : decode cX2_change 64 = .ok (.goto 4, 3) := by decide +kernel
theorem dX2_change_67 : decode cX2_change 67 = .ok (.iconst 0, 1) := by decide +kernel
theorem dX2_change_68 : decode cX2_change 68 = .ok (.ireturn, 1) := by decide +kernel
theorem dX2_readWord_0 : decode cX2_readWord 0 = .ok (.aload_n 0, 1) := by decide +kernel
theorem dX2_readWord_1 : decode cX2_readWord 1 = .ok (.getfield 42, 3) := by decide +kernel
theorem dX2_readWord_4 : decode cX2_readWord 4 = .ok (.ifCond .eq 6, 3) := by decide +kernel
theorem dX2_readWord_7 : decode cX2_readWord 7 = .ok (.bipush (-4), 2) := by decide +kernel
theorem dX2_readWord_9 : decode cX2_readWord 9 = .ok (.ireturn, 1) := by decide +kernel
theorem dX2_readWord_10 : decode cX2_readWord 10 = .ok (.aload_n 0, 1) := by decide +kernel
theorem dX2_readWord_11 : decode cX2_readWord 11 = .ok (.iload_n 1, 1) := by decide +kernel
theorem dX2_readWord_12 : decode cX2_readWord 12 = .ok (.iload_n 2, 1) := by decide +kernel
theorem dX2_readWord_13 : decode cX2_readWord 13 = .ok (.invokevirtual 72, 3) := by decide +kernel
theorem dX2_readWord_16 : decode cX2_readWord 16 = .ok (.ifCond .eq 25, 3) := by decide +kernel
theorem dX2_readWord_19 : decode cX2_readWord 19 = .ok (.aload_n 0, 1) := by decide +kernel
theorem dX2_readWord_20 : decode cX2_readWord 20 = .ok (.iload_n 3, 1) := by decide +kernel
theorem dX2_readWord_21 : decode cX2_readWord 21 = .ok (.invokevirtual 69, 3) := by decide +kernel
theorem dX2_readWord_24 : decode cX2_readWord 24 = .ok (.ifCond .eq 17, 3) := by decide +kernel
theorem dX2_readWord_27 : decode cX2_readWord 27 = .ok (.aload_n 0, 1) := by decide +kernel
theorem dX2_readWord_28 : decode cX2_readWord 28 = .ok (.getfield 7, 3) := by decide +kernel
theorem dX2_readWord_31 : decode cX2_readWord 31 = .ok (.bipush 6, 2) := by decide +kernel
theorem dX2_readWord_33 : decode cX2_readWord 33 = .ok (.iload_n 1, 1) := by decide +kernel
theorem dX2_readWord_34 : decode cX2_readWord 34 = .ok (.imul, 1) := by decide +kernel
theorem dX2_readWord_35 : decode cX2_readWord 35 = .ok (.iload_n 2, 1) := by decide +kernel
theorem dX2_readWord_36 : decode cX2_readWord 36 = .ok (.iadd, 1) := by decide +kernel
theorem dX2_readWord_37 : decode cX2_readWord 37 = .ok (.iaload, 1) := by decide +kernel
theorem dX2_readWord_38 : decode cX2_readWord 38 = .ok (.ifCond .ne 5, 3) := by decide +kernel
theorem dX2_readWord_41 : decode cX2_readWord 41 = .ok (.iconst 0, 1) := by decide +kernel
theorem dX2_readWord_42 : decode cX2_readWord 42 = .ok (.ireturn, 1) := by decide +kernel
theorem dX2_readWord_43 : decode cX2_readWord 43 = .ok (.aload_n 0, 1) := by decide +kernel
theorem dX2_readWord_44 : decode cX2_readWord 44 = .ok (.getfield 16, 3) := by decide +kernel
theorem dX2_readWord_47 : decode cX2_readWord 47 = .ok (.iconst 4, 1) := by decide +kernel
theorem dX2_readWord_48 : decode cX2_readWord 48 = .ok (.aload_n 0, 1) := by decide +kernel
theorem dX2_readWord_49 : decode cX2_readWord 49 = .ok (.getfield 7, 3) := by decide +kernel
theorem dX2_readWord_52 : decode cX2_readWord 52 = .ok (.bipush 6, 2) := by decide +kernel
theorem dX2_readWord_54 : decode cX2_readWord 54 = .ok (.iload_n 1, 1) := by decide +kernel
theorem dX2_readWord_55 : decode cX2_readWord 55 = .ok (.imul, 1) := by decide +kernel
theorem dX2_readWord_56 : decode cX2_readWord 56 = .ok (.iload_n 2, 1) := by decide +kernel
theorem dX2_readWord_57 : decode cX2_readWord 57 = .ok (.iadd, 1) := by decide +kernel
theorem dX2_readWord_58 : decode cX2_readWord 58 = .ok (.iaload, 1) := by decide +kernel
theorem dX2_readWord_59 : decode cX2_readWord 59 = .ok (.iconst 1, 1) := by decide +kernel
theorem dX2_readWord_60 : decode cX2_readWord 60 = .ok (.isub, 1) := by decide +kernel
theorem dX2_readWord_61 : decode cX2_readWord 61 = .ok (.imul, 1) := by decide +kernel
theorem dX2_readWord_62 : decode cX2_readWord 62 = .ok (.iload_n 3, 1) := by decide +kernel
theorem dX2_readWord_63 : decode cX2_readWord 63 = .ok (.iadd, 1) := by decide +kernel
theorem dX2_readWord_64 : decode cX2_readWord 64 = .ok (.iaload, 1) := by decide +kernel
theorem dX2_readWord_65 : decode cX2_readWord 65 = .ok (.ireturn, 1) := by decide +kernel
theorem dX2_trim_0 : decode cX2_trim 0 = .ok (.aload_n 0, 1) := by decide +kernel
theorem dX2_trim_1 : decode cX2_trim 1 = .ok (.getfield 42, 3) := by decide +kernel
theorem dX2_trim_4 : decode cX2_trim 4 = .ok (.ifCond .eq 6, 3) := by decide +kernel
theorem dX2_trim_7 : decode cX2_trim 7 = .ok (.bipush (-4), 2) := by decide +kernel
theorem dX2_trim_9 : decode cX2_trim 9 = .ok (.ireturn, 1) := by decide +kernel
theorem dX2_trim_10 : decode cX2_trim 10 = .ok (.aload_n 0, 1) := by decide +kernel
theorem dX2_trim_11 : decode cX2_trim 11 = .ok (.iload_n 1, 1) := by decide +kernel
theorem dX2_trim_12 : decode cX2_trim 12 = .ok (.iload_n 2, 1) := by decide +kernel
theorem dX2_trim_13 : decode cX2_trim 13 = .ok (.invokevirtual 72, 3) := by decide +kernel
theorem dX2_trim_16 : decode cX2_trim 16 = .ok (.ifCond .ne 5, 3) := by decide +kernel
theorem dX2_trim_19 : decode cX2_trim 19 = .ok (.iconst (-1), 1) := by decide +kernel
theorem dX2_trim_20 : decode cX2_trim 20 = .ok (.ireturn, 1) := by decide +kernel
theorem dX2_trim_21 : decode cX2_trim 21 = .ok (.aload_n 0, 1) := by decide +kernel
theorem dX2_trim_22 : decode cX2_trim 22 = .ok (.getfield 7, 3) := by decide +kernel
theorem dX2_trim_25 : decode cX2_trim 25 = .ok (.bipush 6, 2) := by decide +kernel
theorem dX2_trim_27 : decode cX2_trim 27 = .ok (.iload_n 1, 1) := by decide +kernel
theorem dX2_trim_28 : decode cX2_trim 28 = .ok (.imul, 1) := by decide +kernel
theorem dX2_trim_29 : decode cX2_trim 29 = .ok (.iload_n 2, 1) := by decide +kernel
theorem dX2_trim_30 : decode cX2_trim 30 = .ok (.iadd, 1) := by decide +kernel
theorem dX2_trim_31 : decode cX2_trim 31 = .ok (.iaload, 1) := by decide +kernel
theorem dX2_trim_32 : decode cX2_trim 32 = .ok (.ifCond .ne 6, 3) := by decide +kernel
theorem dX2_trim_35 : decode cX2_trim 35 = .ok (.bipush (-3), 2) := by decide +kernel
theorem dX2_trim_37 : decode cX2_trim 37 = .ok (.ireturn, 1) := by decide +kernel
theorem dX2_trim_38 : decode cX2_trim 38 = .ok (.aload_n 0, 1) := by decide +kernel
theorem dX2_trim_39 : decode cX2_trim 39 = .ok (.invokevirtual 86, 3) := by decide +kernel
theorem dX2_trim_42 : decode cX2_trim 42 = .ok (.aload_n 0, 1) := by decide +kernel
theorem dX2_trim_43 : decode cX2_trim 43 = .ok (.getfield 13, 3) := by decide +kernel
theorem dX2_trim_46 : decode cX2_trim 46 = .ok (.bipush 6, 2) := by decide +kernel
theorem dX2_trim_48 : decode cX2_trim 48 = .ok (.iload_n 1, 1) := by decide +kernel
theorem dX2_trim_49 : decode cX2_trim 49 = .ok (.imul, 1) := by decide +kernel
theorem dX2_trim_50 : decode cX2_trim 50 = .ok (.iload_n 2, 1) := by decide +kernel
theorem dX2_trim_51 : decode cX2_trim 51 = .ok (.iadd, 1) := by decide +kernel
theorem dX2_trim_52 : decode cX2_trim 52 = .ok (.iconst 0, 1) := by decide +kernel
theorem dX2_trim_53 : decode cX2_trim 53 = .ok (.iastore, 1) := by decide +kernel
theorem dX2_trim_54 : decode cX2_trim 54 = .ok (.aload_n 0, 1) := by decide +kernel
theorem dX2_trim_55 : decode cX2_trim 55 = .ok (.iconst 1, 1) := by decide +kernel
theorem dX2_trim_56 : decode cX2_trim 56 = .ok (.invokevirtual 89, 3) := by decide +kernel
theorem dX2_trim_59 : decode cX2_trim 59 = .ok (.ireturn, 1) := by decide +kernel
theorem dX2_cloneVol_0 : decode cX2_cloneVol 0 = .ok (.aload_n 0, 1) := by decide +kernel
theorem dX2_cloneVol_1 : decode cX2_cloneVol 1 = .ok (.getfield 42, 3) := by decide +kernel
theorem dX2_cloneVol_4 : decode cX2_cloneVol 4 = .ok (.ifCond .eq 6, 3) := by decide +kernel
theorem dX2_cloneVol_7 : decode cX2_cloneVol 7 = .ok (.bipush (-4), 2) := by decide +kernel
theorem dX2_cloneVol_9 : decode cX2_cloneVol 9 = .ok (.ireturn, 1) := by decide +kernel
theorem dX2_cloneVol_10 : decode cX2_cloneVol 10 = .ok (.aload_n 0, 1) := by decide +kernel
theorem dX2_cloneVol_11 : decode cX2_cloneVol 11 = .ok (.iload_n 1, 1) := by decide +kernel
theorem dX2_cloneVol_12 : decode cX2_cloneVol 12 = .ok (.invokevirtual 59, 3) := by decide +kernel
theorem dX2_cloneVol_15 : decode cX2_cloneVol 15 = .ok (.ifCond .eq 11, 3) := by decide +kernel
theorem dX2_cloneVol_18 : decode cX2_cloneVol 18 = .ok (.aload_n 0, 1) := by decide +kernel
theorem dX2_cloneVol_19 : decode cX2_cloneVol 19 = .ok (.iload_n 2, 1) := by decide +kernel
theorem dX2_cloneVol_20 : decode cX2_cloneVol 20 = .ok (.invokevirtual 59, 3) := by decide +kernel
theorem dX2_cloneVol_23 : decode cX2_cloneVol 23 = .ok (.ifCond .ne 5, 3) := by decide +kernel
theorem dX2_cloneVol_26 : decode cX2_cloneVol 26 = .ok (.iconst (-1), 1) := by decide +kernel
theorem dX2_cloneVol_27 : decode cX2_cloneVol 27 = .ok (.ireturn, 1) := by decide +kernel
theorem dX2_cloneVol_28 : decode cX2_cloneVol 28 = .ok (.aload_n 0, 1) := by decide +kernel
theorem dX2_cloneVol_29 : decode cX2_cloneVol 29 = .ok (.invokevirtual 86, 3) := by decide +kernel
theorem dX2_cloneVol_32 : decode cX2_cloneVol 32 = .ok (.iconst 0, 1) := by decide +kernel
theorem dX2_cloneVol_33 : decode cX2_cloneVol 33 = .ok (.istore_n 3, 1) := by decide +kernel
theorem dX2_cloneVol_34 : decode cX2_cloneVol 34 = .ok (.iload_n 3, 1) := by decide +kernel
theorem dX2_cloneVol_35 : decode cX2_cloneVol 35 = .ok (.bipush 6, 2) := by decide +kernel
theorem dX2_cloneVol_37 : decode cX2_cloneVol 37 = .ok (.if_icmp .ge 31, 3) := by decide +kernel
theorem dX2_cloneVol_40 : decode cX2_cloneVol 40 = .ok (.aload_n 0, 1) := by decide +kernel
theorem dX2_cloneVol_41 : decode cX2_cloneVol 41 = .ok (.getfield 13, 3) := by decide +kernel
theorem dX2_cloneVol_44 : decode cX2_cloneVol 44 = .ok (.bipush 6, 2) := by decide +kernel
theorem dX2_cloneVol_46 : decode cX2_cloneVol 46 = .ok (.iload_n 2, 1) := by decide +kernel
theorem dX2_cloneVol_47 : decode cX2_cloneVol 47 = .ok (.imul, 1) := by decide +kernel
theorem dX2_cloneVol_48 : decode cX2_cloneVol 48 = .ok (.iload_n 3, 1) := by decide +kernel
theorem dX2_cloneVol_49 : decode cX2_cloneVol 49 = .ok (.iadd, 1) := by decide +kernel
theorem dX2_cloneVol_50 : decode cX2_cloneVol 50 = .ok (.aload_n 0, 1) := by decide +kernel
theorem dX2_cloneVol_51 : decode cX2_cloneVol 51 = .ok (.getfield 7, 3) := by decide +kernel
theorem dX2_cloneVol_54 : decode cX2_cloneVol 54 = .ok (.bipush 6, 2) := by decide +kernel
theorem dX2_cloneVol_56 : decode cX2_cloneVol 56 = .ok (.iload_n 1, 1) := by decide +kernel
theorem dX2_cloneVol_57 : decode cX2_cloneVol 57 = .ok (.imul, 1) := by decide +kernel
theorem dX2_cloneVol_58 : decode cX2_cloneVol 58 = .ok (.iload_n 3, 1) := by decide +kernel
theorem dX2_cloneVol_59 : decode cX2_cloneVol 59 = .ok (.iadd, 1) := by decide +kernel
theorem dX2_cloneVol_60 : decode cX2_cloneVol 60 = .ok (.iaload, 1) := by decide +kernel
theorem dX2_cloneVol_61 : decode cX2_cloneVol 61 = .ok (.iastore, 1) := by decide +kernel
theorem dX2_cloneVol_62 : decode cX2_cloneVol 62 = .ok (.iinc 3 1, 3) := by decide +kernel
theorem dX2_cloneVol_65 : decode cX2_cloneVol 65 = .ok (.goto (-31), 3) := by decide +kernel
theorem dX2_cloneVol_68 : decode cX2_cloneVol 68 = .ok (.aload_n 0, 1) := by decide +kernel
theorem dX2_cloneVol_69 : decode cX2_cloneVol 69 = .ok (.aload_n 0, 1) := by decide +kernel
theorem dX2_cloneVol_70 : decode cX2_cloneVol 70 = .ok (.getfield 36, 3) := by decide +kernel
theorem dX2_cloneVol_73 : decode cX2_cloneVol 73 = .ok (.invokevirtual 89, 3) := by decide +kernel
theorem dX2_cloneVol_76 : decode cX2_cloneVol 76 = .ok (.ireturn, 1) := by decide +kernel
theorem dX2_dropVol_0 : decode cX2_dropVol 0 = .ok (.aload_n 0, 1) := by decide +kernel
theorem dX2_dropVol_1 : decode cX2_dropVol 1 = .ok (.getfield 42, 3) := by decide +kernel
theorem dX2_dropVol_4 : decode cX2_dropVol 4 = .ok (.ifCond .eq 6, 3) := by decide +kernel
theorem dX2_dropVol_7 : decode cX2_dropVol 7 = .ok (.bipush (-4), 2) := by decide +kernel
theorem dX2_dropVol_9 : decode cX2_dropVol 9 = .ok (.ireturn, 1) := by decide +kernel
theorem dX2_dropVol_10 : decode cX2_dropVol 10 = .ok (.aload_n 0, 1) := by decide +kernel
theorem dX2_dropVol_11 : decode cX2_dropVol 11 = .ok (.iload_n 1, 1) := by decide +kernel
theorem dX2_dropVol_12 : decode cX2_dropVol 12 = .ok (.invokevirtual 59, 3) := by decide +kernel
theorem dX2_dropVol_15 : decode cX2_dropVol 15 = .ok (.ifCond .ne 5, 3) := by decide +kernel
theorem dX2_dropVol_18 : decode cX2_dropVol 18 = .ok (.iconst (-1), 1) := by decide +kernel
theorem dX2_dropVol_19 : decode cX2_dropVol 19 = .ok (.ireturn, 1) := by decide +kernel
theorem dX2_dropVol_20 : decode cX2_dropVol 20 = .ok (.aload_n 0, 1) := by decide +kernel
theorem dX2_dropVol_21 : decode cX2_dropVol 21 = .ok (.invokevirtual 86, 3) := by decide +kernel
theorem dX2_dropVol_24 : decode cX2_dropVol 24 = .ok (.iconst 0, 1) := by decide +kernel
theorem dX2_dropVol_25 : decode cX2_dropVol 25 = .ok (.istore_n 2, 1) := by decide +kernel
theorem dX2_dropVol_26 : decode cX2_dropVol 26 = .ok (.iload_n 2, 1) := by decide +kernel
theorem dX2_dropVol_27 : decode cX2_dropVol 27 = .ok (.bipush 6, 2) := by decide +kernel
theorem dX2_dropVol_29 : decode cX2_dropVol 29 = .ok (.if_icmp .ge 21, 3) := by decide +kernel
theorem dX2_dropVol_32 : decode cX2_dropVol 32 = .ok (.aload_n 0, 1) := by decide +kernel
theorem dX2_dropVol_33 : decode cX2_dropVol 33 = .ok (.getfield 13, 3) := by decide +kernel
theorem dX2_dropVol_36 : decode cX2_dropVol 36 = .ok (.bipush 6, 2) := by decide +kernel
theorem dX2_dropVol_38 : decode cX2_dropVol 38 = .ok (.iload_n 1, 1) := by decide +kernel
theorem dX2_dropVol_39 : decode cX2_dropVol 39 = .ok (.imul, 1) := by decide +kernel
theorem dX2_dropVol_40 : decode cX2_dropVol 40 = .ok (.iload_n 2, 1) := by decide +kernel
theorem dX2_dropVol_41 : decode cX2_dropVol 41 = .ok (.iadd, 1) := by decide +kernel
theorem dX2_dropVol_42 : decode cX2_dropVol 42 = .ok (.iconst 0, 1) := by decide +kernel
theorem dX2_dropVol_43 : decode cX2_dropVol 43 = .ok (.iastore, 1) := by decide +kernel
theorem dX2_dropVol_44 : decode cX2_dropVol 44 = .ok (.iinc 2 1, 3) := by decide +kernel
theorem dX2_dropVol_47 : decode cX2_dropVol 47 = .ok (.goto (-21), 3) := by decide +kernel
theorem dX2_dropVol_50 : decode cX2_dropVol 50 = .ok (.aload_n 0, 1) := by decide +kernel
theorem dX2_dropVol_51 : decode cX2_dropVol 51 = .ok (.aload_n 0, 1) := by decide +kernel
theorem dX2_dropVol_52 : decode cX2_dropVol 52 = .ok (.getfield 36, 3) := by decide +kernel
theorem dX2_dropVol_55 : decode cX2_dropVol 55 = .ok (.invokevirtual 89, 3) := by decide +kernel
theorem dX2_dropVol_58 : decode cX2_dropVol 58 = .ok (.ireturn, 1) := by decide +kernel
theorem dX2_chunksUsed_0 : decode cX2_chunksUsed 0 = .ok (.aload_n 0, 1) := by decide +kernel
theorem dX2_chunksUsed_1 : decode cX2_chunksUsed 1 = .ok (.getfield 42, 3) := by decide +kernel
theorem dX2_chunksUsed_4 : decode cX2_chunksUsed 4 = .ok (.ifCond .eq 8, 3) := by decide +kernel
theorem dX2_chunksUsed_7 : decode cX2_chunksUsed 7 = .ok (.bipush (-4), 2) := by decide +kernel
theorem dX2_chunksUsed_9 : decode cX2_chunksUsed 9 = .ok (.goto 7, 3) := by decide +kernel
theorem dX2_chunksUsed_12 : decode cX2_chunksUsed 12 = .ok (.aload_n 0, 1) := by decide +kernel
theorem dX2_chunksUsed_13 : decode cX2_chunksUsed 13 = .ok (.invokevirtual 80, 3) := by decide +kernel
theorem dX2_chunksUsed_16 : decode cX2_chunksUsed 16 = .ok (.ireturn, 1) := by decide +kernel
theorem dX2_refsOf_0 : decode cX2_refsOf 0 = .ok (.aload_n 0, 1) := by decide +kernel
theorem dX2_refsOf_1 : decode cX2_refsOf 1 = .ok (.getfield 42, 3) := by decide +kernel
theorem dX2_refsOf_4 : decode cX2_refsOf 4 = .ok (.ifCond .eq 6, 3) := by decide +kernel
theorem dX2_refsOf_7 : decode cX2_refsOf 7 = .ok (.bipush (-4), 2) := by decide +kernel
theorem dX2_refsOf_9 : decode cX2_refsOf 9 = .ok (.ireturn, 1) := by decide +kernel
theorem dX2_refsOf_10 : decode cX2_refsOf 10 = .ok (.aload_n 0, 1) := by decide +kernel
theorem dX2_refsOf_11 : decode cX2_refsOf 11 = .ok (.iload_n 1, 1) := by decide +kernel
theorem dX2_refsOf_12 : decode cX2_refsOf 12 = .ok (.iload_n 2, 1) := by decide +kernel
theorem dX2_refsOf_13 : decode cX2_refsOf 13 = .ok (.invokevirtual 72, 3) := by decide +kernel
theorem dX2_refsOf_16 : decode cX2_refsOf 16 = .ok (.ifCond .eq 37, 3) := by decide +kernel
theorem dX2_refsOf_19 : decode cX2_refsOf 19 = .ok (.aload_n 0, 1) := by decide +kernel
theorem dX2_refsOf_20 : decode cX2_refsOf 20 = .ok (.getfield 7, 3) := by decide +kernel
theorem dX2_refsOf_23 : decode cX2_refsOf 23 = .ok (.bipush 6, 2) := by decide +kernel
theorem dX2_refsOf_25 : decode cX2_refsOf 25 = .ok (.iload_n 1, 1) := by decide +kernel
theorem dX2_refsOf_26 : decode cX2_refsOf 26 = .ok (.imul, 1) := by decide +kernel
theorem dX2_refsOf_27 : decode cX2_refsOf 27 = .ok (.iload_n 2, 1) := by decide +kernel
theorem dX2_refsOf_28 : decode cX2_refsOf 28 = .ok (.iadd, 1) := by decide +kernel
theorem dX2_refsOf_29 : decode cX2_refsOf 29 = .ok (.iaload, 1) := by decide +kernel
theorem dX2_refsOf_30 : decode cX2_refsOf 30 = .ok (.ifCond .le 23, 3) := by decide +kernel
theorem dX2_refsOf_33 : decode cX2_refsOf 33 = .ok (.aload_n 0, 1) := by decide +kernel
theorem dX2_refsOf_34 : decode cX2_refsOf 34 = .ok (.aload_n 0, 1) := by decide +kernel
theorem dX2_refsOf_35 : decode cX2_refsOf 35 = .ok (.getfield 7, 3) := by decide +kernel
theorem dX2_refsOf_38 : decode cX2_refsOf 38 = .ok (.bipush 6, 2) := by decide +kernel
theorem dX2_refsOf_40 : decode cX2_refsOf 40 = .ok (.iload_n 1, 1) := by decide +kernel
theorem dX2_refsOf_41 : decode cX2_refsOf 41 = .ok (.imul, 1) := by decide +kernel
theorem dX2_refsOf_42 : decode cX2_refsOf 42 = .ok (.iload_n 2, 1) := by decide +kernel
theorem dX2_refsOf_43 : decode cX2_refsOf 43 = .ok (.iadd, 1) := by decide +kernel
theorem dX2_refsOf_44 : decode cX2_refsOf 44 = .ok (.iaload, 1) := by decide +kernel
theorem dX2_refsOf_45 : decode cX2_refsOf 45 = .ok (.iconst 1, 1) := by decide +kernel
theorem dX2_refsOf_46 : decode cX2_refsOf 46 = .ok (.isub, 1) := by decide +kernel
theorem dX2_refsOf_47 : decode cX2_refsOf 47 = .ok (.invokevirtual 63, 3) := by decide +kernel
theorem dX2_refsOf_50 : decode cX2_refsOf 50 = .ok (.goto 4, 3) := by decide +kernel
theorem dX2_refsOf_53 : decode cX2_refsOf 53 = .ok (.iconst 0, 1) := by decide +kernel
theorem dX2_refsOf_54 : decode cX2_refsOf 54 = .ok (.ireturn, 1) := by decide +kernel
theorem dX2_slotOf_0 : decode cX2_slotOf 0 = .ok (.aload_n 0, 1) := by decide +kernel
theorem dX2_slotOf_1 : decode cX2_slotOf 1 = .ok (.getfield 42, 3) := by decide +kernel
theorem dX2_slotOf_4 : decode cX2_slotOf 4 = .ok (.ifCond .eq 6, 3) := by decide +kernel
theorem dX2_slotOf_7 : decode cX2_slotOf 7 = .ok (.bipush (-4), 2) := by decide +kernel
theorem dX2_slotOf_9 : decode cX2_slotOf 9 = .ok (.ireturn, 1) := by decide +kernel
theorem dX2_slotOf_10 : decode cX2_slotOf 10 = .ok (.aload_n 0, 1) := by decide +kernel
theorem dX2_slotOf_11 : decode cX2_slotOf 11 = .ok (.iload_n 1, 1) := by decide +kernel
theorem dX2_slotOf_12 : decode cX2_slotOf 12 = .ok (.iload_n 2, 1) := by decide +kernel
theorem dX2_slotOf_13 : decode cX2_slotOf 13 = .ok (.invokevirtual 72, 3) := by decide +kernel
theorem dX2_slotOf_16 : decode cX2_slotOf 16 = .ok (.ifCond .ne 5, 3) := by decide +kernel
theorem dX2_slotOf_19 : decode cX2_slotOf 19 = .ok (.iconst (-1), 1) := by decide +kernel
theorem dX2_slotOf_20 : decode cX2_slotOf 20 = .ok (.ireturn, 1) := by decide +kernel
theorem dX2_slotOf_21 : decode cX2_slotOf 21 = .ok (.aload_n 0, 1) := by decide +kernel
theorem dX2_slotOf_22 : decode cX2_slotOf 22 = .ok (.getfield 7, 3) := by decide +kernel
theorem dX2_slotOf_25 : decode cX2_slotOf 25 = .ok (.bipush 6, 2) := by decide +kernel
theorem dX2_slotOf_27 : decode cX2_slotOf 27 = .ok (.iload_n 1, 1) := by decide +kernel
theorem dX2_slotOf_28 : decode cX2_slotOf 28 = .ok (.imul, 1) := by decide +kernel
theorem dX2_slotOf_29 : decode cX2_slotOf 29 = .ok (.iload_n 2, 1) := by decide +kernel
theorem dX2_slotOf_30 : decode cX2_slotOf 30 = .ok (.iadd, 1) := by decide +kernel
theorem dX2_slotOf_31 : decode cX2_slotOf 31 = .ok (.iaload, 1) := by decide +kernel
theorem dX2_slotOf_32 : decode cX2_slotOf 32 = .ok (.ifCond .ne 8, 3) := by decide +kernel
theorem dX2_slotOf_35 : decode cX2_slotOf 35 = .ok (.bipush (-3), 2) := by decide +kernel
theorem dX2_slotOf_37 : decode cX2_slotOf 37 = .ok (.goto 16, 3) := by decide +kernel
theorem dX2_slotOf_40 : decode cX2_slotOf 40 = .ok (.aload_n 0, 1) := by decide +kernel
theorem dX2_slotOf_41 : decode cX2_slotOf 41 = .ok (.getfield 7, 3) := by decide +kernel
theorem dX2_slotOf_44 : decode cX2_slotOf 44 = .ok (.bipush 6, 2) := by decide +kernel
theorem dX2_slotOf_46 : decode cX2_slotOf 46 = .ok (.iload_n 1, 1) := by decide +kernel
theorem dX2_slotOf_47 : decode cX2_slotOf 47 = .ok (.imul, 1) := by decide +kernel
theorem dX2_slotOf_48 : decode cX2_slotOf 48 = .ok (.iload_n 2, 1) := by decide +kernel
theorem dX2_slotOf_49 : decode cX2_slotOf 49 = .ok (.iadd, 1) := by decide +kernel
theorem dX2_slotOf_50 : decode cX2_slotOf 50 = .ok (.iaload, 1) := by decide +kernel
theorem dX2_slotOf_51 : decode cX2_slotOf 51 = .ok (.iconst 1, 1) := by decide +kernel
theorem dX2_slotOf_52 : decode cX2_slotOf 52 = .ok (.isub, 1) := by decide +kernel
theorem dX2_slotOf_53 : decode cX2_slotOf 53 = .ok (.ireturn, 1) := by decide +kernel
theorem dX2_slotWord_0 : decode cX2_slotWord 0 = .ok (.aload_n 0, 1) := by decide +kernel
theorem dX2_slotWord_1 : decode cX2_slotWord 1 = .ok (.getfield 42, 3) := by decide +kernel
theorem dX2_slotWord_4 : decode cX2_slotWord 4 = .ok (.ifCond .eq 6, 3) := by decide +kernel
theorem dX2_slotWord_7 : decode cX2_slotWord 7 = .ok (.bipush (-4), 2) := by decide +kernel
theorem dX2_slotWord_9 : decode cX2_slotWord 9 = .ok (.ireturn, 1) := by decide +kernel
theorem dX2_slotWord_10 : decode cX2_slotWord 10 = .ok (.iload_n 1, 1) := by decide +kernel
theorem dX2_slotWord_11 : decode cX2_slotWord 11 = .ok (.ifCond .lt 32, 3) := by decide +kernel
theorem dX2_slotWord_14 : decode cX2_slotWord 14 = .ok (.iload_n 1, 1) := by decide +kernel
theorem dX2_slotWord_15 : decode cX2_slotWord 15 = .ok (.aload_n 0, 1) := by decide +kernel
theorem dX2_slotWord_16 : decode cX2_slotWord 16 = .ok (.getfield 30, 3) := by decide +kernel
theorem dX2_slotWord_19 : decode cX2_slotWord 19 = .ok (.if_icmp .gt 24, 3) := by decide +kernel
theorem dX2_slotWord_22 : decode cX2_slotWord 22 = .ok (.aload_n 0, 1) := by decide +kernel
theorem dX2_slotWord_23 : decode cX2_slotWord 23 = .ok (.iload_n 2, 1) := by decide +kernel
theorem dX2_slotWord_24 : decode cX2_slotWord 24 = .ok (.invokevirtual 69, 3) := by decide +kernel
theorem dX2_slotWord_27 : decode cX2_slotWord 27 = .ok (.ifCond .eq 16, 3) := by decide +kernel
theorem dX2_slotWord_30 : decode cX2_slotWord 30 = .ok (.aload_n 0, 1) := by decide +kernel
theorem dX2_slotWord_31 : decode cX2_slotWord 31 = .ok (.getfield 16, 3) := by decide +kernel
theorem dX2_slotWord_34 : decode cX2_slotWord 34 = .ok (.iconst 4, 1) := by decide +kernel
theorem dX2_slotWord_35 : decode cX2_slotWord 35 = .ok (.iload_n 1, 1) := by decide +kernel
theorem dX2_slotWord_36 : decode cX2_slotWord 36 = .ok (.imul, 1) := by decide +kernel
theorem dX2_slotWord_37 : decode cX2_slotWord 37 = .ok (.iload_n 2, 1) := by decide +kernel
theorem dX2_slotWord_38 : decode cX2_slotWord 38 = .ok (.iadd, 1) := by decide +kernel
theorem dX2_slotWord_39 : decode cX2_slotWord 39 = .ok (.iaload, 1) := by decide +kernel
theorem dX2_slotWord_40 : decode cX2_slotWord 40 = .ok (.goto 4, 3) := by decide +kernel
theorem dX2_slotWord_43 : decode cX2_slotWord 43 = .ok (.iconst 0, 1) := by decide +kernel
theorem dX2_slotWord_44 : decode cX2_slotWord 44 = .ok (.ireturn, 1) := by decide +kernel
theorem dX2_crashAfter_0 : decode cX2_crashAfter 0 = .ok (.aload_n 0, 1) := by decide +kernel
theorem dX2_crashAfter_1 : decode cX2_crashAfter 1 = .ok (.getfield 42, 3) := by decide +kernel
theorem dX2_crashAfter_4 : decode cX2_crashAfter 4 = .ok (.ifCond .eq 4, 3) := by decide +kernel
theorem dX2_crashAfter_7 : decode cX2_crashAfter 7 = .ok (.return_, 1) := by decide +kernel
theorem dX2_crashAfter_8 : decode cX2_crashAfter 8 = .ok (.iload_n 1, 1) := by decide +kernel
theorem dX2_crashAfter_9 : decode cX2_crashAfter 9 = .ok (.iconst 1, 1) := by decide +kernel
theorem dX2_crashAfter_10 : decode cX2_crashAfter 10 = .ok (.if_icmp .ge 11, 3) := by decide +kernel
theorem dX2_crashAfter_13 : decode cX2_crashAfter 13 = .ok (.aload_n 0, 1) := by decide +kernel
theorem dX2_crashAfter_14 : decode cX2_crashAfter 14 = .ok (.iconst 0, 1) := by decide +kernel
theorem dX2_crashAfter_15 : decode cX2_crashAfter 15 = .ok (.putfield 46, 3) := by decide +kernel
theorem dX2_crashAfter_18 : decode cX2_crashAfter 18 = .ok (.goto 27, 3) := by decide +kernel
theorem dX2_crashAfter_21 : decode cX2_crashAfter 21 = .ok (.aload_n 0, 1) := by decide +kernel
theorem dX2_crashAfter_22 : decode cX2_crashAfter 22 = .ok (.getfield 92, 3) := by decide +kernel
theorem dX2_crashAfter_25 : decode cX2_crashAfter 25 = .ok (.bipush 30, 2) := by decide +kernel
theorem dX2_crashAfter_27 : decode cX2_crashAfter 27 = .ok (.if_icmp .ge 18, 3) := by decide +kernel
theorem dX2_crashAfter_30 : decode cX2_crashAfter 30 = .ok (.aload_n 0, 1) := by decide +kernel
theorem dX2_crashAfter_31 : decode cX2_crashAfter 31 = .ok (.iload_n 1, 1) := by decide +kernel
theorem dX2_crashAfter_32 : decode cX2_crashAfter 32 = .ok (.putfield 46, 3) := by decide +kernel
theorem dX2_crashAfter_35 : decode cX2_crashAfter 35 = .ok (.aload_n 0, 1) := by decide +kernel
theorem dX2_crashAfter_36 : decode cX2_crashAfter 36 = .ok (.dup, 1) := by decide +kernel
theorem dX2_crashAfter_37 : decode cX2_crashAfter 37 = .ok (.getfield 92, 3) := by decide +kernel
theorem dX2_crashAfter_40 : decode cX2_crashAfter 40 = .ok (.iconst 1, 1) := by decide +kernel
theorem dX2_crashAfter_41 : decode cX2_crashAfter 41 = .ok (.iadd, 1) := by decide +kernel
theorem dX2_crashAfter_42 : decode cX2_crashAfter 42 = .ok (.putfield 92, 3) := by decide +kernel
theorem dX2_crashAfter_45 : decode cX2_crashAfter 45 = .ok (.return_, 1) := by decide +kernel
theorem dX2_down_0 : decode cX2_down 0 = .ok (.aload_n 0, 1) := by decide +kernel
theorem dX2_down_1 : decode cX2_down 1 = .ok (.getfield 42, 3) := by decide +kernel
theorem dX2_down_4 : decode cX2_down 4 = .ok (.ireturn, 1) := by decide +kernel
theorem dX2_recover_0 : decode cX2_recover 0 = .ok (.aload_n 0, 1) := by decide +kernel
theorem dX2_recover_1 : decode cX2_recover 1 = .ok (.getfield 42, 3) := by decide +kernel
theorem dX2_recover_4 : decode cX2_recover 4 = .ok (.ifCond .eq 46, 3) := by decide +kernel
theorem dX2_recover_7 : decode cX2_recover 7 = .ok (.aload_n 0, 1) := by decide +kernel
theorem dX2_recover_8 : decode cX2_recover 8 = .ok (.iconst 0, 1) := by decide +kernel
theorem dX2_recover_9 : decode cX2_recover 9 = .ok (.putfield 42, 3) := by decide +kernel
theorem dX2_recover_12 : decode cX2_recover 12 = .ok (.aload_n 0, 1) := by decide +kernel
theorem dX2_recover_13 : decode cX2_recover 13 = .ok (.invokevirtual 39, 3) := by decide +kernel
theorem dX2_recover_16 : decode cX2_recover 16 = .ok (.aload_n 0, 1) := by decide +kernel
theorem dX2_recover_17 : decode cX2_recover 17 = .ok (.aload_n 0, 1) := by decide +kernel
theorem dX2_recover_18 : decode cX2_recover 18 = .ok (.getfield 49, 3) := by decide +kernel
theorem dX2_recover_21 : decode cX2_recover 21 = .ok (.ifCond .le 17, 3) := by decide +kernel
theorem dX2_recover_24 : decode cX2_recover 24 = .ok (.aload_n 0, 1) := by decide +kernel
theorem dX2_recover_25 : decode cX2_recover 25 = .ok (.getfield 52, 3) := by decide +kernel
theorem dX2_recover_28 : decode cX2_recover 28 = .ok (.aload_n 0, 1) := by decide +kernel
theorem dX2_recover_29 : decode cX2_recover 29 = .ok (.getfield 49, 3) := by decide +kernel
theorem dX2_recover_32 : decode cX2_recover 32 = .ok (.iadd, 1) := by decide +kernel
theorem dX2_recover_33 : decode cX2_recover 33 = .ok (.iconst 1, 1) := by decide +kernel
theorem dX2_recover_34 : decode cX2_recover 34 = .ok (.iadd, 1) := by decide +kernel
theorem dX2_recover_35 : decode cX2_recover 35 = .ok (.goto 7, 3) := by decide +kernel
theorem dX2_recover_38 : decode cX2_recover 38 = .ok (.aload_n 0, 1) := by decide +kernel
theorem dX2_recover_39 : decode cX2_recover 39 = .ok (.getfield 52, 3) := by decide +kernel
theorem dX2_recover_42 : decode cX2_recover 42 = .ok (.putfield 52, 3) := by decide +kernel
theorem dX2_recover_45 : decode cX2_recover 45 = .ok (.aload_n 0, 1) := by decide +kernel
theorem dX2_recover_46 : decode cX2_recover 46 = .ok (.iconst 0, 1) := by decide +kernel
theorem dX2_recover_47 : decode cX2_recover 47 = .ok (.putfield 49, 3) := by decide +kernel
theorem dX2_recover_50 : decode cX2_recover 50 = .ok (.iconst 0, 1) := by decide +kernel
theorem dX2_recover_51 : decode cX2_recover 51 = .ok (.ireturn, 1) := by decide +kernel
theorem dX2_writes_0 : decode cX2_writes 0 = .ok (.aload_n 0, 1) := by decide +kernel
theorem dX2_writes_1 : decode cX2_writes 1 = .ok (.getfield 52, 3) := by decide +kernel
theorem dX2_writes_4 : decode cX2_writes 4 = .ok (.ireturn, 1) := by decide +kernel
