theorem dX7_init_0 : decode cX7_init 0 = .ok (.aload_n 0, 1) := by decide +kernel
theorem dX7_init_1 : decode cX7_init 1 = .ok (.invokespecial 1, 3) := by decide +kernel
theorem dX7_init_4 : decode cX7_init 4 = .ok (.aload_n 0, 1) := by decide +kernel
theorem dX7_init_5 : decode cX7_init 5 = .ok (.sipush 128, 3) := by decide +kernel
theorem dX7_init_8 : decode cX7_init 8 = .ok (.newarray .int, 2) := by decide +kernel
theorem dX7_init_10 : decode cX7_init 10 = .ok (.putfield 7, 3) := by decide +kernel
theorem dX7_init_13 : decode cX7_init 13 = .ok (.aload_n 0, 1) := by decide +kernel
theorem dX7_init_14 : decode cX7_init 14 = .ok (.sipush 256, 3) := by decide +kernel
theorem dX7_init_17 : decode cX7_init 17 = .ok (.newarray .int, 2) := by decide +kernel
theorem dX7_init_19 : decode cX7_init 19 = .ok (.putfield 13, 3) := by decide +kernel
theorem dX7_init_22 : decode cX7_init 22 = .ok (.aload_n 0, 1) := by decide +kernel
theorem dX7_init_23 : decode cX7_init 23 = .ok (.iconst 2, 1) := by decide +kernel
theorem dX7_init_24 : decode cX7_init 24 = .ok (.newarray .boolean, 2) := by decide +kernel
theorem dX7_init_26 : decode cX7_init 26 = .ok (.putfield 16, 3) := by decide +kernel
theorem dX7_init_29 : decode cX7_init 29 = .ok (.aload_n 0, 1) := by decide +kernel
theorem dX7_init_30 : decode cX7_init 30 = .ok (.sipush 128, 3) := by decide +kernel
theorem dX7_init_33 : decode cX7_init 33 = .ok (.newarray .int, 2) := by decide +kernel
theorem dX7_init_35 : decode cX7_init 35 = .ok (.putfield 20, 3) := by decide +kernel
theorem dX7_init_38 : decode cX7_init 38 = .ok (.aload_n 0, 1) := by decide +kernel
theorem dX7_init_39 : decode cX7_init 39 = .ok (.sipush 320, 3) := by decide +kernel
theorem dX7_init_42 : decode cX7_init 42 = .ok (.newarray .int, 2) := by decide +kernel
theorem dX7_init_44 : decode cX7_init 44 = .ok (.putfield 23, 3) := by decide +kernel
theorem dX7_init_47 : decode cX7_init 47 = .ok (.aload_n 0, 1) := by decide +kernel
theorem dX7_init_48 : decode cX7_init 48 = .ok (.bipush 7, 2) := by decide +kernel
theorem dX7_init_50 : decode cX7_init 50 = .ok (.newarray .int, 2) := by decide +kernel
theorem dX7_init_52 : decode cX7_init 52 = .ok (.putfield 26, 3) := by decide +kernel
theorem dX7_init_55 : decode cX7_init 55 = .ok (.aload_n 0, 1) := by decide +kernel
theorem dX7_init_56 : decode cX7_init 56 = .ok (.bipush 6, 2) := by decide +kernel
theorem dX7_init_58 : decode cX7_init 58 = .ok (.newarray .boolean, 2) := by decide +kernel
theorem dX7_init_60 : decode cX7_init 60 = .ok (.putfield 29, 3) := by decide +kernel
theorem dX7_init_63 : decode cX7_init 63 = .ok (.aload_n 0, 1) := by decide +kernel
theorem dX7_init_64 : decode cX7_init 64 = .ok (.bipush 6, 2) := by decide +kernel
theorem dX7_init_66 : decode cX7_init 66 = .ok (.newarray .long, 2) := by decide +kernel
theorem dX7_init_68 : decode cX7_init 68 = .ok (.putfield 32, 3) := by decide +kernel
theorem dX7_init_71 : decode cX7_init 71 = .ok (.aload_n 0, 1) := by decide +kernel
theorem dX7_init_72 : decode cX7_init 72 = .ok (.bipush 6, 2) := by decide +kernel
theorem dX7_init_74 : decode cX7_init 74 = .ok (.newarray .boolean, 2) := by decide +kernel
theorem dX7_init_76 : decode cX7_init 76 = .ok (.putfield 36, 3) := by decide +kernel
theorem dX7_init_79 : decode cX7_init 79 = .ok (.aload_n 0, 1) := by decide +kernel
theorem dX7_init_80 : decode cX7_init 80 = .ok (.bipush 8, 2) := by decide +kernel
theorem dX7_init_82 : decode cX7_init 82 = .ok (.newarray .int, 2) := by decide +kernel
theorem dX7_init_84 : decode cX7_init 84 = .ok (.putfield 39, 3) := by decide +kernel
theorem dX7_init_87 : decode cX7_init 87 = .ok (.aload_n 0, 1) := by decide +kernel
theorem dX7_init_88 : decode cX7_init 88 = .ok (.bipush 8, 2) := by decide +kernel
theorem dX7_init_90 : decode cX7_init 90 = .ok (.newarray .int, 2) := by decide +kernel
theorem dX7_init_92 : decode cX7_init 92 = .ok (.putfield 42, 3) := by decide +kernel
theorem dX7_init_95 : decode cX7_init 95 = .ok (.aload_n 0, 1) := by decide +kernel
theorem dX7_init_96 : decode cX7_init 96 = .ok (.bipush 13, 2) := by decide +kernel
theorem dX7_init_98 : decode cX7_init 98 = .ok (.newarray .boolean, 2) := by decide +kernel
theorem dX7_init_100 : decode cX7_init 100 = .ok (.putfield 45, 3) := by decide +kernel
theorem dX7_init_103 : decode cX7_init 103 = .ok (.aload_n 0, 1) := by decide +kernel
theorem dX7_init_104 : decode cX7_init 104 = .ok (.bipush 6, 2) := by decide +kernel
theorem dX7_init_106 : decode cX7_init 106 = .ok (.newarray .boolean, 2) := by decide +kernel
theorem dX7_init_108 : decode cX7_init 108 = .ok (.putfield 48, 3) := by decide +kernel
theorem dX7_init_111 : decode cX7_init 111 = .ok (.aload_n 0, 1) := by decide +kernel
theorem dX7_init_112 : decode cX7_init 112 = .ok (.bipush 24, 2) := by decide +kernel
theorem dX7_init_114 : decode cX7_init 114 = .ok (.newarray .boolean, 2) := by decide +kernel
theorem dX7_init_116 : decode cX7_init 116 = .ok (.putfield 51, 3) := by decide +kernel
theorem dX7_init_119 : decode cX7_init 119 = .ok (.aload_n 0, 1) := by decide +kernel
theorem dX7_init_120 : decode cX7_init 120 = .ok (.iconst 4, 1) := by decide +kernel
theorem dX7_init_121 : decode cX7_init 121 = .ok (.newarray .int, 2) := by decide +kernel
theorem dX7_init_123 : decode cX7_init 123 = .ok (.putfield 54, 3) := by decide +kernel
theorem dX7_init_126 : decode cX7_init 126 = .ok (.aload_n 0, 1) := by decide +kernel
theorem dX7_init_127 : decode cX7_init 127 = .ok (.iconst 4, 1) := by decide +kernel
theorem dX7_init_128 : decode cX7_init 128 = .ok (.newarray .int, 2) := by decide +kernel
theorem dX7_init_130 : decode cX7_init 130 = .ok (.putfield 57, 3) := by decide +kernel
theorem dX7_init_133 : decode cX7_init 133 = .ok (.aload_n 0, 1) := by decide +kernel
theorem dX7_init_134 : decode cX7_init 134 = .ok (.sipush 160, 3) := by decide +kernel
theorem dX7_init_137 : decode cX7_init 137 = .ok (.newarray .int, 2) := by decide +kernel
theorem dX7_init_139 : decode cX7_init 139 = .ok (.putfield 60, 3) := by decide +kernel
theorem dX7_init_142 : decode cX7_init 142 = .ok (.aload_n 0, 1) := by decide +kernel
theorem dX7_init_143 : decode cX7_init 143 = .ok (.sipush 128, 3) := by decide +kernel
theorem dX7_init_146 : decode cX7_init 146 = .ok (.newarray .int, 2) := by decide +kernel
theorem dX7_init_148 : decode cX7_init 148 = .ok (.putfield 63, 3) := by decide +kernel
theorem dX7_init_151 : decode cX7_init 151 = .ok (.iconst 0, 1) := by decide +kernel
theorem dX7_init_152 : decode cX7_init 152 = .ok (.istore_n 1, 1) := by decide +kernel
theorem dX7_init_153 : decode cX7_init 153 = .ok (.iload_n 1, 1) := by decide +kernel
theorem dX7_init_154 : decode cX7_init 154 = .ok (.iconst 4, 1) := by decide +kernel
theorem dX7_init_155 : decode cX7_init 155 = .ok (.if_icmp .ge 17, 3) := by decide +kernel
theorem dX7_init_158 : decode cX7_init 158 = .ok (.aload_n 0, 1) := by decide +kernel
theorem dX7_init_159 : decode cX7_init 159 = .ok (.getfield 54, 3) := by decide +kernel
theorem dX7_init_162 : decode cX7_init 162 = .ok (.iload_n 1, 1) := by decide +kernel
theorem dX7_init_163 : decode cX7_init 163 = .ok (.bipush (-4), 2) := by decide +kernel
theorem dX7_init_165 : decode cX7_init 165 = .ok (.iastore, 1) := by decide +kernel
theorem dX7_init_166 : decode cX7_init 166 = .ok (.iinc 1 1, 3) := by decide +kernel
theorem dX7_init_169 : decode cX7_init 169 = .ok (.goto (-16), 3) := by decide +kernel
theorem dX7_init_172 : decode cX7_init 172 = .ok (.aload_n 0, 1) := by decide +kernel
theorem dX7_init_173 : decode cX7_init 173 = .ok (.invokevirtual 66, 3) := by decide +kernel
theorem dX7_init_176 : decode cX7_init 176 = .ok (.aload_n 0, 1) := by decide +kernel
theorem dX7_init_177 : decode cX7_init 177 = .ok (.invokevirtual 69, 3) := by decide +kernel
theorem dX7_init_180 : decode cX7_init 180 = .ok (.return_, 1) := by decide +kernel
theorem dX7_in_0 : decode cX7_in 0 = .ok (.lload_n 0, 1) := by decide +kernel
theorem dX7_in_1 : decode cX7_in 1 = .ok (.lload_n 2, 1) := by decide +kernel
theorem dX7_in_2 : decode cX7_in 2 = .ok (.lcmp, 1) := by decide +kernel
theorem dX7_in_3 : decode cX7_in 3 = .ok (.ifCond .lt 14, 3) := by decide +kernel
theorem dX7_in_6 : decode cX7_in 6 = .ok (.lload_n 0, 1) := by decide +kernel
theorem dX7_in_7 : decode cX7_in 7 = .ok (.lload 4, 2) := by decide +kernel
theorem dX7_in_9 : decode cX7_in 9 = .ok (.lcmp, 1) := by decide +kernel
theorem dX7_in_10 : decode cX7_in 10 = .ok (.ifCond .gt 7, 3) := by decide +kernel
theorem dX7_in_13 : decode cX7_in 13 = .ok (.iconst 1, 1) := by decide +kernel
theorem dX7_in_14 : decode cX7_in 14 = .ok (.goto 4, 3) := by decide +kernel
theorem dX7_in_17 : decode cX7_in 17 = .ok (.iconst 0, 1) := by decide +kernel
theorem dX7_in_18 : decode cX7_in 18 = .ok (.ireturn, 1) := by decide +kernel
theorem dX7_flag_0 : decode cX7_flag 0 = .ok (.iload_n 0, 1) := by decide +kernel
theorem dX7_flag_1 : decode cX7_flag 1 = .ok (.ifCond .eq 7, 3) := by decide +kernel
theorem dX7_flag_4 : decode cX7_flag 4 = .ok (.iconst 1, 1) := by decide +kernel
theorem dX7_flag_5 : decode cX7_flag 5 = .ok (.goto 4, 3) := by decide +kernel
theorem dX7_flag_8 : decode cX7_flag 8 = .ok (.iconst 0, 1) := by decide +kernel
theorem dX7_flag_9 : decode cX7_flag 9 = .ok (.ireturn, 1) := by decide +kernel
theorem dX7_firstDraft_0 : decode cX7_firstDraft 0 = .ok (.iconst 0, 1) := by decide +kernel
theorem dX7_firstDraft_1 : decode cX7_firstDraft 1 = .ok (.istore_n 1, 1) := by decide +kernel
theorem dX7_firstDraft_2 : decode cX7_firstDraft 2 = .ok (.iload_n 1, 1) := by decide +kernel
theorem dX7_firstDraft_3 : decode cX7_firstDraft 3 = .ok (.sipush 128, 3) := by decide +kernel
theorem dX7_firstDraft_6 : decode cX7_firstDraft 6 = .ok (.if_icmp .ge 16, 3) := by decide +kernel
theorem dX7_firstDraft_9 : decode cX7_firstDraft 9 = .ok (.aload_n 0, 1) := by decide +kernel
theorem dX7_firstDraft_10 : decode cX7_firstDraft 10 = .ok (.getfield 20, 3) := by decide +kernel
theorem dX7_firstDraft_13 : decode cX7_firstDraft 13 = .ok (.iload_n 1, 1) := by decide +kernel
theorem dX7_firstDraft_14 : decode cX7_firstDraft 14 = .ok (.iconst 0, 1) := by decide +kernel
theorem dX7_firstDraft_15 : decode cX7_firstDraft 15 = .ok (.iastore, 1) := by decide +kernel
theorem dX7_firstDraft_16 : decode cX7_firstDraft 16 = .ok (.iinc 1 1, 3) := by decide +kernel
theorem dX7_firstDraft_19 : decode cX7_firstDraft 19 = .ok (.goto (-17), 3) := by decide +kernel
theorem dX7_firstDraft_22 : decode cX7_firstDraft 22 = .ok (.aload_n 0, 1) := by decide +kernel
theorem dX7_firstDraft_23 : decode cX7_firstDraft 23 = .ok (.getfield 20, 3) := by decide +kernel
theorem dX7_firstDraft_26 : decode cX7_firstDraft 26 = .ok (.bipush 121, 2) := by decide +kernel
theorem dX7_firstDraft_28 : decode cX7_firstDraft 28 = .ok (.sipush 255, 3) := by decide +kernel
theorem dX7_firstDraft_31 : decode cX7_firstDraft 31 = .ok (.iastore, 1) := by decide +kernel
theorem dX7_firstDraft_32 : decode cX7_firstDraft 32 = .ok (.iconst 0, 1) := by decide +kernel
theorem dX7_firstDraft_33 : decode cX7_firstDraft 33 = .ok (.istore_n 1, 1) := by decide +kernel
theorem dX7_firstDraft_34 : decode cX7_firstDraft 34 = .ok (.iload_n 1, 1) := by decide +kernel
theorem dX7_firstDraft_35 : decode cX7_firstDraft 35 = .ok (.bipush 6, 2) := by decide +kernel
theorem dX7_firstDraft_37 : decode cX7_firstDraft 37 = .ok (.if_icmp .ge 19, 3) := by decide +kernel
theorem dX7_firstDraft_40 : decode cX7_firstDraft 40 = .ok (.aload_n 0, 1) := by decide +kernel
theorem dX7_firstDraft_41 : decode cX7_firstDraft 41 = .ok (.getfield 20, 3) := by decide +kernel
theorem dX7_firstDraft_44 : decode cX7_firstDraft 44 = .ok (.bipush 122, 2) := by decide +kernel
theorem dX7_firstDraft_46 : decode cX7_firstDraft 46 = .ok (.iload_n 1, 1) := by decide +kernel
theorem dX7_firstDraft_47 : decode cX7_firstDraft 47 = .ok (.iadd, 1) := by decide +kernel
theorem dX7_firstDraft_48 : decode cX7_firstDraft 48 = .ok (.iconst 2, 1) := by decide +kernel
theorem dX7_firstDraft_49 : decode cX7_firstDraft 49 = .ok (.iastore, 1) := by decide +kernel
theorem dX7_firstDraft_50 : decode cX7_firstDraft 50 = .ok (.iinc 1 1, 3) := by decide +kernel
theorem dX7_firstDraft_53 : decode cX7_firstDraft 53 = .ok (.goto (-19), 3) := by decide +kernel
theorem dX7_firstDraft_56 : decode cX7_firstDraft 56 = .ok (.return_, 1) := by decide +kernel
theorem dX7_keepDraft_0 : decode cX7_keepDraft 0 = .ok (.iconst 0, 1) := by decide +kernel
theorem dX7_keepDraft_1 : decode cX7_keepDraft 1 = .ok (.istore_n 1, 1) := by decide +kernel
theorem dX7_keepDraft_2 : decode cX7_keepDraft 2 = .ok (.iload_n 1, 1) := by decide +kernel
theorem dX7_keepDraft_3 : decode cX7_keepDraft 3 = .ok (.sipush 128, 3) := by decide +kernel
theorem dX7_keepDraft_6 : decode cX7_keepDraft 6 = .ok (.if_icmp .ge 21, 3) := by decide +kernel
theorem dX7_keepDraft_9 : decode cX7_keepDraft 9 = .ok (.aload_n 0, 1) := by decide +kernel
theorem dX7_keepDraft_10 : decode cX7_keepDraft 10 = .ok (.getfield 7, 3) := by decide +kernel
theorem dX7_keepDraft_13 : decode cX7_keepDraft 13 = .ok (.iload_n 1, 1) := by decide +kernel
theorem dX7_keepDraft_14 : decode cX7_keepDraft 14 = .ok (.aload_n 0, 1) := by decide +kernel
theorem dX7_keepDraft_15 : decode cX7_keepDraft 15 = .ok (.getfield 20, 3) := by decide +kernel
theorem dX7_keepDraft_18 : decode cX7_keepDraft 18 = .ok (.iload_n 1, 1) := by decide +kernel
theorem dX7_keepDraft_19 : decode cX7_keepDraft 19 = .ok (.iaload, 1) := by decide +kernel
theorem dX7_keepDraft_20 : decode cX7_keepDraft 20 = .ok (.iastore, 1) := by decide +kernel
theorem dX7_keepDraft_21 : decode cX7_keepDraft 21 = .ok (.iinc 1 1, 3) := by decide +kernel
theorem dX7_keepDraft_24 : decode cX7_keepDraft 24 = .ok (.goto (-22), 3) := by decide +kernel
theorem dX7_keepDraft_27 : decode cX7_keepDraft 27 = .ok (.aload_n 0, 1) := by decide +kernel
theorem dX7_keepDraft_28 : decode cX7_keepDraft 28 = .ok (.getfield 16, 3) := by decide +kernel
theorem dX7_keepDraft_31 : decode cX7_keepDraft 31 = .ok (.iconst 0, 1) := by decide +kernel
theorem dX7_keepDraft_32 : decode cX7_keepDraft 32 = .ok (.iconst 0, 1) := by decide +kernel
theorem dX7_keepDraft_33 : decode cX7_keepDraft 33 = .ok (.bastore, 1) := by decide +kernel
theorem dX7_keepDraft_34 : decode cX7_keepDraft 34 = .ok (.aload_n 0, 1) := by decide +kernel
theorem dX7_keepDraft_35 : decode cX7_keepDraft 35 = .ok (.getfield 16, 3) := by decide +kernel
theorem dX7_keepDraft_38 : decode cX7_keepDraft 38 = .ok (.iconst 1, 1) := by decide +kernel
theorem dX7_keepDraft_39 : decode cX7_keepDraft 39 = .ok (.iconst 0, 1) := by decide +kernel
theorem dX7_keepDraft_40 : decode cX7_keepDraft 40 = .ok (.bastore, 1) := by decide +kernel
theorem dX7_keepDraft_41 : decode cX7_keepDraft 41 = .ok (.aload_n 0, 1) := by decide +kernel
theorem dX7_keepDraft_42 : decode cX7_keepDraft 42 = .ok (.iconst 0, 1) := by decide +kernel
theorem dX7_keepDraft_43 : decode cX7_keepDraft 43 = .ok (.putfield 72, 3) := by decide +kernel
theorem dX7_keepDraft_46 : decode cX7_keepDraft 46 = .ok (.return_, 1) := by decide +kernel
theorem dX7_feed_0 : decode cX7_feed 0 = .ok (.iload_n 1, 1) := by decide +kernel
theorem dX7_feed_1 : decode cX7_feed 1 = .ok (.i2l, 1) := by decide +kernel
theorem dX7_feed_2 : decode cX7_feed 2 = .ok (.lconst 0, 1) := by decide +kernel
theorem dX7_feed_3 : decode cX7_feed 3 = .ok (.ldc2_w 76, 3) := by decide +kernel
theorem dX7_feed_6 : decode cX7_feed 6 = .ok (.invokestatic 78, 3) := by decide +kernel
theorem dX7_feed_9 : decode cX7_feed 9 = .ok (.ifCond .ne 5, 3) := by decide +kernel
theorem dX7_feed_12 : decode cX7_feed 12 = .ok (.iconst (-1), 1) := by decide +kernel
theorem dX7_feed_13 : decode cX7_feed 13 = .ok (.ireturn, 1) := by decide +kernel
theorem dX7_feed_14 : decode cX7_feed 14 = .ok (.aload_n 0, 1) := by decide +kernel
theorem dX7_feed_15 : decode cX7_feed 15 = .ok (.getfield 82, 3) := by decide +kernel
theorem dX7_feed_18 : decode cX7_feed 18 = .ok (.sipush 320, 3) := by decide +kernel
theorem dX7_feed_21 : decode cX7_feed 21 = .ok (.if_icmp .ne 6, 3) := by decide +kernel
theorem dX7_feed_24 : decode cX7_feed 24 = .ok (.bipush (-3), 2) := by decide +kernel
theorem dX7_feed_26 : decode cX7_feed 26 = .ok (.ireturn, 1) := by decide +kernel
theorem dX7_feed_27 : decode cX7_feed 27 = .ok (.aload_n 0, 1) := by decide +kernel
theorem dX7_feed_28 : decode cX7_feed 28 = .ok (.getfield 23, 3) := by decide +kernel
theorem dX7_feed_31 : decode cX7_feed 31 = .ok (.aload_n 0, 1) := by decide +kernel
theorem dX7_feed_32 : decode cX7_feed 32 = .ok (.getfield 82, 3) := by decide +kernel
theorem dX7_feed_35 : decode cX7_feed 35 = .ok (.iload_n 1, 1) := by decide +kernel
theorem dX7_feed_36 : decode cX7_feed 36 = .ok (.iastore, 1) := by decide +kernel
theorem dX7_feed_37 : decode cX7_feed 37 = .ok (.aload_n 0, 1) := by decide +kernel
theorem dX7_feed_38 : decode cX7_feed 38 = .ok (.dup, 1) := by decide +kernel
theorem dX7_feed_39 : decode cX7_feed 39 = .ok (.getfield 82, 3) := by decide +kernel
theorem dX7_feed_42 : decode cX7_feed 42 = .ok (.iconst 1, 1) := by decide +kernel
theorem dX7_feed_43 : decode cX7_feed 43 = .ok (.iadd, 1) := by decide +kernel
theorem dX7_feed_44 : decode cX7_feed 44 = .ok (.putfield 82, 3) := by decide +kernel
theorem dX7_feed_47 : decode cX7_feed 47 = .ok (.aload_n 0, 1) := by decide +kernel
theorem dX7_feed_48 : decode cX7_feed 48 = .ok (.getfield 82, 3) := by decide +kernel
theorem dX7_feed_51 : decode cX7_feed 51 = .ok (.ireturn, 1) := by decide +kernel
theorem dX7_end_0 : decode cX7_end 0 = .ok (.iload_n 1, 1) := by decide +kernel
theorem dX7_end_1 : decode cX7_end 1 = .ok (.i2l, 1) := by decide +kernel
theorem dX7_end_2 : decode cX7_end 2 = .ok (.lconst 0, 1) := by decide +kernel
theorem dX7_end_3 : decode cX7_end 3 = .ok (.aload_n 0, 1) := by decide +kernel
theorem dX7_end_4 : decode cX7_end 4 = .ok (.getfield 82, 3) := by decide +kernel
theorem dX7_end_7 : decode cX7_end 7 = .ok (.i2l, 1) := by decide +kernel
theorem dX7_end_8 : decode cX7_end 8 = .ok (.invokestatic 78, 3) := by decide +kernel
theorem dX7_end_11 : decode cX7_end 11 = .ok (.ifCond .ne 5, 3) := by decide +kernel
theorem dX7_end_14 : decode cX7_end 14 = .ok (.iconst (-1), 1) := by decide +kernel
theorem dX7_end_15 : decode cX7_end 15 = .ok (.ireturn, 1) := by decide +kernel
theorem dX7_end_16 : decode cX7_end 16 = .ok (.aload_n 0, 1) := by decide +kernel
theorem dX7_end_17 : decode cX7_end 17 = .ok (.getfield 82, 3) := by decide +kernel
theorem dX7_end_20 : decode cX7_end 20 = .ok (.istore_n 2, 1) := by decide +kernel
theorem dX7_end_21 : decode cX7_end 21 = .ok (.aload_n 0, 1) := by decide +kernel
theorem dX7_end_22 : decode cX7_end 22 = .ok (.iload_n 1, 1) := by decide +kernel
theorem dX7_end_23 : decode cX7_end 23 = .ok (.putfield 82, 3) := by decide +kernel
theorem dX7_end_26 : decode cX7_end 26 = .ok (.iload_n 2, 1) := by decide +kernel
theorem dX7_end_27 : decode cX7_end 27 = .ok (.ireturn, 1) := by decide +kernel
theorem dX7_requires_0 : decode cX7_requires 0 = .ok (.iload_n 1, 1) := by decide +kernel
theorem dX7_requires_1 : decode cX7_requires 1 = .ok (.ifCond .ne 23, 3) := by decide +kernel
theorem dX7_requires_4 : decode cX7_requires 4 = .ok (.aload_n 0, 1) := by decide +kernel
theorem dX7_requires_5 : decode cX7_requires 5 = .ok (.getfield 86, 3) := by decide +kernel
theorem dX7_requires_8 : decode cX7_requires 8 = .ok (.ifCond .ne 16, 3) := by decide +kernel
theorem dX7_requires_11 : decode cX7_requires 11 = .ok (.aload_n 0, 1) := by decide +kernel
theorem dX7_requires_12 : decode cX7_requires 12 = .ok (.iload_n 2, 1) := by decide +kernel
theorem dX7_requires_13 : decode cX7_requires 13 = .ok (.putfield 86, 3) := by decide +kernel
theorem dX7_requires_16 : decode cX7_requires 16 = .ok (.aload_n 0, 1) := by decide +kernel
theorem dX7_requires_17 : decode cX7_requires 17 = .ok (.aload_n 0, 1) := by decide +kernel
theorem dX7_requires_18 : decode cX7_requires 18 = .ok (.getfield 89, 3) := by decide +kernel
theorem dX7_requires_21 : decode cX7_requires 21 = .ok (.putfield 92, 3) := by decide +kernel
theorem dX7_requires_24 : decode cX7_requires 24 = .ok (.return_, 1) := by decide +kernel
theorem dX7_byteAt_0 : decode cX7_byteAt 0 = .ok (.iload_n 1, 1) := by decide +kernel
theorem dX7_byteAt_1 : decode cX7_byteAt 1 = .ok (.aload_n 0, 1) := by decide +kernel
theorem dX7_byteAt_2 : decode cX7_byteAt 2 = .ok (.getfield 82, 3) := by decide +kernel
theorem dX7_byteAt_5 : decode cX7_byteAt 5 = .ok (.if_icmp .ge 12, 3) := by decide +kernel
theorem dX7_byteAt_8 : decode cX7_byteAt 8 = .ok (.aload_n 0, 1) := by decide +kernel
theorem dX7_byteAt_9 : decode cX7_byteAt 9 = .ok (.getfield 23, 3) := by decide +kernel
theorem dX7_byteAt_12 : decode cX7_byteAt 12 = .ok (.iload_n 1, 1) := by decide +kernel
theorem dX7_byteAt_13 : decode cX7_byteAt 13 = .ok (.iaload, 1) := by decide +kernel
theorem dX7_byteAt_14 : decode cX7_byteAt 14 = .ok (.goto 4, 3) := by decide +kernel
theorem dX7_byteAt_17 : decode cX7_byteAt 17 = .ok (.iconst (-1), 1) := by decide +kernel
theorem dX7_byteAt_18 : decode cX7_byteAt 18 = .ok (.ireturn, 1) := by decide +kernel
theorem dX7_is_0 : decode cX7_is 0 = .ok (.aload_n 0, 1) := by decide +kernel
theorem dX7_is_1 : decode cX7_is 1 = .ok (.getfield 95, 3) := by decide +kernel
theorem dX7_is_4 : decode cX7_is 4 = .ok (.aload_n 0, 1) := by decide +kernel
theorem dX7_is_5 : decode cX7_is 5 = .ok (.getfield 89, 3) := by decide +kernel
theorem dX7_is_8 : decode cX7_is 8 = .ok (.isub, 1) := by decide +kernel
theorem dX7_is_9 : decode cX7_is 9 = .ok (.iconst 3, 1) := by decide +kernel
theorem dX7_is_10 : decode cX7_is 10 = .ok (.if_icmp .ne 47, 3) := by decide +kernel
theorem dX7_is_13 : decode cX7_is 13 = .ok (.aload_n 0, 1) := by decide +kernel
theorem dX7_is_14 : decode cX7_is 14 = .ok (.aload_n 0, 1) := by decide +kernel
theorem dX7_is_15 : decode cX7_is 15 = .ok (.getfield 89, 3) := by decide +kernel
theorem dX7_is_18 : decode cX7_is 18 = .ok (.invokevirtual 98, 3) := by decide +kernel
theorem dX7_is_21 : decode cX7_is 21 = .ok (.iload_n 1, 1) := by decide +kernel
theorem dX7_is_22 : decode cX7_is 22 = .ok (.if_icmp .ne 35, 3) := by decide +kernel
theorem dX7_is_25 : decode cX7_is 25 = .ok (.aload_n 0, 1) := by decide +kernel
theorem dX7_is_26 : decode cX7_is 26 = .ok (.aload_n 0, 1) := by decide +kernel
theorem dX7_is_27 : decode cX7_is 27 = .ok (.getfield 89, 3) := by decide +kernel
theorem dX7_is_30 : decode cX7_is 30 = .ok (.iconst 1, 1) := by decide +kernel
theorem dX7_is_31 : decode cX7_is 31 = .ok (.iadd, 1) := by decide +kernel
theorem dX7_is_32 : decode cX7_is 32 = .ok (.invokevirtual 98, 3) := by decide +kernel
theorem dX7_is_35 : decode cX7_is 35 = .ok (.iload_n 2, 1) := by decide +kernel
theorem dX7_is_36 : decode cX7_is 36 = .ok (.if_icmp .ne 21, 3) := by decide +kernel
theorem dX7_is_39 : decode cX7_is 39 = .ok (.aload_n 0, 1) := by decide +kernel
theorem dX7_is_40 : decode cX7_is 40 = .ok (.aload_n 0, 1) := by decide +kernel
theorem dX7_is_41 : decode cX7_is 41 = .ok (.getfield 89, 3) := by decide +kernel
theorem dX7_is_44 : decode cX7_is 44 = .ok (.iconst 2, 1) := by decide +kernel
theorem dX7_is_45 : decode cX7_is 45 = .ok (.iadd, 1) := by decide +kernel
theorem dX7_is_46 : decode cX7_is 46 = .ok (.invokevirtual 98, 3) := by decide +kernel
theorem dX7_is_49 : decode cX7_is 49 = .ok (.iload_n 3, 1) := by decide +kernel
theorem dX7_is_50 : decode cX7_is 50 = .ok (.if_icmp .ne 7, 3) := by decide +kernel
theorem dX7_is_53 : decode cX7_is 53 = .ok (.iconst 1, 1) := by decide +kernel
theorem dX7_is_54 : decode cX7_is 54 = .ok (.goto 4, 3) := by decide +kernel
theorem dX7_is_57 : decode cX7_is 57 = .ok (.iconst 0, 1) := by decide +kernel
theorem dX7_is_58 : decode cX7_is 58 = .ok (.ireturn, 1) := by decide +kernel
theorem dX7_kindNow_0 : decode cX7_kindNow 0 = .ok (.aload_n 0, 1) := by decide +kernel
theorem dX7_kindNow_1 : decode cX7_kindNow 1 = .ok (.getfield 102, 3) := by decide +kernel
theorem dX7_kindNow_4 : decode cX7_kindNow 4 = .ok (.iconst 1, 1) := by decide +kernel
theorem dX7_kindNow_5 : decode cX7_kindNow 5 = .ok (.if_icmp .eq 6, 3) := by decide +kernel
theorem dX7_kindNow_8 : decode cX7_kindNow 8 = .ok (.bipush (-4), 2) := by decide +kernel
theorem dX7_kindNow_10 : decode cX7_kindNow 10 = .ok (.ireturn, 1) := by decide +kernel
theorem dX7_kindNow_11 : decode cX7_kindNow 11 = .ok (.aload_n 0, 1) := by decide +kernel
theorem dX7_kindNow_12 : decode cX7_kindNow 12 = .ok (.bipush 112, 2) := by decide +kernel
theorem dX7_kindNow_14 : decode cX7_kindNow 14 = .ok (.bipush 117, 2) := by decide +kernel
theorem dX7_kindNow_16 : decode cX7_kindNow 16 = .ok (.bipush 116, 2) := by decide +kernel
theorem dX7_kindNow_18 : decode cX7_kindNow 18 = .ok (.invokevirtual 105, 3) := by decide +kernel
theorem dX7_kindNow_21 : decode cX7_kindNow 21 = .ok (.ifCond .eq 5, 3) := by decide +kernel
theorem dX7_kindNow_24 : decode cX7_kindNow 24 = .ok (.iconst 0, 1) := by decide +kernel
theorem dX7_kindNow_25 : decode cX7_kindNow 25 = .ok (.ireturn, 1) := by decide +kernel
theorem dX7_kindNow_26 : decode cX7_kindNow 26 = .ok (.aload_n 0, 1) := by decide +kernel
theorem dX7_kindNow_27 : decode cX7_kindNow 27 = .ok (.bipush 97, 2) := by decide +kernel
theorem dX7_kindNow_29 : decode cX7_kindNow 29 = .ok (.bipush 100, 2) := by decide +kernel
theorem dX7_kindNow_31 : decode cX7_kindNow 31 = .ok (.bipush 100, 2) := by decide +kernel
theorem dX7_kindNow_33 : decode cX7_kindNow 33 = .ok (.invokevirtual 105, 3) := by decide +kernel
theorem dX7_kindNow_36 : decode cX7_kindNow 36 = .ok (.ifCond .eq 5, 3) := by decide +kernel
theorem dX7_kindNow_39 : decode cX7_kindNow 39 = .ok (.iconst 1, 1) := by decide +kernel
theorem dX7_kindNow_40 : decode cX7_kindNow 40 = .ok (.ireturn, 1) := by decide +kernel
theorem dX7_kindNow_41 : decode cX7_kindNow 41 = .ok (.aload_n 0, 1) := by decide +kernel
theorem dX7_kindNow_42 : decode cX7_kindNow 42 = .ok (.bipush 115, 2) := by decide +kernel
theorem dX7_kindNow_44 : decode cX7_kindNow 44 = .ok (.bipush 117, 2) := by decide +kernel
theorem dX7_kindNow_46 : decode cX7_kindNow 46 = .ok (.bipush 98, 2) := by decide +kernel
theorem dX7_kindNow_48 : decode cX7_kindNow 48 = .ok (.invokevirtual 105, 3) := by decide +kernel
theorem dX7_kindNow_51 : decode cX7_kindNow 51 = .ok (.ifCond .eq 5, 3) := by decide +kernel
theorem dX7_kindNow_54 : decode cX7_kindNow 54 = .ok (.iconst 2, 1) := by decide +kernel
theorem dX7_kindNow_55 : decode cX7_kindNow 55 = .ok (.ireturn, 1) := by decide +kernel
theorem dX7_kindNow_56 : decode cX7_kindNow 56 = .ok (.aload_n 0, 1) := by decide +kernel
theorem dX7_kindNow_57 : decode cX7_kindNow 57 = .ok (.bipush 109, 2) := by decide +kernel
theorem dX7_kindNow_59 : decode cX7_kindNow 59 = .ok (.bipush 117, 2) := by decide +kernel
theorem dX7_kindNow_61 : decode cX7_kindNow 61 = .ok (.bipush 108, 2) := by decide +kernel
theorem dX7_kindNow_63 : decode cX7_kindNow 63 = .ok (.invokevirtual 105, 3) := by decide +kernel
theorem dX7_kindNow_66 : decode cX7_kindNow 66 = .ok (.ifCond .eq 5, 3) := by decide +kernel
theorem dX7_kindNow_69 : decode cX7_kindNow 69 = .ok (.iconst 3, 1) := by decide +kernel
theorem dX7_kindNow_70 : decode cX7_kindNow 70 = .ok (.ireturn, 1) := by decide +kernel
theorem dX7_kindNow_71 : decode cX7_kindNow 71 = .ok (.aload_n 0, 1) := by decide +kernel
theorem dX7_kindNow_72 : decode cX7_kindNow 72 = .ok (.bipush 100, 2) := by decide +kernel
theorem dX7_kindNow_74 : decode cX7_kindNow 74 = .ok (.bipush 105, 2) := by decide +kernel
theorem dX7_kindNow_76 : decode cX7_kindNow 76 = .ok (.bipush 118, 2) := by decide +kernel
theorem dX7_kindNow_78 : decode cX7_kindNow 78 = .ok (.invokevirtual 105, 3) := by decide +kernel
theorem dX7_kindNow_81 : decode cX7_kindNow 81 = .ok (.ifCond .eq 7, 3) := by decide +kernel
theorem dX7_kindNow_84 : decode cX7_kindNow 84 = .ok (.iconst 4, 1) := by decide +kernel
theorem dX7_kindNow_85 : decode cX7_kindNow 85 = .ok (.goto 50, 3) := by decide +kernel
theorem dX7_kindNow_88 : decode cX7_kindNow 88 = .ok (.aload_n 0, 1) := by decide +kernel
theorem dX7_kindNow_89 : decode cX7_kindNow 89 = .ok (.getfield 95, 3) := by decide +kernel
theorem dX7_kindNow_92 : decode cX7_kindNow 92 = .ok (.aload_n 0, 1) := by decide +kernel
theorem dX7_kindNow_93 : decode cX7_kindNow 93 = .ok (.getfield 89, 3) := by decide +kernel
theorem dX7_kindNow_96 : decode cX7_kindNow 96 = .ok (.isub, 1) := by decide +kernel
theorem dX7_kindNow_97 : decode cX7_kindNow 97 = .ok (.iconst 2, 1) := by decide +kernel
theorem dX7_kindNow_98 : decode cX7_kindNow 98 = .ok (.if_icmp .ne 35, 3) := by decide +kernel
theorem dX7_kindNow_101 : decode cX7_kindNow 101 = .ok (.aload_n 0, 1) := by decide +kernel
theorem dX7_kindNow_102 : decode cX7_kindNow 102 = .ok (.aload_n 0, 1) := by decide +kernel
theorem dX7_kindNow_103 : decode cX7_kindNow 103 = .ok (.getfield 89, 3) := by decide +kernel
theorem dX7_kindNow_106 : decode cX7_kindNow 106 = .ok (.invokevirtual 98, 3) := by decide +kernel
theorem dX7_kindNow_109 : decode cX7_kindNow 109 = .ok (.bipush 105, 2) := by decide +kernel
theorem dX7_kindNow_111 : decode cX7_kindNow 111 = .ok (.if_icmp .ne 22, 3) := by decide +kernel
theorem dX7_kindNow_114 : decode cX7_kindNow 114 = .ok (.aload_n 0, 1) := by decide +kernel
theorem dX7_kindNow_115 : decode cX7_kindNow 115 = .ok (.aload_n 0, 1) := by decide +kernel
theorem dX7_kindNow_116 : decode cX7_kindNow 116 = .ok (.getfield 89, 3) := by decide +kernel
theorem dX7_kindNow_119 : decode cX7_kindNow 119 = .ok (.iconst 1, 1) := by decide +kernel
theorem dX7_kindNow_120 : decode cX7_kindNow 120 = .ok (.iadd, 1) := by decide +kernel
theorem dX7_kindNow_121 : decode cX7_kindNow 121 = .ok (.invokevirtual 98, 3) := by decide +kernel
theorem dX7_kindNow_124 : decode cX7_kindNow 124 = .ok (.bipush 102, 2) := by decide +kernel
theorem dX7_kindNow_126 : decode cX7_kindNow 126 = .ok (.if_icmp .ne 7, 3) := by decide +kernel
theorem dX7_kindNow_129 : decode cX7_kindNow 129 = .ok (.iconst 5, 1) := by decide +kernel
theorem dX7_kindNow_130 : decode cX7_kindNow 130 = .ok (.goto 5, 3) := by decide +kernel
theorem dX7_kindNow_133 : decode cX7_kindNow 133 = .ok (.bipush (-4), 2) := by decide +kernel
theorem dX7_kindNow_135 : decode cX7_kindNow 135 = .ok (.ireturn, 1) := by decide +kernel
theorem dX7_reads_0 : decode cX7_reads 0 = .ok (.aload_n 0, 1) := by decide +kernel
theorem dX7_reads_1 : decode cX7_reads 1 = .ok (.getfield 86, 3) := by decide +kernel
theorem dX7_reads_4 : decode cX7_reads 4 = .ok (.ifCond .le 4, 3) := by decide +kernel
theorem dX7_reads_7 : decode cX7_reads 7 = .ok (.return_, 1) := by decide +kernel
theorem dX7_reads_8 : decode cX7_reads 8 = .ok (.aload_n 0, 1) := by decide +kernel
theorem dX7_reads_9 : decode cX7_reads 9 = .ok (.aload_n 0, 1) := by decide +kernel
theorem dX7_reads_10 : decode cX7_reads 10 = .ok (.getfield 95, 3) := by decide +kernel
theorem dX7_reads_13 : decode cX7_reads 13 = .ok (.invokevirtual 98, 3) := by decide +kernel
theorem dX7_reads_16 : decode cX7_reads 16 = .ok (.bipush 32, 2) := by decide +kernel
theorem dX7_reads_18 : decode cX7_reads 18 = .ok (.if_icmp .ne 16, 3) := by decide +kernel
theorem dX7_reads_21 : decode cX7_reads 21 = .ok (.aload_n 0, 1) := by decide +kernel
theorem dX7_reads_22 : decode cX7_reads 22 = .ok (.dup, 1) := by decide +kernel
theorem dX7_reads_23 : decode cX7_reads 23 = .ok (.getfield 95, 3) := by decide +kernel
theorem dX7_reads_26 : decode cX7_reads 26 = .ok (.iconst 1, 1) := by decide +kernel
theorem dX7_reads_27 : decode cX7_reads 27 = .ok (.iadd, 1) := by decide +kernel
theorem dX7_reads_28 : decode cX7_reads 28 = .ok (.putfield 95, 3) := by decide +kernel
theorem dX7_reads_31 : decode cX7_reads 31 = .ok (.goto (-23), 3) := by decide +kernel
theorem dX7_reads_34 : decode cX7_reads 34 = .ok (.aload_n 0, 1) := by decide +kernel
theorem dX7_reads_35 : decode cX7_reads 35 = .ok (.aload_n 0, 1) := by decide +kernel
theorem dX7_reads_36 : decode cX7_reads 36 = .ok (.getfield 95, 3) := by decide +kernel
theorem dX7_reads_39 : decode cX7_reads 39 = .ok (.putfield 89, 3) := by decide +kernel
theorem dX7_reads_42 : decode cX7_reads 42 = .ok (.aload_n 0, 1) := by decide +kernel
theorem dX7_reads_43 : decode cX7_reads 43 = .ok (.aload_n 0, 1) := by decide +kernel
theorem dX7_reads_44 : decode cX7_reads 44 = .ok (.getfield 95, 3) := by decide +kernel
theorem dX7_reads_47 : decode cX7_reads 47 = .ok (.invokevirtual 98, 3) := by decide +kernel
theorem dX7_reads_50 : decode cX7_reads 50 = .ok (.istore_n 1, 1) := by decide +kernel
theorem dX7_reads_51 : decode cX7_reads 51 = .ok (.iload_n 1, 1) := by decide +kernel
theorem dX7_reads_52 : decode cX7_reads 52 = .ok (.ifCond .ge 11, 3) := by decide +kernel
theorem dX7_reads_55 : decode cX7_reads 55 = .ok (.aload_n 0, 1) := by decide +kernel
theorem dX7_reads_56 : decode cX7_reads 56 = .ok (.iconst 0, 1) := by decide +kernel
theorem dX7_reads_57 : decode cX7_reads 57 = .ok (.putfield 102, 3) := by decide +kernel
theorem dX7_reads_60 : decode cX7_reads 60 = .ok (.goto 242, 3) := by decide +kernel
theorem dX7_reads_63 : decode cX7_reads 63 = .ok (.iload_n 1, 1) := by decide +kernel
theorem dX7_reads_64 : decode cX7_reads 64 = .ok (.i2l, 1) := by decide +kernel
theorem dX7_reads_65 : decode cX7_reads 65 = .ok (.ldc2_w 109, 3) := by decide +kernel
theorem dX7_reads_68 : decode cX7_reads 68 = .ok (.ldc2_w 111, 3) := by decide +kernel
theorem dX7_reads_71 : decode cX7_reads 71 = .ok (.invokestatic 78, 3) := by decide +kernel
theorem dX7_reads_74 : decode cX7_reads 74 = .ok (.ifCond .eq 42, 3) := by decide +kernel
theorem dX7_reads_77 : decode cX7_reads 77 = .ok (.aload_n 0, 1) := by decide +kernel
theorem dX7_reads_78 : decode cX7_reads 78 = .ok (.iconst 1, 1) := by decide +kernel
theorem dX7_reads_79 : decode cX7_reads 79 = .ok (.putfield 102, 3) := by decide +kernel
theorem dX7_reads_82 : decode cX7_reads 82 = .ok (.aload_n 0, 1) := by decide +kernel
theorem dX7_reads_83 : decode cX7_reads 83 = .ok (.aload_n 0, 1) := by decide +kernel
theorem dX7_reads_84 : decode cX7_reads 84 = .ok (.getfield 95, 3) := by decide +kernel
theorem dX7_reads_87 : decode cX7_reads 87 = .ok (.invokevirtual 98, 3) := by decide +kernel
theorem dX7_reads_90 : decode cX7_reads 90 = .ok (.i2l, 1) := by decide +kernel
theorem dX7_reads_91 : decode cX7_reads 91 = .ok (.ldc2_w 109, 3) := by decide +kernel
theorem dX7_reads_94 : decode cX7_reads 94 = .ok (.ldc2_w 111, 3) := by decide +kernel
theorem dX7_reads_97 : decode cX7_reads 97 = .ok (.invokestatic 78, 3) := by decide +kernel
theorem dX7_reads_100 : decode cX7_reads 100 = .ok (.ifCond .eq 202, 3) := by decide +kernel
theorem dX7_reads_103 : decode cX7_reads 103 = .ok (.aload_n 0, 1) := by decide +kernel
theorem dX7_reads_104 : decode cX7_reads 104 = .ok (.dup, 1) := by decide +kernel
theorem dX7_reads_105 : decode cX7_reads 105 = .ok (.getfield 95, 3) := by decide +kernel
theorem dX7_reads_108 : decode cX7_reads 108 = .ok (.iconst 1, 1) := by decide +kernel
theorem dX7_reads_109 : decode cX7_reads 109 = .ok (.iadd, 1) := by decide +kernel
theorem dX7_reads_110 : decode cX7_reads 110 = .ok (.putfield 95, 3) := by decide +kernel
theorem dX7_reads_113 : decode cX7_reads 113 = .ok (.goto (-31), 3) := by decide +kernel
theorem dX7_reads_116 : decode cX7_reads 116 = .ok (.iload_n 1, 1) := by decide +kernel
theorem dX7_reads_117 : decode cX7_reads 117 = .ok (.i2l, 1) := by decide +kernel
theorem dX7_reads_118 : decode cX7_reads 118 = .ok (.ldc2_w 113, 3) := by decide +kernel
theorem dX7_reads_121 : decode cX7_reads 121 = .ok (.ldc2_w 115, 3) := by decide +kernel
theorem dX7_reads_124 : decode cX7_reads 124 = .ok (.invokestatic 78, 3) := by decide +kernel
theorem dX7_reads_127 : decode cX7_reads 127 = .ok (.ifCond .eq 116, 3) := by decide +kernel
theorem dX7_reads_130 : decode cX7_reads 130 = .ok (.aload_n 0, 1) := by decide +kernel
theorem dX7_reads_131 : decode cX7_reads 131 = .ok (.iconst 2, 1) := by decide +kernel
theorem dX7_reads_132 : decode cX7_reads 132 = .ok (.putfield 102, 3) := by decide +kernel
theorem dX7_reads_135 : decode cX7_reads 135 = .ok (.aload_n 0, 1) := by decide +kernel
theorem dX7_reads_136 : decode cX7_reads 136 = .ok (.iconst 0, 1) := by decide +kernel
theorem dX7_reads_137 : decode cX7_reads 137 = .ok (.putfield 117, 3) := by decide +kernel
theorem dX7_reads_140 : decode cX7_reads 140 = .ok (.aload_n 0, 1) := by decide +kernel
theorem dX7_reads_141 : decode cX7_reads 141 = .ok (.aload_n 0, 1) := by decide +kernel
theorem dX7_reads_142 : decode cX7_reads 142 = .ok (.getfield 95, 3) := by decide +kernel
theorem dX7_reads_145 : decode cX7_reads 145 = .ok (.invokevirtual 98, 3) := by decide +kernel
theorem dX7_reads_148 : decode cX7_reads 148 = .ok (.i2l, 1) := by decide +kernel
theorem dX7_reads_149 : decode cX7_reads 149 = .ok (.ldc2_w 113, 3) := by decide +kernel
theorem dX7_reads_152 : decode cX7_reads 152 = .ok (.ldc2_w 115, 3) := by decide +kernel
theorem dX7_reads_155 : decode cX7_reads 155 = .ok (.invokestatic 78, 3) := by decide +kernel
theorem dX7_reads_158 : decode cX7_reads 158 = .ok (.ifCond .eq 59, 3) := by decide +kernel
theorem dX7_reads_161 : decode cX7_reads 161 = .ok (.aload_n 0, 1) := by decide +kernel
theorem dX7_reads_162 : decode cX7_reads 162 = .ok (.aload_n 0, 1) := by decide +kernel
theorem dX7_reads_163 : decode cX7_reads 163 = .ok (.getfield 95, 3) := by decide +kernel
theorem dX7_reads_166 : decode cX7_reads 166 = .ok (.aload_n 0, 1) := by decide +kernel
theorem dX7_reads_167 : decode cX7_reads 167 = .ok (.getfield 89, 3) := by decide +kernel
theorem dX7_reads_170 : decode cX7_reads 170 = .ok (.isub, 1) := by decide +kernel
theorem dX7_reads_171 : decode cX7_reads 171 = .ok (.iconst 2, 1) := by decide +kernel
theorem dX7_reads_172 : decode cX7_reads 172 = .ok (.if_icmp .ge 25, 3) := by decide +kernel
theorem dX7_reads_175 : decode cX7_reads 175 = .ok (.bipush 10, 2) := by decide +kernel
theorem dX7_reads_177 : decode cX7_reads 177 = .ok (.aload_n 0, 1) := by decide +kernel
theorem dX7_reads_178 : decode cX7_reads 178 = .ok (.getfield 117, 3) := by decide +kernel
theorem dX7_reads_181 : decode cX7_reads 181 = .ok (.imul, 1) := by decide +kernel
theorem dX7_reads_182 : decode cX7_reads 182 = .ok (.aload_n 0, 1) := by decide +kernel
theorem dX7_reads_183 : decode cX7_reads 183 = .ok (.aload_n 0, 1) := by decide +kernel
theorem dX7_reads_184 : decode cX7_reads 184 = .ok (.getfield 95, 3) := by decide +kernel
theorem dX7_reads_187 : decode cX7_reads 187 = .ok (.invokevirtual 98, 3) := by decide +kernel
theorem dX7_reads_190 : decode cX7_reads 190 = .ok (.iadd, 1) := by decide +kernel
theorem dX7_reads_191 : decode cX7_reads 191 = .ok (.bipush 48, 2) := by decide +kernel
theorem dX7_reads_193 : decode cX7_reads 193 = .ok (.isub, 1) := by decide +kernel
theorem dX7_reads_194 : decode cX7_reads 194 = .ok (.goto 7, 3) := by decide +kernel
theorem dX7_reads_197 : decode cX7_reads 197 = .ok (.aload_n 0, 1) := by decide +kernel
theorem dX7_reads_198 : decode cX7_reads 198 = .ok (.getfield 117, 3) := by decide +kernel
theorem dX7_reads_201 : decode cX7_reads 201 = .ok (.putfield 117, 3) := by decide +kernel
theorem dX7_reads_204 : decode cX7_reads 204 = .ok (.aload_n 0, 1) := by decide +kernel
theorem dX7_reads_205 : decode cX7_reads 205 = .ok (.dup, 1) := by decide +kernel
theorem dX7_reads_206 : decode cX7_reads 206 = .ok (.getfield 95, 3) := by decide +kernel
theorem dX7_reads_209 : decode cX7_reads 209 = .ok (.iconst 1, 1) := by decide +kernel
theorem dX7_reads_210 : decode cX7_reads 210 = .ok (.iadd, 1) := by decide +kernel
theorem dX7_reads_211 : decode cX7_reads 211 = .ok (.putfield 95, 3) := by decide +kernel
theorem dX7_reads_214 : decode cX7_reads 214 = .ok (.goto (-74), 3) := by decide +kernel
theorem dX7_reads_217 : decode cX7_reads 217 = .ok (.aload_n 0, 1) := by decide +kernel
theorem dX7_reads_218 : decode cX7_reads 218 = .ok (.aload_n 0, 1) := by decide +kernel
theorem dX7_reads_219 : decode cX7_reads 219 = .ok (.getfield 95, 3) := by decide +kernel
theorem dX7_reads_222 : decode cX7_reads 222 = .ok (.aload_n 0, 1) := by decide +kernel
theorem dX7_reads_223 : decode cX7_reads 223 = .ok (.getfield 89, 3) := by decide +kernel
theorem dX7_reads_226 : decode cX7_reads 226 = .ok (.isub, 1) := by decide +kernel
theorem dX7_reads_227 : decode cX7_reads 227 = .ok (.iconst 2, 1) := by decide +kernel
theorem dX7_reads_228 : decode cX7_reads 228 = .ok (.if_icmp .gt 7, 3) := by decide +kernel
theorem dX7_reads_231 : decode cX7_reads 231 = .ok (.iconst 1, 1) := by decide +kernel
theorem dX7_reads_232 : decode cX7_reads 232 = .ok (.goto 4, 3) := by decide +kernel
theorem dX7_reads_235 : decode cX7_reads 235 = .ok (.iconst 0, 1) := by decide +kernel
theorem dX7_reads_236 : decode cX7_reads 236 = .ok (.iconst 1, 1) := by decide +kernel
theorem dX7_reads_237 : decode cX7_reads 237 = .ok (.invokevirtual 120, 3) := by decide +kernel
theorem dX7_reads_240 : decode cX7_reads 240 = .ok (.goto 62, 3) := by decide +kernel
theorem dX7_reads_243 : decode cX7_reads 243 = .ok (.aload_n 0, 1) := by decide +kernel
theorem dX7_reads_244 : decode cX7_reads 244 = .ok (.iload_n 1, 1) := by decide +kernel
theorem dX7_reads_245 : decode cX7_reads 245 = .ok (.bipush 123, 2) := by decide +kernel
theorem dX7_reads_247 : decode cX7_reads 247 = .ok (.if_icmp .ne 7, 3) := by decide +kernel
theorem dX7_reads_250 : decode cX7_reads 250 = .ok (.iconst 4, 1) := by decide +kernel
theorem dX7_reads_251 : decode cX7_reads 251 = .ok (.goto 14, 3) := by decide +kernel
theorem dX7_reads_254 : decode cX7_reads 254 = .ok (.iload_n 1, 1) := by decide +kernel
theorem dX7_reads_255 : decode cX7_reads 255 = .ok (.bipush 125, 2) := by decide +kernel
theorem dX7_reads_257 : decode cX7_reads 257 = .ok (.if_icmp .ne 7, 3) := by decide +kernel
theorem dX7_reads_260 : decode cX7_reads 260 = .ok (.iconst 5, 1) := by decide +kernel
theorem dX7_reads_261 : decode cX7_reads 261 = .ok (.goto 4, 3) := by decide +kernel
theorem dX7_reads_264 : decode cX7_reads 264 = .ok (.iconst 3, 1) := by decide +kernel
theorem dX7_reads_265 : decode cX7_reads 265 = .ok (.putfield 102, 3) := by decide +kernel
theorem dX7_reads_268 : decode cX7_reads 268 = .ok (.aload_n 0, 1) := by decide +kernel
theorem dX7_reads_269 : decode cX7_reads 269 = .ok (.aload_n 0, 1) := by decide +kernel
theorem dX7_reads_270 : decode cX7_reads 270 = .ok (.getfield 102, 3) := by decide +kernel
theorem dX7_reads_273 : decode cX7_reads 273 = .ok (.iconst 3, 1) := by decide +kernel
theorem dX7_reads_274 : decode cX7_reads 274 = .ok (.if_icmp .ne 9, 3) := by decide +kernel
theorem dX7_reads_277 : decode cX7_reads 277 = .ok (.iload_n 1, 1) := by decide +kernel
theorem dX7_reads_278 : decode cX7_reads 278 = .ok (.bipush 59, 2) := by decide +kernel
theorem dX7_reads_280 : decode cX7_reads 280 = .ok (.if_icmp .ne 7, 3) := by decide +kernel
theorem dX7_reads_283 : decode cX7_reads 283 = .ok (.iconst 1, 1) := by decide +kernel
theorem dX7_reads_284 : decode cX7_reads 284 = .ok (.goto 4, 3) := by decide +kernel
theorem dX7_reads_287 : decode cX7_reads 287 = .ok (.iconst 0, 1) := by decide +kernel
theorem dX7_reads_288 : decode cX7_reads 288 = .ok (.iconst 1, 1) := by decide +kernel
theorem dX7_reads_289 : decode cX7_reads 289 = .ok (.invokevirtual 120, 3) := by decide +kernel
theorem dX7_reads_292 : decode cX7_reads 292 = .ok (.aload_n 0, 1) := by decide +kernel
theorem dX7_reads_293 : decode cX7_reads 293 = .ok (.dup, 1) := by decide +kernel
theorem dX7_reads_294 : decode cX7_reads 294 = .ok (.getfield 95, 3) := by decide +kernel
theorem dX7_reads_297 : decode cX7_reads 297 = .ok (.iconst 1, 1) := by decide +kernel
theorem dX7_reads_298 : decode cX7_reads 298 = .ok (.iadd, 1) := by decide +kernel
theorem dX7_reads_299 : decode cX7_reads 299 = .ok (.putfield 95, 3) := by decide +kernel
theorem dX7_reads_302 : decode cX7_reads 302 = .ok (.return_, 1) := by decide +kernel
theorem dX7_readNumber_0 : decode cX7_readNumber 0 = .ok (.aload_n 0, 1) := by decide +kernel
theorem dX7_readNumber_1 : decode cX7_readNumber 1 = .ok (.getfield 86, 3) := by decide +kernel
theorem dX7_readNumber_4 : decode cX7_readNumber 4 = .ok (.ifCond .ne 21, 3) := by decide +kernel
theorem dX7_readNumber_7 : decode cX7_readNumber 7 = .ok (.aload_n 0, 1) := by decide +kernel
theorem dX7_readNumber_8 : decode cX7_readNumber 8 = .ok (.aload_n 0, 1) := by decide +kernel
theorem dX7_readNumber_9 : decode cX7_readNumber 9 = .ok (.getfield 102, 3) := by decide +kernel
theorem dX7_readNumber_12 : decode cX7_readNumber 12 = .ok (.iconst 2, 1) := by decide +kernel
theorem dX7_readNumber_13 : decode cX7_readNumber 13 = .ok (.if_icmp .ne 7, 3) := by decide +kernel
theorem dX7_readNumber_16 : decode cX7_readNumber 16 = .ok (.iconst 1, 1) := by decide +kernel
theorem dX7_readNumber_17 : decode cX7_readNumber 17 = .ok (.goto 4, 3) := by decide +kernel
theorem dX7_readNumber_20 : decode cX7_readNumber 20 = .ok (.iconst 0, 1) := by decide +kernel
theorem dX7_readNumber_21 : decode cX7_readNumber 21 = .ok (.iconst 2, 1) := by decide +kernel
theorem dX7_readNumber_22 : decode cX7_readNumber 22 = .ok (.invokevirtual 120, 3) := by decide +kernel
theorem dX7_readNumber_25 : decode cX7_readNumber 25 = .ok (.aload_n 0, 1) := by decide +kernel
theorem dX7_readNumber_26 : decode cX7_readNumber 26 = .ok (.getfield 86, 3) := by decide +kernel
theorem dX7_readNumber_29 : decode cX7_readNumber 29 = .ok (.ifCond .ne 20, 3) := by decide +kernel
theorem dX7_readNumber_32 : decode cX7_readNumber 32 = .ok (.aload_n 0, 1) := by decide +kernel
theorem dX7_readNumber_33 : decode cX7_readNumber 33 = .ok (.aload_n 0, 1) := by decide +kernel
theorem dX7_readNumber_34 : decode cX7_readNumber 34 = .ok (.getfield 117, 3) := by decide +kernel
theorem dX7_readNumber_37 : decode cX7_readNumber 37 = .ok (.i2l, 1) := by decide +kernel
theorem dX7_readNumber_38 : decode cX7_readNumber 38 = .ok (.iload_n 1, 1) := by decide +kernel
theorem dX7_readNumber_39 : decode cX7_readNumber 39 = .ok (.i2l, 1) := by decide +kernel
theorem dX7_readNumber_40 : decode cX7_readNumber 40 = .ok (.iload_n 2, 1) := by decide +kernel
theorem dX7_readNumber_41 : decode cX7_readNumber 41 = .ok (.i2l, 1) := by decide +kernel
theorem dX7_readNumber_42 : decode cX7_readNumber 42 = .ok (.invokestatic 78, 3) := by decide +kernel
theorem dX7_readNumber_45 : decode cX7_readNumber 45 = .ok (.iconst 3, 1) := by decide +kernel
theorem dX7_readNumber_46 : decode cX7_readNumber 46 = .ok (.invokevirtual 120, 3) := by decide +kernel
theorem dX7_readNumber_49 : decode cX7_readNumber 49 = .ok (.aload_n 0, 1) := by decide +kernel
theorem dX7_readNumber_50 : decode cX7_readNumber 50 = .ok (.getfield 86, 3) := by decide +kernel
theorem dX7_readNumber_53 : decode cX7_readNumber 53 = .ok (.ifCond .ne 10, 3) := by decide +kernel
theorem dX7_readNumber_56 : decode cX7_readNumber 56 = .ok (.aload_n 0, 1) := by decide +kernel
theorem dX7_readNumber_57 : decode cX7_readNumber 57 = .ok (.getfield 117, 3) := by decide +kernel
theorem dX7_readNumber_60 : decode cX7_readNumber 60 = .ok (.goto 4, 3) := by decide +kernel
theorem dX7_readNumber_63 : decode cX7_readNumber 63 = .ok (.iconst 0, 1) := by decide +kernel
theorem dX7_readNumber_64 : decode cX7_readNumber 64 = .ok (.istore_n 3, 1) := by decide +kernel
theorem dX7_readNumber_65 : decode cX7_readNumber 65 = .ok (.aload_n 0, 1) := by decide +kernel
theorem dX7_readNumber_66 : decode cX7_readNumber 66 = .ok (.invokevirtual 124, 3) := by decide +kernel
theorem dX7_readNumber_69 : decode cX7_readNumber 69 = .ok (.iload_n 3, 1) := by decide +kernel
theorem dX7_readNumber_70 : decode cX7_readNumber 70 = .ok (.ireturn, 1) := by decide +kernel
theorem dX7_readVariable_0 : decode cX7_readVariable 0 = .ok (.aload_n 0, 1) := by decide +kernel
theorem dX7_readVariable_1 : decode cX7_readVariable 1 = .ok (.aload_n 0, 1) := by decide +kernel
theorem dX7_readVariable_2 : decode cX7_readVariable 2 = .ok (.getfield 89, 3) := by decide +kernel
theorem dX7_readVariable_5 : decode cX7_readVariable 5 = .ok (.invokevirtual 98, 3) := by decide +kernel
theorem dX7_readVariable_8 : decode cX7_readVariable 8 = .ok (.istore_n 1, 1) := by decide +kernel
theorem dX7_readVariable_9 : decode cX7_readVariable 9 = .ok (.aload_n 0, 1) := by decide +kernel
theorem dX7_readVariable_10 : decode cX7_readVariable 10 = .ok (.getfield 86, 3) := by decide +kernel
theorem dX7_readVariable_13 : decode cX7_readVariable 13 = .ok (.ifCond .ne 48, 3) := by decide +kernel
theorem dX7_readVariable_16 : decode cX7_readVariable 16 = .ok (.aload_n 0, 1) := by decide +kernel
theorem dX7_readVariable_17 : decode cX7_readVariable 17 = .ok (.aload_n 0, 1) := by decide +kernel
theorem dX7_readVariable_18 : decode cX7_readVariable 18 = .ok (.getfield 102, 3) := by decide +kernel
theorem dX7_readVariable_21 : decode cX7_readVariable 21 = .ok (.iconst 1, 1) := by decide +kernel
theorem dX7_readVariable_22 : decode cX7_readVariable 22 = .ok (.if_icmp .ne 34, 3) := by decide +kernel
theorem dX7_readVariable_25 : decode cX7_readVariable 25 = .ok (.aload_n 0, 1) := by decide +kernel
theorem dX7_readVariable_26 : decode cX7_readVariable 26 = .ok (.getfield 95, 3) := by decide +kernel
theorem dX7_readVariable_29 : decode cX7_readVariable 29 = .ok (.aload_n 0, 1) := by decide +kernel
theorem dX7_readVariable_30 : decode cX7_readVariable 30 = .ok (.getfield 89, 3) := by decide +kernel
theorem dX7_readVariable_33 : decode cX7_readVariable 33 = .ok (.isub, 1) := by decide +kernel
theorem dX7_readVariable_34 : decode cX7_readVariable 34 = .ok (.iconst 1, 1) := by decide +kernel
theorem dX7_readVariable_35 : decode cX7_readVariable 35 = .ok (.if_icmp .ne 21, 3) := by decide +kernel
theorem dX7_readVariable_38 : decode cX7_readVariable 38 = .ok (.iload_n 1, 1) := by decide +kernel
theorem dX7_readVariable_39 : decode cX7_readVariable 39 = .ok (.i2l, 1) := by decide +kernel
theorem dX7_readVariable_40 : decode cX7_readVariable 40 = .ok (.ldc2_w 109, 3) := by decide +kernel
theorem dX7_readVariable_43 : decode cX7_readVariable 43 = .ok (.ldc2_w 127, 3) := by decide +kernel
theorem dX7_readVariable_46 : decode cX7_readVariable 46 = .ok (.invokestatic 78, 3) := by decide +kernel
theorem dX7_readVariable_49 : decode cX7_readVariable 49 = .ok (.ifCond .eq 7, 3) := by decide +kernel
theorem dX7_readVariable_52 : decode cX7_readVariable 52 = .ok (.iconst 1, 1) := by decide +kernel
theorem dX7_readVariable_53 : decode cX7_readVariable 53 = .ok (.goto 4, 3) := by decide +kernel
theorem dX7_readVariable_56 : decode cX7_readVariable 56 = .ok (.iconst 0, 1) := by decide +kernel
theorem dX7_readVariable_57 : decode cX7_readVariable 57 = .ok (.iconst 2, 1) := by decide +kernel
theorem dX7_readVariable_58 : decode cX7_readVariable 58 = .ok (.invokevirtual 120, 3) := by decide +kernel
theorem dX7_readVariable_61 : decode cX7_readVariable 61 = .ok (.aload_n 0, 1) := by decide +kernel
theorem dX7_readVariable_62 : decode cX7_readVariable 62 = .ok (.invokevirtual 124, 3) := by decide +kernel
theorem dX7_readVariable_65 : decode cX7_readVariable 65 = .ok (.aload_n 0, 1) := by decide +kernel
theorem dX7_readVariable_66 : decode cX7_readVariable 66 = .ok (.getfield 86, 3) := by decide +kernel
theorem dX7_readVariable_69 : decode cX7_readVariable 69 = .ok (.ifCond .eq 9, 3) := by decide +kernel
theorem dX7_readVariable_72 : decode cX7_readVariable 72 = .ok (.iload_n 1, 1) := by decide +kernel
theorem dX7_readVariable_73 : decode cX7_readVariable 73 = .ok (.bipush 97, 2) := by decide +kernel
theorem dX7_readVariable_75 : decode cX7_readVariable 75 = .ok (.if_icmp .lt 10, 3) := by decide +kernel
theorem dX7_readVariable_78 : decode cX7_readVariable 78 = .ok (.iload_n 1, 1) := by decide +kernel
theorem dX7_readVariable_79 : decode cX7_readVariable 79 = .ok (.bipush 97, 2) := by decide +kernel
theorem dX7_readVariable_81 : decode cX7_readVariable 81 = .ok (.isub, 1) := by decide +kernel
theorem dX7_readVariable_82 : decode cX7_readVariable 82 = .ok (.goto 4, 3) := by decide +kernel
theorem dX7_readVariable_85 : decode cX7_readVariable 85 = .ok (.iconst 0, 1) := by decide +kernel
theorem dX7_readVariable_86 : decode cX7_readVariable 86 = .ok (.ireturn, 1) := by decide +kernel
theorem dX7_takes_0 : decode cX7_takes 0 = .ok (.aload_n 0, 1) := by decide +kernel
theorem dX7_takes_1 : decode cX7_takes 1 = .ok (.getfield 86, 3) := by decide +kernel
theorem dX7_takes_4 : decode cX7_takes 4 = .ok (.ifCond .ne 21, 3) := by decide +kernel
theorem dX7_takes_7 : decode cX7_takes 7 = .ok (.aload_n 0, 1) := by decide +kernel
theorem dX7_takes_8 : decode cX7_takes 8 = .ok (.aload_n 0, 1) := by decide +kernel
theorem dX7_takes_9 : decode cX7_takes 9 = .ok (.getfield 102, 3) := by decide +kernel
theorem dX7_takes_12 : decode cX7_takes 12 = .ok (.iload_n 1, 1) := by decide +kernel
theorem dX7_takes_13 : decode cX7_takes 13 = .ok (.if_icmp .ne 7, 3) := by decide +kernel
theorem dX7_takes_16 : decode cX7_takes 16 = .ok (.iconst 1, 1) := by decide +kernel
theorem dX7_takes_17 : decode cX7_takes 17 = .ok (.goto 4, 3) := by decide +kernel
theorem dX7_takes_20 : decode cX7_takes 20 = .ok (.iconst 0, 1) := by decide +kernel
theorem dX7_takes_21 : decode cX7_takes 21 = .ok (.iconst 2, 1) := by decide +kernel
theorem dX7_takes_22 : decode cX7_takes 22 = .ok (.invokevirtual 120, 3) := by decide +kernel
theorem dX7_takes_25 : decode cX7_takes 25 = .ok (.aload_n 0, 1) := by decide +kernel
theorem dX7_takes_26 : decode cX7_takes 26 = .ok (.invokevirtual 124, 3) := by decide +kernel
theorem dX7_takes_29 : decode cX7_takes 29 = .ok (.return_, 1) := by decide +kernel
theorem dX7_readStatement_0 : decode cX7_readStatement 0 = .ok (.aload_n 0, 1) := by decide +kernel
theorem dX7_readStatement_1 : decode cX7_readStatement 1 = .ok (.invokevirtual 129, 3) := by decide +kernel
theorem dX7_readStatement_4 : decode cX7_readStatement 4 = .ok (.istore_n 1, 1) := by decide +kernel
theorem dX7_readStatement_5 : decode cX7_readStatement 5 = .ok (.aload_n 0, 1) := by decide +kernel
theorem dX7_readStatement_6 : decode cX7_readStatement 6 = .ok (.iload_n 1, 1) := by decide +kernel
theorem dX7_readStatement_7 : decode cX7_readStatement 7 = .ok (.bipush (-4), 2) := by decide +kernel
theorem dX7_readStatement_9 : decode cX7_readStatement 9 = .ok (.if_icmp .eq 7, 3) := by decide +kernel
theorem dX7_readStatement_12 : decode cX7_readStatement 12 = .ok (.iconst 1, 1) := by decide +kernel
theorem dX7_readStatement_13 : decode cX7_readStatement 13 = .ok (.goto 4, 3) := by decide +kernel
theorem dX7_readStatement_16 : decode cX7_readStatement 16 = .ok (.iconst 0, 1) := by decide +kernel
theorem dX7_readStatement_17 : decode cX7_readStatement 17 = .ok (.iconst 2, 1) := by decide +kernel
theorem dX7_readStatement_18 : decode cX7_readStatement 18 = .ok (.invokevirtual 120, 3) := by decide +kernel
theorem dX7_readStatement_21 : decode cX7_readStatement 21 = .ok (.aload_n 0, 1) := by decide +kernel
theorem dX7_readStatement_22 : decode cX7_readStatement 22 = .ok (.aload_n 0, 1) := by decide +kernel
theorem dX7_readStatement_23 : decode cX7_readStatement 23 = .ok (.getfield 20, 3) := by decide +kernel
theorem dX7_readStatement_26 : decode cX7_readStatement 26 = .ok (.bipush 120, 2) := by decide +kernel
theorem dX7_readStatement_28 : decode cX7_readStatement 28 = .ok (.iaload, 1) := by decide +kernel
theorem dX7_readStatement_29 : decode cX7_readStatement 29 = .ok (.bipush 24, 2) := by decide +kernel
theorem dX7_readStatement_31 : decode cX7_readStatement 31 = .ok (.if_icmp .ge 7, 3) := by decide +kernel
theorem dX7_readStatement_34 : decode cX7_readStatement 34 = .ok (.iconst 1, 1) := by decide +kernel
theorem dX7_readStatement_35 : decode cX7_readStatement 35 = .ok (.goto 4, 3) := by decide +kernel
theorem dX7_readStatement_38 : decode cX7_readStatement 38 = .ok (.iconst 0, 1) := by decide +kernel
theorem dX7_readStatement_39 : decode cX7_readStatement 39 = .ok (.iconst 5, 1) := by decide +kernel
theorem dX7_readStatement_40 : decode cX7_readStatement 40 = .ok (.invokevirtual 120, 3) := by decide +kernel
theorem dX7_readStatement_43 : decode cX7_readStatement 43 = .ok (.aload_n 0, 1) := by decide +kernel
theorem dX7_readStatement_44 : decode cX7_readStatement 44 = .ok (.iload_n 1, 1) := by decide +kernel
theorem dX7_readStatement_45 : decode cX7_readStatement 45 = .ok (.iconst 5, 1) := by decide +kernel
theorem dX7_readStatement_46 : decode cX7_readStatement 46 = .ok (.if_icmp .ne 12, 3) := by decide +kernel
theorem dX7_readStatement_49 : decode cX7_readStatement 49 = .ok (.aload_n 0, 1) := by decide +kernel
theorem dX7_readStatement_50 : decode cX7_readStatement 50 = .ok (.getfield 133, 3) := by decide +kernel
theorem dX7_readStatement_53 : decode cX7_readStatement 53 = .ok (.bipush 6, 2) := by decide +kernel
theorem dX7_readStatement_55 : decode cX7_readStatement 55 = .ok (.if_icmp .ge 7, 3) := by decide +kernel
theorem dX7_readStatement_58 : decode cX7_readStatement 58 = .ok (.iconst 1, 1) := by decide +kernel
theorem dX7_readStatement_59 : decode cX7_readStatement 59 = .ok (.goto 4, 3) := by decide +kernel
theorem dX7_readStatement_62 : decode cX7_readStatement 62 = .ok (.iconst 0, 1) := by decide +kernel
theorem dX7_readStatement_63 : decode cX7_readStatement 63 = .ok (.iconst 5, 1) := by decide +kernel
theorem dX7_readStatement_64 : decode cX7_readStatement 64 = .ok (.invokevirtual 120, 3) := by decide +kernel
theorem dX7_readStatement_67 : decode cX7_readStatement 67 = .ok (.aload_n 0, 1) := by decide +kernel
theorem dX7_readStatement_68 : decode cX7_readStatement 68 = .ok (.getfield 86, 3) := by decide +kernel
theorem dX7_readStatement_71 : decode cX7_readStatement 71 = .ok (.ifCond .le 4, 3) := by decide +kernel
theorem dX7_readStatement_74 : decode cX7_readStatement 74 = .ok (.return_, 1) := by decide +kernel
theorem dX7_readStatement_75 : decode cX7_readStatement 75 = .ok (.iconst 5, 1) := by decide +kernel
theorem dX7_readStatement_76 : decode cX7_readStatement 76 = .ok (.aload_n 0, 1) := by decide +kernel
theorem dX7_readStatement_77 : decode cX7_readStatement 77 = .ok (.getfield 20, 3) := by decide +kernel
theorem dX7_readStatement_80 : decode cX7_readStatement 80 = .ok (.bipush 120, 2) := by decide +kernel
theorem dX7_readStatement_82 : decode cX7_readStatement 82 = .ok (.iaload, 1) := by decide +kernel
theorem dX7_readStatement_83 : decode cX7_readStatement 83 = .ok (.imul, 1) := by decide +kernel
theorem dX7_readStatement_84 : decode cX7_readStatement 84 = .ok (.istore_n 2, 1) := by decide +kernel
theorem dX7_readStatement_85 : decode cX7_readStatement 85 = .ok (.aload_n 0, 1) := by decide +kernel
theorem dX7_readStatement_86 : decode cX7_readStatement 86 = .ok (.getfield 20, 3) := by decide +kernel
theorem dX7_readStatement_89 : decode cX7_readStatement 89 = .ok (.bipush 120, 2) := by decide +kernel
theorem dX7_readStatement_91 : decode cX7_readStatement 91 = .ok (.dup2, 1) := by decide +kernel
theorem dX7_readStatement_92 : decode cX7_readStatement 92 = .ok (.iaload, 1) := by decide +kernel
theorem dX7_readStatement_93 : decode cX7_readStatement 93 = .ok (.iconst 1, 1) := by decide +kernel
theorem dX7_readStatement_94 : decode cX7_readStatement 94 = .ok (.iadd, 1) := by decide +kernel
theorem dX7_readStatement_95 : decode cX7_readStatement 95 = .ok (.iastore, 1) := by decide +kernel
theorem dX7_readStatement_96 : decode cX7_readStatement 96 = .ok (.aload_n 0, 1) := by decide +kernel
theorem dX7_readStatement_97 : decode cX7_readStatement 97 = .ok (.getfield 20, 3) := by decide +kernel
theorem dX7_readStatement_100 : decode cX7_readStatement 100 = .ok (.iload_n 2, 1) := by decide +kernel
theorem dX7_readStatement_101 : decode cX7_readStatement 101 = .ok (.iconst 0, 1) := by decide +kernel
theorem dX7_readStatement_102 : decode cX7_readStatement 102 = .ok (.iadd, 1) := by decide +kernel
theorem dX7_readStatement_103 : decode cX7_readStatement 103 = .ok (.iload_n 1, 1) := by decide +kernel
theorem dX7_readStatement_104 : decode cX7_readStatement 104 = .ok (.iastore, 1) := by decide +kernel
theorem dX7_readStatement_105 : decode cX7_readStatement 105 = .ok (.aload_n 0, 1) := by decide +kernel
theorem dX7_readStatement_106 : decode cX7_readStatement 106 = .ok (.getfield 20, 3) := by decide +kernel
theorem dX7_readStatement_109 : decode cX7_readStatement 109 = .ok (.iload_n 2, 1) := by decide +kernel
theorem dX7_readStatement_110 : decode cX7_readStatement 110 = .ok (.iconst 4, 1) := by decide +kernel
theorem dX7_readStatement_111 : decode cX7_readStatement 111 = .ok (.iadd, 1) := by decide +kernel
theorem dX7_readStatement_112 : decode cX7_readStatement 112 = .ok (.aload_n 0, 1) := by decide +kernel
theorem dX7_readStatement_113 : decode cX7_readStatement 113 = .ok (.getfield 136, 3) := by decide +kernel
theorem dX7_readStatement_116 : decode cX7_readStatement 116 = .ok (.ifCond .ne 7, 3) := by decide +kernel
theorem dX7_readStatement_119 : decode cX7_readStatement 119 = .ok (.iconst 0, 1) := by decide +kernel
theorem dX7_readStatement_120 : decode cX7_readStatement 120 = .ok (.goto 14, 3) := by decide +kernel
theorem dX7_readStatement_123 : decode cX7_readStatement 123 = .ok (.aload_n 0, 1) := by decide +kernel
theorem dX7_readStatement_124 : decode cX7_readStatement 124 = .ok (.getfield 26, 3) := by decide +kernel
theorem dX7_readStatement_127 : decode cX7_readStatement 127 = .ok (.aload_n 0, 1) := by decide +kernel
theorem dX7_readStatement_128 : decode cX7_readStatement 128 = .ok (.getfield 136, 3) := by decide +kernel
theorem dX7_readStatement_131 : decode cX7_readStatement 131 = .ok (.iconst 1, 1) := by decide +kernel
theorem dX7_readStatement_132 : decode cX7_readStatement 132 = .ok (.isub, 1) := by decide +kernel
theorem dX7_readStatement_133 : decode cX7_readStatement 133 = .ok (.iaload, 1) := by decide +kernel
theorem dX7_readStatement_134 : decode cX7_readStatement 134 = .ok (.iastore, 1) := by decide +kernel
theorem dX7_readStatement_135 : decode cX7_readStatement 135 = .ok (.aload_n 0, 1) := by decide +kernel
theorem dX7_readStatement_136 : decode cX7_readStatement 136 = .ok (.invokevirtual 124, 3) := by decide +kernel
theorem dX7_readStatement_139 : decode cX7_readStatement 139 = .ok (.aload_n 0, 1) := by decide +kernel
theorem dX7_readStatement_140 : decode cX7_readStatement 140 = .ok (.getfield 20, 3) := by decide +kernel
theorem dX7_readStatement_143 : decode cX7_readStatement 143 = .ok (.iload_n 2, 1) := by decide +kernel
theorem dX7_readStatement_144 : decode cX7_readStatement 144 = .ok (.iconst 1, 1) := by decide +kernel
theorem dX7_readStatement_145 : decode cX7_readStatement 145 = .ok (.iadd, 1) := by decide +kernel
theorem dX7_readStatement_146 : decode cX7_readStatement 146 = .ok (.aload_n 0, 1) := by decide +kernel
theorem dX7_readStatement_147 : decode cX7_readStatement 147 = .ok (.invokevirtual 139, 3) := by decide +kernel
theorem dX7_readStatement_150 : decode cX7_readStatement 150 = .ok (.iastore, 1) := by decide +kernel
theorem dX7_readStatement_151 : decode cX7_readStatement 151 = .ok (.iload_n 1, 1) := by decide +kernel
theorem dX7_readStatement_152 : decode cX7_readStatement 152 = .ok (.ifCond .eq 8, 3) := by decide +kernel
theorem dX7_readStatement_155 : decode cX7_readStatement 155 = .ok (.iload_n 1, 1) := by decide +kernel
theorem dX7_readStatement_156 : decode cX7_readStatement 156 = .ok (.iconst 5, 1) := by decide +kernel
theorem dX7_readStatement_157 : decode cX7_readStatement 157 = .ok (.if_icmp .ne 30, 3) := by decide +kernel
theorem dX7_readStatement_160 : decode cX7_readStatement 160 = .ok (.aload_n 0, 1) := by decide +kernel
theorem dX7_readStatement_161 : decode cX7_readStatement 161 = .ok (.getfield 20, 3) := by decide +kernel
theorem dX7_readStatement_164 : decode cX7_readStatement 164 = .ok (.iload_n 2, 1) := by decide +kernel
theorem dX7_readStatement_165 : decode cX7_readStatement 165 = .ok (.iconst 2, 1) := by decide +kernel
theorem dX7_readStatement_166 : decode cX7_readStatement 166 = .ok (.iadd, 1) := by decide +kernel
theorem dX7_readStatement_167 : decode cX7_readStatement 167 = .ok (.aload_n 0, 1) := by decide +kernel
theorem dX7_readStatement_168 : decode cX7_readStatement 168 = .ok (.iconst 0, 1) := by decide +kernel
theorem dX7_readStatement_169 : decode cX7_readStatement 169 = .ok (.iload_n 1, 1) := by decide +kernel
theorem dX7_readStatement_170 : decode cX7_readStatement 170 = .ok (.ifCond .ne 8, 3) := by decide +kernel
theorem dX7_readStatement_173 : decode cX7_readStatement 173 = .ok (.bipush 99, 2) := by decide +kernel
theorem dX7_readStatement_175 : decode cX7_readStatement 175 = .ok (.goto 5, 3) := by decide +kernel
theorem dX7_readStatement_178 : decode cX7_readStatement 178 = .ok (.bipush 10, 2) := by decide +kernel
theorem dX7_readStatement_180 : decode cX7_readStatement 180 = .ok (.invokevirtual 142, 3) := by decide +kernel
theorem dX7_readStatement_183 : decode cX7_readStatement 183 = .ok (.iastore, 1) := by decide +kernel
theorem dX7_readStatement_184 : decode cX7_readStatement 184 = .ok (.goto 27, 3) := by decide +kernel
theorem dX7_readStatement_187 : decode cX7_readStatement 187 = .ok (.aload_n 0, 1) := by decide +kernel
theorem dX7_readStatement_188 : decode cX7_readStatement 188 = .ok (.getfield 20, 3) := by decide +kernel
theorem dX7_readStatement_191 : decode cX7_readStatement 191 = .ok (.iload_n 2, 1) := by decide +kernel
theorem dX7_readStatement_192 : decode cX7_readStatement 192 = .ok (.iconst 2, 1) := by decide +kernel
theorem dX7_readStatement_193 : decode cX7_readStatement 193 = .ok (.iadd, 1) := by decide +kernel
theorem dX7_readStatement_194 : decode cX7_readStatement 194 = .ok (.aload_n 0, 1) := by decide +kernel
theorem dX7_readStatement_195 : decode cX7_readStatement 195 = .ok (.invokevirtual 139, 3) := by decide +kernel
theorem dX7_readStatement_198 : decode cX7_readStatement 198 = .ok (.iastore, 1) := by decide +kernel
theorem dX7_readStatement_199 : decode cX7_readStatement 199 = .ok (.aload_n 0, 1) := by decide +kernel
theorem dX7_readStatement_200 : decode cX7_readStatement 200 = .ok (.getfield 20, 3) := by decide +kernel
theorem dX7_readStatement_203 : decode cX7_readStatement 203 = .ok (.iload_n 2, 1) := by decide +kernel
theorem dX7_readStatement_204 : decode cX7_readStatement 204 = .ok (.iconst 3, 1) := by decide +kernel
theorem dX7_readStatement_205 : decode cX7_readStatement 205 = .ok (.iadd, 1) := by decide +kernel
theorem dX7_readStatement_206 : decode cX7_readStatement 206 = .ok (.aload_n 0, 1) := by decide +kernel
theorem dX7_readStatement_207 : decode cX7_readStatement 207 = .ok (.invokevirtual 139, 3) := by decide +kernel
theorem dX7_readStatement_210 : decode cX7_readStatement 210 = .ok (.iastore, 1) := by decide +kernel
theorem dX7_readStatement_211 : decode cX7_readStatement 211 = .ok (.aload_n 0, 1) := by decide +kernel
theorem dX7_readStatement_212 : decode cX7_readStatement 212 = .ok (.iload_n 1, 1) := by decide +kernel
theorem dX7_readStatement_213 : decode cX7_readStatement 213 = .ok (.iconst 5, 1) := by decide +kernel
theorem dX7_readStatement_214 : decode cX7_readStatement 214 = .ok (.if_icmp .ne 7, 3) := by decide +kernel
theorem dX7_readStatement_217 : decode cX7_readStatement 217 = .ok (.iconst 4, 1) := by decide +kernel
theorem dX7_readStatement_218 : decode cX7_readStatement 218 = .ok (.goto 4, 3) := by decide +kernel
theorem dX7_readStatement_221 : decode cX7_readStatement 221 = .ok (.iconst 3, 1) := by decide +kernel
theorem dX7_readStatement_222 : decode cX7_readStatement 222 = .ok (.invokevirtual 146, 3) := by decide +kernel
theorem dX7_readStatement_225 : decode cX7_readStatement 225 = .ok (.aload_n 0, 1) := by decide +kernel
theorem dX7_readStatement_226 : decode cX7_readStatement 226 = .ok (.getfield 86, 3) := by decide +kernel
theorem dX7_readStatement_229 : decode cX7_readStatement 229 = .ok (.ifCond .ne 45, 3) := by decide +kernel
theorem dX7_readStatement_232 : decode cX7_readStatement 232 = .ok (.iload_n 1, 1) := by decide +kernel
theorem dX7_readStatement_233 : decode cX7_readStatement 233 = .ok (.iconst 5, 1) := by decide +kernel
theorem dX7_readStatement_234 : decode cX7_readStatement 234 = .ok (.if_icmp .ne 40, 3) := by decide +kernel
theorem dX7_readStatement_237 : decode cX7_readStatement 237 = .ok (.aload_n 0, 1) := by decide +kernel
theorem dX7_readStatement_238 : decode cX7_readStatement 238 = .ok (.getfield 26, 3) := by decide +kernel
theorem dX7_readStatement_241 : decode cX7_readStatement 241 = .ok (.aload_n 0, 1) := by decide +kernel
theorem dX7_readStatement_242 : decode cX7_readStatement 242 = .ok (.getfield 136, 3) := by decide +kernel
theorem dX7_readStatement_245 : decode cX7_readStatement 245 = .ok (.iconst 2, 1) := by decide +kernel
theorem dX7_readStatement_246 : decode cX7_readStatement 246 = .ok (.aload_n 0, 1) := by decide +kernel
theorem dX7_readStatement_247 : decode cX7_readStatement 247 = .ok (.getfield 133, 3) := by decide +kernel
theorem dX7_readStatement_250 : decode cX7_readStatement 250 = .ok (.imul, 1) := by decide +kernel
theorem dX7_readStatement_251 : decode cX7_readStatement 251 = .ok (.iconst 1, 1) := by decide +kernel
theorem dX7_readStatement_252 : decode cX7_readStatement 252 = .ok (.iadd, 1) := by decide +kernel
theorem dX7_readStatement_253 : decode cX7_readStatement 253 = .ok (.iastore, 1) := by decide +kernel
theorem dX7_readStatement_254 : decode cX7_readStatement 254 = .ok (.aload_n 0, 1) := by decide +kernel
theorem dX7_readStatement_255 : decode cX7_readStatement 255 = .ok (.dup, 1) := by decide +kernel
theorem dX7_readStatement_256 : decode cX7_readStatement 256 = .ok (.getfield 136, 3) := by decide +kernel
theorem dX7_readStatement_259 : decode cX7_readStatement 259 = .ok (.iconst 1, 1) := by decide +kernel
theorem dX7_readStatement_260 : decode cX7_readStatement 260 = .ok (.iadd, 1) := by decide +kernel
theorem dX7_readStatement_261 : decode cX7_readStatement 261 = .ok (.putfield 136, 3) := by decide +kernel
theorem dX7_readStatement_264 : decode cX7_readStatement 264 = .ok (.aload_n 0, 1) := by decide +kernel
theorem dX7_readStatement_265 : decode cX7_readStatement 265 = .ok (.dup, 1) := by decide +kernel
theorem dX7_readStatement_266 : decode cX7_readStatement 266 = .ok (.getfield 133, 3) := by decide +kernel
theorem dX7_readStatement_269 : decode cX7_readStatement 269 = .ok (.iconst 1, 1) := by decide +kernel
theorem dX7_readStatement_270 : decode cX7_readStatement 270 = .ok (.iadd, 1) := by decide +kernel
theorem dX7_readStatement_271 : decode cX7_readStatement 271 = .ok (.putfield 133, 3) := by decide +kernel
theorem dX7_readStatement_274 : decode cX7_readStatement 274 = .ok (.return_, 1) := by decide +kernel
theorem dX7_sideEnds_0 : decode cX7_sideEnds 0 = .ok (.aload_n 0, 1) := by decide +kernel
theorem dX7_sideEnds_1 : decode cX7_sideEnds 1 = .ok (.invokevirtual 124, 3) := by decide +kernel
theorem dX7_sideEnds_4 : decode cX7_sideEnds 4 = .ok (.aload_n 0, 1) := by decide +kernel
theorem dX7_sideEnds_5 : decode cX7_sideEnds 5 = .ok (.getfield 26, 3) := by decide +kernel
theorem dX7_sideEnds_8 : decode cX7_sideEnds 8 = .ok (.aload_n 0, 1) := by decide +kernel
theorem dX7_sideEnds_9 : decode cX7_sideEnds 9 = .ok (.getfield 136, 3) := by decide +kernel
theorem dX7_sideEnds_12 : decode cX7_sideEnds 12 = .ok (.iconst 1, 1) := by decide +kernel
theorem dX7_sideEnds_13 : decode cX7_sideEnds 13 = .ok (.isub, 1) := by decide +kernel
theorem dX7_sideEnds_14 : decode cX7_sideEnds 14 = .ok (.iaload, 1) := by decide +kernel
theorem dX7_sideEnds_15 : decode cX7_sideEnds 15 = .ok (.iconst 2, 1) := by decide +kernel
theorem dX7_sideEnds_16 : decode cX7_sideEnds 16 = .ok (.irem, 1) := by decide +kernel
theorem dX7_sideEnds_17 : decode cX7_sideEnds 17 = .ok (.iconst 1, 1) := by decide +kernel
theorem dX7_sideEnds_18 : decode cX7_sideEnds 18 = .ok (.if_icmp .ne 26, 3) := by decide +kernel
theorem dX7_sideEnds_21 : decode cX7_sideEnds 21 = .ok (.aload_n 0, 1) := by decide +kernel
theorem dX7_sideEnds_22 : decode cX7_sideEnds 22 = .ok (.iconst 4, 1) := by decide +kernel
theorem dX7_sideEnds_23 : decode cX7_sideEnds 23 = .ok (.invokevirtual 146, 3) := by decide +kernel
theorem dX7_sideEnds_26 : decode cX7_sideEnds 26 = .ok (.aload_n 0, 1) := by decide +kernel
theorem dX7_sideEnds_27 : decode cX7_sideEnds 27 = .ok (.getfield 26, 3) := by decide +kernel
theorem dX7_sideEnds_30 : decode cX7_sideEnds 30 = .ok (.aload_n 0, 1) := by decide +kernel
theorem dX7_sideEnds_31 : decode cX7_sideEnds 31 = .ok (.getfield 136, 3) := by decide +kernel
theorem dX7_sideEnds_34 : decode cX7_sideEnds 34 = .ok (.iconst 1, 1) := by decide +kernel
theorem dX7_sideEnds_35 : decode cX7_sideEnds 35 = .ok (.isub, 1) := by decide +kernel
theorem dX7_sideEnds_36 : decode cX7_sideEnds 36 = .ok (.dup2, 1) := by decide +kernel
theorem dX7_sideEnds_37 : decode cX7_sideEnds 37 = .ok (.iaload, 1) := by decide +kernel
theorem dX7_sideEnds_38 : decode cX7_sideEnds 38 = .ok (.iconst 1, 1) := by decide +kernel
theorem dX7_sideEnds_39 : decode cX7_sideEnds 39 = .ok (.iadd, 1) := by decide +kernel
theorem dX7_sideEnds_40 : decode cX7_sideEnds 40 = .ok (.iastore, 1) := by decide +kernel
theorem dX7_sideEnds_41 : decode cX7_sideEnds 41 = .ok (.goto 13, 3) := by decide +kernel
theorem dX7_sideEnds_44 : decode cX7_sideEnds 44 = .ok (.aload_n 0, 1) := by decide +kernel
theorem dX7_sideEnds_45 : decode cX7_sideEnds 45 = .ok (.dup, 1) := by decide +kernel
theorem dX7_sideEnds_46 : decode cX7_sideEnds 46 = .ok (.getfield 136, 3) := by decide +kernel
theorem dX7_sideEnds_49 : decode cX7_sideEnds 49 = .ok (.iconst 1, 1) := by decide +kernel
theorem dX7_sideEnds_50 : decode cX7_sideEnds 50 = .ok (.isub, 1) := by decide +kernel
theorem dX7_sideEnds_51 : decode cX7_sideEnds 51 = .ok (.putfield 136, 3) := by decide +kernel
theorem dX7_sideEnds_54 : decode cX7_sideEnds 54 = .ok (.return_, 1) := by decide +kernel
theorem dX7_text_0 : decode cX7_text 0 = .ok (.aload_n 0, 1) := by decide +kernel
theorem dX7_text_1 : decode cX7_text 1 = .ok (.iconst 0, 1) := by decide +kernel
theorem dX7_text_2 : decode cX7_text 2 = .ok (.putfield 86, 3) := by decide +kernel
theorem dX7_text_5 : decode cX7_text 5 = .ok (.aload_n 0, 1) := by decide +kernel
theorem dX7_text_6 : decode cX7_text 6 = .ok (.iconst 0, 1) := by decide +kernel
theorem dX7_text_7 : decode cX7_text 7 = .ok (.putfield 95, 3) := by decide +kernel
theorem dX7_text_10 : decode cX7_text 10 = .ok (.aload_n 0, 1) := by decide +kernel
theorem dX7_text_11 : decode cX7_text 11 = .ok (.iconst 0, 1) := by decide +kernel
theorem dX7_text_12 : decode cX7_text 12 = .ok (.putfield 136, 3) := by decide +kernel
theorem dX7_text_15 : decode cX7_text 15 = .ok (.aload_n 0, 1) := by decide +kernel
theorem dX7_text_16 : decode cX7_text 16 = .ok (.iconst 0, 1) := by decide +kernel
theorem dX7_text_17 : decode cX7_text 17 = .ok (.putfield 133, 3) := by decide +kernel
theorem dX7_text_20 : decode cX7_text 20 = .ok (.aload_n 0, 1) := by decide +kernel
theorem dX7_text_21 : decode cX7_text 21 = .ok (.invokevirtual 66, 3) := by decide +kernel
theorem dX7_text_24 : decode cX7_text 24 = .ok (.aload_n 0, 1) := by decide +kernel
theorem dX7_text_25 : decode cX7_text 25 = .ok (.invokevirtual 124, 3) := by decide +kernel
theorem dX7_text_28 : decode cX7_text 28 = .ok (.aload_n 0, 1) := by decide +kernel
theorem dX7_text_29 : decode cX7_text 29 = .ok (.getfield 86, 3) := by decide +kernel
theorem dX7_text_32 : decode cX7_text 32 = .ok (.ifCond .ne 46, 3) := by decide +kernel
theorem dX7_text_35 : decode cX7_text 35 = .ok (.aload_n 0, 1) := by decide +kernel
theorem dX7_text_36 : decode cX7_text 36 = .ok (.getfield 102, 3) := by decide +kernel
theorem dX7_text_39 : decode cX7_text 39 = .ok (.ifCond .ne 10, 3) := by decide +kernel
theorem dX7_text_42 : decode cX7_text 42 = .ok (.aload_n 0, 1) := by decide +kernel
theorem dX7_text_43 : decode cX7_text 43 = .ok (.getfield 136, 3) := by decide +kernel
theorem dX7_text_46 : decode cX7_text 46 = .ok (.ifCond .le 32, 3) := by decide +kernel
theorem dX7_text_49 : decode cX7_text 49 = .ok (.aload_n 0, 1) := by decide +kernel
theorem dX7_text_50 : decode cX7_text 50 = .ok (.getfield 102, 3) := by decide +kernel
theorem dX7_text_53 : decode cX7_text 53 = .ok (.iconst 5, 1) := by decide +kernel
theorem dX7_text_54 : decode cX7_text 54 = .ok (.if_icmp .ne 17, 3) := by decide +kernel
theorem dX7_text_57 : decode cX7_text 57 = .ok (.aload_n 0, 1) := by decide +kernel
theorem dX7_text_58 : decode cX7_text 58 = .ok (.getfield 136, 3) := by decide +kernel
theorem dX7_text_61 : decode cX7_text 61 = .ok (.ifCond .le 10, 3) := by decide +kernel
theorem dX7_text_64 : decode cX7_text 64 = .ok (.aload_n 0, 1) := by decide +kernel
theorem dX7_text_65 : decode cX7_text 65 = .ok (.invokevirtual 150, 3) := by decide +kernel
theorem dX7_text_68 : decode cX7_text 68 = .ok (.goto (-40), 3) := by decide +kernel
theorem dX7_text_71 : decode cX7_text 71 = .ok (.aload_n 0, 1) := by decide +kernel
theorem dX7_text_72 : decode cX7_text 72 = .ok (.invokevirtual 153, 3) := by decide +kernel
theorem dX7_text_75 : decode cX7_text 75 = .ok (.goto (-47), 3) := by decide +kernel
theorem dX7_text_78 : decode cX7_text 78 = .ok (.aload_n 0, 1) := by decide +kernel
theorem dX7_text_79 : decode cX7_text 79 = .ok (.iconst 0, 1) := by decide +kernel
theorem dX7_text_80 : decode cX7_text 80 = .ok (.putfield 82, 3) := by decide +kernel
theorem dX7_text_83 : decode cX7_text 83 = .ok (.aload_n 0, 1) := by decide +kernel
theorem dX7_text_84 : decode cX7_text 84 = .ok (.getfield 86, 3) := by decide +kernel
theorem dX7_text_87 : decode cX7_text 87 = .ok (.ifCond .le 11, 3) := by decide +kernel
theorem dX7_text_90 : decode cX7_text 90 = .ok (.bipush (-10), 2) := by decide +kernel
theorem dX7_text_92 : decode cX7_text 92 = .ok (.aload_n 0, 1) := by decide +kernel
theorem dX7_text_93 : decode cX7_text 93 = .ok (.getfield 92, 3) := by decide +kernel
theorem dX7_text_96 : decode cX7_text 96 = .ok (.isub, 1) := by decide +kernel
theorem dX7_text_97 : decode cX7_text 97 = .ok (.ireturn, 1) := by decide +kernel
theorem dX7_text_98 : decode cX7_text 98 = .ok (.aload_n 0, 1) := by decide +kernel
theorem dX7_text_99 : decode cX7_text 99 = .ok (.invokevirtual 69, 3) := by decide +kernel
theorem dX7_text_102 : decode cX7_text 102 = .ok (.aload_n 0, 1) := by decide +kernel
theorem dX7_text_103 : decode cX7_text 103 = .ok (.getfield 7, 3) := by decide +kernel
theorem dX7_text_106 : decode cX7_text 106 = .ok (.bipush 120, 2) := by decide +kernel
theorem dX7_text_108 : decode cX7_text 108 = .ok (.iaload, 1) := by decide +kernel
theorem dX7_text_109 : decode cX7_text 109 = .ok (.ireturn, 1) := by decide +kernel
theorem dX7_fault_0 : decode cX7_fault 0 = .ok (.aload_n 0, 1) := by decide +kernel
theorem dX7_fault_1 : decode cX7_fault 1 = .ok (.getfield 86, 3) := by decide +kernel
theorem dX7_fault_4 : decode cX7_fault 4 = .ok (.ireturn, 1) := by decide +kernel
theorem dX7_of_0 : decode cX7_of 0 = .ok (.aload_n 0, 1) := by decide +kernel
theorem dX7_of_1 : decode cX7_of 1 = .ok (.getfield 7, 3) := by decide +kernel
theorem dX7_of_4 : decode cX7_of 4 = .ok (.iconst 5, 1) := by decide +kernel
theorem dX7_of_5 : decode cX7_of 5 = .ok (.iload_n 1, 1) := by decide +kernel
theorem dX7_of_6 : decode cX7_of 6 = .ok (.imul, 1) := by decide +kernel
theorem dX7_of_7 : decode cX7_of 7 = .ok (.iload_n 2, 1) := by decide +kernel
theorem dX7_of_8 : decode cX7_of 8 = .ok (.iadd, 1) := by decide +kernel
theorem dX7_of_9 : decode cX7_of 9 = .ok (.iaload, 1) := by decide +kernel
theorem dX7_of_10 : decode cX7_of 10 = .ok (.ireturn, 1) := by decide +kernel
theorem dX7_isCode_0 : decode cX7_isCode 0 = .ok (.iload_n 1, 1) := by decide +kernel
theorem dX7_isCode_1 : decode cX7_isCode 1 = .ok (.i2l, 1) := by decide +kernel
theorem dX7_isCode_2 : decode cX7_isCode 2 = .ok (.lconst 0, 1) := by decide +kernel
theorem dX7_isCode_3 : decode cX7_isCode 3 = .ok (.aload_n 0, 1) := by decide +kernel
theorem dX7_isCode_4 : decode cX7_isCode 4 = .ok (.getfield 7, 3) := by decide +kernel
theorem dX7_isCode_7 : decode cX7_isCode 7 = .ok (.bipush 120, 2) := by decide +kernel
theorem dX7_isCode_9 : decode cX7_isCode 9 = .ok (.iaload, 1) := by decide +kernel
theorem dX7_isCode_10 : decode cX7_isCode 10 = .ok (.iconst 1, 1) := by decide +kernel
theorem dX7_isCode_11 : decode cX7_isCode 11 = .ok (.isub, 1) := by decide +kernel
theorem dX7_isCode_12 : decode cX7_isCode 12 = .ok (.i2l, 1) := by decide +kernel
theorem dX7_isCode_13 : decode cX7_isCode 13 = .ok (.invokestatic 78, 3) := by decide +kernel
theorem dX7_isCode_16 : decode cX7_isCode 16 = .ok (.ireturn, 1) := by decide +kernel
theorem dX7_ifs_0 : decode cX7_ifs 0 = .ok (.iconst 0, 1) := by decide +kernel
theorem dX7_ifs_1 : decode cX7_ifs 1 = .ok (.istore_n 1, 1) := by decide +kernel
theorem dX7_ifs_2 : decode cX7_ifs 2 = .ok (.iconst 0, 1) := by decide +kernel
theorem dX7_ifs_3 : decode cX7_ifs 3 = .ok (.istore_n 2, 1) := by decide +kernel
theorem dX7_ifs_4 : decode cX7_ifs 4 = .ok (.iload_n 2, 1) := by decide +kernel
theorem dX7_ifs_5 : decode cX7_ifs 5 = .ok (.aload_n 0, 1) := by decide +kernel
theorem dX7_ifs_6 : decode cX7_ifs 6 = .ok (.getfield 7, 3) := by decide +kernel
theorem dX7_ifs_9 : decode cX7_ifs 9 = .ok (.bipush 120, 2) := by decide +kernel
theorem dX7_ifs_11 : decode cX7_ifs 11 = .ok (.iaload, 1) := by decide +kernel
theorem dX7_ifs_12 : decode cX7_ifs 12 = .ok (.if_icmp .ge 30, 3) := by decide +kernel
theorem dX7_ifs_15 : decode cX7_ifs 15 = .ok (.iload_n 1, 1) := by decide +kernel
theorem dX7_ifs_16 : decode cX7_ifs 16 = .ok (.aload_n 0, 1) := by decide +kernel
theorem dX7_ifs_17 : decode cX7_ifs 17 = .ok (.iload_n 2, 1) := by decide +kernel
theorem dX7_ifs_18 : decode cX7_ifs 18 = .ok (.iconst 0, 1) := by decide +kernel
theorem dX7_ifs_19 : decode cX7_ifs 19 = .ok (.invokevirtual 156, 3) := by decide +kernel
theorem dX7_ifs_22 : decode cX7_ifs 22 = .ok (.iconst 5, 1) := by decide +kernel
theorem dX7_ifs_23 : decode cX7_ifs 23 = .ok (.if_icmp .ne 7, 3) := by decide +kernel
theorem dX7_ifs_26 : decode cX7_ifs 26 = .ok (.iconst 1, 1) := by decide +kernel
theorem dX7_ifs_27 : decode cX7_ifs 27 = .ok (.goto 4, 3) := by decide +kernel
theorem dX7_ifs_30 : decode cX7_ifs 30 = .ok (.iconst 0, 1) := by decide +kernel
theorem dX7_ifs_31 : decode cX7_ifs 31 = .ok (.invokestatic 159, 3) := by decide +kernel
theorem dX7_ifs_34 : decode cX7_ifs 34 = .ok (.iadd, 1) := by decide +kernel
theorem dX7_ifs_35 : decode cX7_ifs 35 = .ok (.istore_n 1, 1) := by decide +kernel
theorem dX7_ifs_36 : decode cX7_ifs 36 = .ok (.iinc 2 1, 3) := by decide +kernel
theorem dX7_ifs_39 : decode cX7_ifs 39 = .ok (.goto (-35), 3) := by decide +kernel
theorem dX7_ifs_42 : decode cX7_ifs 42 = .ok (.iload_n 1, 1) := by decide +kernel
theorem dX7_ifs_43 : decode cX7_ifs 43 = .ok (.ireturn, 1) := by decide +kernel
theorem dX7_codeOf_0 : decode cX7_codeOf 0 = .ok (.iload_n 1, 1) := by decide +kernel
theorem dX7_codeOf_1 : decode cX7_codeOf 1 = .ok (.istore_n 2, 1) := by decide +kernel
theorem dX7_codeOf_2 : decode cX7_codeOf 2 = .ok (.iconst 0, 1) := by decide +kernel
theorem dX7_codeOf_3 : decode cX7_codeOf 3 = .ok (.istore_n 3, 1) := by decide +kernel
theorem dX7_codeOf_4 : decode cX7_codeOf 4 = .ok (.iload_n 3, 1) := by decide +kernel
theorem dX7_codeOf_5 : decode cX7_codeOf 5 = .ok (.aload_n 0, 1) := by decide +kernel
theorem dX7_codeOf_6 : decode cX7_codeOf 6 = .ok (.getfield 7, 3) := by decide +kernel
theorem dX7_codeOf_9 : decode cX7_codeOf 9 = .ok (.bipush 120, 2) := by decide +kernel
theorem dX7_codeOf_11 : decode cX7_codeOf 11 = .ok (.iaload, 1) := by decide +kernel
theorem dX7_codeOf_12 : decode cX7_codeOf 12 = .ok (.if_icmp .ge 28, 3) := by decide +kernel
theorem dX7_codeOf_15 : decode cX7_codeOf 15 = .ok (.aload_n 0, 1) := by decide +kernel
theorem dX7_codeOf_16 : decode cX7_codeOf 16 = .ok (.iload_n 3, 1) := by decide +kernel
theorem dX7_codeOf_17 : decode cX7_codeOf 17 = .ok (.iconst 0, 1) := by decide +kernel
theorem dX7_codeOf_18 : decode cX7_codeOf 18 = .ok (.invokevirtual 156, 3) := by decide +kernel
theorem dX7_codeOf_21 : decode cX7_codeOf 21 = .ok (.iconst 5, 1) := by decide +kernel
theorem dX7_codeOf_22 : decode cX7_codeOf 22 = .ok (.if_icmp .ne 12, 3) := by decide +kernel
theorem dX7_codeOf_25 : decode cX7_codeOf 25 = .ok (.iload_n 2, 1) := by decide +kernel
theorem dX7_codeOf_26 : decode cX7_codeOf 26 = .ok (.ifCond .ne 5, 3) := by decide +kernel
theorem dX7_codeOf_29 : decode cX7_codeOf 29 = .ok (.iload_n 3, 1) := by decide +kernel
theorem dX7_codeOf_30 : decode cX7_codeOf 30 = .ok (.ireturn, 1) := by decide +kernel
theorem dX7_codeOf_31 : decode cX7_codeOf 31 = .ok (.iinc 2 (-1), 3) := by decide +kernel
theorem dX7_codeOf_34 : decode cX7_codeOf 34 = .ok (.iinc 3 1, 3) := by decide +kernel
theorem dX7_codeOf_37 : decode cX7_codeOf 37 = .ok (.goto (-33), 3) := by decide +kernel
theorem dX7_codeOf_40 : decode cX7_codeOf 40 = .ok (.bipush (-4), 2) := by decide +kernel
theorem dX7_codeOf_42 : decode cX7_codeOf 42 = .ok (.ireturn, 1) := by decide +kernel
theorem dX7_ifOf_0 : decode cX7_ifOf 0 = .ok (.iconst 0, 1) := by decide +kernel
theorem dX7_ifOf_1 : decode cX7_ifOf 1 = .ok (.istore_n 2, 1) := by decide +kernel
theorem dX7_ifOf_2 : decode cX7_ifOf 2 = .ok (.iconst 0, 1) := by decide +kernel
theorem dX7_ifOf_3 : decode cX7_ifOf 3 = .ok (.istore_n 3, 1) := by decide +kernel
theorem dX7_ifOf_4 : decode cX7_ifOf 4 = .ok (.iload_n 3, 1) := by decide +kernel
theorem dX7_ifOf_5 : decode cX7_ifOf 5 = .ok (.iload_n 1, 1) := by decide +kernel
theorem dX7_ifOf_6 : decode cX7_ifOf 6 = .ok (.if_icmp .ge 30, 3) := by decide +kernel
theorem dX7_ifOf_9 : decode cX7_ifOf 9 = .ok (.iload_n 2, 1) := by decide +kernel
theorem dX7_ifOf_10 : decode cX7_ifOf 10 = .ok (.aload_n 0, 1) := by decide +kernel
theorem dX7_ifOf_11 : decode cX7_ifOf 11 = .ok (.iload_n 3, 1) := by decide +kernel
theorem dX7_ifOf_12 : decode cX7_ifOf 12 = .ok (.iconst 0, 1) := by decide +kernel
theorem dX7_ifOf_13 : decode cX7_ifOf 13 = .ok (.invokevirtual 156, 3) := by decide +kernel
theorem dX7_ifOf_16 : decode cX7_ifOf 16 = .ok (.iconst 5, 1) := by decide +kernel
theorem dX7_ifOf_17 : decode cX7_ifOf 17 = .ok (.if_icmp .ne 7, 3) := by decide +kernel
theorem dX7_ifOf_20 : decode cX7_ifOf 20 = .ok (.iconst 1, 1) := by decide +kernel
theorem dX7_ifOf_21 : decode cX7_ifOf 21 = .ok (.goto 4, 3) := by decide +kernel
theorem dX7_ifOf_24 : decode cX7_ifOf 24 = .ok (.iconst 0, 1) := by decide +kernel
theorem dX7_ifOf_25 : decode cX7_ifOf 25 = .ok (.invokestatic 159, 3) := by decide +kernel
theorem dX7_ifOf_28 : decode cX7_ifOf 28 = .ok (.iadd, 1) := by decide +kernel
theorem dX7_ifOf_29 : decode cX7_ifOf 29 = .ok (.istore_n 2, 1) := by decide +kernel
theorem dX7_ifOf_30 : decode cX7_ifOf 30 = .ok (.iinc 3 1, 3) := by decide +kernel
theorem dX7_ifOf_33 : decode cX7_ifOf 33 = .ok (.goto (-29), 3) := by decide +kernel
theorem dX7_ifOf_36 : decode cX7_ifOf 36 = .ok (.iload_n 2, 1) := by decide +kernel
theorem dX7_ifOf_37 : decode cX7_ifOf 37 = .ok (.ireturn, 1) := by decide +kernel
theorem dX7_isIf_0 : decode cX7_isIf 0 = .ok (.iload_n 1, 1) := by decide +kernel
theorem dX7_isIf_1 : decode cX7_isIf 1 = .ok (.i2l, 1) := by decide +kernel
theorem dX7_isIf_2 : decode cX7_isIf 2 = .ok (.lconst 0, 1) := by decide +kernel
theorem dX7_isIf_3 : decode cX7_isIf 3 = .ok (.aload_n 0, 1) := by decide +kernel
theorem dX7_isIf_4 : decode cX7_isIf 4 = .ok (.invokevirtual 163, 3) := by decide +kernel
theorem dX7_isIf_7 : decode cX7_isIf 7 = .ok (.iconst 1, 1) := by decide +kernel
theorem dX7_isIf_8 : decode cX7_isIf 8 = .ok (.isub, 1) := by decide +kernel
theorem dX7_isIf_9 : decode cX7_isIf 9 = .ok (.i2l, 1) := by decide +kernel
theorem dX7_isIf_10 : decode cX7_isIf 10 = .ok (.invokestatic 78, 3) := by decide +kernel
theorem dX7_isIf_13 : decode cX7_isIf 13 = .ok (.ireturn, 1) := by decide +kernel
theorem dX7_isGuard_0 : decode cX7_isGuard 0 = .ok (.iload_n 1, 1) := by decide +kernel
theorem dX7_isGuard_1 : decode cX7_isGuard 1 = .ok (.i2l, 1) := by decide +kernel
theorem dX7_isGuard_2 : decode cX7_isGuard 2 = .ok (.lconst 0, 1) := by decide +kernel
theorem dX7_isGuard_3 : decode cX7_isGuard 3 = .ok (.iconst 2, 1) := by decide +kernel
theorem dX7_isGuard_4 : decode cX7_isGuard 4 = .ok (.aload_n 0, 1) := by decide +kernel
theorem dX7_isGuard_5 : decode cX7_isGuard 5 = .ok (.invokevirtual 163, 3) := by decide +kernel
theorem dX7_isGuard_8 : decode cX7_isGuard 8 = .ok (.imul, 1) := by decide +kernel
theorem dX7_isGuard_9 : decode cX7_isGuard 9 = .ok (.i2l, 1) := by decide +kernel
theorem dX7_isGuard_10 : decode cX7_isGuard 10 = .ok (.invokestatic 78, 3) := by decide +kernel
theorem dX7_isGuard_13 : decode cX7_isGuard 13 = .ok (.ireturn, 1) := by decide +kernel
theorem dX7_isPart_0 : decode cX7_isPart 0 = .ok (.iload_n 0, 1) := by decide +kernel
theorem dX7_isPart_1 : decode cX7_isPart 1 = .ok (.i2l, 1) := by decide +kernel
theorem dX7_isPart_2 : decode cX7_isPart 2 = .ok (.lconst 0, 1) := by decide +kernel
theorem dX7_isPart_3 : decode cX7_isPart 3 = .ok (.lconst 1, 1) := by decide +kernel
theorem dX7_isPart_4 : decode cX7_isPart 4 = .ok (.invokestatic 78, 3) := by decide +kernel
theorem dX7_isPart_7 : decode cX7_isPart 7 = .ok (.ireturn, 1) := by decide +kernel
theorem dX7_parentOf_0 : decode cX7_parentOf 0 = .ok (.iload_n 1, 1) := by decide +kernel
theorem dX7_parentOf_1 : decode cX7_parentOf 1 = .ok (.ifCond .ne 8, 3) := by decide +kernel
theorem dX7_parentOf_4 : decode cX7_parentOf 4 = .ok (.bipush (-4), 2) := by decide +kernel
theorem dX7_parentOf_6 : decode cX7_parentOf 6 = .ok (.goto 17, 3) := by decide +kernel
theorem dX7_parentOf_9 : decode cX7_parentOf 9 = .ok (.aload_n 0, 1) := by decide +kernel
theorem dX7_parentOf_10 : decode cX7_parentOf 10 = .ok (.aload_n 0, 1) := by decide +kernel
theorem dX7_parentOf_11 : decode cX7_parentOf 11 = .ok (.iload_n 1, 1) := by decide +kernel
theorem dX7_parentOf_12 : decode cX7_parentOf 12 = .ok (.iconst 1, 1) := by decide +kernel
theorem dX7_parentOf_13 : decode cX7_parentOf 13 = .ok (.isub, 1) := by decide +kernel
theorem dX7_parentOf_14 : decode cX7_parentOf 14 = .ok (.iconst 2, 1) := by decide +kernel
theorem dX7_parentOf_15 : decode cX7_parentOf 15 = .ok (.idiv, 1) := by decide +kernel
theorem dX7_parentOf_16 : decode cX7_parentOf 16 = .ok (.invokevirtual 166, 3) := by decide +kernel
theorem dX7_parentOf_19 : decode cX7_parentOf 19 = .ok (.iconst 4, 1) := by decide +kernel
theorem dX7_parentOf_20 : decode cX7_parentOf 20 = .ok (.invokevirtual 156, 3) := by decide +kernel
theorem dX7_parentOf_23 : decode cX7_parentOf 23 = .ok (.ireturn, 1) := by decide +kernel
theorem dX7_depthOf_0 : decode cX7_depthOf 0 = .ok (.iconst 0, 1) := by decide +kernel
theorem dX7_depthOf_1 : decode cX7_depthOf 1 = .ok (.istore_n 2, 1) := by decide +kernel
theorem dX7_depthOf_2 : decode cX7_depthOf 2 = .ok (.iload_n 1, 1) := by decide +kernel
theorem dX7_depthOf_3 : decode cX7_depthOf 3 = .ok (.istore_n 3, 1) := by decide +kernel
theorem dX7_depthOf_4 : decode cX7_depthOf 4 = .ok (.iload_n 3, 1) := by decide +kernel
theorem dX7_depthOf_5 : decode cX7_depthOf 5 = .ok (.ifCond .le 15, 3) := by decide +kernel
theorem dX7_depthOf_8 : decode cX7_depthOf 8 = .ok (.iinc 2 1, 3) := by decide +kernel
theorem dX7_depthOf_11 : decode cX7_depthOf 11 = .ok (.aload_n 0, 1) := by decide +kernel
theorem dX7_depthOf_12 : decode cX7_depthOf 12 = .ok (.iload_n 3, 1) := by decide +kernel
theorem dX7_depthOf_13 : decode cX7_depthOf 13 = .ok (.invokevirtual 169, 3) := by decide +kernel
theorem dX7_depthOf_16 : decode cX7_depthOf 16 = .ok (.istore_n 3, 1) := by decide +kernel
theorem dX7_depthOf_17 : decode cX7_depthOf 17 = .ok (.goto (-13), 3) := by decide +kernel
theorem dX7_depthOf_20 : decode cX7_depthOf 20 = .ok (.iload_n 2, 1) := by decide +kernel
theorem dX7_depthOf_21 : decode cX7_depthOf 21 = .ok (.ireturn, 1) := by decide +kernel
theorem dX7_isWithin_0 : decode cX7_isWithin 0 = .ok (.iload_n 1, 1) := by decide +kernel
theorem dX7_isWithin_1 : decode cX7_isWithin 1 = .ok (.istore_n 3, 1) := by decide +kernel
theorem dX7_isWithin_2 : decode cX7_isWithin 2 = .ok (.iload_n 3, 1) := by decide +kernel
theorem dX7_isWithin_3 : decode cX7_isWithin 3 = .ok (.iload_n 2, 1) := by decide +kernel
theorem dX7_isWithin_4 : decode cX7_isWithin 4 = .ok (.if_icmp .eq 16, 3) := by decide +kernel
theorem dX7_isWithin_7 : decode cX7_isWithin 7 = .ok (.iload_n 3, 1) := by decide +kernel
theorem dX7_isWithin_8 : decode cX7_isWithin 8 = .ok (.ifCond .le 12, 3) := by decide +kernel
theorem dX7_isWithin_11 : decode cX7_isWithin 11 = .ok (.aload_n 0, 1) := by decide +kernel
theorem dX7_isWithin_12 : decode cX7_isWithin 12 = .ok (.iload_n 3, 1) := by decide +kernel
theorem dX7_isWithin_13 : decode cX7_isWithin 13 = .ok (.invokevirtual 169, 3) := by decide +kernel
theorem dX7_isWithin_16 : decode cX7_isWithin 16 = .ok (.istore_n 3, 1) := by decide +kernel
theorem dX7_isWithin_17 : decode cX7_isWithin 17 = .ok (.goto (-15), 3) := by decide +kernel
theorem dX7_isWithin_20 : decode cX7_isWithin 20 = .ok (.iload_n 3, 1) := by decide +kernel
theorem dX7_isWithin_21 : decode cX7_isWithin 21 = .ok (.iload_n 2, 1) := by decide +kernel
theorem dX7_isWithin_22 : decode cX7_isWithin 22 = .ok (.if_icmp .ne 7, 3) := by decide +kernel
theorem dX7_isWithin_25 : decode cX7_isWithin 25 = .ok (.iconst 1, 1) := by decide +kernel
theorem dX7_isWithin_26 : decode cX7_isWithin 26 = .ok (.goto 4, 3) := by decide +kernel
theorem dX7_isWithin_29 : decode cX7_isWithin 29 = .ok (.iconst 0, 1) := by decide +kernel
theorem dX7_isWithin_30 : decode cX7_isWithin 30 = .ok (.ireturn, 1) := by decide +kernel
theorem dX7_costOf_0 : decode cX7_costOf 0 = .ok (.iload_n 0, 1) := by decide +kernel
theorem dX7_costOf_1 : decode cX7_costOf 1 = .ok (.iconst 4, 1) := by decide +kernel
theorem dX7_costOf_2 : decode cX7_costOf 2 = .ok (.if_icmp .ne 7, 3) := by decide +kernel
theorem dX7_costOf_5 : decode cX7_costOf 5 = .ok (.iconst 4, 1) := by decide +kernel
theorem dX7_costOf_6 : decode cX7_costOf 6 = .ok (.goto 4, 3) := by decide +kernel
theorem dX7_costOf_9 : decode cX7_costOf 9 = .ok (.iconst 1, 1) := by decide +kernel
theorem dX7_costOf_10 : decode cX7_costOf 10 = .ok (.ireturn, 1) := by decide +kernel
theorem dX7_flatOf_0 : decode cX7_flatOf 0 = .ok (.aload_n 0, 1) := by decide +kernel
theorem dX7_flatOf_1 : decode cX7_flatOf 1 = .ok (.iload_n 1, 1) := by decide +kernel
theorem dX7_flatOf_2 : decode cX7_flatOf 2 = .ok (.iconst 0, 1) := by decide +kernel
theorem dX7_flatOf_3 : decode cX7_flatOf 3 = .ok (.invokevirtual 156, 3) := by decide +kernel
theorem dX7_flatOf_6 : decode cX7_flatOf 6 = .ok (.iconst 5, 1) := by decide +kernel
theorem dX7_flatOf_7 : decode cX7_flatOf 7 = .ok (.if_icmp .eq 13, 3) := by decide +kernel
theorem dX7_flatOf_10 : decode cX7_flatOf 10 = .ok (.aload_n 0, 1) := by decide +kernel
theorem dX7_flatOf_11 : decode cX7_flatOf 11 = .ok (.iload_n 1, 1) := by decide +kernel
theorem dX7_flatOf_12 : decode cX7_flatOf 12 = .ok (.iconst 0, 1) := by decide +kernel
theorem dX7_flatOf_13 : decode cX7_flatOf 13 = .ok (.invokevirtual 156, 3) := by decide +kernel
theorem dX7_flatOf_16 : decode cX7_flatOf 16 = .ok (.invokestatic 172, 3) := by decide +kernel
theorem dX7_flatOf_19 : decode cX7_flatOf 19 = .ok (.ireturn, 1) := by decide +kernel
theorem dX7_flatOf_20 : decode cX7_flatOf 20 = .ok (.aload_n 0, 1) := by decide +kernel
theorem dX7_flatOf_21 : decode cX7_flatOf 21 = .ok (.iload_n 1, 1) := by decide +kernel
theorem dX7_flatOf_22 : decode cX7_flatOf 22 = .ok (.invokevirtual 175, 3) := by decide +kernel
theorem dX7_flatOf_25 : decode cX7_flatOf 25 = .ok (.istore_n 2, 1) := by decide +kernel
theorem dX7_flatOf_26 : decode cX7_flatOf 26 = .ok (.iconst 1, 1) := by decide +kernel
theorem dX7_flatOf_27 : decode cX7_flatOf 27 = .ok (.istore_n 3, 1) := by decide +kernel
theorem dX7_flatOf_28 : decode cX7_flatOf 28 = .ok (.iload_n 1, 1) := by decide +kernel
theorem dX7_flatOf_29 : decode cX7_flatOf 29 = .ok (.iconst 1, 1) := by decide +kernel
theorem dX7_flatOf_30 : decode cX7_flatOf 30 = .ok (.iadd, 1) := by decide +kernel
theorem dX7_flatOf_31 : decode cX7_flatOf 31 = .ok (.istore 4, 2) := by decide +kernel
theorem dX7_flatOf_33 : decode cX7_flatOf 33 = .ok (.iload 4, 2) := by decide +kernel
theorem dX7_flatOf_35 : decode cX7_flatOf 35 = .ok (.aload_n 0, 1) := by decide +kernel
theorem dX7_flatOf_36 : decode cX7_flatOf 36 = .ok (.getfield 7, 3) := by decide +kernel
theorem dX7_flatOf_39 : decode cX7_flatOf 39 = .ok (.bipush 120, 2) := by decide +kernel
theorem dX7_flatOf_41 : decode cX7_flatOf 41 = .ok (.iaload, 1) := by decide +kernel
theorem dX7_flatOf_42 : decode cX7_flatOf 42 = .ok (.if_icmp .ge 60, 3) := by decide +kernel
theorem dX7_flatOf_45 : decode cX7_flatOf 45 = .ok (.aload_n 0, 1) := by decide +kernel
theorem dX7_flatOf_46 : decode cX7_flatOf 46 = .ok (.aload_n 0, 1) := by decide +kernel
theorem dX7_flatOf_47 : decode cX7_flatOf 47 = .ok (.iload 4, 2) := by decide +kernel
theorem dX7_flatOf_49 : decode cX7_flatOf 49 = .ok (.iconst 4, 1) := by decide +kernel
theorem dX7_flatOf_50 : decode cX7_flatOf 50 = .ok (.invokevirtual 156, 3) := by decide +kernel
theorem dX7_flatOf_53 : decode cX7_flatOf 53 = .ok (.iconst 2, 1) := by decide +kernel
theorem dX7_flatOf_54 : decode cX7_flatOf 54 = .ok (.iload_n 2, 1) := by decide +kernel
theorem dX7_flatOf_55 : decode cX7_flatOf 55 = .ok (.imul, 1) := by decide +kernel
theorem dX7_flatOf_56 : decode cX7_flatOf 56 = .ok (.iconst 1, 1) := by decide +kernel
theorem dX7_flatOf_57 : decode cX7_flatOf 57 = .ok (.iadd, 1) := by decide +kernel
theorem dX7_flatOf_58 : decode cX7_flatOf 58 = .ok (.invokevirtual 178, 3) := by decide +kernel
theorem dX7_flatOf_61 : decode cX7_flatOf 61 = .ok (.ifCond .ne 22, 3) := by decide +kernel
theorem dX7_flatOf_64 : decode cX7_flatOf 64 = .ok (.aload_n 0, 1) := by decide +kernel
theorem dX7_flatOf_65 : decode cX7_flatOf 65 = .ok (.aload_n 0, 1) := by decide +kernel
theorem dX7_flatOf_66 : decode cX7_flatOf 66 = .ok (.iload 4, 2) := by decide +kernel
theorem dX7_flatOf_68 : decode cX7_flatOf 68 = .ok (.iconst 4, 1) := by decide +kernel
theorem dX7_flatOf_69 : decode cX7_flatOf 69 = .ok (.invokevirtual 156, 3) := by decide +kernel
theorem dX7_flatOf_72 : decode cX7_flatOf 72 = .ok (.iconst 2, 1) := by decide +kernel
theorem dX7_flatOf_73 : decode cX7_flatOf 73 = .ok (.iload_n 2, 1) := by decide +kernel
theorem dX7_flatOf_74 : decode cX7_flatOf 74 = .ok (.imul, 1) := by decide +kernel
theorem dX7_flatOf_75 : decode cX7_flatOf 75 = .ok (.iconst 2, 1) := by decide +kernel
theorem dX7_flatOf_76 : decode cX7_flatOf 76 = .ok (.iadd, 1) := by decide +kernel
theorem dX7_flatOf_77 : decode cX7_flatOf 77 = .ok (.invokevirtual 178, 3) := by decide +kernel
theorem dX7_flatOf_80 : decode cX7_flatOf 80 = .ok (.ifCond .eq 16, 3) := by decide +kernel
theorem dX7_flatOf_83 : decode cX7_flatOf 83 = .ok (.iload_n 3, 1) := by decide +kernel
theorem dX7_flatOf_84 : decode cX7_flatOf 84 = .ok (.aload_n 0, 1) := by decide +kernel
theorem dX7_flatOf_85 : decode cX7_flatOf 85 = .ok (.iload 4, 2) := by decide +kernel
theorem dX7_flatOf_87 : decode cX7_flatOf 87 = .ok (.iconst 0, 1) := by decide +kernel
theorem dX7_flatOf_88 : decode cX7_flatOf 88 = .ok (.invokevirtual 156, 3) := by decide +kernel
theorem dX7_flatOf_91 : decode cX7_flatOf 91 = .ok (.invokestatic 172, 3) := by decide +kernel
theorem dX7_flatOf_94 : decode cX7_flatOf 94 = .ok (.iadd, 1) := by decide +kernel
theorem dX7_flatOf_95 : decode cX7_flatOf 95 = .ok (.istore_n 3, 1) := by decide +kernel
theorem dX7_flatOf_96 : decode cX7_flatOf 96 = .ok (.iinc 4 1, 3) := by decide +kernel
theorem dX7_flatOf_99 : decode cX7_flatOf 99 = .ok (.goto (-66), 3) := by decide +kernel
theorem dX7_flatOf_102 : decode cX7_flatOf 102 = .ok (.iload_n 3, 1) := by decide +kernel
theorem dX7_flatOf_103 : decode cX7_flatOf 103 = .ok (.ireturn, 1) := by decide +kernel
theorem dX7_flatOfAll_0 : decode cX7_flatOfAll 0 = .ok (.iconst 0, 1) := by decide +kernel
theorem dX7_flatOfAll_1 : decode cX7_flatOfAll 1 = .ok (.istore_n 1, 1) := by decide +kernel
theorem dX7_flatOfAll_2 : decode cX7_flatOfAll 2 = .ok (.iconst 0, 1) := by decide +kernel
theorem dX7_flatOfAll_3 : decode cX7_flatOfAll 3 = .ok (.istore_n 2, 1) := by decide +kernel
theorem dX7_flatOfAll_4 : decode cX7_flatOfAll 4 = .ok (.iload_n 2, 1) := by decide +kernel
theorem dX7_flatOfAll_5 : decode cX7_flatOfAll 5 = .ok (.aload_n 0, 1) := by decide +kernel
theorem dX7_flatOfAll_6 : decode cX7_flatOfAll 6 = .ok (.getfield 7, 3) := by decide +kernel
theorem dX7_flatOfAll_9 : decode cX7_flatOfAll 9 = .ok (.bipush 120, 2) := by decide +kernel
theorem dX7_flatOfAll_11 : decode cX7_flatOfAll 11 = .ok (.iaload, 1) := by decide +kernel
theorem dX7_flatOfAll_12 : decode cX7_flatOfAll 12 = .ok (.if_icmp .ge 21, 3) := by decide +kernel
theorem dX7_flatOfAll_15 : decode cX7_flatOfAll 15 = .ok (.iload_n 1, 1) := by decide +kernel
theorem dX7_flatOfAll_16 : decode cX7_flatOfAll 16 = .ok (.aload_n 0, 1) := by decide +kernel
theorem dX7_flatOfAll_17 : decode cX7_flatOfAll 17 = .ok (.iload_n 2, 1) := by decide +kernel
theorem dX7_flatOfAll_18 : decode cX7_flatOfAll 18 = .ok (.iconst 0, 1) := by decide +kernel
theorem dX7_flatOfAll_19 : decode cX7_flatOfAll 19 = .ok (.invokevirtual 156, 3) := by decide +kernel
theorem dX7_flatOfAll_22 : decode cX7_flatOfAll 22 = .ok (.invokestatic 172, 3) := by decide +kernel
theorem dX7_flatOfAll_25 : decode cX7_flatOfAll 25 = .ok (.iadd, 1) := by decide +kernel
theorem dX7_flatOfAll_26 : decode cX7_flatOfAll 26 = .ok (.istore_n 1, 1) := by decide +kernel
theorem dX7_flatOfAll_27 : decode cX7_flatOfAll 27 = .ok (.iinc 2 1, 3) := by decide +kernel
theorem dX7_flatOfAll_30 : decode cX7_flatOfAll 30 = .ok (.goto (-26), 3) := by decide +kernel
theorem dX7_flatOfAll_33 : decode cX7_flatOfAll 33 = .ok (.iload_n 1, 1) := by decide +kernel
theorem dX7_flatOfAll_34 : decode cX7_flatOfAll 34 = .ok (.ireturn, 1) := by decide +kernel
theorem dX7_deepest_0 : decode cX7_deepest 0 = .ok (.iconst 0, 1) := by decide +kernel
theorem dX7_deepest_1 : decode cX7_deepest 1 = .ok (.istore_n 1, 1) := by decide +kernel
theorem dX7_deepest_2 : decode cX7_deepest 2 = .ok (.iconst 0, 1) := by decide +kernel
theorem dX7_deepest_3 : decode cX7_deepest 3 = .ok (.istore_n 2, 1) := by decide +kernel
theorem dX7_deepest_4 : decode cX7_deepest 4 = .ok (.iload_n 2, 1) := by decide +kernel
theorem dX7_deepest_5 : decode cX7_deepest 5 = .ok (.iconst 2, 1) := by decide +kernel
theorem dX7_deepest_6 : decode cX7_deepest 6 = .ok (.aload_n 0, 1) := by decide +kernel
theorem dX7_deepest_7 : decode cX7_deepest 7 = .ok (.invokevirtual 163, 3) := by decide +kernel
theorem dX7_deepest_10 : decode cX7_deepest 10 = .ok (.imul, 1) := by decide +kernel
theorem dX7_deepest_11 : decode cX7_deepest 11 = .ok (.if_icmp .gt 26, 3) := by decide +kernel
theorem dX7_deepest_14 : decode cX7_deepest 14 = .ok (.aload_n 0, 1) := by decide +kernel
theorem dX7_deepest_15 : decode cX7_deepest 15 = .ok (.iload_n 2, 1) := by decide +kernel
theorem dX7_deepest_16 : decode cX7_deepest 16 = .ok (.invokevirtual 182, 3) := by decide +kernel
theorem dX7_deepest_19 : decode cX7_deepest 19 = .ok (.istore_n 3, 1) := by decide +kernel
theorem dX7_deepest_20 : decode cX7_deepest 20 = .ok (.iload_n 3, 1) := by decide +kernel
theorem dX7_deepest_21 : decode cX7_deepest 21 = .ok (.iload_n 1, 1) := by decide +kernel
theorem dX7_deepest_22 : decode cX7_deepest 22 = .ok (.if_icmp .le 7, 3) := by decide +kernel
theorem dX7_deepest_25 : decode cX7_deepest 25 = .ok (.iload_n 3, 1) := by decide +kernel
theorem dX7_deepest_26 : decode cX7_deepest 26 = .ok (.goto 4, 3) := by decide +kernel
theorem dX7_deepest_29 : decode cX7_deepest 29 = .ok (.iload_n 1, 1) := by decide +kernel
theorem dX7_deepest_30 : decode cX7_deepest 30 = .ok (.istore_n 1, 1) := by decide +kernel
theorem dX7_deepest_31 : decode cX7_deepest 31 = .ok (.iinc 2 1, 3) := by decide +kernel
theorem dX7_deepest_34 : decode cX7_deepest 34 = .ok (.goto (-30), 3) := by decide +kernel
theorem dX7_deepest_37 : decode cX7_deepest 37 = .ok (.iload_n 1, 1) := by decide +kernel
theorem dX7_deepest_38 : decode cX7_deepest 38 = .ok (.ireturn, 1) := by decide +kernel
theorem dX7_meansUnder_0 : decode cX7_meansUnder 0 = .ok (.lconst 0, 1) := by decide +kernel
theorem dX7_meansUnder_1 : decode cX7_meansUnder 1 = .ok (.lstore_n 2, 1) := by decide +kernel
theorem dX7_meansUnder_2 : decode cX7_meansUnder 2 = .ok (.iconst 0, 1) := by decide +kernel
theorem dX7_meansUnder_3 : decode cX7_meansUnder 3 = .ok (.istore 4, 2) := by decide +kernel
theorem dX7_meansUnder_5 : decode cX7_meansUnder 5 = .ok (.iload 4, 2) := by decide +kernel
theorem dX7_meansUnder_7 : decode cX7_meansUnder 7 = .ok (.aload_n 0, 1) := by decide +kernel
theorem dX7_meansUnder_8 : decode cX7_meansUnder 8 = .ok (.getfield 7, 3) := by decide +kernel
theorem dX7_meansUnder_11 : decode cX7_meansUnder 11 = .ok (.bipush 120, 2) := by decide +kernel
theorem dX7_meansUnder_13 : decode cX7_meansUnder 13 = .ok (.iaload, 1) := by decide +kernel
theorem dX7_meansUnder_14 : decode cX7_meansUnder 14 = .ok (.if_icmp .ge 63, 3) := by decide +kernel
theorem dX7_meansUnder_17 : decode cX7_meansUnder 17 = .ok (.aload_n 0, 1) := by decide +kernel
theorem dX7_meansUnder_18 : decode cX7_meansUnder 18 = .ok (.iload 4, 2) := by decide +kernel
theorem dX7_meansUnder_20 : decode cX7_meansUnder 20 = .ok (.iconst 4, 1) := by decide +kernel
theorem dX7_meansUnder_21 : decode cX7_meansUnder 21 = .ok (.invokevirtual 156, 3) := by decide +kernel
theorem dX7_meansUnder_24 : decode cX7_meansUnder 24 = .ok (.iload_n 1, 1) := by decide +kernel
theorem dX7_meansUnder_25 : decode cX7_meansUnder 25 = .ok (.if_icmp .ne 46, 3) := by decide +kernel
theorem dX7_meansUnder_28 : decode cX7_meansUnder 28 = .ok (.lload_n 2, 1) := by decide +kernel
theorem dX7_meansUnder_29 : decode cX7_meansUnder 29 = .ok (.aload_n 0, 1) := by decide +kernel
theorem dX7_meansUnder_30 : decode cX7_meansUnder 30 = .ok (.iload 4, 2) := by decide +kernel
theorem dX7_meansUnder_32 : decode cX7_meansUnder 32 = .ok (.iconst 0, 1) := by decide +kernel
theorem dX7_meansUnder_33 : decode cX7_meansUnder 33 = .ok (.invokevirtual 156, 3) := by decide +kernel
theorem dX7_meansUnder_36 : decode cX7_meansUnder 36 = .ok (.iconst 5, 1) := by decide +kernel
theorem dX7_meansUnder_37 : decode cX7_meansUnder 37 = .ok (.if_icmp .ne 17, 3) := by decide +kernel
theorem dX7_meansUnder_40 : decode cX7_meansUnder 40 = .ok (.aload_n 0, 1) := by decide +kernel
theorem dX7_meansUnder_41 : decode cX7_meansUnder 41 = .ok (.getfield 32, 3) := by decide +kernel
theorem dX7_meansUnder_44 : decode cX7_meansUnder 44 = .ok (.aload_n 0, 1) := by decide +kernel
theorem dX7_meansUnder_45 : decode cX7_meansUnder 45 = .ok (.iload 4, 2) := by decide +kernel
theorem dX7_meansUnder_47 : decode cX7_meansUnder 47 = .ok (.invokevirtual 175, 3) := by decide +kernel
theorem dX7_meansUnder_50 : decode cX7_meansUnder 50 = .ok (.laload, 1) := by decide +kernel
theorem dX7_meansUnder_51 : decode cX7_meansUnder 51 = .ok (.goto 18, 3) := by decide +kernel
theorem dX7_meansUnder_54 : decode cX7_meansUnder 54 = .ok (.ldc2_w 185, 3) := by decide +kernel
theorem dX7_meansUnder_57 : decode cX7_meansUnder 57 = .ok (.aload_n 0, 1) := by decide +kernel
theorem dX7_meansUnder_58 : decode cX7_meansUnder 58 = .ok (.iload 4, 2) := by decide +kernel
theorem dX7_meansUnder_60 : decode cX7_meansUnder 60 = .ok (.iconst 0, 1) := by decide +kernel
theorem dX7_meansUnder_61 : decode cX7_meansUnder 61 = .ok (.invokevirtual 156, 3) := by decide +kernel
theorem dX7_meansUnder_64 : decode cX7_meansUnder 64 = .ok (.invokestatic 172, 3) := by decide +kernel
theorem dX7_meansUnder_67 : decode cX7_meansUnder 67 = .ok (.i2l, 1) := by decide +kernel
theorem dX7_meansUnder_68 : decode cX7_meansUnder 68 = .ok (.lmul, 1) := by decide +kernel
theorem dX7_meansUnder_69 : decode cX7_meansUnder 69 = .ok (.ladd, 1) := by decide +kernel
theorem dX7_meansUnder_70 : decode cX7_meansUnder 70 = .ok (.lstore_n 2, 1) := by decide +kernel
theorem dX7_meansUnder_71 : decode cX7_meansUnder 71 = .ok (.iinc 4 1, 3) := by decide +kernel
theorem dX7_meansUnder_74 : decode cX7_meansUnder 74 = .ok (.goto (-69), 3) := by decide +kernel
theorem dX7_meansUnder_77 : decode cX7_meansUnder 77 = .ok (.lload_n 2, 1) := by decide +kernel
theorem dX7_meansUnder_78 : decode cX7_meansUnder 78 = .ok (.lreturn, 1) := by decide +kernel
theorem dX7_findMeans_0 : decode cX7_findMeans 0 = .ok (.aload_n 0, 1) := by decide +kernel
theorem dX7_findMeans_1 : decode cX7_findMeans 1 = .ok (.invokevirtual 163, 3) := by decide +kernel
theorem dX7_findMeans_4 : decode cX7_findMeans 4 = .ok (.istore_n 1, 1) := by decide +kernel
theorem dX7_findMeans_5 : decode cX7_findMeans 5 = .ok (.iload_n 1, 1) := by decide +kernel
theorem dX7_findMeans_6 : decode cX7_findMeans 6 = .ok (.iconst 1, 1) := by decide +kernel
theorem dX7_findMeans_7 : decode cX7_findMeans 7 = .ok (.isub, 1) := by decide +kernel
theorem dX7_findMeans_8 : decode cX7_findMeans 8 = .ok (.istore_n 2, 1) := by decide +kernel
theorem dX7_findMeans_9 : decode cX7_findMeans 9 = .ok (.iload_n 2, 1) := by decide +kernel
theorem dX7_findMeans_10 : decode cX7_findMeans 10 = .ok (.ifCond .lt 139, 3) := by decide +kernel
theorem dX7_findMeans_13 : decode cX7_findMeans 13 = .ok (.aload_n 0, 1) := by decide +kernel
theorem dX7_findMeans_14 : decode cX7_findMeans 14 = .ok (.iload_n 2, 1) := by decide +kernel
theorem dX7_findMeans_15 : decode cX7_findMeans 15 = .ok (.invokevirtual 166, 3) := by decide +kernel
theorem dX7_findMeans_18 : decode cX7_findMeans 18 = .ok (.istore_n 3, 1) := by decide +kernel
theorem dX7_findMeans_19 : decode cX7_findMeans 19 = .ok (.aload_n 0, 1) := by decide +kernel
theorem dX7_findMeans_20 : decode cX7_findMeans 20 = .ok (.iload_n 3, 1) := by decide +kernel
theorem dX7_findMeans_21 : decode cX7_findMeans 21 = .ok (.iconst 2, 1) := by decide +kernel
theorem dX7_findMeans_22 : decode cX7_findMeans 22 = .ok (.invokevirtual 156, 3) := by decide +kernel
theorem dX7_findMeans_25 : decode cX7_findMeans 25 = .ok (.istore 4, 2) := by decide +kernel
theorem dX7_findMeans_27 : decode cX7_findMeans 27 = .ok (.ldc2_w 187, 3) := by decide +kernel
theorem dX7_findMeans_30 : decode cX7_findMeans 30 = .ok (.aload_n 0, 1) := by decide +kernel
theorem dX7_findMeans_31 : decode cX7_findMeans 31 = .ok (.iconst 2, 1) := by decide +kernel
theorem dX7_findMeans_32 : decode cX7_findMeans 32 = .ok (.iload_n 2, 1) := by decide +kernel
theorem dX7_findMeans_33 : decode cX7_findMeans 33 = .ok (.imul, 1) := by decide +kernel
theorem dX7_findMeans_34 : decode cX7_findMeans 34 = .ok (.iconst 1, 1) := by decide +kernel
theorem dX7_findMeans_35 : decode cX7_findMeans 35 = .ok (.iadd, 1) := by decide +kernel
theorem dX7_findMeans_36 : decode cX7_findMeans 36 = .ok (.invokevirtual 189, 3) := by decide +kernel
theorem dX7_findMeans_39 : decode cX7_findMeans 39 = .ok (.iload 4, 2) := by decide +kernel
theorem dX7_findMeans_41 : decode cX7_findMeans 41 = .ok (.i2l, 1) := by decide +kernel
theorem dX7_findMeans_42 : decode cX7_findMeans 42 = .ok (.lmul, 1) := by decide +kernel
theorem dX7_findMeans_43 : decode cX7_findMeans 43 = .ok (.aload_n 0, 1) := by decide +kernel
theorem dX7_findMeans_44 : decode cX7_findMeans 44 = .ok (.iconst 2, 1) := by decide +kernel
theorem dX7_findMeans_45 : decode cX7_findMeans 45 = .ok (.iload_n 2, 1) := by decide +kernel
theorem dX7_findMeans_46 : decode cX7_findMeans 46 = .ok (.imul, 1) := by decide +kernel
theorem dX7_findMeans_47 : decode cX7_findMeans 47 = .ok (.iconst 2, 1) := by decide +kernel
theorem dX7_findMeans_48 : decode cX7_findMeans 48 = .ok (.iadd, 1) := by decide +kernel
theorem dX7_findMeans_49 : decode cX7_findMeans 49 = .ok (.invokevirtual 189, 3) := by decide +kernel
theorem dX7_findMeans_52 : decode cX7_findMeans 52 = .ok (.bipush 10, 2) := by decide +kernel
theorem dX7_findMeans_54 : decode cX7_findMeans 54 = .ok (.iload 4, 2) := by decide +kernel
theorem dX7_findMeans_56 : decode cX7_findMeans 56 = .ok (.isub, 1) := by decide +kernel
theorem dX7_findMeans_57 : decode cX7_findMeans 57 = .ok (.i2l, 1) := by decide +kernel
theorem dX7_findMeans_58 : decode cX7_findMeans 58 = .ok (.lmul, 1) := by decide +kernel
theorem dX7_findMeans_59 : decode cX7_findMeans 59 = .ok (.ladd, 1) := by decide +kernel
theorem dX7_findMeans_60 : decode cX7_findMeans 60 = .ok (.ldc2_w 193, 3) := by decide +kernel
theorem dX7_findMeans_63 : decode cX7_findMeans 63 = .ok (.ldiv, 1) := by decide +kernel
theorem dX7_findMeans_64 : decode cX7_findMeans 64 = .ok (.ladd, 1) := by decide +kernel
theorem dX7_findMeans_65 : decode cX7_findMeans 65 = .ok (.lstore 5, 2) := by decide +kernel
theorem dX7_findMeans_67 : decode cX7_findMeans 67 = .ok (.ldc2_w 185, 3) := by decide +kernel
theorem dX7_findMeans_70 : decode cX7_findMeans 70 = .ok (.aload_n 0, 1) := by decide +kernel
theorem dX7_findMeans_71 : decode cX7_findMeans 71 = .ok (.iload_n 3, 1) := by decide +kernel
theorem dX7_findMeans_72 : decode cX7_findMeans 72 = .ok (.invokevirtual 195, 3) := by decide +kernel
theorem dX7_findMeans_75 : decode cX7_findMeans 75 = .ok (.i2l, 1) := by decide +kernel
theorem dX7_findMeans_76 : decode cX7_findMeans 76 = .ok (.lmul, 1) := by decide +kernel
theorem dX7_findMeans_77 : decode cX7_findMeans 77 = .ok (.lstore 7, 2) := by decide +kernel
theorem dX7_findMeans_79 : decode cX7_findMeans 79 = .ok (.aload_n 0, 1) := by decide +kernel
theorem dX7_findMeans_80 : decode cX7_findMeans 80 = .ok (.getfield 7, 3) := by decide +kernel
theorem dX7_findMeans_83 : decode cX7_findMeans 83 = .ok (.bipush 122, 2) := by decide +kernel
theorem dX7_findMeans_85 : decode cX7_findMeans 85 = .ok (.iload_n 2, 1) := by decide +kernel
theorem dX7_findMeans_86 : decode cX7_findMeans 86 = .ok (.iadd, 1) := by decide +kernel
theorem dX7_findMeans_87 : decode cX7_findMeans 87 = .ok (.iaload, 1) := by decide +kernel
theorem dX7_findMeans_88 : decode cX7_findMeans 88 = .ok (.istore 9, 2) := by decide +kernel
theorem dX7_findMeans_90 : decode cX7_findMeans 90 = .ok (.aload_n 0, 1) := by decide +kernel
theorem dX7_findMeans_91 : decode cX7_findMeans 91 = .ok (.getfield 29, 3) := by decide +kernel
theorem dX7_findMeans_94 : decode cX7_findMeans 94 = .ok (.iload_n 2, 1) := by decide +kernel
theorem dX7_findMeans_95 : decode cX7_findMeans 95 = .ok (.iload 9, 2) := by decide +kernel
theorem dX7_findMeans_97 : decode cX7_findMeans 97 = .ok (.iconst 1, 1) := by decide +kernel
theorem dX7_findMeans_98 : decode cX7_findMeans 98 = .ok (.if_icmp .eq 17, 3) := by decide +kernel
theorem dX7_findMeans_101 : decode cX7_findMeans 101 = .ok (.iload 9, 2) := by decide +kernel
theorem dX7_findMeans_103 : decode cX7_findMeans 103 = .ok (.iconst 2, 1) := by decide +kernel
theorem dX7_findMeans_104 : decode cX7_findMeans 104 = .ok (.if_icmp .ne 15, 3) := by decide +kernel
theorem dX7_findMeans_107 : decode cX7_findMeans 107 = .ok (.lload 7, 2) := by decide +kernel
theorem dX7_findMeans_109 : decode cX7_findMeans 109 = .ok (.lload 5, 2) := by decide +kernel
theorem dX7_findMeans_111 : decode cX7_findMeans 111 = .ok (.lcmp, 1) := by decide +kernel
theorem dX7_findMeans_112 : decode cX7_findMeans 112 = .ok (.ifCond .gt 7, 3) := by decide +kernel
theorem dX7_findMeans_115 : decode cX7_findMeans 115 = .ok (.iconst 1, 1) := by decide +kernel
theorem dX7_findMeans_116 : decode cX7_findMeans 116 = .ok (.goto 4, 3) := by decide +kernel
theorem dX7_findMeans_119 : decode cX7_findMeans 119 = .ok (.iconst 0, 1) := by decide +kernel
theorem dX7_findMeans_120 : decode cX7_findMeans 120 = .ok (.bastore, 1) := by decide +kernel
theorem dX7_findMeans_121 : decode cX7_findMeans 121 = .ok (.aload_n 0, 1) := by decide +kernel
theorem dX7_findMeans_122 : decode cX7_findMeans 122 = .ok (.getfield 32, 3) := by decide +kernel
theorem dX7_findMeans_125 : decode cX7_findMeans 125 = .ok (.iload_n 2, 1) := by decide +kernel
theorem dX7_findMeans_126 : decode cX7_findMeans 126 = .ok (.aload_n 0, 1) := by decide +kernel
theorem dX7_findMeans_127 : decode cX7_findMeans 127 = .ok (.getfield 29, 3) := by decide +kernel
theorem dX7_findMeans_130 : decode cX7_findMeans 130 = .ok (.iload_n 2, 1) := by decide +kernel
theorem dX7_findMeans_131 : decode cX7_findMeans 131 = .ok (.baload, 1) := by decide +kernel
theorem dX7_findMeans_132 : decode cX7_findMeans 132 = .ok (.ifCond .eq 8, 3) := by decide +kernel
theorem dX7_findMeans_135 : decode cX7_findMeans 135 = .ok (.lload 7, 2) := by decide +kernel
theorem dX7_findMeans_137 : decode cX7_findMeans 137 = .ok (.goto 5, 3) := by decide +kernel
theorem dX7_findMeans_140 : decode cX7_findMeans 140 = .ok (.lload 5, 2) := by decide +kernel
theorem dX7_findMeans_142 : decode cX7_findMeans 142 = .ok (.lastore, 1) := by decide +kernel
theorem dX7_findMeans_143 : decode cX7_findMeans 143 = .ok (.iinc 2 (-1), 3) := by decide +kernel
theorem dX7_findMeans_146 : decode cX7_findMeans 146 = .ok (.goto (-137), 3) := by decide +kernel
theorem dX7_findMeans_149 : decode cX7_findMeans 149 = .ok (.iconst 0, 1) := by decide +kernel
theorem dX7_findMeans_150 : decode cX7_findMeans 150 = .ok (.istore_n 2, 1) := by decide +kernel
theorem dX7_findMeans_151 : decode cX7_findMeans 151 = .ok (.iload_n 2, 1) := by decide +kernel
theorem dX7_findMeans_152 : decode cX7_findMeans 152 = .ok (.iload_n 1, 1) := by decide +kernel
theorem dX7_findMeans_153 : decode cX7_findMeans 153 = .ok (.if_icmp .ge 56, 3) := by decide +kernel
theorem dX7_findMeans_156 : decode cX7_findMeans 156 = .ok (.aload_n 0, 1) := by decide +kernel
theorem dX7_findMeans_157 : decode cX7_findMeans 157 = .ok (.iconst 2, 1) := by decide +kernel
theorem dX7_findMeans_158 : decode cX7_findMeans 158 = .ok (.iload_n 2, 1) := by decide +kernel
theorem dX7_findMeans_159 : decode cX7_findMeans 159 = .ok (.imul, 1) := by decide +kernel
theorem dX7_findMeans_160 : decode cX7_findMeans 160 = .ok (.iconst 1, 1) := by decide +kernel
theorem dX7_findMeans_161 : decode cX7_findMeans 161 = .ok (.iadd, 1) := by decide +kernel
theorem dX7_findMeans_162 : decode cX7_findMeans 162 = .ok (.invokevirtual 169, 3) := by decide +kernel
theorem dX7_findMeans_165 : decode cX7_findMeans 165 = .ok (.istore_n 3, 1) := by decide +kernel
theorem dX7_findMeans_166 : decode cX7_findMeans 166 = .ok (.aload_n 0, 1) := by decide +kernel
theorem dX7_findMeans_167 : decode cX7_findMeans 167 = .ok (.getfield 36, 3) := by decide +kernel
theorem dX7_findMeans_170 : decode cX7_findMeans 170 = .ok (.iload_n 2, 1) := by decide +kernel
theorem dX7_findMeans_171 : decode cX7_findMeans 171 = .ok (.aload_n 0, 1) := by decide +kernel
theorem dX7_findMeans_172 : decode cX7_findMeans 172 = .ok (.getfield 29, 3) := by decide +kernel
theorem dX7_findMeans_175 : decode cX7_findMeans 175 = .ok (.iload_n 2, 1) := by decide +kernel
theorem dX7_findMeans_176 : decode cX7_findMeans 176 = .ok (.baload, 1) := by decide +kernel
theorem dX7_findMeans_177 : decode cX7_findMeans 177 = .ok (.ifCond .ne 20, 3) := by decide +kernel
theorem dX7_findMeans_180 : decode cX7_findMeans 180 = .ok (.iload_n 3, 1) := by decide +kernel
theorem dX7_findMeans_181 : decode cX7_findMeans 181 = .ok (.ifCond .le 20, 3) := by decide +kernel
theorem dX7_findMeans_184 : decode cX7_findMeans 184 = .ok (.aload_n 0, 1) := by decide +kernel
theorem dX7_findMeans_185 : decode cX7_findMeans 185 = .ok (.getfield 36, 3) := by decide +kernel
theorem dX7_findMeans_188 : decode cX7_findMeans 188 = .ok (.iload_n 3, 1) := by decide +kernel
theorem dX7_findMeans_189 : decode cX7_findMeans 189 = .ok (.iconst 1, 1) := by decide +kernel
theorem dX7_findMeans_190 : decode cX7_findMeans 190 = .ok (.isub, 1) := by decide +kernel
theorem dX7_findMeans_191 : decode cX7_findMeans 191 = .ok (.iconst 2, 1) := by decide +kernel
theorem dX7_findMeans_192 : decode cX7_findMeans 192 = .ok (.idiv, 1) := by decide +kernel
theorem dX7_findMeans_193 : decode cX7_findMeans 193 = .ok (.baload, 1) := by decide +kernel
theorem dX7_findMeans_194 : decode cX7_findMeans 194 = .ok (.ifCond .eq 7, 3) := by decide +kernel
theorem dX7_findMeans_197 : decode cX7_findMeans 197 = .ok (.iconst 1, 1) := by decide +kernel
theorem dX7_findMeans_198 : decode cX7_findMeans 198 = .ok (.goto 4, 3) := by decide +kernel
theorem dX7_findMeans_201 : decode cX7_findMeans 201 = .ok (.iconst 0, 1) := by decide +kernel
theorem dX7_findMeans_202 : decode cX7_findMeans 202 = .ok (.bastore, 1) := by decide +kernel
theorem dX7_findMeans_203 : decode cX7_findMeans 203 = .ok (.iinc 2 1, 3) := by decide +kernel
theorem dX7_findMeans_206 : decode cX7_findMeans 206 = .ok (.goto (-55), 3) := by decide +kernel
theorem dX7_findMeans_209 : decode cX7_findMeans 209 = .ok (.return_, 1) := by decide +kernel
theorem dX7_guardedMany_0 : decode cX7_guardedMany 0 = .ok (.aload_n 0, 1) := by decide +kernel
theorem dX7_guardedMany_1 : decode cX7_guardedMany 1 = .ok (.invokevirtual 198, 3) := by decide +kernel
theorem dX7_guardedMany_4 : decode cX7_guardedMany 4 = .ok (.iconst 0, 1) := by decide +kernel
theorem dX7_guardedMany_5 : decode cX7_guardedMany 5 = .ok (.istore_n 1, 1) := by decide +kernel
theorem dX7_guardedMany_6 : decode cX7_guardedMany 6 = .ok (.iconst 0, 1) := by decide +kernel
theorem dX7_guardedMany_7 : decode cX7_guardedMany 7 = .ok (.istore_n 2, 1) := by decide +kernel
theorem dX7_guardedMany_8 : decode cX7_guardedMany 8 = .ok (.iload_n 2, 1) := by decide +kernel
theorem dX7_guardedMany_9 : decode cX7_guardedMany 9 = .ok (.aload_n 0, 1) := by decide +kernel
theorem dX7_guardedMany_10 : decode cX7_guardedMany 10 = .ok (.invokevirtual 163, 3) := by decide +kernel
theorem dX7_guardedMany_13 : decode cX7_guardedMany 13 = .ok (.if_icmp .ge 21, 3) := by decide +kernel
theorem dX7_guardedMany_16 : decode cX7_guardedMany 16 = .ok (.iload_n 1, 1) := by decide +kernel
theorem dX7_guardedMany_17 : decode cX7_guardedMany 17 = .ok (.aload_n 0, 1) := by decide +kernel
theorem dX7_guardedMany_18 : decode cX7_guardedMany 18 = .ok (.getfield 36, 3) := by decide +kernel
theorem dX7_guardedMany_21 : decode cX7_guardedMany 21 = .ok (.iload_n 2, 1) := by decide +kernel
theorem dX7_guardedMany_22 : decode cX7_guardedMany 22 = .ok (.baload, 1) := by decide +kernel
theorem dX7_guardedMany_23 : decode cX7_guardedMany 23 = .ok (.invokestatic 159, 3) := by decide +kernel
theorem dX7_guardedMany_26 : decode cX7_guardedMany 26 = .ok (.iadd, 1) := by decide +kernel
theorem dX7_guardedMany_27 : decode cX7_guardedMany 27 = .ok (.istore_n 1, 1) := by decide +kernel
theorem dX7_guardedMany_28 : decode cX7_guardedMany 28 = .ok (.iinc 2 1, 3) := by decide +kernel
theorem dX7_guardedMany_31 : decode cX7_guardedMany 31 = .ok (.goto (-23), 3) := by decide +kernel
theorem dX7_guardedMany_34 : decode cX7_guardedMany 34 = .ok (.iload_n 1, 1) := by decide +kernel
theorem dX7_guardedMany_35 : decode cX7_guardedMany 35 = .ok (.ireturn, 1) := by decide +kernel
theorem dX7_rule_0 : decode cX7_rule 0 = .ok (.iload_n 1, 1) := by decide +kernel
theorem dX7_rule_1 : decode cX7_rule 1 = .ok (.tableswitch 75 0 5 #[39, 47, 52, 57, 65, 70], 39) := by decide +kernel
theorem dX7_rule_40 : decode cX7_rule 40 = .ok (.aload_n 0, 1) := by decide +kernel
theorem dX7_rule_41 : decode cX7_rule 41 = .ok (.getfield 7, 3) := by decide +kernel
theorem dX7_rule_44 : decode cX7_rule 44 = .ok (.bipush 120, 2) := by decide +kernel
theorem dX7_rule_46 : decode cX7_rule 46 = .ok (.iaload, 1) := by decide +kernel
theorem dX7_rule_47 : decode cX7_rule 47 = .ok (.ireturn, 1) := by decide +kernel
theorem dX7_rule_48 : decode cX7_rule 48 = .ok (.aload_n 0, 1) := by decide +kernel
theorem dX7_rule_49 : decode cX7_rule 49 = .ok (.invokevirtual 163, 3) := by decide +kernel
theorem dX7_rule_52 : decode cX7_rule 52 = .ok (.ireturn, 1) := by decide +kernel
theorem dX7_rule_53 : decode cX7_rule 53 = .ok (.aload_n 0, 1) := by decide +kernel
theorem dX7_rule_54 : decode cX7_rule 54 = .ok (.invokevirtual 201, 3) := by decide +kernel
theorem dX7_rule_57 : decode cX7_rule 57 = .ok (.ireturn, 1) := by decide +kernel
theorem dX7_rule_58 : decode cX7_rule 58 = .ok (.aload_n 0, 1) := by decide +kernel
theorem dX7_rule_59 : decode cX7_rule 59 = .ok (.getfield 7, 3) := by decide +kernel
theorem dX7_rule_62 : decode cX7_rule 62 = .ok (.bipush 121, 2) := by decide +kernel
theorem dX7_rule_64 : decode cX7_rule 64 = .ok (.iaload, 1) := by decide +kernel
theorem dX7_rule_65 : decode cX7_rule 65 = .ok (.ireturn, 1) := by decide +kernel
theorem dX7_rule_66 : decode cX7_rule 66 = .ok (.aload_n 0, 1) := by decide +kernel
theorem dX7_rule_67 : decode cX7_rule 67 = .ok (.invokevirtual 204, 3) := by decide +kernel
theorem dX7_rule_70 : decode cX7_rule 70 = .ok (.ireturn, 1) := by decide +kernel
theorem dX7_rule_71 : decode cX7_rule 71 = .ok (.aload_n 0, 1) := by decide +kernel
theorem dX7_rule_72 : decode cX7_rule 72 = .ok (.invokevirtual 207, 3) := by decide +kernel
theorem dX7_rule_75 : decode cX7_rule 75 = .ok (.ireturn, 1) := by decide +kernel
theorem dX7_rule_76 : decode cX7_rule 76 = .ok (.iconst (-1), 1) := by decide +kernel
theorem dX7_rule_77 : decode cX7_rule 77 = .ok (.ireturn, 1) := by decide +kernel
theorem dX7_code_0 : decode cX7_code 0 = .ok (.aload_n 0, 1) := by decide +kernel
theorem dX7_code_1 : decode cX7_code 1 = .ok (.iload_n 1, 1) := by decide +kernel
theorem dX7_code_2 : decode cX7_code 2 = .ok (.invokevirtual 210, 3) := by decide +kernel
theorem dX7_code_5 : decode cX7_code 5 = .ok (.ifCond .ne 5, 3) := by decide +kernel
theorem dX7_code_8 : decode cX7_code 8 = .ok (.iconst (-1), 1) := by decide +kernel
theorem dX7_code_9 : decode cX7_code 9 = .ok (.ireturn, 1) := by decide +kernel
theorem dX7_code_10 : decode cX7_code 10 = .ok (.aload_n 0, 1) := by decide +kernel
theorem dX7_code_11 : decode cX7_code 11 = .ok (.iload_n 1, 1) := by decide +kernel
theorem dX7_code_12 : decode cX7_code 12 = .ok (.iconst 0, 1) := by decide +kernel
theorem dX7_code_13 : decode cX7_code 13 = .ok (.invokevirtual 156, 3) := by decide +kernel
theorem dX7_code_16 : decode cX7_code 16 = .ok (.ifCond .eq 13, 3) := by decide +kernel
theorem dX7_code_19 : decode cX7_code 19 = .ok (.aload_n 0, 1) := by decide +kernel
theorem dX7_code_20 : decode cX7_code 20 = .ok (.iload_n 1, 1) := by decide +kernel
theorem dX7_code_21 : decode cX7_code 21 = .ok (.iconst 0, 1) := by decide +kernel
theorem dX7_code_22 : decode cX7_code 22 = .ok (.invokevirtual 156, 3) := by decide +kernel
theorem dX7_code_25 : decode cX7_code 25 = .ok (.iconst 5, 1) := by decide +kernel
theorem dX7_code_26 : decode cX7_code 26 = .ok (.if_icmp .ne 7, 3) := by decide +kernel
theorem dX7_code_29 : decode cX7_code 29 = .ok (.iconst 1, 1) := by decide +kernel
theorem dX7_code_30 : decode cX7_code 30 = .ok (.goto 4, 3) := by decide +kernel
theorem dX7_code_33 : decode cX7_code 33 = .ok (.iconst 0, 1) := by decide +kernel
theorem dX7_code_34 : decode cX7_code 34 = .ok (.istore_n 3, 1) := by decide +kernel
theorem dX7_code_35 : decode cX7_code 35 = .ok (.iload_n 2, 1) := by decide +kernel
theorem dX7_code_36 : decode cX7_code 36 = .ok (.tableswitch 94 0 6 #[44, 44, 44, 51, 44, 67, 73], 44) := by decide +kernel
theorem dX7_code_80 : decode cX7_code 80 = .ok (.aload_n 0, 1) := by decide +kernel
theorem dX7_code_81 : decode cX7_code 81 = .ok (.iload_n 1, 1) := by decide +kernel
theorem dX7_code_82 : decode cX7_code 82 = .ok (.iload_n 2, 1) := by decide +kernel
theorem dX7_code_83 : decode cX7_code 83 = .ok (.invokevirtual 156, 3) := by decide +kernel
theorem dX7_code_86 : decode cX7_code 86 = .ok (.ireturn, 1) := by decide +kernel
theorem dX7_code_87 : decode cX7_code 87 = .ok (.iload_n 3, 1) := by decide +kernel
theorem dX7_code_88 : decode cX7_code 88 = .ok (.ifCond .eq 8, 3) := by decide +kernel
theorem dX7_code_91 : decode cX7_code 91 = .ok (.bipush (-4), 2) := by decide +kernel
theorem dX7_code_93 : decode cX7_code 93 = .ok (.goto 9, 3) := by decide +kernel
theorem dX7_code_96 : decode cX7_code 96 = .ok (.aload_n 0, 1) := by decide +kernel
theorem dX7_code_97 : decode cX7_code 97 = .ok (.iload_n 1, 1) := by decide +kernel
theorem dX7_code_98 : decode cX7_code 98 = .ok (.iconst 3, 1) := by decide +kernel
theorem dX7_code_99 : decode cX7_code 99 = .ok (.invokevirtual 156, 3) := by decide +kernel
theorem dX7_code_102 : decode cX7_code 102 = .ok (.ireturn, 1) := by decide +kernel
theorem dX7_code_103 : decode cX7_code 103 = .ok (.aload_n 0, 1) := by decide +kernel
theorem dX7_code_104 : decode cX7_code 104 = .ok (.iload_n 1, 1) := by decide +kernel
theorem dX7_code_105 : decode cX7_code 105 = .ok (.invokevirtual 195, 3) := by decide +kernel
theorem dX7_code_108 : decode cX7_code 108 = .ok (.ireturn, 1) := by decide +kernel
theorem dX7_code_109 : decode cX7_code 109 = .ok (.aload_n 0, 1) := by decide +kernel
theorem dX7_code_110 : decode cX7_code 110 = .ok (.iload_n 1, 1) := by decide +kernel
theorem dX7_code_111 : decode cX7_code 111 = .ok (.iconst 0, 1) := by decide +kernel
theorem dX7_code_112 : decode cX7_code 112 = .ok (.invokevirtual 156, 3) := by decide +kernel
theorem dX7_code_115 : decode cX7_code 115 = .ok (.iconst 5, 1) := by decide +kernel
theorem dX7_code_116 : decode cX7_code 116 = .ok (.if_icmp .ne 11, 3) := by decide +kernel
theorem dX7_code_119 : decode cX7_code 119 = .ok (.aload_n 0, 1) := by decide +kernel
theorem dX7_code_120 : decode cX7_code 120 = .ok (.iload_n 1, 1) := by decide +kernel
theorem dX7_code_121 : decode cX7_code 121 = .ok (.invokevirtual 175, 3) := by decide +kernel
theorem dX7_code_124 : decode cX7_code 124 = .ok (.goto 5, 3) := by decide +kernel
theorem dX7_code_127 : decode cX7_code 127 = .ok (.bipush (-4), 2) := by decide +kernel
theorem dX7_code_129 : decode cX7_code 129 = .ok (.ireturn, 1) := by decide +kernel
theorem dX7_code_130 : decode cX7_code 130 = .ok (.iconst (-1), 1) := by decide +kernel
theorem dX7_code_131 : decode cX7_code 131 = .ok (.ireturn, 1) := by decide +kernel
theorem dX7_standUnder_0 : decode cX7_standUnder 0 = .ok (.iconst 0, 1) := by decide +kernel
theorem dX7_standUnder_1 : decode cX7_standUnder 1 = .ok (.istore_n 2, 1) := by decide +kernel
theorem dX7_standUnder_2 : decode cX7_standUnder 2 = .ok (.iconst 0, 1) := by decide +kernel
theorem dX7_standUnder_3 : decode cX7_standUnder 3 = .ok (.istore_n 3, 1) := by decide +kernel
theorem dX7_standUnder_4 : decode cX7_standUnder 4 = .ok (.iload_n 3, 1) := by decide +kernel
theorem dX7_standUnder_5 : decode cX7_standUnder 5 = .ok (.aload_n 0, 1) := by decide +kernel
theorem dX7_standUnder_6 : decode cX7_standUnder 6 = .ok (.getfield 7, 3) := by decide +kernel
theorem dX7_standUnder_9 : decode cX7_standUnder 9 = .ok (.bipush 120, 2) := by decide +kernel
theorem dX7_standUnder_11 : decode cX7_standUnder 11 = .ok (.iaload, 1) := by decide +kernel
theorem dX7_standUnder_12 : decode cX7_standUnder 12 = .ok (.if_icmp .ge 30, 3) := by decide +kernel
theorem dX7_standUnder_15 : decode cX7_standUnder 15 = .ok (.iload_n 2, 1) := by decide +kernel
theorem dX7_standUnder_16 : decode cX7_standUnder 16 = .ok (.aload_n 0, 1) := by decide +kernel
theorem dX7_standUnder_17 : decode cX7_standUnder 17 = .ok (.iload_n 3, 1) := by decide +kernel
theorem dX7_standUnder_18 : decode cX7_standUnder 18 = .ok (.iconst 4, 1) := by decide +kernel
theorem dX7_standUnder_19 : decode cX7_standUnder 19 = .ok (.invokevirtual 156, 3) := by decide +kernel
theorem dX7_standUnder_22 : decode cX7_standUnder 22 = .ok (.iload_n 1, 1) := by decide +kernel
theorem dX7_standUnder_23 : decode cX7_standUnder 23 = .ok (.if_icmp .ne 7, 3) := by decide +kernel
theorem dX7_standUnder_26 : decode cX7_standUnder 26 = .ok (.iconst 1, 1) := by decide +kernel
theorem dX7_standUnder_27 : decode cX7_standUnder 27 = .ok (.goto 4, 3) := by decide +kernel
theorem dX7_standUnder_30 : decode cX7_standUnder 30 = .ok (.iconst 0, 1) := by decide +kernel
theorem dX7_standUnder_31 : decode cX7_standUnder 31 = .ok (.invokestatic 159, 3) := by decide +kernel
theorem dX7_standUnder_34 : decode cX7_standUnder 34 = .ok (.iadd, 1) := by decide +kernel
theorem dX7_standUnder_35 : decode cX7_standUnder 35 = .ok (.istore_n 2, 1) := by decide +kernel
theorem dX7_standUnder_36 : decode cX7_standUnder 36 = .ok (.iinc 3 1, 3) := by decide +kernel
theorem dX7_standUnder_39 : decode cX7_standUnder 39 = .ok (.goto (-35), 3) := by decide +kernel
theorem dX7_standUnder_42 : decode cX7_standUnder 42 = .ok (.iload_n 2, 1) := by decide +kernel
theorem dX7_standUnder_43 : decode cX7_standUnder 43 = .ok (.ireturn, 1) := by decide +kernel
theorem dX7_guard_0 : decode cX7_guard 0 = .ok (.aload_n 0, 1) := by decide +kernel
theorem dX7_guard_1 : decode cX7_guard 1 = .ok (.iload_n 1, 1) := by decide +kernel
theorem dX7_guard_2 : decode cX7_guard 2 = .ok (.invokevirtual 214, 3) := by decide +kernel
theorem dX7_guard_5 : decode cX7_guard 5 = .ok (.ifCond .ne 5, 3) := by decide +kernel
theorem dX7_guard_8 : decode cX7_guard 8 = .ok (.iconst (-1), 1) := by decide +kernel
theorem dX7_guard_9 : decode cX7_guard 9 = .ok (.ireturn, 1) := by decide +kernel
theorem dX7_guard_10 : decode cX7_guard 10 = .ok (.iload_n 2, 1) := by decide +kernel
theorem dX7_guard_11 : decode cX7_guard 11 = .ok (.tableswitch 66 0 3 #[29, 35, 54, 60], 29) := by decide +kernel
theorem dX7_guard_40 : decode cX7_guard 40 = .ok (.aload_n 0, 1) := by decide +kernel
theorem dX7_guard_41 : decode cX7_guard 41 = .ok (.iload_n 1, 1) := by decide +kernel
theorem dX7_guard_42 : decode cX7_guard 42 = .ok (.invokevirtual 169, 3) := by decide +kernel
theorem dX7_guard_45 : decode cX7_guard 45 = .ok (.ireturn, 1) := by decide +kernel
theorem dX7_guard_46 : decode cX7_guard 46 = .ok (.iload_n 1, 1) := by decide +kernel
theorem dX7_guard_47 : decode cX7_guard 47 = .ok (.ifCond .ne 8, 3) := by decide +kernel
theorem dX7_guard_50 : decode cX7_guard 50 = .ok (.bipush (-4), 2) := by decide +kernel
theorem dX7_guard_52 : decode cX7_guard 52 = .ok (.goto 12, 3) := by decide +kernel
theorem dX7_guard_55 : decode cX7_guard 55 = .ok (.aload_n 0, 1) := by decide +kernel
theorem dX7_guard_56 : decode cX7_guard 56 = .ok (.iload_n 1, 1) := by decide +kernel
theorem dX7_guard_57 : decode cX7_guard 57 = .ok (.iconst 1, 1) := by decide +kernel
theorem dX7_guard_58 : decode cX7_guard 58 = .ok (.isub, 1) := by decide +kernel
theorem dX7_guard_59 : decode cX7_guard 59 = .ok (.iconst 2, 1) := by decide +kernel
theorem dX7_guard_60 : decode cX7_guard 60 = .ok (.idiv, 1) := by decide +kernel
theorem dX7_guard_61 : decode cX7_guard 61 = .ok (.invokevirtual 166, 3) := by decide +kernel
theorem dX7_guard_64 : decode cX7_guard 64 = .ok (.ireturn, 1) := by decide +kernel
theorem dX7_guard_65 : decode cX7_guard 65 = .ok (.aload_n 0, 1) := by decide +kernel
theorem dX7_guard_66 : decode cX7_guard 66 = .ok (.iload_n 1, 1) := by decide +kernel
theorem dX7_guard_67 : decode cX7_guard 67 = .ok (.invokevirtual 182, 3) := by decide +kernel
theorem dX7_guard_70 : decode cX7_guard 70 = .ok (.ireturn, 1) := by decide +kernel
theorem dX7_guard_71 : decode cX7_guard 71 = .ok (.aload_n 0, 1) := by decide +kernel
theorem dX7_guard_72 : decode cX7_guard 72 = .ok (.iload_n 1, 1) := by decide +kernel
theorem dX7_guard_73 : decode cX7_guard 73 = .ok (.invokevirtual 217, 3) := by decide +kernel
theorem dX7_guard_76 : decode cX7_guard 76 = .ok (.ireturn, 1) := by decide +kernel
theorem dX7_guard_77 : decode cX7_guard 77 = .ok (.iconst (-1), 1) := by decide +kernel
theorem dX7_guard_78 : decode cX7_guard 78 = .ok (.ireturn, 1) := by decide +kernel
theorem dX7_within_0 : decode cX7_within 0 = .ok (.aload_n 0, 1) := by decide +kernel
theorem dX7_within_1 : decode cX7_within 1 = .ok (.iload_n 1, 1) := by decide +kernel
theorem dX7_within_2 : decode cX7_within 2 = .ok (.invokevirtual 214, 3) := by decide +kernel
theorem dX7_within_5 : decode cX7_within 5 = .ok (.ifCond .eq 23, 3) := by decide +kernel
theorem dX7_within_8 : decode cX7_within 8 = .ok (.aload_n 0, 1) := by decide +kernel
theorem dX7_within_9 : decode cX7_within 9 = .ok (.iload_n 2, 1) := by decide +kernel
theorem dX7_within_10 : decode cX7_within 10 = .ok (.invokevirtual 214, 3) := by decide +kernel
theorem dX7_within_13 : decode cX7_within 13 = .ok (.ifCond .eq 15, 3) := by decide +kernel
theorem dX7_within_16 : decode cX7_within 16 = .ok (.aload_n 0, 1) := by decide +kernel
theorem dX7_within_17 : decode cX7_within 17 = .ok (.iload_n 1, 1) := by decide +kernel
theorem dX7_within_18 : decode cX7_within 18 = .ok (.iload_n 2, 1) := by decide +kernel
theorem dX7_within_19 : decode cX7_within 19 = .ok (.invokevirtual 178, 3) := by decide +kernel
theorem dX7_within_22 : decode cX7_within 22 = .ok (.invokestatic 159, 3) := by decide +kernel
theorem dX7_within_25 : decode cX7_within 25 = .ok (.goto 4, 3) := by decide +kernel
theorem dX7_within_28 : decode cX7_within 28 = .ok (.iconst (-1), 1) := by decide +kernel
theorem dX7_within_29 : decode cX7_within 29 = .ok (.ireturn, 1) := by decide +kernel
theorem dX7_holdsBy_0 : decode cX7_holdsBy 0 = .ok (.iconst 1, 1) := by decide +kernel
theorem dX7_holdsBy_1 : decode cX7_holdsBy 1 = .ok (.istore_n 3, 1) := by decide +kernel
theorem dX7_holdsBy_2 : decode cX7_holdsBy 2 = .ok (.iload_n 1, 1) := by decide +kernel
theorem dX7_holdsBy_3 : decode cX7_holdsBy 3 = .ok (.istore 4, 2) := by decide +kernel
theorem dX7_holdsBy_5 : decode cX7_holdsBy 5 = .ok (.iload 4, 2) := by decide +kernel
theorem dX7_holdsBy_7 : decode cX7_holdsBy 7 = .ok (.ifCond .le 41, 3) := by decide +kernel
theorem dX7_holdsBy_10 : decode cX7_holdsBy 10 = .ok (.iload_n 3, 1) := by decide +kernel
theorem dX7_holdsBy_11 : decode cX7_holdsBy 11 = .ok (.ifCond .eq 24, 3) := by decide +kernel
theorem dX7_holdsBy_14 : decode cX7_holdsBy 14 = .ok (.iload_n 2, 1) := by decide +kernel
theorem dX7_holdsBy_15 : decode cX7_holdsBy 15 = .ok (.iload 4, 2) := by decide +kernel
theorem dX7_holdsBy_17 : decode cX7_holdsBy 17 = .ok (.iconst 1, 1) := by decide +kernel
theorem dX7_holdsBy_18 : decode cX7_holdsBy 18 = .ok (.isub, 1) := by decide +kernel
theorem dX7_holdsBy_19 : decode cX7_holdsBy 19 = .ok (.iconst 2, 1) := by decide +kernel
theorem dX7_holdsBy_20 : decode cX7_holdsBy 20 = .ok (.idiv, 1) := by decide +kernel
theorem dX7_holdsBy_21 : decode cX7_holdsBy 21 = .ok (.ishr, 1) := by decide +kernel
theorem dX7_holdsBy_22 : decode cX7_holdsBy 22 = .ok (.iconst 1, 1) := by decide +kernel
theorem dX7_holdsBy_23 : decode cX7_holdsBy 23 = .ok (.iand, 1) := by decide +kernel
theorem dX7_holdsBy_24 : decode cX7_holdsBy 24 = .ok (.iload 4, 2) := by decide +kernel
theorem dX7_holdsBy_26 : decode cX7_holdsBy 26 = .ok (.iconst 2, 1) := by decide +kernel
theorem dX7_holdsBy_27 : decode cX7_holdsBy 27 = .ok (.irem, 1) := by decide +kernel
theorem dX7_holdsBy_28 : decode cX7_holdsBy 28 = .ok (.if_icmp .ne 7, 3) := by decide +kernel
theorem dX7_holdsBy_31 : decode cX7_holdsBy 31 = .ok (.iconst 1, 1) := by decide +kernel
theorem dX7_holdsBy_32 : decode cX7_holdsBy 32 = .ok (.goto 4, 3) := by decide +kernel
theorem dX7_holdsBy_35 : decode cX7_holdsBy 35 = .ok (.iconst 0, 1) := by decide +kernel
theorem dX7_holdsBy_36 : decode cX7_holdsBy 36 = .ok (.istore_n 3, 1) := by decide +kernel
theorem dX7_holdsBy_37 : decode cX7_holdsBy 37 = .ok (.aload_n 0, 1) := by decide +kernel
theorem dX7_holdsBy_38 : decode cX7_holdsBy 38 = .ok (.iload 4, 2) := by decide +kernel
theorem dX7_holdsBy_40 : decode cX7_holdsBy 40 = .ok (.invokevirtual 169, 3) := by decide +kernel
theorem dX7_holdsBy_43 : decode cX7_holdsBy 43 = .ok (.istore 4, 2) := by decide +kernel
theorem dX7_holdsBy_45 : decode cX7_holdsBy 45 = .ok (.goto (-40), 3) := by decide +kernel
theorem dX7_holdsBy_48 : decode cX7_holdsBy 48 = .ok (.iload_n 3, 1) := by decide +kernel
theorem dX7_holdsBy_49 : decode cX7_holdsBy 49 = .ok (.ireturn, 1) := by decide +kernel
theorem dX7_apart_0 : decode cX7_apart 0 = .ok (.aload_n 0, 1) := by decide +kernel
theorem dX7_apart_1 : decode cX7_apart 1 = .ok (.iload_n 1, 1) := by decide +kernel
theorem dX7_apart_2 : decode cX7_apart 2 = .ok (.invokevirtual 214, 3) := by decide +kernel
theorem dX7_apart_5 : decode cX7_apart 5 = .ok (.ifCond .eq 11, 3) := by decide +kernel
theorem dX7_apart_8 : decode cX7_apart 8 = .ok (.aload_n 0, 1) := by decide +kernel
theorem dX7_apart_9 : decode cX7_apart 9 = .ok (.iload_n 2, 1) := by decide +kernel
theorem dX7_apart_10 : decode cX7_apart 10 = .ok (.invokevirtual 214, 3) := by decide +kernel
theorem dX7_apart_13 : decode cX7_apart 13 = .ok (.ifCond .ne 5, 3) := by decide +kernel
theorem dX7_apart_16 : decode cX7_apart 16 = .ok (.iconst (-1), 1) := by decide +kernel
theorem dX7_apart_17 : decode cX7_apart 17 = .ok (.ireturn, 1) := by decide +kernel
theorem dX7_apart_18 : decode cX7_apart 18 = .ok (.iconst 0, 1) := by decide +kernel
theorem dX7_apart_19 : decode cX7_apart 19 = .ok (.istore_n 3, 1) := by decide +kernel
theorem dX7_apart_20 : decode cX7_apart 20 = .ok (.iconst 0, 1) := by decide +kernel
theorem dX7_apart_21 : decode cX7_apart 21 = .ok (.istore 4, 2) := by decide +kernel
theorem dX7_apart_23 : decode cX7_apart 23 = .ok (.iload 4, 2) := by decide +kernel
theorem dX7_apart_25 : decode cX7_apart 25 = .ok (.iconst 1, 1) := by decide +kernel
theorem dX7_apart_26 : decode cX7_apart 26 = .ok (.aload_n 0, 1) := by decide +kernel
theorem dX7_apart_27 : decode cX7_apart 27 = .ok (.invokevirtual 163, 3) := by decide +kernel
theorem dX7_apart_30 : decode cX7_apart 30 = .ok (.ishl, 1) := by decide +kernel
theorem dX7_apart_31 : decode cX7_apart 31 = .ok (.if_icmp .ge 39, 3) := by decide +kernel
theorem dX7_apart_34 : decode cX7_apart 34 = .ok (.iload_n 3, 1) := by decide +kernel
theorem dX7_apart_35 : decode cX7_apart 35 = .ok (.ifCond .ne 23, 3) := by decide +kernel
theorem dX7_apart_38 : decode cX7_apart 38 = .ok (.aload_n 0, 1) := by decide +kernel
theorem dX7_apart_39 : decode cX7_apart 39 = .ok (.iload_n 1, 1) := by decide +kernel
theorem dX7_apart_40 : decode cX7_apart 40 = .ok (.iload 4, 2) := by decide +kernel
theorem dX7_apart_42 : decode cX7_apart 42 = .ok (.invokevirtual 220, 3) := by decide +kernel
theorem dX7_apart_45 : decode cX7_apart 45 = .ok (.ifCond .eq 17, 3) := by decide +kernel
theorem dX7_apart_48 : decode cX7_apart 48 = .ok (.aload_n 0, 1) := by decide +kernel
theorem dX7_apart_49 : decode cX7_apart 49 = .ok (.iload_n 2, 1) := by decide +kernel
theorem dX7_apart_50 : decode cX7_apart 50 = .ok (.iload 4, 2) := by decide +kernel
theorem dX7_apart_52 : decode cX7_apart 52 = .ok (.invokevirtual 220, 3) := by decide +kernel
theorem dX7_apart_55 : decode cX7_apart 55 = .ok (.ifCond .eq 7, 3) := by decide +kernel
theorem dX7_apart_58 : decode cX7_apart 58 = .ok (.iconst 1, 1) := by decide +kernel
theorem dX7_apart_59 : decode cX7_apart 59 = .ok (.goto 4, 3) := by decide +kernel
theorem dX7_apart_62 : decode cX7_apart 62 = .ok (.iconst 0, 1) := by decide +kernel
theorem dX7_apart_63 : decode cX7_apart 63 = .ok (.istore_n 3, 1) := by decide +kernel
theorem dX7_apart_64 : decode cX7_apart 64 = .ok (.iinc 4 1, 3) := by decide +kernel
theorem dX7_apart_67 : decode cX7_apart 67 = .ok (.goto (-44), 3) := by decide +kernel
theorem dX7_apart_70 : decode cX7_apart 70 = .ok (.iload_n 3, 1) := by decide +kernel
theorem dX7_apart_71 : decode cX7_apart 71 = .ok (.ifCond .ne 7, 3) := by decide +kernel
theorem dX7_apart_74 : decode cX7_apart 74 = .ok (.iconst 1, 1) := by decide +kernel
theorem dX7_apart_75 : decode cX7_apart 75 = .ok (.goto 4, 3) := by decide +kernel
theorem dX7_apart_78 : decode cX7_apart 78 = .ok (.iconst 0, 1) := by decide +kernel
theorem dX7_apart_79 : decode cX7_apart 79 = .ok (.invokestatic 159, 3) := by decide +kernel
theorem dX7_apart_82 : decode cX7_apart 82 = .ok (.ireturn, 1) := by decide +kernel
theorem dX7_cover_0 : decode cX7_cover 0 = .ok (.iconst 2, 1) := by decide +kernel
theorem dX7_cover_1 : decode cX7_cover 1 = .ok (.aload_n 0, 1) := by decide +kernel
theorem dX7_cover_2 : decode cX7_cover 2 = .ok (.invokevirtual 163, 3) := by decide +kernel
theorem dX7_cover_5 : decode cX7_cover 5 = .ok (.imul, 1) := by decide +kernel
theorem dX7_cover_6 : decode cX7_cover 6 = .ok (.iconst 1, 1) := by decide +kernel
theorem dX7_cover_7 : decode cX7_cover 7 = .ok (.iadd, 1) := by decide +kernel
theorem dX7_cover_8 : decode cX7_cover 8 = .ok (.istore_n 3, 1) := by decide +kernel
theorem dX7_cover_9 : decode cX7_cover 9 = .ok (.aload_n 0, 1) := by decide +kernel
theorem dX7_cover_10 : decode cX7_cover 10 = .ok (.iload_n 1, 1) := by decide +kernel
theorem dX7_cover_11 : decode cX7_cover 11 = .ok (.invokevirtual 214, 3) := by decide +kernel
theorem dX7_cover_14 : decode cX7_cover 14 = .ok (.ifCond .eq 18, 3) := by decide +kernel
theorem dX7_cover_17 : decode cX7_cover 17 = .ok (.iload_n 2, 1) := by decide +kernel
theorem dX7_cover_18 : decode cX7_cover 18 = .ok (.i2l, 1) := by decide +kernel
theorem dX7_cover_19 : decode cX7_cover 19 = .ok (.lconst 0, 1) := by decide +kernel
theorem dX7_cover_20 : decode cX7_cover 20 = .ok (.iconst 1, 1) := by decide +kernel
theorem dX7_cover_21 : decode cX7_cover 21 = .ok (.iload_n 3, 1) := by decide +kernel
theorem dX7_cover_22 : decode cX7_cover 22 = .ok (.ishl, 1) := by decide +kernel
theorem dX7_cover_23 : decode cX7_cover 23 = .ok (.iconst 1, 1) := by decide +kernel
theorem dX7_cover_24 : decode cX7_cover 24 = .ok (.isub, 1) := by decide +kernel
theorem dX7_cover_25 : decode cX7_cover 25 = .ok (.i2l, 1) := by decide +kernel
theorem dX7_cover_26 : decode cX7_cover 26 = .ok (.invokestatic 78, 3) := by decide +kernel
theorem dX7_cover_29 : decode cX7_cover 29 = .ok (.ifCond .ne 5, 3) := by decide +kernel
theorem dX7_cover_32 : decode cX7_cover 32 = .ok (.iconst (-1), 1) := by decide +kernel
theorem dX7_cover_33 : decode cX7_cover 33 = .ok (.ireturn, 1) := by decide +kernel
theorem dX7_cover_34 : decode cX7_cover 34 = .ok (.iconst 1, 1) := by decide +kernel
theorem dX7_cover_35 : decode cX7_cover 35 = .ok (.istore 4, 2) := by decide +kernel
theorem dX7_cover_37 : decode cX7_cover 37 = .ok (.iconst 0, 1) := by decide +kernel
theorem dX7_cover_38 : decode cX7_cover 38 = .ok (.istore 5, 2) := by decide +kernel
theorem dX7_cover_40 : decode cX7_cover 40 = .ok (.iload 5, 2) := by decide +kernel
theorem dX7_cover_42 : decode cX7_cover 42 = .ok (.iconst 1, 1) := by decide +kernel
theorem dX7_cover_43 : decode cX7_cover 43 = .ok (.aload_n 0, 1) := by decide +kernel
theorem dX7_cover_44 : decode cX7_cover 44 = .ok (.invokevirtual 163, 3) := by decide +kernel
theorem dX7_cover_47 : decode cX7_cover 47 = .ok (.ishl, 1) := by decide +kernel
theorem dX7_cover_48 : decode cX7_cover 48 = .ok (.if_icmp .ge 87, 3) := by decide +kernel
theorem dX7_cover_51 : decode cX7_cover 51 = .ok (.iconst 0, 1) := by decide +kernel
theorem dX7_cover_52 : decode cX7_cover 52 = .ok (.istore 6, 2) := by decide +kernel
theorem dX7_cover_54 : decode cX7_cover 54 = .ok (.iconst 0, 1) := by decide +kernel
theorem dX7_cover_55 : decode cX7_cover 55 = .ok (.istore 7, 2) := by decide +kernel
theorem dX7_cover_57 : decode cX7_cover 57 = .ok (.iload 7, 2) := by decide +kernel
theorem dX7_cover_59 : decode cX7_cover 59 = .ok (.iload_n 3, 1) := by decide +kernel
theorem dX7_cover_60 : decode cX7_cover 60 = .ok (.if_icmp .ge 42, 3) := by decide +kernel
theorem dX7_cover_63 : decode cX7_cover 63 = .ok (.iload 6, 2) := by decide +kernel
theorem dX7_cover_65 : decode cX7_cover 65 = .ok (.ifCond .ne 24, 3) := by decide +kernel
theorem dX7_cover_68 : decode cX7_cover 68 = .ok (.iload_n 2, 1) := by decide +kernel
theorem dX7_cover_69 : decode cX7_cover 69 = .ok (.iload 7, 2) := by decide +kernel
theorem dX7_cover_71 : decode cX7_cover 71 = .ok (.ishr, 1) := by decide +kernel
theorem dX7_cover_72 : decode cX7_cover 72 = .ok (.iconst 1, 1) := by decide +kernel
theorem dX7_cover_73 : decode cX7_cover 73 = .ok (.iand, 1) := by decide +kernel
theorem dX7_cover_74 : decode cX7_cover 74 = .ok (.iconst 1, 1) := by decide +kernel
theorem dX7_cover_75 : decode cX7_cover 75 = .ok (.if_icmp .ne 18, 3) := by decide +kernel
theorem dX7_cover_78 : decode cX7_cover 78 = .ok (.aload_n 0, 1) := by decide +kernel
theorem dX7_cover_79 : decode cX7_cover 79 = .ok (.iload 7, 2) := by decide +kernel
theorem dX7_cover_81 : decode cX7_cover 81 = .ok (.iload 5, 2) := by decide +kernel
theorem dX7_cover_83 : decode cX7_cover 83 = .ok (.invokevirtual 220, 3) := by decide +kernel
theorem dX7_cover_86 : decode cX7_cover 86 = .ok (.ifCond .eq 7, 3) := by decide +kernel
theorem dX7_cover_89 : decode cX7_cover 89 = .ok (.iconst 1, 1) := by decide +kernel
theorem dX7_cover_90 : decode cX7_cover 90 = .ok (.goto 4, 3) := by decide +kernel
theorem dX7_cover_93 : decode cX7_cover 93 = .ok (.iconst 0, 1) := by decide +kernel
theorem dX7_cover_94 : decode cX7_cover 94 = .ok (.istore 6, 2) := by decide +kernel
theorem dX7_cover_96 : decode cX7_cover 96 = .ok (.iinc 7 1, 3) := by decide +kernel
theorem dX7_cover_99 : decode cX7_cover 99 = .ok (.goto (-42), 3) := by decide +kernel
theorem dX7_cover_102 : decode cX7_cover 102 = .ok (.iload 4, 2) := by decide +kernel
theorem dX7_cover_104 : decode cX7_cover 104 = .ok (.ifCond .eq 22, 3) := by decide +kernel
