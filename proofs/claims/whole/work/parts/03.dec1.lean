theorem dX0_init_0 : decode cX0_init 0 = .ok (.aload_n 0, 1) := by decide +kernel
theorem dX0_init_1 : decode cX0_init 1 = .ok (.invokespecial 3, 3) := by decide +kernel
theorem dX0_init_4 : decode cX0_init 4 = .ok (.aload_n 0, 1) := by decide +kernel
theorem dX0_init_5 : decode cX0_init 5 = .ok (.bipush 24, 2) := by decide +kernel
theorem dX0_init_7 : decode cX0_init 7 = .ok (.newarray .int, 2) := by decide +kernel
theorem dX0_init_9 : decode cX0_init 9 = .ok (.putfield 9, 3) := by decide +kernel
theorem dX0_init_12 : decode cX0_init 12 = .ok (.aload_n 0, 1) := by decide +kernel
theorem dX0_init_13 : decode cX0_init 13 = .ok (.bipush 13, 2) := by decide +kernel
theorem dX0_init_15 : decode cX0_init 15 = .ok (.newarray .int, 2) := by decide +kernel
theorem dX0_init_17 : decode cX0_init 17 = .ok (.putfield 15, 3) := by decide +kernel
theorem dX0_init_20 : decode cX0_init 20 = .ok (.aload_n 0, 1) := by decide +kernel
theorem dX0_init_21 : decode cX0_init 21 = .ok (.bipush 13, 2) := by decide +kernel
theorem dX0_init_23 : decode cX0_init 23 = .ok (.newarray .long, 2) := by decide +kernel
theorem dX0_init_25 : decode cX0_init 25 = .ok (.putfield 18, 3) := by decide +kernel
theorem dX0_init_28 : decode cX0_init 28 = .ok (.aload_n 0, 1) := by decide +kernel
theorem dX0_init_29 : decode cX0_init 29 = .ok (.bipush 6, 2) := by decide +kernel
theorem dX0_init_31 : decode cX0_init 31 = .ok (.newarray .boolean, 2) := by decide +kernel
theorem dX0_init_33 : decode cX0_init 33 = .ok (.putfield 22, 3) := by decide +kernel
theorem dX0_init_36 : decode cX0_init 36 = .ok (.return_, 1) := by decide +kernel
theorem dX0_measure_0 : decode cX0_measure 0 = .ok (.aload_n 0, 1) := by decide +kernel
theorem dX0_measure_1 : decode cX0_measure 1 = .ok (.getfield 15, 3) := by decide +kernel
theorem dX0_measure_4 : decode cX0_measure 4 = .ok (.iconst 0, 1) := by decide +kernel
theorem dX0_measure_5 : decode cX0_measure 5 = .ok (.invokestatic 26, 3) := by decide +kernel
theorem dX0_measure_8 : decode cX0_measure 8 = .ok (.aload_n 0, 1) := by decide +kernel
theorem dX0_measure_9 : decode cX0_measure 9 = .ok (.getfield 18, 3) := by decide +kernel
theorem dX0_measure_12 : decode cX0_measure 12 = .ok (.lconst 0, 1) := by decide +kernel
theorem dX0_measure_13 : decode cX0_measure 13 = .ok (.invokestatic 32, 3) := by decide +kernel
theorem dX0_measure_16 : decode cX0_measure 16 = .ok (.aload_n 1, 1) := by decide +kernel
theorem dX0_measure_17 : decode cX0_measure 17 = .ok (.getfield 35, 3) := by decide +kernel
theorem dX0_measure_20 : decode cX0_measure 20 = .ok (.istore_n 2, 1) := by decide +kernel
theorem dX0_measure_21 : decode cX0_measure 21 = .ok (.aload_n 1, 1) := by decide +kernel
theorem dX0_measure_22 : decode cX0_measure 22 = .ok (.getfield 41, 3) := by decide +kernel
theorem dX0_measure_25 : decode cX0_measure 25 = .ok (.iconst 1, 1) := by decide +kernel
theorem dX0_measure_26 : decode cX0_measure 26 = .ok (.isub, 1) := by decide +kernel
theorem dX0_measure_27 : decode cX0_measure 27 = .ok (.istore_n 3, 1) := by decide +kernel
theorem dX0_measure_28 : decode cX0_measure 28 = .ok (.iload_n 3, 1) := by decide +kernel
theorem dX0_measure_29 : decode cX0_measure 29 = .ok (.ifCond .lt 108, 3) := by decide +kernel
theorem dX0_measure_32 : decode cX0_measure 32 = .ok (.aload_n 1, 1) := by decide +kernel
theorem dX0_measure_33 : decode cX0_measure 33 = .ok (.getfield 44, 3) := by decide +kernel
theorem dX0_measure_36 : decode cX0_measure 36 = .ok (.iload_n 3, 1) := by decide +kernel
theorem dX0_measure_37 : decode cX0_measure 37 = .ok (.iaload, 1) := by decide +kernel
theorem dX0_measure_38 : decode cX0_measure 38 = .ok (.istore 4, 2) := by decide +kernel
theorem dX0_measure_40 : decode cX0_measure 40 = .ok (.aload_n 1, 1) := by decide +kernel
theorem dX0_measure_41 : decode cX0_measure 41 = .ok (.getfield 47, 3) := by decide +kernel
theorem dX0_measure_44 : decode cX0_measure 44 = .ok (.iload_n 3, 1) := by decide +kernel
theorem dX0_measure_45 : decode cX0_measure 45 = .ok (.iaload, 1) := by decide +kernel
theorem dX0_measure_46 : decode cX0_measure 46 = .ok (.iconst 5, 1) := by decide +kernel
theorem dX0_measure_47 : decode cX0_measure 47 = .ok (.if_icmp .ne 26, 3) := by decide +kernel
theorem dX0_measure_50 : decode cX0_measure 50 = .ok (.iinc 2 (-1), 3) := by decide +kernel
theorem dX0_measure_53 : decode cX0_measure 53 = .ok (.aload_n 0, 1) := by decide +kernel
theorem dX0_measure_54 : decode cX0_measure 54 = .ok (.getfield 18, 3) := by decide +kernel
theorem dX0_measure_57 : decode cX0_measure 57 = .ok (.iload 4, 2) := by decide +kernel
theorem dX0_measure_59 : decode cX0_measure 59 = .ok (.dup2, 1) := by decide +kernel
theorem dX0_measure_60 : decode cX0_measure 60 = .ok (.laload, 1) := by decide +kernel
theorem dX0_measure_61 : decode cX0_measure 61 = .ok (.aload_n 0, 1) := by decide +kernel
theorem dX0_measure_62 : decode cX0_measure 62 = .ok (.aload_n 1, 1) := by decide +kernel
theorem dX0_measure_63 : decode cX0_measure 63 = .ok (.iload_n 3, 1) := by decide +kernel
theorem dX0_measure_64 : decode cX0_measure 64 = .ok (.iload_n 2, 1) := by decide +kernel
theorem dX0_measure_65 : decode cX0_measure 65 = .ok (.invokevirtual 50, 3) := by decide +kernel
theorem dX0_measure_68 : decode cX0_measure 68 = .ok (.ladd, 1) := by decide +kernel
theorem dX0_measure_69 : decode cX0_measure 69 = .ok (.lastore, 1) := by decide +kernel
theorem dX0_measure_70 : decode cX0_measure 70 = .ok (.goto 45, 3) := by decide +kernel
theorem dX0_measure_73 : decode cX0_measure 73 = .ok (.aload_n 0, 1) := by decide +kernel
theorem dX0_measure_74 : decode cX0_measure 74 = .ok (.getfield 9, 3) := by decide +kernel
theorem dX0_measure_77 : decode cX0_measure 77 = .ok (.iload_n 3, 1) := by decide +kernel
theorem dX0_measure_78 : decode cX0_measure 78 = .ok (.aload_n 1, 1) := by decide +kernel
theorem dX0_measure_79 : decode cX0_measure 79 = .ok (.getfield 47, 3) := by decide +kernel
theorem dX0_measure_82 : decode cX0_measure 82 = .ok (.iload_n 3, 1) := by decide +kernel
theorem dX0_measure_83 : decode cX0_measure 83 = .ok (.iaload, 1) := by decide +kernel
theorem dX0_measure_84 : decode cX0_measure 84 = .ok (.iconst 4, 1) := by decide +kernel
theorem dX0_measure_85 : decode cX0_measure 85 = .ok (.if_icmp .ne 7, 3) := by decide +kernel
theorem dX0_measure_88 : decode cX0_measure 88 = .ok (.iconst 4, 1) := by decide +kernel
theorem dX0_measure_89 : decode cX0_measure 89 = .ok (.goto 4, 3) := by decide +kernel
theorem dX0_measure_92 : decode cX0_measure 92 = .ok (.iconst 1, 1) := by decide +kernel
theorem dX0_measure_93 : decode cX0_measure 93 = .ok (.iastore, 1) := by decide +kernel
theorem dX0_measure_94 : decode cX0_measure 94 = .ok (.aload_n 0, 1) := by decide +kernel
theorem dX0_measure_95 : decode cX0_measure 95 = .ok (.getfield 18, 3) := by decide +kernel
theorem dX0_measure_98 : decode cX0_measure 98 = .ok (.iload 4, 2) := by decide +kernel
theorem dX0_measure_100 : decode cX0_measure 100 = .ok (.dup2, 1) := by decide +kernel
theorem dX0_measure_101 : decode cX0_measure 101 = .ok (.laload, 1) := by decide +kernel
theorem dX0_measure_102 : decode cX0_measure 102 = .ok (.aload_n 0, 1) := by decide +kernel
theorem dX0_measure_103 : decode cX0_measure 103 = .ok (.getfield 9, 3) := by decide +kernel
theorem dX0_measure_106 : decode cX0_measure 106 = .ok (.iload_n 3, 1) := by decide +kernel
theorem dX0_measure_107 : decode cX0_measure 107 = .ok (.iaload, 1) := by decide +kernel
theorem dX0_measure_108 : decode cX0_measure 108 = .ok (.i2l, 1) := by decide +kernel
theorem dX0_measure_109 : decode cX0_measure 109 = .ok (.ldc2_w 54, 3) := by decide +kernel
theorem dX0_measure_112 : decode cX0_measure 112 = .ok (.lmul, 1) := by decide +kernel
theorem dX0_measure_113 : decode cX0_measure 113 = .ok (.ladd, 1) := by decide +kernel
theorem dX0_measure_114 : decode cX0_measure 114 = .ok (.lastore, 1) := by decide +kernel
theorem dX0_measure_115 : decode cX0_measure 115 = .ok (.aload_n 0, 1) := by decide +kernel
theorem dX0_measure_116 : decode cX0_measure 116 = .ok (.getfield 15, 3) := by decide +kernel
theorem dX0_measure_119 : decode cX0_measure 119 = .ok (.iload 4, 2) := by decide +kernel
theorem dX0_measure_121 : decode cX0_measure 121 = .ok (.dup2, 1) := by decide +kernel
theorem dX0_measure_122 : decode cX0_measure 122 = .ok (.iaload, 1) := by decide +kernel
theorem dX0_measure_123 : decode cX0_measure 123 = .ok (.aload_n 0, 1) := by decide +kernel
theorem dX0_measure_124 : decode cX0_measure 124 = .ok (.getfield 9, 3) := by decide +kernel
theorem dX0_measure_127 : decode cX0_measure 127 = .ok (.iload_n 3, 1) := by decide +kernel
theorem dX0_measure_128 : decode cX0_measure 128 = .ok (.iaload, 1) := by decide +kernel
theorem dX0_measure_129 : decode cX0_measure 129 = .ok (.iadd, 1) := by decide +kernel
theorem dX0_measure_130 : decode cX0_measure 130 = .ok (.iastore, 1) := by decide +kernel
theorem dX0_measure_131 : decode cX0_measure 131 = .ok (.iinc 3 (-1), 3) := by decide +kernel
theorem dX0_measure_134 : decode cX0_measure 134 = .ok (.goto (-106), 3) := by decide +kernel
theorem dX0_measure_137 : decode cX0_measure 137 = .ok (.aload_n 0, 1) := by decide +kernel
theorem dX0_measure_138 : decode cX0_measure 138 = .ok (.aload_n 1, 1) := by decide +kernel
theorem dX0_measure_139 : decode cX0_measure 139 = .ok (.invokevirtual 56, 3) := by decide +kernel
theorem dX0_measure_142 : decode cX0_measure 142 = .ok (.return_, 1) := by decide +kernel
theorem dX0_measureIf_0 : decode cX0_measureIf 0 = .ok (.iconst 2, 1) := by decide +kernel
theorem dX0_measureIf_1 : decode cX0_measureIf 1 = .ok (.iload_n 3, 1) := by decide +kernel
theorem dX0_measureIf_2 : decode cX0_measureIf 2 = .ok (.imul, 1) := by decide +kernel
theorem dX0_measureIf_3 : decode cX0_measureIf 3 = .ok (.iconst 1, 1) := by decide +kernel
theorem dX0_measureIf_4 : decode cX0_measureIf 4 = .ok (.iadd, 1) := by decide +kernel
theorem dX0_measureIf_5 : decode cX0_measureIf 5 = .ok (.istore 4, 2) := by decide +kernel
theorem dX0_measureIf_7 : decode cX0_measureIf 7 = .ok (.aload_n 1, 1) := by decide +kernel
theorem dX0_measureIf_8 : decode cX0_measureIf 8 = .ok (.getfield 60, 3) := by decide +kernel
theorem dX0_measureIf_11 : decode cX0_measureIf 11 = .ok (.iload_n 2, 1) := by decide +kernel
theorem dX0_measureIf_12 : decode cX0_measureIf 12 = .ok (.iaload, 1) := by decide +kernel
theorem dX0_measureIf_13 : decode cX0_measureIf 13 = .ok (.istore 5, 2) := by decide +kernel
theorem dX0_measureIf_15 : decode cX0_measureIf 15 = .ok (.aload_n 0, 1) := by decide +kernel
theorem dX0_measureIf_16 : decode cX0_measureIf 16 = .ok (.getfield 9, 3) := by decide +kernel
theorem dX0_measureIf_19 : decode cX0_measureIf 19 = .ok (.iload_n 2, 1) := by decide +kernel
theorem dX0_measureIf_20 : decode cX0_measureIf 20 = .ok (.iconst 1, 1) := by decide +kernel
theorem dX0_measureIf_21 : decode cX0_measureIf 21 = .ok (.aload_n 0, 1) := by decide +kernel
theorem dX0_measureIf_22 : decode cX0_measureIf 22 = .ok (.getfield 15, 3) := by decide +kernel
theorem dX0_measureIf_25 : decode cX0_measureIf 25 = .ok (.iload 4, 2) := by decide +kernel
theorem dX0_measureIf_27 : decode cX0_measureIf 27 = .ok (.iaload, 1) := by decide +kernel
theorem dX0_measureIf_28 : decode cX0_measureIf 28 = .ok (.iadd, 1) := by decide +kernel
theorem dX0_measureIf_29 : decode cX0_measureIf 29 = .ok (.aload_n 0, 1) := by decide +kernel
theorem dX0_measureIf_30 : decode cX0_measureIf 30 = .ok (.getfield 15, 3) := by decide +kernel
theorem dX0_measureIf_33 : decode cX0_measureIf 33 = .ok (.iload 4, 2) := by decide +kernel
theorem dX0_measureIf_35 : decode cX0_measureIf 35 = .ok (.iconst 1, 1) := by decide +kernel
theorem dX0_measureIf_36 : decode cX0_measureIf 36 = .ok (.iadd, 1) := by decide +kernel
theorem dX0_measureIf_37 : decode cX0_measureIf 37 = .ok (.iaload, 1) := by decide +kernel
theorem dX0_measureIf_38 : decode cX0_measureIf 38 = .ok (.iadd, 1) := by decide +kernel
theorem dX0_measureIf_39 : decode cX0_measureIf 39 = .ok (.iastore, 1) := by decide +kernel
theorem dX0_measureIf_40 : decode cX0_measureIf 40 = .ok (.aload_n 0, 1) := by decide +kernel
theorem dX0_measureIf_41 : decode cX0_measureIf 41 = .ok (.getfield 9, 3) := by decide +kernel
theorem dX0_measureIf_44 : decode cX0_measureIf 44 = .ok (.iload_n 2, 1) := by decide +kernel
theorem dX0_measureIf_45 : decode cX0_measureIf 45 = .ok (.iaload, 1) := by decide +kernel
theorem dX0_measureIf_46 : decode cX0_measureIf 46 = .ok (.i2l, 1) := by decide +kernel
theorem dX0_measureIf_47 : decode cX0_measureIf 47 = .ok (.ldc2_w 54, 3) := by decide +kernel
theorem dX0_measureIf_50 : decode cX0_measureIf 50 = .ok (.lmul, 1) := by decide +kernel
theorem dX0_measureIf_51 : decode cX0_measureIf 51 = .ok (.lstore 6, 2) := by decide +kernel
theorem dX0_measureIf_53 : decode cX0_measureIf 53 = .ok (.ldc2_w 63, 3) := by decide +kernel
theorem dX0_measureIf_56 : decode cX0_measureIf 56 = .ok (.aload_n 0, 1) := by decide +kernel
theorem dX0_measureIf_57 : decode cX0_measureIf 57 = .ok (.getfield 18, 3) := by decide +kernel
theorem dX0_measureIf_60 : decode cX0_measureIf 60 = .ok (.iload 4, 2) := by decide +kernel
theorem dX0_measureIf_62 : decode cX0_measureIf 62 = .ok (.laload, 1) := by decide +kernel
theorem dX0_measureIf_63 : decode cX0_measureIf 63 = .ok (.iload 5, 2) := by decide +kernel
theorem dX0_measureIf_65 : decode cX0_measureIf 65 = .ok (.i2l, 1) := by decide +kernel
theorem dX0_measureIf_66 : decode cX0_measureIf 66 = .ok (.lmul, 1) := by decide +kernel
theorem dX0_measureIf_67 : decode cX0_measureIf 67 = .ok (.aload_n 0, 1) := by decide +kernel
theorem dX0_measureIf_68 : decode cX0_measureIf 68 = .ok (.getfield 18, 3) := by decide +kernel
theorem dX0_measureIf_71 : decode cX0_measureIf 71 = .ok (.iload 4, 2) := by decide +kernel
theorem dX0_measureIf_73 : decode cX0_measureIf 73 = .ok (.iconst 1, 1) := by decide +kernel
theorem dX0_measureIf_74 : decode cX0_measureIf 74 = .ok (.iadd, 1) := by decide +kernel
theorem dX0_measureIf_75 : decode cX0_measureIf 75 = .ok (.laload, 1) := by decide +kernel
theorem dX0_measureIf_76 : decode cX0_measureIf 76 = .ok (.bipush 10, 2) := by decide +kernel
theorem dX0_measureIf_78 : decode cX0_measureIf 78 = .ok (.iload 5, 2) := by decide +kernel
theorem dX0_measureIf_80 : decode cX0_measureIf 80 = .ok (.isub, 1) := by decide +kernel
theorem dX0_measureIf_81 : decode cX0_measureIf 81 = .ok (.i2l, 1) := by decide +kernel
theorem dX0_measureIf_82 : decode cX0_measureIf 82 = .ok (.lmul, 1) := by decide +kernel
theorem dX0_measureIf_83 : decode cX0_measureIf 83 = .ok (.ladd, 1) := by decide +kernel
theorem dX0_measureIf_84 : decode cX0_measureIf 84 = .ok (.ldc2_w 65, 3) := by decide +kernel
theorem dX0_measureIf_87 : decode cX0_measureIf 87 = .ok (.ldiv, 1) := by decide +kernel
theorem dX0_measureIf_88 : decode cX0_measureIf 88 = .ok (.ladd, 1) := by decide +kernel
theorem dX0_measureIf_89 : decode cX0_measureIf 89 = .ok (.lstore 8, 2) := by decide +kernel
theorem dX0_measureIf_91 : decode cX0_measureIf 91 = .ok (.aload_n 1, 1) := by decide +kernel
theorem dX0_measureIf_92 : decode cX0_measureIf 92 = .ok (.getfield 67, 3) := by decide +kernel
theorem dX0_measureIf_95 : decode cX0_measureIf 95 = .ok (.iload_n 3, 1) := by decide +kernel
theorem dX0_measureIf_96 : decode cX0_measureIf 96 = .ok (.iaload, 1) := by decide +kernel
theorem dX0_measureIf_97 : decode cX0_measureIf 97 = .ok (.istore 10, 2) := by decide +kernel
theorem dX0_measureIf_99 : decode cX0_measureIf 99 = .ok (.aload_n 0, 1) := by decide +kernel
theorem dX0_measureIf_100 : decode cX0_measureIf 100 = .ok (.getfield 22, 3) := by decide +kernel
theorem dX0_measureIf_103 : decode cX0_measureIf 103 = .ok (.iload_n 3, 1) := by decide +kernel
theorem dX0_measureIf_104 : decode cX0_measureIf 104 = .ok (.iload 10, 2) := by decide +kernel
theorem dX0_measureIf_106 : decode cX0_measureIf 106 = .ok (.iconst 1, 1) := by decide +kernel
theorem dX0_measureIf_107 : decode cX0_measureIf 107 = .ok (.if_icmp .eq 17, 3) := by decide +kernel
theorem dX0_measureIf_110 : decode cX0_measureIf 110 = .ok (.iload 10, 2) := by decide +kernel
theorem dX0_measureIf_112 : decode cX0_measureIf 112 = .ok (.iconst 2, 1) := by decide +kernel
theorem dX0_measureIf_113 : decode cX0_measureIf 113 = .ok (.if_icmp .ne 15, 3) := by decide +kernel
theorem dX0_measureIf_116 : decode cX0_measureIf 116 = .ok (.lload 6, 2) := by decide +kernel
theorem dX0_measureIf_118 : decode cX0_measureIf 118 = .ok (.lload 8, 2) := by decide +kernel
theorem dX0_measureIf_120 : decode cX0_measureIf 120 = .ok (.lcmp, 1) := by decide +kernel
theorem dX0_measureIf_121 : decode cX0_measureIf 121 = .ok (.ifCond .gt 7, 3) := by decide +kernel
theorem dX0_measureIf_124 : decode cX0_measureIf 124 = .ok (.iconst 1, 1) := by decide +kernel
theorem dX0_measureIf_125 : decode cX0_measureIf 125 = .ok (.goto 4, 3) := by decide +kernel
theorem dX0_measureIf_128 : decode cX0_measureIf 128 = .ok (.iconst 0, 1) := by decide +kernel
theorem dX0_measureIf_129 : decode cX0_measureIf 129 = .ok (.bastore, 1) := by decide +kernel
theorem dX0_measureIf_130 : decode cX0_measureIf 130 = .ok (.aload_n 0, 1) := by decide +kernel
theorem dX0_measureIf_131 : decode cX0_measureIf 131 = .ok (.getfield 22, 3) := by decide +kernel
theorem dX0_measureIf_134 : decode cX0_measureIf 134 = .ok (.iload_n 3, 1) := by decide +kernel
theorem dX0_measureIf_135 : decode cX0_measureIf 135 = .ok (.baload, 1) := by decide +kernel
theorem dX0_measureIf_136 : decode cX0_measureIf 136 = .ok (.ifCond .eq 8, 3) := by decide +kernel
theorem dX0_measureIf_139 : decode cX0_measureIf 139 = .ok (.lload 6, 2) := by decide +kernel
theorem dX0_measureIf_141 : decode cX0_measureIf 141 = .ok (.goto 5, 3) := by decide +kernel
theorem dX0_measureIf_144 : decode cX0_measureIf 144 = .ok (.lload 8, 2) := by decide +kernel
theorem dX0_measureIf_146 : decode cX0_measureIf 146 = .ok (.lreturn, 1) := by decide +kernel
theorem dX0_guardInner_0 : decode cX0_guardInner 0 = .ok (.iconst 0, 1) := by decide +kernel
theorem dX0_guardInner_1 : decode cX0_guardInner 1 = .ok (.istore_n 2, 1) := by decide +kernel
theorem dX0_guardInner_2 : decode cX0_guardInner 2 = .ok (.iload_n 2, 1) := by decide +kernel
theorem dX0_guardInner_3 : decode cX0_guardInner 3 = .ok (.aload_n 1, 1) := by decide +kernel
theorem dX0_guardInner_4 : decode cX0_guardInner 4 = .ok (.getfield 35, 3) := by decide +kernel
theorem dX0_guardInner_7 : decode cX0_guardInner 7 = .ok (.if_icmp .ge 43, 3) := by decide +kernel
theorem dX0_guardInner_10 : decode cX0_guardInner 10 = .ok (.aload_n 1, 1) := by decide +kernel
theorem dX0_guardInner_11 : decode cX0_guardInner 11 = .ok (.iconst 2, 1) := by decide +kernel
theorem dX0_guardInner_12 : decode cX0_guardInner 12 = .ok (.iload_n 2, 1) := by decide +kernel
theorem dX0_guardInner_13 : decode cX0_guardInner 13 = .ok (.imul, 1) := by decide +kernel
theorem dX0_guardInner_14 : decode cX0_guardInner 14 = .ok (.iconst 1, 1) := by decide +kernel
theorem dX0_guardInner_15 : decode cX0_guardInner 15 = .ok (.iadd, 1) := by decide +kernel
theorem dX0_guardInner_16 : decode cX0_guardInner 16 = .ok (.invokevirtual 70, 3) := by decide +kernel
theorem dX0_guardInner_19 : decode cX0_guardInner 19 = .ok (.istore_n 3, 1) := by decide +kernel
theorem dX0_guardInner_20 : decode cX0_guardInner 20 = .ok (.iload_n 3, 1) := by decide +kernel
theorem dX0_guardInner_21 : decode cX0_guardInner 21 = .ok (.ifCond .le 23, 3) := by decide +kernel
theorem dX0_guardInner_24 : decode cX0_guardInner 24 = .ok (.aload_n 0, 1) := by decide +kernel
theorem dX0_guardInner_25 : decode cX0_guardInner 25 = .ok (.getfield 22, 3) := by decide +kernel
theorem dX0_guardInner_28 : decode cX0_guardInner 28 = .ok (.iload_n 3, 1) := by decide +kernel
theorem dX0_guardInner_29 : decode cX0_guardInner 29 = .ok (.iconst 1, 1) := by decide +kernel
theorem dX0_guardInner_30 : decode cX0_guardInner 30 = .ok (.isub, 1) := by decide +kernel
theorem dX0_guardInner_31 : decode cX0_guardInner 31 = .ok (.iconst 2, 1) := by decide +kernel
theorem dX0_guardInner_32 : decode cX0_guardInner 32 = .ok (.idiv, 1) := by decide +kernel
theorem dX0_guardInner_33 : decode cX0_guardInner 33 = .ok (.baload, 1) := by decide +kernel
theorem dX0_guardInner_34 : decode cX0_guardInner 34 = .ok (.ifCond .eq 10, 3) := by decide +kernel
theorem dX0_guardInner_37 : decode cX0_guardInner 37 = .ok (.aload_n 0, 1) := by decide +kernel
theorem dX0_guardInner_38 : decode cX0_guardInner 38 = .ok (.getfield 22, 3) := by decide +kernel
theorem dX0_guardInner_41 : decode cX0_guardInner 41 = .ok (.iload_n 2, 1) := by decide +kernel
theorem dX0_guardInner_42 : decode cX0_guardInner 42 = .ok (.iconst 1, 1) := by decide +kernel
theorem dX0_guardInner_43 : decode cX0_guardInner 43 = .ok (.bastore, 1) := by decide +kernel
theorem dX0_guardInner_44 : decode cX0_guardInner 44 = .ok (.iinc 2 1, 3) := by decide +kernel
theorem dX0_guardInner_47 : decode cX0_guardInner 47 = .ok (.goto (-45), 3) := by decide +kernel
theorem dX0_guardInner_50 : decode cX0_guardInner 50 = .ok (.return_, 1) := by decide +kernel
theorem dX0_guardedIfs_0 : decode cX0_guardedIfs 0 = .ok (.iconst 0, 1) := by decide +kernel
theorem dX0_guardedIfs_1 : decode cX0_guardedIfs 1 = .ok (.istore_n 2, 1) := by decide +kernel
theorem dX0_guardedIfs_2 : decode cX0_guardedIfs 2 = .ok (.iconst 0, 1) := by decide +kernel
theorem dX0_guardedIfs_3 : decode cX0_guardedIfs 3 = .ok (.istore_n 3, 1) := by decide +kernel
theorem dX0_guardedIfs_4 : decode cX0_guardedIfs 4 = .ok (.iload_n 3, 1) := by decide +kernel
theorem dX0_guardedIfs_5 : decode cX0_guardedIfs 5 = .ok (.aload_n 1, 1) := by decide +kernel
theorem dX0_guardedIfs_6 : decode cX0_guardedIfs 6 = .ok (.getfield 35, 3) := by decide +kernel
theorem dX0_guardedIfs_9 : decode cX0_guardedIfs 9 = .ok (.if_icmp .ge 21, 3) := by decide +kernel
theorem dX0_guardedIfs_12 : decode cX0_guardedIfs 12 = .ok (.iload_n 2, 1) := by decide +kernel
theorem dX0_guardedIfs_13 : decode cX0_guardedIfs 13 = .ok (.aload_n 0, 1) := by decide +kernel
theorem dX0_guardedIfs_14 : decode cX0_guardedIfs 14 = .ok (.getfield 22, 3) := by decide +kernel
theorem dX0_guardedIfs_17 : decode cX0_guardedIfs 17 = .ok (.iload_n 3, 1) := by decide +kernel
theorem dX0_guardedIfs_18 : decode cX0_guardedIfs 18 = .ok (.baload, 1) := by decide +kernel
theorem dX0_guardedIfs_19 : decode cX0_guardedIfs 19 = .ok (.invokestatic 74, 3) := by decide +kernel
theorem dX0_guardedIfs_22 : decode cX0_guardedIfs 22 = .ok (.iadd, 1) := by decide +kernel
theorem dX0_guardedIfs_23 : decode cX0_guardedIfs 23 = .ok (.istore_n 2, 1) := by decide +kernel
theorem dX0_guardedIfs_24 : decode cX0_guardedIfs 24 = .ok (.iinc 3 1, 3) := by decide +kernel
theorem dX0_guardedIfs_27 : decode cX0_guardedIfs 27 = .ok (.goto (-23), 3) := by decide +kernel
theorem dX0_guardedIfs_30 : decode cX0_guardedIfs 30 = .ok (.iload_n 2, 1) := by decide +kernel
theorem dX0_guardedIfs_31 : decode cX0_guardedIfs 31 = .ok (.ireturn, 1) := by decide +kernel
theorem dX1_howManyWays_0 : decode cX1_howManyWays 0 = .ok (.iconst 1, 1) := by decide +kernel
theorem dX1_howManyWays_1 : decode cX1_howManyWays 1 = .ok (.aload_n 0, 1) := by decide +kernel
theorem dX1_howManyWays_2 : decode cX1_howManyWays 2 = .ok (.getfield 9, 3) := by decide +kernel
theorem dX1_howManyWays_5 : decode cX1_howManyWays 5 = .ok (.ishl, 1) := by decide +kernel
theorem dX1_howManyWays_6 : decode cX1_howManyWays 6 = .ok (.ireturn, 1) := by decide +kernel
theorem dX1_holding_0 : decode cX1_holding 0 = .ok (.iconst 1, 1) := by decide +kernel
theorem dX1_holding_1 : decode cX1_holding 1 = .ok (.istore_n 2, 1) := by decide +kernel
theorem dX1_holding_2 : decode cX1_holding 2 = .ok (.iconst 0, 1) := by decide +kernel
theorem dX1_holding_3 : decode cX1_holding 3 = .ok (.istore_n 3, 1) := by decide +kernel
theorem dX1_holding_4 : decode cX1_holding 4 = .ok (.iload_n 3, 1) := by decide +kernel
theorem dX1_holding_5 : decode cX1_holding 5 = .ok (.aload_n 0, 1) := by decide +kernel
theorem dX1_holding_6 : decode cX1_holding 6 = .ok (.getfield 9, 3) := by decide +kernel
theorem dX1_holding_9 : decode cX1_holding 9 = .ok (.if_icmp .ge 53, 3) := by decide +kernel
theorem dX1_holding_12 : decode cX1_holding 12 = .ok (.iconst 2, 1) := by decide +kernel
theorem dX1_holding_13 : decode cX1_holding 13 = .ok (.iload_n 3, 1) := by decide +kernel
theorem dX1_holding_14 : decode cX1_holding 14 = .ok (.imul, 1) := by decide +kernel
theorem dX1_holding_15 : decode cX1_holding 15 = .ok (.iconst 1, 1) := by decide +kernel
theorem dX1_holding_16 : decode cX1_holding 16 = .ok (.iadd, 1) := by decide +kernel
theorem dX1_holding_17 : decode cX1_holding 17 = .ok (.istore 4, 2) := by decide +kernel
theorem dX1_holding_19 : decode cX1_holding 19 = .ok (.iload_n 2, 1) := by decide +kernel
theorem dX1_holding_20 : decode cX1_holding 20 = .ok (.aload_n 0, 1) := by decide +kernel
theorem dX1_holding_21 : decode cX1_holding 21 = .ok (.iload 4, 2) := by decide +kernel
theorem dX1_holding_23 : decode cX1_holding 23 = .ok (.invokevirtual 15, 3) := by decide +kernel
theorem dX1_holding_26 : decode cX1_holding 26 = .ok (.ishr, 1) := by decide +kernel
theorem dX1_holding_27 : decode cX1_holding 27 = .ok (.iconst 1, 1) := by decide +kernel
theorem dX1_holding_28 : decode cX1_holding 28 = .ok (.iand, 1) := by decide +kernel
theorem dX1_holding_29 : decode cX1_holding 29 = .ok (.iconst 1, 1) := by decide +kernel
theorem dX1_holding_30 : decode cX1_holding 30 = .ok (.if_icmp .ne 26, 3) := by decide +kernel
theorem dX1_holding_33 : decode cX1_holding 33 = .ok (.iload_n 2, 1) := by decide +kernel
theorem dX1_holding_34 : decode cX1_holding 34 = .ok (.iconst 1, 1) := by decide +kernel
theorem dX1_holding_35 : decode cX1_holding 35 = .ok (.iload_n 1, 1) := by decide +kernel
theorem dX1_holding_36 : decode cX1_holding 36 = .ok (.iload_n 3, 1) := by decide +kernel
theorem dX1_holding_37 : decode cX1_holding 37 = .ok (.ishr, 1) := by decide +kernel
theorem dX1_holding_38 : decode cX1_holding 38 = .ok (.iconst 1, 1) := by decide +kernel
theorem dX1_holding_39 : decode cX1_holding 39 = .ok (.iand, 1) := by decide +kernel
theorem dX1_holding_40 : decode cX1_holding 40 = .ok (.iconst 1, 1) := by decide +kernel
theorem dX1_holding_41 : decode cX1_holding 41 = .ok (.if_icmp .ne 8, 3) := by decide +kernel
theorem dX1_holding_44 : decode cX1_holding 44 = .ok (.iload 4, 2) := by decide +kernel
theorem dX1_holding_46 : decode cX1_holding 46 = .ok (.goto 7, 3) := by decide +kernel
theorem dX1_holding_49 : decode cX1_holding 49 = .ok (.iload 4, 2) := by decide +kernel
theorem dX1_holding_51 : decode cX1_holding 51 = .ok (.iconst 1, 1) := by decide +kernel
theorem dX1_holding_52 : decode cX1_holding 52 = .ok (.iadd, 1) := by decide +kernel
theorem dX1_holding_53 : decode cX1_holding 53 = .ok (.ishl, 1) := by decide +kernel
theorem dX1_holding_54 : decode cX1_holding 54 = .ok (.ior, 1) := by decide +kernel
theorem dX1_holding_55 : decode cX1_holding 55 = .ok (.istore_n 2, 1) := by decide +kernel
theorem dX1_holding_56 : decode cX1_holding 56 = .ok (.iinc 3 1, 3) := by decide +kernel
theorem dX1_holding_59 : decode cX1_holding 59 = .ok (.goto (-55), 3) := by decide +kernel
theorem dX1_holding_62 : decode cX1_holding 62 = .ok (.iload_n 2, 1) := by decide +kernel
theorem dX1_holding_63 : decode cX1_holding 63 = .ok (.ireturn, 1) := by decide +kernel
theorem dX1_neverBoth_0 : decode cX1_neverBoth 0 = .ok (.iconst 1, 1) := by decide +kernel
theorem dX1_neverBoth_1 : decode cX1_neverBoth 1 = .ok (.iload_n 1, 1) := by decide +kernel
theorem dX1_neverBoth_2 : decode cX1_neverBoth 2 = .ok (.ishl, 1) := by decide +kernel
theorem dX1_neverBoth_3 : decode cX1_neverBoth 3 = .ok (.iconst 1, 1) := by decide +kernel
theorem dX1_neverBoth_4 : decode cX1_neverBoth 4 = .ok (.iload_n 2, 1) := by decide +kernel
theorem dX1_neverBoth_5 : decode cX1_neverBoth 5 = .ok (.ishl, 1) := by decide +kernel
theorem dX1_neverBoth_6 : decode cX1_neverBoth 6 = .ok (.ior, 1) := by decide +kernel
theorem dX1_neverBoth_7 : decode cX1_neverBoth 7 = .ok (.istore_n 3, 1) := by decide +kernel
theorem dX1_neverBoth_8 : decode cX1_neverBoth 8 = .ok (.iconst 0, 1) := by decide +kernel
theorem dX1_neverBoth_9 : decode cX1_neverBoth 9 = .ok (.istore 4, 2) := by decide +kernel
theorem dX1_neverBoth_11 : decode cX1_neverBoth 11 = .ok (.iload 4, 2) := by decide +kernel
theorem dX1_neverBoth_13 : decode cX1_neverBoth 13 = .ok (.aload_n 0, 1) := by decide +kernel
theorem dX1_neverBoth_14 : decode cX1_neverBoth 14 = .ok (.invokestatic 19, 3) := by decide +kernel
theorem dX1_neverBoth_17 : decode cX1_neverBoth 17 = .ok (.if_icmp .ge 23, 3) := by decide +kernel
theorem dX1_neverBoth_20 : decode cX1_neverBoth 20 = .ok (.aload_n 0, 1) := by decide +kernel
theorem dX1_neverBoth_21 : decode cX1_neverBoth 21 = .ok (.iload 4, 2) := by decide +kernel
theorem dX1_neverBoth_23 : decode cX1_neverBoth 23 = .ok (.invokestatic 25, 3) := by decide +kernel
theorem dX1_neverBoth_26 : decode cX1_neverBoth 26 = .ok (.iload_n 3, 1) := by decide +kernel
theorem dX1_neverBoth_27 : decode cX1_neverBoth 27 = .ok (.iand, 1) := by decide +kernel
theorem dX1_neverBoth_28 : decode cX1_neverBoth 28 = .ok (.iload_n 3, 1) := by decide +kernel
theorem dX1_neverBoth_29 : decode cX1_neverBoth 29 = .ok (.if_icmp .ne 5, 3) := by decide +kernel
theorem dX1_neverBoth_32 : decode cX1_neverBoth 32 = .ok (.iconst 0, 1) := by decide +kernel
theorem dX1_neverBoth_33 : decode cX1_neverBoth 33 = .ok (.ireturn, 1) := by decide +kernel
theorem dX1_neverBoth_34 : decode cX1_neverBoth 34 = .ok (.iinc 4 1, 3) := by decide +kernel
theorem dX1_neverBoth_37 : decode cX1_neverBoth 37 = .ok (.goto (-26), 3) := by decide +kernel
theorem dX1_neverBoth_40 : decode cX1_neverBoth 40 = .ok (.iconst 1, 1) := by decide +kernel
theorem dX1_neverBoth_41 : decode cX1_neverBoth 41 = .ok (.ireturn, 1) := by decide +kernel
theorem dX1_isCovered_0 : decode cX1_isCovered 0 = .ok (.iconst 0, 1) := by decide +kernel
theorem dX1_isCovered_1 : decode cX1_isCovered 1 = .ok (.istore_n 3, 1) := by decide +kernel
theorem dX1_isCovered_2 : decode cX1_isCovered 2 = .ok (.iload_n 3, 1) := by decide +kernel
theorem dX1_isCovered_3 : decode cX1_isCovered 3 = .ok (.aload_n 0, 1) := by decide +kernel
theorem dX1_isCovered_4 : decode cX1_isCovered 4 = .ok (.invokestatic 19, 3) := by decide +kernel
theorem dX1_isCovered_7 : decode cX1_isCovered 7 = .ok (.if_icmp .ge 35, 3) := by decide +kernel
theorem dX1_isCovered_10 : decode cX1_isCovered 10 = .ok (.aload_n 0, 1) := by decide +kernel
theorem dX1_isCovered_11 : decode cX1_isCovered 11 = .ok (.iload_n 3, 1) := by decide +kernel
theorem dX1_isCovered_12 : decode cX1_isCovered 12 = .ok (.invokestatic 25, 3) := by decide +kernel
theorem dX1_isCovered_15 : decode cX1_isCovered 15 = .ok (.istore 4, 2) := by decide +kernel
theorem dX1_isCovered_17 : decode cX1_isCovered 17 = .ok (.iload 4, 2) := by decide +kernel
theorem dX1_isCovered_19 : decode cX1_isCovered 19 = .ok (.iload_n 1, 1) := by decide +kernel
theorem dX1_isCovered_20 : decode cX1_isCovered 20 = .ok (.ishr, 1) := by decide +kernel
theorem dX1_isCovered_21 : decode cX1_isCovered 21 = .ok (.iconst 1, 1) := by decide +kernel
theorem dX1_isCovered_22 : decode cX1_isCovered 22 = .ok (.iand, 1) := by decide +kernel
theorem dX1_isCovered_23 : decode cX1_isCovered 23 = .ok (.iconst 1, 1) := by decide +kernel
theorem dX1_isCovered_24 : decode cX1_isCovered 24 = .ok (.if_icmp .ne 12, 3) := by decide +kernel
theorem dX1_isCovered_27 : decode cX1_isCovered 27 = .ok (.iload 4, 2) := by decide +kernel
theorem dX1_isCovered_29 : decode cX1_isCovered 29 = .ok (.iload_n 2, 1) := by decide +kernel
theorem dX1_isCovered_30 : decode cX1_isCovered 30 = .ok (.iand, 1) := by decide +kernel
theorem dX1_isCovered_31 : decode cX1_isCovered 31 = .ok (.ifCond .ne 5, 3) := by decide +kernel
theorem dX1_isCovered_34 : decode cX1_isCovered 34 = .ok (.iconst 0, 1) := by decide +kernel
theorem dX1_isCovered_35 : decode cX1_isCovered 35 = .ok (.ireturn, 1) := by decide +kernel
theorem dX1_isCovered_36 : decode cX1_isCovered 36 = .ok (.iinc 3 1, 3) := by decide +kernel
theorem dX1_isCovered_39 : decode cX1_isCovered 39 = .ok (.goto (-37), 3) := by decide +kernel
theorem dX1_isCovered_42 : decode cX1_isCovered 42 = .ok (.iconst 1, 1) := by decide +kernel
theorem dX1_isCovered_43 : decode cX1_isCovered 43 = .ok (.ireturn, 1) := by decide +kernel
theorem dX1_liveOnes_0 : decode cX1_liveOnes 0 = .ok (.iconst 0, 1) := by decide +kernel
theorem dX1_liveOnes_1 : decode cX1_liveOnes 1 = .ok (.istore_n 1, 1) := by decide +kernel
theorem dX1_liveOnes_2 : decode cX1_liveOnes 2 = .ok (.iconst 0, 1) := by decide +kernel
theorem dX1_liveOnes_3 : decode cX1_liveOnes 3 = .ok (.istore_n 2, 1) := by decide +kernel
theorem dX1_liveOnes_4 : decode cX1_liveOnes 4 = .ok (.iload_n 2, 1) := by decide +kernel
theorem dX1_liveOnes_5 : decode cX1_liveOnes 5 = .ok (.aload_n 0, 1) := by decide +kernel
theorem dX1_liveOnes_6 : decode cX1_liveOnes 6 = .ok (.invokestatic 19, 3) := by decide +kernel
theorem dX1_liveOnes_9 : decode cX1_liveOnes 9 = .ok (.if_icmp .ge 21, 3) := by decide +kernel
theorem dX1_liveOnes_12 : decode cX1_liveOnes 12 = .ok (.iload_n 1, 1) := by decide +kernel
theorem dX1_liveOnes_13 : decode cX1_liveOnes 13 = .ok (.aload_n 0, 1) := by decide +kernel
theorem dX1_liveOnes_14 : decode cX1_liveOnes 14 = .ok (.aload_n 0, 1) := by decide +kernel
theorem dX1_liveOnes_15 : decode cX1_liveOnes 15 = .ok (.iload_n 2, 1) := by decide +kernel
theorem dX1_liveOnes_16 : decode cX1_liveOnes 16 = .ok (.invokestatic 25, 3) := by decide +kernel
theorem dX1_liveOnes_19 : decode cX1_liveOnes 19 = .ok (.invokestatic 29, 3) := by decide +kernel
theorem dX1_liveOnes_22 : decode cX1_liveOnes 22 = .ok (.ior, 1) := by decide +kernel
theorem dX1_liveOnes_23 : decode cX1_liveOnes 23 = .ok (.istore_n 1, 1) := by decide +kernel
theorem dX1_liveOnes_24 : decode cX1_liveOnes 24 = .ok (.iinc 2 1, 3) := by decide +kernel
theorem dX1_liveOnes_27 : decode cX1_liveOnes 27 = .ok (.goto (-23), 3) := by decide +kernel
theorem dX1_liveOnes_30 : decode cX1_liveOnes 30 = .ok (.iload_n 1, 1) := by decide +kernel
theorem dX1_liveOnes_31 : decode cX1_liveOnes 31 = .ok (.ireturn, 1) := by decide +kernel
theorem dX1_liveByWay_0 : decode cX1_liveByWay 0 = .ok (.iconst 0, 1) := by decide +kernel
theorem dX1_liveByWay_1 : decode cX1_liveByWay 1 = .ok (.istore_n 2, 1) := by decide +kernel
theorem dX1_liveByWay_2 : decode cX1_liveByWay 2 = .ok (.aload_n 0, 1) := by decide +kernel
theorem dX1_liveByWay_3 : decode cX1_liveByWay 3 = .ok (.getfield 32, 3) := by decide +kernel
theorem dX1_liveByWay_6 : decode cX1_liveByWay 6 = .ok (.istore_n 3, 1) := by decide +kernel
theorem dX1_liveByWay_7 : decode cX1_liveByWay 7 = .ok (.aload_n 0, 1) := by decide +kernel
theorem dX1_liveByWay_8 : decode cX1_liveByWay 8 = .ok (.getfield 35, 3) := by decide +kernel
theorem dX1_liveByWay_11 : decode cX1_liveByWay 11 = .ok (.iconst 1, 1) := by decide +kernel
theorem dX1_liveByWay_12 : decode cX1_liveByWay 12 = .ok (.isub, 1) := by decide +kernel
theorem dX1_liveByWay_13 : decode cX1_liveByWay 13 = .ok (.istore 4, 2) := by decide +kernel
theorem dX1_liveByWay_15 : decode cX1_liveByWay 15 = .ok (.iload 4, 2) := by decide +kernel
theorem dX1_liveByWay_17 : decode cX1_liveByWay 17 = .ok (.ifCond .lt 78, 3) := by decide +kernel
theorem dX1_liveByWay_20 : decode cX1_liveByWay 20 = .ok (.iload_n 1, 1) := by decide +kernel
theorem dX1_liveByWay_21 : decode cX1_liveByWay 21 = .ok (.aload_n 0, 1) := by decide +kernel
theorem dX1_liveByWay_22 : decode cX1_liveByWay 22 = .ok (.getfield 38, 3) := by decide +kernel
theorem dX1_liveByWay_25 : decode cX1_liveByWay 25 = .ok (.iload 4, 2) := by decide +kernel
theorem dX1_liveByWay_27 : decode cX1_liveByWay 27 = .ok (.iaload, 1) := by decide +kernel
theorem dX1_liveByWay_28 : decode cX1_liveByWay 28 = .ok (.ishr, 1) := by decide +kernel
theorem dX1_liveByWay_29 : decode cX1_liveByWay 29 = .ok (.iconst 1, 1) := by decide +kernel
theorem dX1_liveByWay_30 : decode cX1_liveByWay 30 = .ok (.iand, 1) := by decide +kernel
theorem dX1_liveByWay_31 : decode cX1_liveByWay 31 = .ok (.ifCond .ne 6, 3) := by decide +kernel
theorem dX1_liveByWay_34 : decode cX1_liveByWay 34 = .ok (.goto 55, 3) := by decide +kernel
theorem dX1_liveByWay_37 : decode cX1_liveByWay 37 = .ok (.aload_n 0, 1) := by decide +kernel
theorem dX1_liveByWay_38 : decode cX1_liveByWay 38 = .ok (.getfield 42, 3) := by decide +kernel
theorem dX1_liveByWay_41 : decode cX1_liveByWay 41 = .ok (.iload 4, 2) := by decide +kernel
theorem dX1_liveByWay_43 : decode cX1_liveByWay 43 = .ok (.iaload, 1) := by decide +kernel
theorem dX1_liveByWay_44 : decode cX1_liveByWay 44 = .ok (.iconst 5, 1) := by decide +kernel
theorem dX1_liveByWay_45 : decode cX1_liveByWay 45 = .ok (.if_icmp .eq 35, 3) := by decide +kernel
theorem dX1_liveByWay_48 : decode cX1_liveByWay 48 = .ok (.iconst 1, 1) := by decide +kernel
theorem dX1_liveByWay_49 : decode cX1_liveByWay 49 = .ok (.aload_n 0, 1) := by decide +kernel
theorem dX1_liveByWay_50 : decode cX1_liveByWay 50 = .ok (.getfield 45, 3) := by decide +kernel
theorem dX1_liveByWay_53 : decode cX1_liveByWay 53 = .ok (.iload 4, 2) := by decide +kernel
theorem dX1_liveByWay_55 : decode cX1_liveByWay 55 = .ok (.iaload, 1) := by decide +kernel
theorem dX1_liveByWay_56 : decode cX1_liveByWay 56 = .ok (.ishl, 1) := by decide +kernel
theorem dX1_liveByWay_57 : decode cX1_liveByWay 57 = .ok (.istore 5, 2) := by decide +kernel
theorem dX1_liveByWay_59 : decode cX1_liveByWay 59 = .ok (.iload_n 3, 1) := by decide +kernel
theorem dX1_liveByWay_60 : decode cX1_liveByWay 60 = .ok (.iload 5, 2) := by decide +kernel
theorem dX1_liveByWay_62 : decode cX1_liveByWay 62 = .ok (.iand, 1) := by decide +kernel
theorem dX1_liveByWay_63 : decode cX1_liveByWay 63 = .ok (.ifCond .eq 10, 3) := by decide +kernel
theorem dX1_liveByWay_66 : decode cX1_liveByWay 66 = .ok (.iload_n 2, 1) := by decide +kernel
theorem dX1_liveByWay_67 : decode cX1_liveByWay 67 = .ok (.iconst 1, 1) := by decide +kernel
theorem dX1_liveByWay_68 : decode cX1_liveByWay 68 = .ok (.iload 4, 2) := by decide +kernel
theorem dX1_liveByWay_70 : decode cX1_liveByWay 70 = .ok (.ishl, 1) := by decide +kernel
theorem dX1_liveByWay_71 : decode cX1_liveByWay 71 = .ok (.ior, 1) := by decide +kernel
theorem dX1_liveByWay_72 : decode cX1_liveByWay 72 = .ok (.istore_n 2, 1) := by decide +kernel
theorem dX1_liveByWay_73 : decode cX1_liveByWay 73 = .ok (.iload_n 3, 1) := by decide +kernel
theorem dX1_liveByWay_74 : decode cX1_liveByWay 74 = .ok (.iload 5, 2) := by decide +kernel
theorem dX1_liveByWay_76 : decode cX1_liveByWay 76 = .ok (.iconst (-1), 1) := by decide +kernel
theorem dX1_liveByWay_77 : decode cX1_liveByWay 77 = .ok (.ixor, 1) := by decide +kernel
theorem dX1_liveByWay_78 : decode cX1_liveByWay 78 = .ok (.iand, 1) := by decide +kernel
theorem dX1_liveByWay_79 : decode cX1_liveByWay 79 = .ok (.istore_n 3, 1) := by decide +kernel
theorem dX1_liveByWay_80 : decode cX1_liveByWay 80 = .ok (.iload_n 3, 1) := by decide +kernel
theorem dX1_liveByWay_81 : decode cX1_liveByWay 81 = .ok (.aload_n 0, 1) := by decide +kernel
theorem dX1_liveByWay_82 : decode cX1_liveByWay 82 = .ok (.iload 4, 2) := by decide +kernel
theorem dX1_liveByWay_84 : decode cX1_liveByWay 84 = .ok (.invokevirtual 48, 3) := by decide +kernel
theorem dX1_liveByWay_87 : decode cX1_liveByWay 87 = .ok (.ior, 1) := by decide +kernel
theorem dX1_liveByWay_88 : decode cX1_liveByWay 88 = .ok (.istore_n 3, 1) := by decide +kernel
theorem dX1_liveByWay_89 : decode cX1_liveByWay 89 = .ok (.iinc 4 (-1), 3) := by decide +kernel
theorem dX1_liveByWay_92 : decode cX1_liveByWay 92 = .ok (.goto (-77), 3) := by decide +kernel
theorem dX1_liveByWay_95 : decode cX1_liveByWay 95 = .ok (.iload_n 2, 1) := by decide +kernel
theorem dX1_liveByWay_96 : decode cX1_liveByWay 96 = .ok (.ireturn, 1) := by decide +kernel
theorem dX2_init_0 : decode cX2_init 0 = .ok (.aload_n 0, 1) := by decide +kernel
theorem dX2_init_1 : decode cX2_init 1 = .ok (.invokespecial 3, 3) := by decide +kernel
theorem dX2_init_4 : decode cX2_init 4 = .ok (.aload_n 0, 1) := by decide +kernel
theorem dX2_init_5 : decode cX2_init 5 = .ok (.bipush 8, 2) := by decide +kernel
theorem dX2_init_7 : decode cX2_init 7 = .ok (.newarray .int, 2) := by decide +kernel
theorem dX2_init_9 : decode cX2_init 9 = .ok (.putfield 9, 3) := by decide +kernel
theorem dX2_init_12 : decode cX2_init 12 = .ok (.aload_n 0, 1) := by decide +kernel
theorem dX2_init_13 : decode cX2_init 13 = .ok (.bipush (-4), 2) := by decide +kernel
theorem dX2_init_15 : decode cX2_init 15 = .ok (.putfield 15, 3) := by decide +kernel
theorem dX2_init_18 : decode cX2_init 18 = .ok (.return_, 1) := by decide +kernel
theorem dX2_begin_0 : decode cX2_begin 0 = .ok (.aload_n 0, 1) := by decide +kernel
theorem dX2_begin_1 : decode cX2_begin 1 = .ok (.getfield 9, 3) := by decide +kernel
theorem dX2_begin_4 : decode cX2_begin 4 = .ok (.iconst 0, 1) := by decide +kernel
theorem dX2_begin_5 : decode cX2_begin 5 = .ok (.invokestatic 19, 3) := by decide +kernel
theorem dX2_begin_8 : decode cX2_begin 8 = .ok (.aload_n 0, 1) := by decide +kernel
theorem dX2_begin_9 : decode cX2_begin 9 = .ok (.getfield 9, 3) := by decide +kernel
theorem dX2_begin_12 : decode cX2_begin 12 = .ok (.iconst 0, 1) := by decide +kernel
theorem dX2_begin_13 : decode cX2_begin 13 = .ok (.iload_n 1, 1) := by decide +kernel
theorem dX2_begin_14 : decode cX2_begin 14 = .ok (.iastore, 1) := by decide +kernel
theorem dX2_begin_15 : decode cX2_begin 15 = .ok (.aload_n 0, 1) := by decide +kernel
theorem dX2_begin_16 : decode cX2_begin 16 = .ok (.getfield 9, 3) := by decide +kernel
theorem dX2_begin_19 : decode cX2_begin 19 = .ok (.iconst 1, 1) := by decide +kernel
theorem dX2_begin_20 : decode cX2_begin 20 = .ok (.iload_n 2, 1) := by decide +kernel
theorem dX2_begin_21 : decode cX2_begin 21 = .ok (.iastore, 1) := by decide +kernel
theorem dX2_begin_22 : decode cX2_begin 22 = .ok (.aload_n 0, 1) := by decide +kernel
theorem dX2_begin_23 : decode cX2_begin 23 = .ok (.getfield 9, 3) := by decide +kernel
theorem dX2_begin_26 : decode cX2_begin 26 = .ok (.iconst 2, 1) := by decide +kernel
theorem dX2_begin_27 : decode cX2_begin 27 = .ok (.iload_n 3, 1) := by decide +kernel
theorem dX2_begin_28 : decode cX2_begin 28 = .ok (.iastore, 1) := by decide +kernel
theorem dX2_begin_29 : decode cX2_begin 29 = .ok (.aload_n 0, 1) := by decide +kernel
theorem dX2_begin_30 : decode cX2_begin 30 = .ok (.getfield 9, 3) := by decide +kernel
theorem dX2_begin_33 : decode cX2_begin 33 = .ok (.iconst 3, 1) := by decide +kernel
theorem dX2_begin_34 : decode cX2_begin 34 = .ok (.iload 4, 2) := by decide +kernel
theorem dX2_begin_36 : decode cX2_begin 36 = .ok (.iastore, 1) := by decide +kernel
theorem dX2_begin_37 : decode cX2_begin 37 = .ok (.return_, 1) := by decide +kernel
theorem dX2_beginBySeed_0 : decode cX2_beginBySeed 0 = .ok (.iload_n 1, 1) := by decide +kernel
theorem dX2_beginBySeed_1 : decode cX2_beginBySeed 1 = .ok (.istore_n 2, 1) := by decide +kernel
theorem dX2_beginBySeed_2 : decode cX2_beginBySeed 2 = .ok (.aload_n 0, 1) := by decide +kernel
theorem dX2_beginBySeed_3 : decode cX2_beginBySeed 3 = .ok (.getfield 9, 3) := by decide +kernel
theorem dX2_beginBySeed_6 : decode cX2_beginBySeed 6 = .ok (.iconst 0, 1) := by decide +kernel
theorem dX2_beginBySeed_7 : decode cX2_beginBySeed 7 = .ok (.invokestatic 19, 3) := by decide +kernel
theorem dX2_beginBySeed_10 : decode cX2_beginBySeed 10 = .ok (.iconst 0, 1) := by decide +kernel
theorem dX2_beginBySeed_11 : decode cX2_beginBySeed 11 = .ok (.istore_n 3, 1) := by decide +kernel
theorem dX2_beginBySeed_12 : decode cX2_beginBySeed 12 = .ok (.iload_n 3, 1) := by decide +kernel
theorem dX2_beginBySeed_13 : decode cX2_beginBySeed 13 = .ok (.iconst 4, 1) := by decide +kernel
theorem dX2_beginBySeed_14 : decode cX2_beginBySeed 14 = .ok (.if_icmp .ge 37, 3) := by decide +kernel
theorem dX2_beginBySeed_17 : decode cX2_beginBySeed 17 = .ok (.iload_n 2, 1) := by decide +kernel
theorem dX2_beginBySeed_18 : decode cX2_beginBySeed 18 = .ok (.ldc 25, 2) := by decide +kernel
theorem dX2_beginBySeed_20 : decode cX2_beginBySeed 20 = .ok (.imul, 1) := by decide +kernel
theorem dX2_beginBySeed_21 : decode cX2_beginBySeed 21 = .ok (.sipush 12345, 3) := by decide +kernel
theorem dX2_beginBySeed_24 : decode cX2_beginBySeed 24 = .ok (.iadd, 1) := by decide +kernel
theorem dX2_beginBySeed_25 : decode cX2_beginBySeed 25 = .ok (.istore_n 2, 1) := by decide +kernel
theorem dX2_beginBySeed_26 : decode cX2_beginBySeed 26 = .ok (.aload_n 0, 1) := by decide +kernel
theorem dX2_beginBySeed_27 : decode cX2_beginBySeed 27 = .ok (.getfield 9, 3) := by decide +kernel
theorem dX2_beginBySeed_30 : decode cX2_beginBySeed 30 = .ok (.iload_n 3, 1) := by decide +kernel
theorem dX2_beginBySeed_31 : decode cX2_beginBySeed 31 = .ok (.iload_n 2, 1) := by decide +kernel
theorem dX2_beginBySeed_32 : decode cX2_beginBySeed 32 = .ok (.bipush 16, 2) := by decide +kernel
theorem dX2_beginBySeed_34 : decode cX2_beginBySeed 34 = .ok (.ishr, 1) := by decide +kernel
theorem dX2_beginBySeed_35 : decode cX2_beginBySeed 35 = .ok (.sipush 32767, 3) := by decide +kernel
theorem dX2_beginBySeed_38 : decode cX2_beginBySeed 38 = .ok (.iand, 1) := by decide +kernel
theorem dX2_beginBySeed_39 : decode cX2_beginBySeed 39 = .ok (.bipush 9, 2) := by decide +kernel
theorem dX2_beginBySeed_41 : decode cX2_beginBySeed 41 = .ok (.irem, 1) := by decide +kernel
theorem dX2_beginBySeed_42 : decode cX2_beginBySeed 42 = .ok (.iconst 4, 1) := by decide +kernel
theorem dX2_beginBySeed_43 : decode cX2_beginBySeed 43 = .ok (.isub, 1) := by decide +kernel
theorem dX2_beginBySeed_44 : decode cX2_beginBySeed 44 = .ok (.iastore, 1) := by decide +kernel
theorem dX2_beginBySeed_45 : decode cX2_beginBySeed 45 = .ok (.iinc 3 1, 3) := by decide +kernel
theorem dX2_beginBySeed_48 : decode cX2_beginBySeed 48 = .ok (.goto (-36), 3) := by decide +kernel
theorem dX2_beginBySeed_51 : decode cX2_beginBySeed 51 = .ok (.iload_n 2, 1) := by decide +kernel
theorem dX2_beginBySeed_52 : decode cX2_beginBySeed 52 = .ok (.ireturn, 1) := by decide +kernel
theorem dX2_doAll_0 : decode cX2_doAll 0 = .ok (.aload_n 0, 1) := by decide +kernel
theorem dX2_doAll_1 : decode cX2_doAll 1 = .ok (.iconst 0, 1) := by decide +kernel
theorem dX2_doAll_2 : decode cX2_doAll 2 = .ok (.putfield 26, 3) := by decide +kernel
theorem dX2_doAll_5 : decode cX2_doAll 5 = .ok (.aload_n 0, 1) := by decide +kernel
theorem dX2_doAll_6 : decode cX2_doAll 6 = .ok (.iconst 0, 1) := by decide +kernel
theorem dX2_doAll_7 : decode cX2_doAll 7 = .ok (.putfield 29, 3) := by decide +kernel
theorem dX2_doAll_10 : decode cX2_doAll 10 = .ok (.aload_n 0, 1) := by decide +kernel
theorem dX2_doAll_11 : decode cX2_doAll 11 = .ok (.bipush (-4), 2) := by decide +kernel
theorem dX2_doAll_13 : decode cX2_doAll 13 = .ok (.putfield 15, 3) := by decide +kernel
theorem dX2_doAll_16 : decode cX2_doAll 16 = .ok (.aload_n 0, 1) := by decide +kernel
theorem dX2_doAll_17 : decode cX2_doAll 17 = .ok (.iconst 1, 1) := by decide +kernel
theorem dX2_doAll_18 : decode cX2_doAll 18 = .ok (.putfield 32, 3) := by decide +kernel
theorem dX2_doAll_21 : decode cX2_doAll 21 = .ok (.aload_n 0, 1) := by decide +kernel
theorem dX2_doAll_22 : decode cX2_doAll 22 = .ok (.iconst 0, 1) := by decide +kernel
theorem dX2_doAll_23 : decode cX2_doAll 23 = .ok (.putfield 35, 3) := by decide +kernel
theorem dX2_doAll_26 : decode cX2_doAll 26 = .ok (.iconst 0, 1) := by decide +kernel
theorem dX2_doAll_27 : decode cX2_doAll 27 = .ok (.istore_n 3, 1) := by decide +kernel
theorem dX2_doAll_28 : decode cX2_doAll 28 = .ok (.iconst 0, 1) := by decide +kernel
theorem dX2_doAll_29 : decode cX2_doAll 29 = .ok (.istore 4, 2) := by decide +kernel
theorem dX2_doAll_31 : decode cX2_doAll 31 = .ok (.iload 4, 2) := by decide +kernel
theorem dX2_doAll_33 : decode cX2_doAll 33 = .ok (.aload_n 1, 1) := by decide +kernel
theorem dX2_doAll_34 : decode cX2_doAll 34 = .ok (.getfield 38, 3) := by decide +kernel
theorem dX2_doAll_37 : decode cX2_doAll 37 = .ok (.if_icmp .ge 161, 3) := by decide +kernel
theorem dX2_doAll_40 : decode cX2_doAll 40 = .ok (.aload_n 0, 1) := by decide +kernel
theorem dX2_doAll_41 : decode cX2_doAll 41 = .ok (.getfield 15, 3) := by decide +kernel
theorem dX2_doAll_44 : decode cX2_doAll 44 = .ok (.bipush (-4), 2) := by decide +kernel
theorem dX2_doAll_46 : decode cX2_doAll 46 = .ok (.if_icmp .ne 152, 3) := by decide +kernel
theorem dX2_doAll_49 : decode cX2_doAll 49 = .ok (.aload_n 1, 1) := by decide +kernel
theorem dX2_doAll_50 : decode cX2_doAll 50 = .ok (.getfield 43, 3) := by decide +kernel
theorem dX2_doAll_53 : decode cX2_doAll 53 = .ok (.iload 4, 2) := by decide +kernel
theorem dX2_doAll_55 : decode cX2_doAll 55 = .ok (.iaload, 1) := by decide +kernel
theorem dX2_doAll_56 : decode cX2_doAll 56 = .ok (.istore 5, 2) := by decide +kernel
theorem dX2_doAll_58 : decode cX2_doAll 58 = .ok (.aload_n 0, 1) := by decide +kernel
theorem dX2_doAll_59 : decode cX2_doAll 59 = .ok (.getfield 32, 3) := by decide +kernel
theorem dX2_doAll_62 : decode cX2_doAll 62 = .ok (.iload 5, 2) := by decide +kernel
theorem dX2_doAll_64 : decode cX2_doAll 64 = .ok (.ishr, 1) := by decide +kernel
theorem dX2_doAll_65 : decode cX2_doAll 65 = .ok (.iconst 1, 1) := by decide +kernel
theorem dX2_doAll_66 : decode cX2_doAll 66 = .ok (.iand, 1) := by decide +kernel
theorem dX2_doAll_67 : decode cX2_doAll 67 = .ok (.iconst 1, 1) := by decide +kernel
theorem dX2_doAll_68 : decode cX2_doAll 68 = .ok (.if_icmp .ne 7, 3) := by decide +kernel
theorem dX2_doAll_71 : decode cX2_doAll 71 = .ok (.iconst 1, 1) := by decide +kernel
theorem dX2_doAll_72 : decode cX2_doAll 72 = .ok (.goto 4, 3) := by decide +kernel
theorem dX2_doAll_75 : decode cX2_doAll 75 = .ok (.iconst 0, 1) := by decide +kernel
theorem dX2_doAll_76 : decode cX2_doAll 76 = .ok (.istore 6, 2) := by decide +kernel
theorem dX2_doAll_78 : decode cX2_doAll 78 = .ok (.iload 6, 2) := by decide +kernel
theorem dX2_doAll_80 : decode cX2_doAll 80 = .ok (.ifCond .ne 16, 3) := by decide +kernel
theorem dX2_doAll_83 : decode cX2_doAll 83 = .ok (.aload_n 0, 1) := by decide +kernel
theorem dX2_doAll_84 : decode cX2_doAll 84 = .ok (.getfield 35, 3) := by decide +kernel
theorem dX2_doAll_87 : decode cX2_doAll 87 = .ok (.iload 5, 2) := by decide +kernel
theorem dX2_doAll_89 : decode cX2_doAll 89 = .ok (.ishr, 1) := by decide +kernel
theorem dX2_doAll_90 : decode cX2_doAll 90 = .ok (.iconst 1, 1) := by decide +kernel
theorem dX2_doAll_91 : decode cX2_doAll 91 = .ok (.iand, 1) := by decide +kernel
theorem dX2_doAll_92 : decode cX2_doAll 92 = .ok (.iconst 1, 1) := by decide +kernel
theorem dX2_doAll_93 : decode cX2_doAll 93 = .ok (.if_icmp .ne 7, 3) := by decide +kernel
theorem dX2_doAll_96 : decode cX2_doAll 96 = .ok (.iconst 1, 1) := by decide +kernel
theorem dX2_doAll_97 : decode cX2_doAll 97 = .ok (.goto 4, 3) := by decide +kernel
theorem dX2_doAll_100 : decode cX2_doAll 100 = .ok (.iconst 0, 1) := by decide +kernel
theorem dX2_doAll_101 : decode cX2_doAll 101 = .ok (.istore 7, 2) := by decide +kernel
theorem dX2_doAll_103 : decode cX2_doAll 103 = .ok (.aload_n 1, 1) := by decide +kernel
theorem dX2_doAll_104 : decode cX2_doAll 104 = .ok (.getfield 46, 3) := by decide +kernel
theorem dX2_doAll_107 : decode cX2_doAll 107 = .ok (.iload 4, 2) := by decide +kernel
theorem dX2_doAll_109 : decode cX2_doAll 109 = .ok (.iaload, 1) := by decide +kernel
theorem dX2_doAll_110 : decode cX2_doAll 110 = .ok (.iconst 5, 1) := by decide +kernel
theorem dX2_doAll_111 : decode cX2_doAll 111 = .ok (.if_icmp .ne 44, 3) := by decide +kernel
theorem dX2_doAll_114 : decode cX2_doAll 114 = .ok (.aload_n 0, 1) := by decide +kernel
theorem dX2_doAll_115 : decode cX2_doAll 115 = .ok (.iload_n 3, 1) := by decide +kernel
theorem dX2_doAll_116 : decode cX2_doAll 116 = .ok (.aload_n 2, 1) := by decide +kernel
theorem dX2_doAll_117 : decode cX2_doAll 117 = .ok (.getfield 49, 3) := by decide +kernel
theorem dX2_doAll_120 : decode cX2_doAll 120 = .ok (.iload_n 3, 1) := by decide +kernel
theorem dX2_doAll_121 : decode cX2_doAll 121 = .ok (.baload, 1) := by decide +kernel
theorem dX2_doAll_122 : decode cX2_doAll 122 = .ok (.iload 7, 2) := by decide +kernel
theorem dX2_doAll_124 : decode cX2_doAll 124 = .ok (.iload 6, 2) := by decide +kernel
theorem dX2_doAll_126 : decode cX2_doAll 126 = .ok (.aload_n 0, 1) := by decide +kernel
theorem dX2_doAll_127 : decode cX2_doAll 127 = .ok (.getfield 9, 3) := by decide +kernel
theorem dX2_doAll_130 : decode cX2_doAll 130 = .ok (.aload_n 1, 1) := by decide +kernel
theorem dX2_doAll_131 : decode cX2_doAll 131 = .ok (.getfield 55, 3) := by decide +kernel
theorem dX2_doAll_134 : decode cX2_doAll 134 = .ok (.iload 4, 2) := by decide +kernel
theorem dX2_doAll_136 : decode cX2_doAll 136 = .ok (.iaload, 1) := by decide +kernel
theorem dX2_doAll_137 : decode cX2_doAll 137 = .ok (.iaload, 1) := by decide +kernel
theorem dX2_doAll_138 : decode cX2_doAll 138 = .ok (.ifCond .le 7, 3) := by decide +kernel
theorem dX2_doAll_141 : decode cX2_doAll 141 = .ok (.iconst 1, 1) := by decide +kernel
theorem dX2_doAll_142 : decode cX2_doAll 142 = .ok (.goto 4, 3) := by decide +kernel
theorem dX2_doAll_145 : decode cX2_doAll 145 = .ok (.iconst 0, 1) := by decide +kernel
theorem dX2_doAll_146 : decode cX2_doAll 146 = .ok (.invokevirtual 58, 3) := by decide +kernel
theorem dX2_doAll_149 : decode cX2_doAll 149 = .ok (.iinc 3 1, 3) := by decide +kernel
theorem dX2_doAll_152 : decode cX2_doAll 152 = .ok (.goto 40, 3) := by decide +kernel
theorem dX2_doAll_155 : decode cX2_doAll 155 = .ok (.aload_n 0, 1) := by decide +kernel
theorem dX2_doAll_156 : decode cX2_doAll 156 = .ok (.dup, 1) := by decide +kernel
theorem dX2_doAll_157 : decode cX2_doAll 157 = .ok (.getfield 29, 3) := by decide +kernel
theorem dX2_doAll_160 : decode cX2_doAll 160 = .ok (.iload 7, 2) := by decide +kernel
theorem dX2_doAll_162 : decode cX2_doAll 162 = .ok (.ifCond .eq 13, 3) := by decide +kernel
theorem dX2_doAll_165 : decode cX2_doAll 165 = .ok (.aload_n 2, 1) := by decide +kernel
theorem dX2_doAll_166 : decode cX2_doAll 166 = .ok (.getfield 62, 3) := by decide +kernel
theorem dX2_doAll_169 : decode cX2_doAll 169 = .ok (.iload 4, 2) := by decide +kernel
theorem dX2_doAll_171 : decode cX2_doAll 171 = .ok (.iaload, 1) := by decide +kernel
theorem dX2_doAll_172 : decode cX2_doAll 172 = .ok (.goto 4, 3) := by decide +kernel
theorem dX2_doAll_175 : decode cX2_doAll 175 = .ok (.iconst 0, 1) := by decide +kernel
theorem dX2_doAll_176 : decode cX2_doAll 176 = .ok (.iadd, 1) := by decide +kernel
theorem dX2_doAll_177 : decode cX2_doAll 177 = .ok (.putfield 29, 3) := by decide +kernel
theorem dX2_doAll_180 : decode cX2_doAll 180 = .ok (.iload 6, 2) := by decide +kernel
theorem dX2_doAll_182 : decode cX2_doAll 182 = .ok (.ifCond .eq 10, 3) := by decide +kernel
theorem dX2_doAll_185 : decode cX2_doAll 185 = .ok (.aload_n 0, 1) := by decide +kernel
theorem dX2_doAll_186 : decode cX2_doAll 186 = .ok (.aload_n 1, 1) := by decide +kernel
theorem dX2_doAll_187 : decode cX2_doAll 187 = .ok (.iload 4, 2) := by decide +kernel
theorem dX2_doAll_189 : decode cX2_doAll 189 = .ok (.invokevirtual 65, 3) := by decide +kernel
theorem dX2_doAll_192 : decode cX2_doAll 192 = .ok (.iinc 4 1, 3) := by decide +kernel
theorem dX2_doAll_195 : decode cX2_doAll 195 = .ok (.goto (-164), 3) := by decide +kernel
theorem dX2_doAll_198 : decode cX2_doAll 198 = .ok (.return_, 1) := by decide +kernel
theorem dX2_goOverIf_0 : decode cX2_goOverIf 0 = .ok (.iconst 2, 1) := by decide +kernel
theorem dX2_goOverIf_1 : decode cX2_goOverIf 1 = .ok (.iload_n 1, 1) := by decide +kernel
theorem dX2_goOverIf_2 : decode cX2_goOverIf 2 = .ok (.imul, 1) := by decide +kernel
theorem dX2_goOverIf_3 : decode cX2_goOverIf 3 = .ok (.iconst 1, 1) := by decide +kernel
theorem dX2_goOverIf_4 : decode cX2_goOverIf 4 = .ok (.iadd, 1) := by decide +kernel
theorem dX2_goOverIf_5 : decode cX2_goOverIf 5 = .ok (.istore 6, 2) := by decide +kernel
theorem dX2_goOverIf_7 : decode cX2_goOverIf 7 = .ok (.iload_n 3, 1) := by decide +kernel
theorem dX2_goOverIf_8 : decode cX2_goOverIf 8 = .ok (.ifCond .eq 21, 3) := by decide +kernel
theorem dX2_goOverIf_11 : decode cX2_goOverIf 11 = .ok (.aload_n 0, 1) := by decide +kernel
theorem dX2_goOverIf_12 : decode cX2_goOverIf 12 = .ok (.dup, 1) := by decide +kernel
theorem dX2_goOverIf_13 : decode cX2_goOverIf 13 = .ok (.getfield 29, 3) := by decide +kernel
theorem dX2_goOverIf_16 : decode cX2_goOverIf 16 = .ok (.iload_n 2, 1) := by decide +kernel
theorem dX2_goOverIf_17 : decode cX2_goOverIf 17 = .ok (.ifCond .eq 7, 3) := by decide +kernel
theorem dX2_goOverIf_20 : decode cX2_goOverIf 20 = .ok (.iconst 1, 1) := by decide +kernel
theorem dX2_goOverIf_21 : decode cX2_goOverIf 21 = .ok (.goto 4, 3) := by decide +kernel
theorem dX2_goOverIf_24 : decode cX2_goOverIf 24 = .ok (.iconst 4, 1) := by decide +kernel
theorem dX2_goOverIf_25 : decode cX2_goOverIf 25 = .ok (.iadd, 1) := by decide +kernel
theorem dX2_goOverIf_26 : decode cX2_goOverIf 26 = .ok (.putfield 29, 3) := by decide +kernel
theorem dX2_goOverIf_29 : decode cX2_goOverIf 29 = .ok (.iload_n 3, 1) := by decide +kernel
theorem dX2_goOverIf_30 : decode cX2_goOverIf 30 = .ok (.ifCond .eq 20, 3) := by decide +kernel
theorem dX2_goOverIf_33 : decode cX2_goOverIf 33 = .ok (.iload_n 2, 1) := by decide +kernel
theorem dX2_goOverIf_34 : decode cX2_goOverIf 34 = .ok (.ifCond .eq 16, 3) := by decide +kernel
theorem dX2_goOverIf_37 : decode cX2_goOverIf 37 = .ok (.aload_n 0, 1) := by decide +kernel
theorem dX2_goOverIf_38 : decode cX2_goOverIf 38 = .ok (.dup, 1) := by decide +kernel
theorem dX2_goOverIf_39 : decode cX2_goOverIf 39 = .ok (.getfield 35, 3) := by decide +kernel
theorem dX2_goOverIf_42 : decode cX2_goOverIf 42 = .ok (.iconst 3, 1) := by decide +kernel
theorem dX2_goOverIf_43 : decode cX2_goOverIf 43 = .ok (.iload 6, 2) := by decide +kernel
theorem dX2_goOverIf_45 : decode cX2_goOverIf 45 = .ok (.ishl, 1) := by decide +kernel
theorem dX2_goOverIf_46 : decode cX2_goOverIf 46 = .ok (.ior, 1) := by decide +kernel
theorem dX2_goOverIf_47 : decode cX2_goOverIf 47 = .ok (.putfield 35, 3) := by decide +kernel
theorem dX2_goOverIf_50 : decode cX2_goOverIf 50 = .ok (.iload 4, 2) := by decide +kernel
theorem dX2_goOverIf_52 : decode cX2_goOverIf 52 = .ok (.ifCond .eq 38, 3) := by decide +kernel
theorem dX2_goOverIf_55 : decode cX2_goOverIf 55 = .ok (.aload_n 0, 1) := by decide +kernel
theorem dX2_goOverIf_56 : decode cX2_goOverIf 56 = .ok (.dup, 1) := by decide +kernel
theorem dX2_goOverIf_57 : decode cX2_goOverIf 57 = .ok (.getfield 32, 3) := by decide +kernel
theorem dX2_goOverIf_60 : decode cX2_goOverIf 60 = .ok (.iconst 1, 1) := by decide +kernel
theorem dX2_goOverIf_61 : decode cX2_goOverIf 61 = .ok (.iload 5, 2) := by decide +kernel
theorem dX2_goOverIf_63 : decode cX2_goOverIf 63 = .ok (.ifCond .eq 8, 3) := by decide +kernel
theorem dX2_goOverIf_66 : decode cX2_goOverIf 66 = .ok (.iload 6, 2) := by decide +kernel
theorem dX2_goOverIf_68 : decode cX2_goOverIf 68 = .ok (.goto 7, 3) := by decide +kernel
theorem dX2_goOverIf_71 : decode cX2_goOverIf 71 = .ok (.iload 6, 2) := by decide +kernel
theorem dX2_goOverIf_73 : decode cX2_goOverIf 73 = .ok (.iconst 1, 1) := by decide +kernel
theorem dX2_goOverIf_74 : decode cX2_goOverIf 74 = .ok (.iadd, 1) := by decide +kernel
theorem dX2_goOverIf_75 : decode cX2_goOverIf 75 = .ok (.ishl, 1) := by decide +kernel
theorem dX2_goOverIf_76 : decode cX2_goOverIf 76 = .ok (.ior, 1) := by decide +kernel
theorem dX2_goOverIf_77 : decode cX2_goOverIf 77 = .ok (.putfield 32, 3) := by decide +kernel
theorem dX2_goOverIf_80 : decode cX2_goOverIf 80 = .ok (.aload_n 0, 1) := by decide +kernel
theorem dX2_goOverIf_81 : decode cX2_goOverIf 81 = .ok (.dup, 1) := by decide +kernel
theorem dX2_goOverIf_82 : decode cX2_goOverIf 82 = .ok (.getfield 26, 3) := by decide +kernel
theorem dX2_goOverIf_85 : decode cX2_goOverIf 85 = .ok (.iconst 1, 1) := by decide +kernel
theorem dX2_goOverIf_86 : decode cX2_goOverIf 86 = .ok (.iadd, 1) := by decide +kernel
theorem dX2_goOverIf_87 : decode cX2_goOverIf 87 = .ok (.putfield 26, 3) := by decide +kernel
theorem dX2_goOverIf_90 : decode cX2_goOverIf 90 = .ok (.return_, 1) := by decide +kernel
theorem dX2_doOne_0 : decode cX2_doOne 0 = .ok (.aload_n 1, 1) := by decide +kernel
theorem dX2_doOne_1 : decode cX2_doOne 1 = .ok (.getfield 46, 3) := by decide +kernel
theorem dX2_doOne_4 : decode cX2_doOne 4 = .ok (.iload_n 2, 1) := by decide +kernel
theorem dX2_doOne_5 : decode cX2_doOne 5 = .ok (.iaload, 1) := by decide +kernel
theorem dX2_doOne_6 : decode cX2_doOne 6 = .ok (.istore_n 3, 1) := by decide +kernel
theorem dX2_doOne_7 : decode cX2_doOne 7 = .ok (.iload_n 3, 1) := by decide +kernel
theorem dX2_doOne_8 : decode cX2_doOne 8 = .ok (.ifCond .ne 31, 3) := by decide +kernel
theorem dX2_doOne_11 : decode cX2_doOne 11 = .ok (.aload_n 0, 1) := by decide +kernel
theorem dX2_doOne_12 : decode cX2_doOne 12 = .ok (.getfield 9, 3) := by decide +kernel
theorem dX2_doOne_15 : decode cX2_doOne 15 = .ok (.aload_n 1, 1) := by decide +kernel
theorem dX2_doOne_16 : decode cX2_doOne 16 = .ok (.getfield 55, 3) := by decide +kernel
theorem dX2_doOne_19 : decode cX2_doOne 19 = .ok (.iload_n 2, 1) := by decide +kernel
theorem dX2_doOne_20 : decode cX2_doOne 20 = .ok (.iaload, 1) := by decide +kernel
theorem dX2_doOne_21 : decode cX2_doOne 21 = .ok (.aload_n 1, 1) := by decide +kernel
theorem dX2_doOne_22 : decode cX2_doOne 22 = .ok (.getfield 69, 3) := by decide +kernel
theorem dX2_doOne_25 : decode cX2_doOne 25 = .ok (.iload_n 2, 1) := by decide +kernel
theorem dX2_doOne_26 : decode cX2_doOne 26 = .ok (.iaload, 1) := by decide +kernel
theorem dX2_doOne_27 : decode cX2_doOne 27 = .ok (.iastore, 1) := by decide +kernel
theorem dX2_doOne_28 : decode cX2_doOne 28 = .ok (.aload_n 0, 1) := by decide +kernel
theorem dX2_doOne_29 : decode cX2_doOne 29 = .ok (.dup, 1) := by decide +kernel
theorem dX2_doOne_30 : decode cX2_doOne 30 = .ok (.getfield 26, 3) := by decide +kernel
theorem dX2_doOne_33 : decode cX2_doOne 33 = .ok (.iconst 1, 1) := by decide +kernel
theorem dX2_doOne_34 : decode cX2_doOne 34 = .ok (.iadd, 1) := by decide +kernel
theorem dX2_doOne_35 : decode cX2_doOne 35 = .ok (.putfield 26, 3) := by decide +kernel
theorem dX2_doOne_38 : decode cX2_doOne 38 = .ok (.return_, 1) := by decide +kernel
theorem dX2_doOne_39 : decode cX2_doOne 39 = .ok (.aload_n 0, 1) := by decide +kernel
theorem dX2_doOne_40 : decode cX2_doOne 40 = .ok (.getfield 9, 3) := by decide +kernel
theorem dX2_doOne_43 : decode cX2_doOne 43 = .ok (.aload_n 1, 1) := by decide +kernel
theorem dX2_doOne_44 : decode cX2_doOne 44 = .ok (.getfield 69, 3) := by decide +kernel
theorem dX2_doOne_47 : decode cX2_doOne 47 = .ok (.iload_n 2, 1) := by decide +kernel
theorem dX2_doOne_48 : decode cX2_doOne 48 = .ok (.iaload, 1) := by decide +kernel
theorem dX2_doOne_49 : decode cX2_doOne 49 = .ok (.iaload, 1) := by decide +kernel
theorem dX2_doOne_50 : decode cX2_doOne 50 = .ok (.istore 4, 2) := by decide +kernel
theorem dX2_doOne_52 : decode cX2_doOne 52 = .ok (.aload_n 0, 1) := by decide +kernel
theorem dX2_doOne_53 : decode cX2_doOne 53 = .ok (.getfield 9, 3) := by decide +kernel
theorem dX2_doOne_56 : decode cX2_doOne 56 = .ok (.aload_n 1, 1) := by decide +kernel
theorem dX2_doOne_57 : decode cX2_doOne 57 = .ok (.getfield 72, 3) := by decide +kernel
theorem dX2_doOne_60 : decode cX2_doOne 60 = .ok (.iload_n 2, 1) := by decide +kernel
theorem dX2_doOne_61 : decode cX2_doOne 61 = .ok (.iaload, 1) := by decide +kernel
theorem dX2_doOne_62 : decode cX2_doOne 62 = .ok (.iaload, 1) := by decide +kernel
theorem dX2_doOne_63 : decode cX2_doOne 63 = .ok (.istore 5, 2) := by decide +kernel
theorem dX2_doOne_65 : decode cX2_doOne 65 = .ok (.iload_n 3, 1) := by decide +kernel
theorem dX2_doOne_66 : decode cX2_doOne 66 = .ok (.iconst 4, 1) := by decide +kernel
theorem dX2_doOne_67 : decode cX2_doOne 67 = .ok (.if_icmp .ne 14, 3) := by decide +kernel
theorem dX2_doOne_70 : decode cX2_doOne 70 = .ok (.iload 5, 2) := by decide +kernel
theorem dX2_doOne_72 : decode cX2_doOne 72 = .ok (.ifCond .ne 9, 3) := by decide +kernel
theorem dX2_doOne_75 : decode cX2_doOne 75 = .ok (.aload_n 0, 1) := by decide +kernel
theorem dX2_doOne_76 : decode cX2_doOne 76 = .ok (.iload_n 2, 1) := by decide +kernel
theorem dX2_doOne_77 : decode cX2_doOne 77 = .ok (.putfield 15, 3) := by decide +kernel
theorem dX2_doOne_80 : decode cX2_doOne 80 = .ok (.return_, 1) := by decide +kernel
theorem dX2_doOne_81 : decode cX2_doOne 81 = .ok (.aload_n 0, 1) := by decide +kernel
theorem dX2_doOne_82 : decode cX2_doOne 82 = .ok (.getfield 9, 3) := by decide +kernel
theorem dX2_doOne_85 : decode cX2_doOne 85 = .ok (.aload_n 1, 1) := by decide +kernel
theorem dX2_doOne_86 : decode cX2_doOne 86 = .ok (.getfield 55, 3) := by decide +kernel
theorem dX2_doOne_89 : decode cX2_doOne 89 = .ok (.iload_n 2, 1) := by decide +kernel
theorem dX2_doOne_90 : decode cX2_doOne 90 = .ok (.iaload, 1) := by decide +kernel
theorem dX2_doOne_91 : decode cX2_doOne 91 = .ok (.iload_n 3, 1) := by decide +kernel
theorem dX2_doOne_92 : decode cX2_doOne 92 = .ok (.iload 4, 2) := by decide +kernel
theorem dX2_doOne_94 : decode cX2_doOne 94 = .ok (.iload 5, 2) := by decide +kernel
theorem dX2_doOne_96 : decode cX2_doOne 96 = .ok (.invokestatic 75, 3) := by decide +kernel
theorem dX2_doOne_99 : decode cX2_doOne 99 = .ok (.iastore, 1) := by decide +kernel
theorem dX2_doOne_100 : decode cX2_doOne 100 = .ok (.aload_n 0, 1) := by decide +kernel
theorem dX2_doOne_101 : decode cX2_doOne 101 = .ok (.dup, 1) := by decide +kernel
theorem dX2_doOne_102 : decode cX2_doOne 102 = .ok (.getfield 26, 3) := by decide +kernel
theorem dX2_doOne_105 : decode cX2_doOne 105 = .ok (.iconst 1, 1) := by decide +kernel
theorem dX2_doOne_106 : decode cX2_doOne 106 = .ok (.iadd, 1) := by decide +kernel
theorem dX2_doOne_107 : decode cX2_doOne 107 = .ok (.putfield 26, 3) := by decide +kernel
theorem dX2_doOne_110 : decode cX2_doOne 110 = .ok (.return_, 1) := by decide +kernel
theorem dX2_computed_0 : decode cX2_computed 0 = .ok (.iload_n 0, 1) := by decide +kernel
theorem dX2_computed_1 : decode cX2_computed 1 = .ok (.tableswitch 39 1 3 #[27, 31, 35], 27) := by decide +kernel
theorem dX2_computed_28 : decode cX2_computed 28 = .ok (.iload_n 1, 1) := by decide +kernel
theorem dX2_computed_29 : decode cX2_computed 29 = .ok (.iload_n 2, 1) := by decide +kernel
theorem dX2_computed_30 : decode cX2_computed 30 = .ok (.iadd, 1) := by decide +kernel
theorem dX2_computed_31 : decode cX2_computed 31 = .ok (.ireturn, 1) := by decide +kernel
theorem dX2_computed_32 : decode cX2_computed 32 = .ok (.iload_n 1, 1) := by decide +kernel
theorem dX2_computed_33 : decode cX2_computed 33 = .ok (.iload_n 2, 1) := by decide +kernel
theorem dX2_computed_34 : decode cX2_computed 34 = .ok (.isub, 1) := by decide +kernel
theorem dX2_computed_35 : decode cX2_computed 35 = .ok (.ireturn, 1) := by decide +kernel
theorem dX2_computed_36 : decode cX2_computed 36 = .ok (.iload_n 1, 1) := by decide +kernel
theorem dX2_computed_37 : decode cX2_computed 37 = .ok (.iload_n 2, 1) := by decide +kernel
theorem dX2_computed_38 : decode cX2_computed 38 = .ok (.imul, 1) := by decide +kernel
theorem dX2_computed_39 : decode cX2_computed 39 = .ok (.ireturn, 1) := by decide +kernel
theorem dX2_computed_40 : decode cX2_computed 40 = .ok (.iload_n 2, 1) := by decide +kernel
theorem dX2_computed_41 : decode cX2_computed 41 = .ok (.ifCond .ne 7, 3) := by decide +kernel
theorem dX2_computed_44 : decode cX2_computed 44 = .ok (.iconst 0, 1) := by decide +kernel
theorem dX2_computed_45 : decode cX2_computed 45 = .ok (.goto 6, 3) := by decide +kernel
theorem dX2_computed_48 : decode cX2_computed 48 = .ok (.iload_n 1, 1) := by decide +kernel
theorem dX2_computed_49 : decode cX2_computed 49 = .ok (.iload_n 2, 1) := by decide +kernel
theorem dX2_computed_50 : decode cX2_computed 50 = .ok (.idiv, 1) := by decide +kernel
theorem dX2_computed_51 : decode cX2_computed 51 = .ok (.ireturn, 1) := by decide +kernel
theorem dX3_init_0 : decode cX3_init 0 = .ok (.aload_n 0, 1) := by decide +kernel
theorem dX3_init_1 : decode cX3_init 1 = .ok (.invokespecial 3, 3) := by decide +kernel
theorem dX3_init_4 : decode cX3_init 4 = .ok (.aload_n 0, 1) := by decide +kernel
theorem dX3_init_5 : decode cX3_init 5 = .ok (.bipush 24, 2) := by decide +kernel
theorem dX3_init_7 : decode cX3_init 7 = .ok (.newarray .int, 2) := by decide +kernel
theorem dX3_init_9 : decode cX3_init 9 = .ok (.putfield 9, 3) := by decide +kernel
theorem dX3_init_12 : decode cX3_init 12 = .ok (.aload_n 0, 1) := by decide +kernel
theorem dX3_init_13 : decode cX3_init 13 = .ok (.bipush 24, 2) := by decide +kernel
theorem dX3_init_15 : decode cX3_init 15 = .ok (.newarray .int, 2) := by decide +kernel
theorem dX3_init_17 : decode cX3_init 17 = .ok (.putfield 15, 3) := by decide +kernel
theorem dX3_init_20 : decode cX3_init 20 = .ok (.aload_n 0, 1) := by decide +kernel
theorem dX3_init_21 : decode cX3_init 21 = .ok (.bipush 24, 2) := by decide +kernel
theorem dX3_init_23 : decode cX3_init 23 = .ok (.newarray .int, 2) := by decide +kernel
theorem dX3_init_25 : decode cX3_init 25 = .ok (.putfield 18, 3) := by decide +kernel
theorem dX3_init_28 : decode cX3_init 28 = .ok (.aload_n 0, 1) := by decide +kernel
theorem dX3_init_29 : decode cX3_init 29 = .ok (.bipush 24, 2) := by decide +kernel
theorem dX3_init_31 : decode cX3_init 31 = .ok (.newarray .int, 2) := by decide +kernel
theorem dX3_init_33 : decode cX3_init 33 = .ok (.putfield 21, 3) := by decide +kernel
theorem dX3_init_36 : decode cX3_init 36 = .ok (.aload_n 0, 1) := by decide +kernel
theorem dX3_init_37 : decode cX3_init 37 = .ok (.bipush 24, 2) := by decide +kernel
theorem dX3_init_39 : decode cX3_init 39 = .ok (.newarray .int, 2) := by decide +kernel
theorem dX3_init_41 : decode cX3_init 41 = .ok (.putfield 24, 3) := by decide +kernel
theorem dX3_init_44 : decode cX3_init 44 = .ok (.aload_n 0, 1) := by decide +kernel
theorem dX3_init_45 : decode cX3_init 45 = .ok (.bipush 6, 2) := by decide +kernel
theorem dX3_init_47 : decode cX3_init 47 = .ok (.newarray .int, 2) := by decide +kernel
theorem dX3_init_49 : decode cX3_init 49 = .ok (.putfield 27, 3) := by decide +kernel
theorem dX3_init_52 : decode cX3_init 52 = .ok (.aload_n 0, 1) := by decide +kernel
theorem dX3_init_53 : decode cX3_init 53 = .ok (.bipush 6, 2) := by decide +kernel
theorem dX3_init_55 : decode cX3_init 55 = .ok (.newarray .int, 2) := by decide +kernel
theorem dX3_init_57 : decode cX3_init 57 = .ok (.putfield 30, 3) := by decide +kernel
theorem dX3_init_60 : decode cX3_init 60 = .ok (.aload_n 0, 1) := by decide +kernel
theorem dX3_init_61 : decode cX3_init 61 = .ok (.sipush 255, 3) := by decide +kernel
theorem dX3_init_64 : decode cX3_init 64 = .ok (.putfield 33, 3) := by decide +kernel
theorem dX3_init_67 : decode cX3_init 67 = .ok (.return_, 1) := by decide +kernel
theorem dX3_clear_0 : decode cX3_clear 0 = .ok (.aload_n 0, 1) := by decide +kernel
theorem dX3_clear_1 : decode cX3_clear 1 = .ok (.iconst 0, 1) := by decide +kernel
theorem dX3_clear_2 : decode cX3_clear 2 = .ok (.putfield 37, 3) := by decide +kernel
theorem dX3_clear_5 : decode cX3_clear 5 = .ok (.aload_n 0, 1) := by decide +kernel
theorem dX3_clear_6 : decode cX3_clear 6 = .ok (.iconst 0, 1) := by decide +kernel
theorem dX3_clear_7 : decode cX3_clear 7 = .ok (.putfield 40, 3) := by decide +kernel
theorem dX3_clear_10 : decode cX3_clear 10 = .ok (.aload_n 0, 1) := by decide +kernel
theorem dX3_clear_11 : decode cX3_clear 11 = .ok (.sipush 255, 3) := by decide +kernel
theorem dX3_clear_14 : decode cX3_clear 14 = .ok (.putfield 33, 3) := by decide +kernel
theorem dX3_clear_17 : decode cX3_clear 17 = .ok (.return_, 1) := by decide +kernel
theorem dX3_becomeLike_0 : decode cX3_becomeLike 0 = .ok (.aload_n 1, 1) := by decide +kernel
theorem dX3_becomeLike_1 : decode cX3_becomeLike 1 = .ok (.getfield 9, 3) := by decide +kernel
theorem dX3_becomeLike_4 : decode cX3_becomeLike 4 = .ok (.iconst 0, 1) := by decide +kernel
theorem dX3_becomeLike_5 : decode cX3_becomeLike 5 = .ok (.aload_n 0, 1) := by decide +kernel
theorem dX3_becomeLike_6 : decode cX3_becomeLike 6 = .ok (.getfield 9, 3) := by decide +kernel
theorem dX3_becomeLike_9 : decode cX3_becomeLike 9 = .ok (.iconst 0, 1) := by decide +kernel
theorem dX3_becomeLike_10 : decode cX3_becomeLike 10 = .ok (.bipush 24, 2) := by decide +kernel
theorem dX3_becomeLike_12 : decode cX3_becomeLike 12 = .ok (.invokestatic 43, 3) := by decide +kernel
theorem dX3_becomeLike_15 : decode cX3_becomeLike 15 = .ok (.aload_n 1, 1) := by decide +kernel
theorem dX3_becomeLike_16 : decode cX3_becomeLike 16 = .ok (.getfield 15, 3) := by decide +kernel
theorem dX3_becomeLike_19 : decode cX3_becomeLike 19 = .ok (.iconst 0, 1) := by decide +kernel
theorem dX3_becomeLike_20 : decode cX3_becomeLike 20 = .ok (.aload_n 0, 1) := by decide +kernel
theorem dX3_becomeLike_21 : decode cX3_becomeLike 21 = .ok (.getfield 15, 3) := by decide +kernel
theorem dX3_becomeLike_24 : decode cX3_becomeLike 24 = .ok (.iconst 0, 1) := by decide +kernel
theorem dX3_becomeLike_25 : decode cX3_becomeLike 25 = .ok (.bipush 24, 2) := by decide +kernel
theorem dX3_becomeLike_27 : decode cX3_becomeLike 27 = .ok (.invokestatic 43, 3) := by decide +kernel
theorem dX3_becomeLike_30 : decode cX3_becomeLike 30 = .ok (.aload_n 1, 1) := by decide +kernel
theorem dX3_becomeLike_31 : decode cX3_becomeLike 31 = .ok (.getfield 18, 3) := by decide +kernel
theorem dX3_becomeLike_34 : decode cX3_becomeLike 34 = .ok (.iconst 0, 1) := by decide +kernel
theorem dX3_becomeLike_35 : decode cX3_becomeLike 35 = .ok (.aload_n 0, 1) := by decide +kernel
theorem dX3_becomeLike_36 : decode cX3_becomeLike 36 = .ok (.getfield 18, 3) := by decide +kernel
theorem dX3_becomeLike_39 : decode cX3_becomeLike 39 = .ok (.iconst 0, 1) := by decide +kernel
theorem dX3_becomeLike_40 : decode cX3_becomeLike 40 = .ok (.bipush 24, 2) := by decide +kernel
theorem dX3_becomeLike_42 : decode cX3_becomeLike 42 = .ok (.invokestatic 43, 3) := by decide +kernel
theorem dX3_becomeLike_45 : decode cX3_becomeLike 45 = .ok (.aload_n 1, 1) := by decide +kernel
theorem dX3_becomeLike_46 : decode cX3_becomeLike 46 = .ok (.getfield 21, 3) := by decide +kernel
theorem dX3_becomeLike_49 : decode cX3_becomeLike 49 = .ok (.iconst 0, 1) := by decide +kernel
theorem dX3_becomeLike_50 : decode cX3_becomeLike 50 = .ok (.aload_n 0, 1) := by decide +kernel
theorem dX3_becomeLike_51 : decode cX3_becomeLike 51 = .ok (.getfield 21, 3) := by decide +kernel
theorem dX3_becomeLike_54 : decode cX3_becomeLike 54 = .ok (.iconst 0, 1) := by decide +kernel
theorem dX3_becomeLike_55 : decode cX3_becomeLike 55 = .ok (.bipush 24, 2) := by decide +kernel
theorem dX3_becomeLike_57 : decode cX3_becomeLike 57 = .ok (.invokestatic 43, 3) := by decide +kernel
theorem dX3_becomeLike_60 : decode cX3_becomeLike 60 = .ok (.aload_n 1, 1) := by decide +kernel
theorem dX3_becomeLike_61 : decode cX3_becomeLike 61 = .ok (.getfield 24, 3) := by decide +kernel
theorem dX3_becomeLike_64 : decode cX3_becomeLike 64 = .ok (.iconst 0, 1) := by decide +kernel
theorem dX3_becomeLike_65 : decode cX3_becomeLike 65 = .ok (.aload_n 0, 1) := by decide +kernel
theorem dX3_becomeLike_66 : decode cX3_becomeLike 66 = .ok (.getfield 24, 3) := by decide +kernel
theorem dX3_becomeLike_69 : decode cX3_becomeLike 69 = .ok (.iconst 0, 1) := by decide +kernel
theorem dX3_becomeLike_70 : decode cX3_becomeLike 70 = .ok (.bipush 24, 2) := by decide +kernel
theorem dX3_becomeLike_72 : decode cX3_becomeLike 72 = .ok (.invokestatic 43, 3) := by decide +kernel
theorem dX3_becomeLike_75 : decode cX3_becomeLike 75 = .ok (.aload_n 1, 1) := by decide +kernel
theorem dX3_becomeLike_76 : decode cX3_becomeLike 76 = .ok (.getfield 27, 3) := by decide +kernel
theorem dX3_becomeLike_79 : decode cX3_becomeLike 79 = .ok (.iconst 0, 1) := by decide +kernel
theorem dX3_becomeLike_80 : decode cX3_becomeLike 80 = .ok (.aload_n 0, 1) := by decide +kernel
theorem dX3_becomeLike_81 : decode cX3_becomeLike 81 = .ok (.getfield 27, 3) := by decide +kernel
theorem dX3_becomeLike_84 : decode cX3_becomeLike 84 = .ok (.iconst 0, 1) := by decide +kernel
theorem dX3_becomeLike_85 : decode cX3_becomeLike 85 = .ok (.bipush 6, 2) := by decide +kernel
theorem dX3_becomeLike_87 : decode cX3_becomeLike 87 = .ok (.invokestatic 43, 3) := by decide +kernel
theorem dX3_becomeLike_90 : decode cX3_becomeLike 90 = .ok (.aload_n 1, 1) := by decide +kernel
theorem dX3_becomeLike_91 : decode cX3_becomeLike 91 = .ok (.getfield 30, 3) := by decide +kernel
theorem dX3_becomeLike_94 : decode cX3_becomeLike 94 = .ok (.iconst 0, 1) := by decide +kernel
theorem dX3_becomeLike_95 : decode cX3_becomeLike 95 = .ok (.aload_n 0, 1) := by decide +kernel
theorem dX3_becomeLike_96 : decode cX3_becomeLike 96 = .ok (.getfield 30, 3) := by decide +kernel
theorem dX3_becomeLike_99 : decode cX3_becomeLike 99 = .ok (.iconst 0, 1) := by decide +kernel
theorem dX3_becomeLike_100 : decode cX3_becomeLike 100 = .ok (.bipush 6, 2) := by decide +kernel
theorem dX3_becomeLike_102 : decode cX3_becomeLike 102 = .ok (.invokestatic 43, 3) := by decide +kernel
theorem dX3_becomeLike_105 : decode cX3_becomeLike 105 = .ok (.aload_n 0, 1) := by decide +kernel
theorem dX3_becomeLike_106 : decode cX3_becomeLike 106 = .ok (.aload_n 1, 1) := by decide +kernel
theorem dX3_becomeLike_107 : decode cX3_becomeLike 107 = .ok (.getfield 37, 3) := by decide +kernel
theorem dX3_becomeLike_110 : decode cX3_becomeLike 110 = .ok (.putfield 37, 3) := by decide +kernel
theorem dX3_becomeLike_113 : decode cX3_becomeLike 113 = .ok (.aload_n 0, 1) := by decide +kernel
theorem dX3_becomeLike_114 : decode cX3_becomeLike 114 = .ok (.aload_n 1, 1) := by decide +kernel
theorem dX3_becomeLike_115 : decode cX3_becomeLike 115 = .ok (.getfield 40, 3) := by decide +kernel
theorem dX3_becomeLike_118 : decode cX3_becomeLike 118 = .ok (.putfield 40, 3) := by decide +kernel
theorem dX3_becomeLike_121 : decode cX3_becomeLike 121 = .ok (.aload_n 0, 1) := by decide +kernel
theorem dX3_becomeLike_122 : decode cX3_becomeLike 122 = .ok (.aload_n 1, 1) := by decide +kernel
theorem dX3_becomeLike_123 : decode cX3_becomeLike 123 = .ok (.getfield 33, 3) := by decide +kernel
theorem dX3_becomeLike_126 : decode cX3_becomeLike 126 = .ok (.putfield 33, 3) := by decide +kernel
theorem dX3_becomeLike_129 : decode cX3_becomeLike 129 = .ok (.return_, 1) := by decide +kernel
theorem dX3_hasRoomFor_0 : decode cX3_hasRoomFor 0 = .ok (.aload_n 0, 1) := by decide +kernel
theorem dX3_hasRoomFor_1 : decode cX3_hasRoomFor 1 = .ok (.getfield 37, 3) := by decide +kernel
theorem dX3_hasRoomFor_4 : decode cX3_hasRoomFor 4 = .ok (.bipush 24, 2) := by decide +kernel
theorem dX3_hasRoomFor_6 : decode cX3_hasRoomFor 6 = .ok (.if_icmp .ge 21, 3) := by decide +kernel
theorem dX3_hasRoomFor_9 : decode cX3_hasRoomFor 9 = .ok (.iload_n 1, 1) := by decide +kernel
theorem dX3_hasRoomFor_10 : decode cX3_hasRoomFor 10 = .ok (.iconst 5, 1) := by decide +kernel
theorem dX3_hasRoomFor_11 : decode cX3_hasRoomFor 11 = .ok (.if_icmp .ne 12, 3) := by decide +kernel
theorem dX3_hasRoomFor_14 : decode cX3_hasRoomFor 14 = .ok (.aload_n 0, 1) := by decide +kernel
theorem dX3_hasRoomFor_15 : decode cX3_hasRoomFor 15 = .ok (.getfield 40, 3) := by decide +kernel
theorem dX3_hasRoomFor_18 : decode cX3_hasRoomFor 18 = .ok (.bipush 6, 2) := by decide +kernel
theorem dX3_hasRoomFor_20 : decode cX3_hasRoomFor 20 = .ok (.if_icmp .ge 7, 3) := by decide +kernel
theorem dX3_hasRoomFor_23 : decode cX3_hasRoomFor 23 = .ok (.iconst 1, 1) := by decide +kernel
theorem dX3_hasRoomFor_24 : decode cX3_hasRoomFor 24 = .ok (.goto 4, 3) := by decide +kernel
theorem dX3_hasRoomFor_27 : decode cX3_hasRoomFor 27 = .ok (.iconst 0, 1) := by decide +kernel
theorem dX3_hasRoomFor_28 : decode cX3_hasRoomFor 28 = .ok (.ireturn, 1) := by decide +kernel
theorem dX3_append_0 : decode cX3_append 0 = .ok (.aload_n 0, 1) := by decide +kernel
theorem dX3_append_1 : decode cX3_append 1 = .ok (.getfield 9, 3) := by decide +kernel
theorem dX3_append_4 : decode cX3_append 4 = .ok (.aload_n 0, 1) := by decide +kernel
theorem dX3_append_5 : decode cX3_append 5 = .ok (.getfield 37, 3) := by decide +kernel
theorem dX3_append_8 : decode cX3_append 8 = .ok (.iload_n 1, 1) := by decide +kernel
theorem dX3_append_9 : decode cX3_append 9 = .ok (.iastore, 1) := by decide +kernel
theorem dX3_append_10 : decode cX3_append 10 = .ok (.aload_n 0, 1) := by decide +kernel
theorem dX3_append_11 : decode cX3_append 11 = .ok (.getfield 15, 3) := by decide +kernel
theorem dX3_append_14 : decode cX3_append 14 = .ok (.aload_n 0, 1) := by decide +kernel
theorem dX3_append_15 : decode cX3_append 15 = .ok (.getfield 37, 3) := by decide +kernel
theorem dX3_append_18 : decode cX3_append 18 = .ok (.iload_n 2, 1) := by decide +kernel
theorem dX3_append_19 : decode cX3_append 19 = .ok (.iastore, 1) := by decide +kernel
theorem dX3_append_20 : decode cX3_append 20 = .ok (.aload_n 0, 1) := by decide +kernel
theorem dX3_append_21 : decode cX3_append 21 = .ok (.getfield 18, 3) := by decide +kernel
theorem dX3_append_24 : decode cX3_append 24 = .ok (.aload_n 0, 1) := by decide +kernel
theorem dX3_append_25 : decode cX3_append 25 = .ok (.getfield 37, 3) := by decide +kernel
theorem dX3_append_28 : decode cX3_append 28 = .ok (.iload_n 3, 1) := by decide +kernel
theorem dX3_append_29 : decode cX3_append 29 = .ok (.iastore, 1) := by decide +kernel
theorem dX3_append_30 : decode cX3_append 30 = .ok (.aload_n 0, 1) := by decide +kernel
theorem dX3_append_31 : decode cX3_append 31 = .ok (.getfield 21, 3) := by decide +kernel
theorem dX3_append_34 : decode cX3_append 34 = .ok (.aload_n 0, 1) := by decide +kernel
theorem dX3_append_35 : decode cX3_append 35 = .ok (.getfield 37, 3) := by decide +kernel
theorem dX3_append_38 : decode cX3_append 38 = .ok (.iload 4, 2) := by decide +kernel
theorem dX3_append_40 : decode cX3_append 40 = .ok (.iastore, 1) := by decide +kernel
theorem dX3_append_41 : decode cX3_append 41 = .ok (.aload_n 0, 1) := by decide +kernel
theorem dX3_append_42 : decode cX3_append 42 = .ok (.getfield 24, 3) := by decide +kernel
theorem dX3_append_45 : decode cX3_append 45 = .ok (.aload_n 0, 1) := by decide +kernel
theorem dX3_append_46 : decode cX3_append 46 = .ok (.getfield 37, 3) := by decide +kernel
theorem dX3_append_49 : decode cX3_append 49 = .ok (.iload 5, 2) := by decide +kernel
theorem dX3_append_51 : decode cX3_append 51 = .ok (.iastore, 1) := by decide +kernel
theorem dX3_append_52 : decode cX3_append 52 = .ok (.iload_n 1, 1) := by decide +kernel
theorem dX3_append_53 : decode cX3_append 53 = .ok (.iconst 5, 1) := by decide +kernel
theorem dX3_append_54 : decode cX3_append 54 = .ok (.if_icmp .ne 36, 3) := by decide +kernel
theorem dX3_append_57 : decode cX3_append 57 = .ok (.aload_n 0, 1) := by decide +kernel
theorem dX3_append_58 : decode cX3_append 58 = .ok (.getfield 27, 3) := by decide +kernel
theorem dX3_append_61 : decode cX3_append 61 = .ok (.aload_n 0, 1) := by decide +kernel
theorem dX3_append_62 : decode cX3_append 62 = .ok (.getfield 40, 3) := by decide +kernel
theorem dX3_append_65 : decode cX3_append 65 = .ok (.aload_n 0, 1) := by decide +kernel
theorem dX3_append_66 : decode cX3_append 66 = .ok (.getfield 37, 3) := by decide +kernel
theorem dX3_append_69 : decode cX3_append 69 = .ok (.iastore, 1) := by decide +kernel
theorem dX3_append_70 : decode cX3_append 70 = .ok (.aload_n 0, 1) := by decide +kernel
theorem dX3_append_71 : decode cX3_append 71 = .ok (.getfield 30, 3) := by decide +kernel
theorem dX3_append_74 : decode cX3_append 74 = .ok (.aload_n 0, 1) := by decide +kernel
theorem dX3_append_75 : decode cX3_append 75 = .ok (.getfield 40, 3) := by decide +kernel
theorem dX3_append_78 : decode cX3_append 78 = .ok (.iconst 2, 1) := by decide +kernel
theorem dX3_append_79 : decode cX3_append 79 = .ok (.iastore, 1) := by decide +kernel
theorem dX3_append_80 : decode cX3_append 80 = .ok (.aload_n 0, 1) := by decide +kernel
theorem dX3_append_81 : decode cX3_append 81 = .ok (.dup, 1) := by decide +kernel
theorem dX3_append_82 : decode cX3_append 82 = .ok (.getfield 40, 3) := by decide +kernel
theorem dX3_append_85 : decode cX3_append 85 = .ok (.iconst 1, 1) := by decide +kernel
theorem dX3_append_86 : decode cX3_append 86 = .ok (.iadd, 1) := by decide +kernel
theorem dX3_append_87 : decode cX3_append 87 = .ok (.putfield 40, 3) := by decide +kernel
theorem dX3_append_90 : decode cX3_append 90 = .ok (.aload_n 0, 1) := by decide +kernel
theorem dX3_append_91 : decode cX3_append 91 = .ok (.dup, 1) := by decide +kernel
theorem dX3_append_92 : decode cX3_append 92 = .ok (.getfield 37, 3) := by decide +kernel
theorem dX3_append_95 : decode cX3_append 95 = .ok (.iconst 1, 1) := by decide +kernel
theorem dX3_append_96 : decode cX3_append 96 = .ok (.iadd, 1) := by decide +kernel
theorem dX3_append_97 : decode cX3_append 97 = .ok (.putfield 37, 3) := by decide +kernel
theorem dX3_append_100 : decode cX3_append 100 = .ok (.return_, 1) := by decide +kernel
theorem dX3_hasInstruction_0 : decode cX3_hasInstruction 0 = .ok (.iload_n 1, 1) := by decide +kernel
theorem dX3_hasInstruction_1 : decode cX3_hasInstruction 1 = .ok (.ifCond .lt 15, 3) := by decide +kernel
theorem dX3_hasInstruction_4 : decode cX3_hasInstruction 4 = .ok (.iload_n 1, 1) := by decide +kernel
theorem dX3_hasInstruction_5 : decode cX3_hasInstruction 5 = .ok (.aload_n 0, 1) := by decide +kernel
theorem dX3_hasInstruction_6 : decode cX3_hasInstruction 6 = .ok (.getfield 37, 3) := by decide +kernel
theorem dX3_hasInstruction_9 : decode cX3_hasInstruction 9 = .ok (.if_icmp .ge 7, 3) := by decide +kernel
theorem dX3_hasInstruction_12 : decode cX3_hasInstruction 12 = .ok (.iconst 1, 1) := by decide +kernel
theorem dX3_hasInstruction_13 : decode cX3_hasInstruction 13 = .ok (.goto 4, 3) := by decide +kernel
theorem dX3_hasInstruction_16 : decode cX3_hasInstruction 16 = .ok (.iconst 0, 1) := by decide +kernel
theorem dX3_hasInstruction_17 : decode cX3_hasInstruction 17 = .ok (.ireturn, 1) := by decide +kernel
theorem dX3_hasIf_0 : decode cX3_hasIf 0 = .ok (.iload_n 1, 1) := by decide +kernel
theorem dX3_hasIf_1 : decode cX3_hasIf 1 = .ok (.ifCond .lt 15, 3) := by decide +kernel
theorem dX3_hasIf_4 : decode cX3_hasIf 4 = .ok (.iload_n 1, 1) := by decide +kernel
theorem dX3_hasIf_5 : decode cX3_hasIf 5 = .ok (.aload_n 0, 1) := by decide +kernel
theorem dX3_hasIf_6 : decode cX3_hasIf 6 = .ok (.getfield 40, 3) := by decide +kernel
theorem dX3_hasIf_9 : decode cX3_hasIf 9 = .ok (.if_icmp .ge 7, 3) := by decide +kernel
theorem dX3_hasIf_12 : decode cX3_hasIf 12 = .ok (.iconst 1, 1) := by decide +kernel
theorem dX3_hasIf_13 : decode cX3_hasIf 13 = .ok (.goto 4, 3) := by decide +kernel
theorem dX3_hasIf_16 : decode cX3_hasIf 16 = .ok (.iconst 0, 1) := by decide +kernel
theorem dX3_hasIf_17 : decode cX3_hasIf 17 = .ok (.ireturn, 1) := by decide +kernel
theorem dX3_hasGuard_0 : decode cX3_hasGuard 0 = .ok (.iload_n 1, 1) := by decide +kernel
theorem dX3_hasGuard_1 : decode cX3_hasGuard 1 = .ok (.ifCond .lt 15, 3) := by decide +kernel
theorem dX3_hasGuard_4 : decode cX3_hasGuard 4 = .ok (.iload_n 1, 1) := by decide +kernel
theorem dX3_hasGuard_5 : decode cX3_hasGuard 5 = .ok (.aload_n 0, 1) := by decide +kernel
theorem dX3_hasGuard_6 : decode cX3_hasGuard 6 = .ok (.invokevirtual 49, 3) := by decide +kernel
theorem dX3_hasGuard_9 : decode cX3_hasGuard 9 = .ok (.if_icmp .ge 7, 3) := by decide +kernel
theorem dX3_hasGuard_12 : decode cX3_hasGuard 12 = .ok (.iconst 1, 1) := by decide +kernel
theorem dX3_hasGuard_13 : decode cX3_hasGuard 13 = .ok (.goto 4, 3) := by decide +kernel
theorem dX3_hasGuard_16 : decode cX3_hasGuard 16 = .ok (.iconst 0, 1) := by decide +kernel
theorem dX3_hasGuard_17 : decode cX3_hasGuard 17 = .ok (.ireturn, 1) := by decide +kernel
theorem dX3_guardCount_0 : decode cX3_guardCount 0 = .ok (.iconst 2, 1) := by decide +kernel
theorem dX3_guardCount_1 : decode cX3_guardCount 1 = .ok (.aload_n 0, 1) := by decide +kernel
theorem dX3_guardCount_2 : decode cX3_guardCount 2 = .ok (.getfield 40, 3) := by decide +kernel
theorem dX3_guardCount_5 : decode cX3_guardCount 5 = .ok (.imul, 1) := by decide +kernel
theorem dX3_guardCount_6 : decode cX3_guardCount 6 = .ok (.iconst 1, 1) := by decide +kernel
theorem dX3_guardCount_7 : decode cX3_guardCount 7 = .ok (.iadd, 1) := by decide +kernel
theorem dX3_guardCount_8 : decode cX3_guardCount 8 = .ok (.ireturn, 1) := by decide +kernel
theorem dX3_isCompute_0 : decode cX3_isCompute 0 = .ok (.aload_n 0, 1) := by decide +kernel
theorem dX3_isCompute_1 : decode cX3_isCompute 1 = .ok (.getfield 9, 3) := by decide +kernel
theorem dX3_isCompute_4 : decode cX3_isCompute 4 = .ok (.iload_n 1, 1) := by decide +kernel
theorem dX3_isCompute_5 : decode cX3_isCompute 5 = .ok (.iaload, 1) := by decide +kernel
theorem dX3_isCompute_6 : decode cX3_isCompute 6 = .ok (.iconst 1, 1) := by decide +kernel
theorem dX3_isCompute_7 : decode cX3_isCompute 7 = .ok (.if_icmp .lt 17, 3) := by decide +kernel
theorem dX3_isCompute_10 : decode cX3_isCompute 10 = .ok (.aload_n 0, 1) := by decide +kernel
theorem dX3_isCompute_11 : decode cX3_isCompute 11 = .ok (.getfield 9, 3) := by decide +kernel
theorem dX3_isCompute_14 : decode cX3_isCompute 14 = .ok (.iload_n 1, 1) := by decide +kernel
theorem dX3_isCompute_15 : decode cX3_isCompute 15 = .ok (.iaload, 1) := by decide +kernel
theorem dX3_isCompute_16 : decode cX3_isCompute 16 = .ok (.iconst 4, 1) := by decide +kernel
theorem dX3_isCompute_17 : decode cX3_isCompute 17 = .ok (.if_icmp .gt 7, 3) := by decide +kernel
theorem dX3_isCompute_20 : decode cX3_isCompute 20 = .ok (.iconst 1, 1) := by decide +kernel
theorem dX3_isCompute_21 : decode cX3_isCompute 21 = .ok (.goto 4, 3) := by decide +kernel
theorem dX3_isCompute_24 : decode cX3_isCompute 24 = .ok (.iconst 0, 1) := by decide +kernel
theorem dX3_isCompute_25 : decode cX3_isCompute 25 = .ok (.ireturn, 1) := by decide +kernel
theorem dX3_ifOf_0 : decode cX3_ifOf 0 = .ok (.iconst 0, 1) := by decide +kernel
theorem dX3_ifOf_1 : decode cX3_ifOf 1 = .ok (.istore_n 2, 1) := by decide +kernel
theorem dX3_ifOf_2 : decode cX3_ifOf 2 = .ok (.iload_n 2, 1) := by decide +kernel
theorem dX3_ifOf_3 : decode cX3_ifOf 3 = .ok (.aload_n 0, 1) := by decide +kernel
theorem dX3_ifOf_4 : decode cX3_ifOf 4 = .ok (.getfield 40, 3) := by decide +kernel
theorem dX3_ifOf_7 : decode cX3_ifOf 7 = .ok (.if_icmp .ge 21, 3) := by decide +kernel
theorem dX3_ifOf_10 : decode cX3_ifOf 10 = .ok (.aload_n 0, 1) := by decide +kernel
theorem dX3_ifOf_11 : decode cX3_ifOf 11 = .ok (.getfield 27, 3) := by decide +kernel
theorem dX3_ifOf_14 : decode cX3_ifOf 14 = .ok (.iload_n 2, 1) := by decide +kernel
theorem dX3_ifOf_15 : decode cX3_ifOf 15 = .ok (.iaload, 1) := by decide +kernel
theorem dX3_ifOf_16 : decode cX3_ifOf 16 = .ok (.iload_n 1, 1) := by decide +kernel
theorem dX3_ifOf_17 : decode cX3_ifOf 17 = .ok (.if_icmp .ne 5, 3) := by decide +kernel
theorem dX3_ifOf_20 : decode cX3_ifOf 20 = .ok (.iload_n 2, 1) := by decide +kernel
theorem dX3_ifOf_21 : decode cX3_ifOf 21 = .ok (.ireturn, 1) := by decide +kernel
theorem dX3_ifOf_22 : decode cX3_ifOf 22 = .ok (.iinc 2 1, 3) := by decide +kernel
theorem dX3_ifOf_25 : decode cX3_ifOf 25 = .ok (.goto (-23), 3) := by decide +kernel
theorem dX3_ifOf_28 : decode cX3_ifOf 28 = .ok (.bipush (-4), 2) := by decide +kernel
theorem dX3_ifOf_30 : decode cX3_ifOf 30 = .ok (.ireturn, 1) := by decide +kernel
theorem dX3_makerOf_0 : decode cX3_makerOf 0 = .ok (.iload_n 1, 1) := by decide +kernel
theorem dX3_makerOf_1 : decode cX3_makerOf 1 = .ok (.ifCond .ne 8, 3) := by decide +kernel
theorem dX3_makerOf_4 : decode cX3_makerOf 4 = .ok (.bipush (-4), 2) := by decide +kernel
theorem dX3_makerOf_6 : decode cX3_makerOf 6 = .ok (.goto 13, 3) := by decide +kernel
theorem dX3_makerOf_9 : decode cX3_makerOf 9 = .ok (.aload_n 0, 1) := by decide +kernel
theorem dX3_makerOf_10 : decode cX3_makerOf 10 = .ok (.getfield 27, 3) := by decide +kernel
theorem dX3_makerOf_13 : decode cX3_makerOf 13 = .ok (.iload_n 1, 1) := by decide +kernel
theorem dX3_makerOf_14 : decode cX3_makerOf 14 = .ok (.iconst 1, 1) := by decide +kernel
theorem dX3_makerOf_15 : decode cX3_makerOf 15 = .ok (.isub, 1) := by decide +kernel
theorem dX3_makerOf_16 : decode cX3_makerOf 16 = .ok (.iconst 2, 1) := by decide +kernel
theorem dX3_makerOf_17 : decode cX3_makerOf 17 = .ok (.idiv, 1) := by decide +kernel
theorem dX3_makerOf_18 : decode cX3_makerOf 18 = .ok (.iaload, 1) := by decide +kernel
theorem dX3_makerOf_19 : decode cX3_makerOf 19 = .ok (.ireturn, 1) := by decide +kernel
theorem dX3_parentOf_0 : decode cX3_parentOf 0 = .ok (.iload_n 1, 1) := by decide +kernel
theorem dX3_parentOf_1 : decode cX3_parentOf 1 = .ok (.ifCond .ne 8, 3) := by decide +kernel
theorem dX3_parentOf_4 : decode cX3_parentOf 4 = .ok (.bipush (-4), 2) := by decide +kernel
theorem dX3_parentOf_6 : decode cX3_parentOf 6 = .ok (.goto 13, 3) := by decide +kernel
theorem dX3_parentOf_9 : decode cX3_parentOf 9 = .ok (.aload_n 0, 1) := by decide +kernel
theorem dX3_parentOf_10 : decode cX3_parentOf 10 = .ok (.getfield 24, 3) := by decide +kernel
theorem dX3_parentOf_13 : decode cX3_parentOf 13 = .ok (.aload_n 0, 1) := by decide +kernel
theorem dX3_parentOf_14 : decode cX3_parentOf 14 = .ok (.iload_n 1, 1) := by decide +kernel
theorem dX3_parentOf_15 : decode cX3_parentOf 15 = .ok (.invokevirtual 53, 3) := by decide +kernel
theorem dX3_parentOf_18 : decode cX3_parentOf 18 = .ok (.iaload, 1) := by decide +kernel
theorem dX3_parentOf_19 : decode cX3_parentOf 19 = .ok (.ireturn, 1) := by decide +kernel
theorem dX3_tenthsOf_0 : decode cX3_tenthsOf 0 = .ok (.aload_n 0, 1) := by decide +kernel
theorem dX3_tenthsOf_1 : decode cX3_tenthsOf 1 = .ok (.getfield 18, 3) := by decide +kernel
theorem dX3_tenthsOf_4 : decode cX3_tenthsOf 4 = .ok (.aload_n 0, 1) := by decide +kernel
theorem dX3_tenthsOf_5 : decode cX3_tenthsOf 5 = .ok (.iload_n 1, 1) := by decide +kernel
theorem dX3_tenthsOf_6 : decode cX3_tenthsOf 6 = .ok (.invokevirtual 53, 3) := by decide +kernel
theorem dX3_tenthsOf_9 : decode cX3_tenthsOf 9 = .ok (.iaload, 1) := by decide +kernel
theorem dX3_tenthsOf_10 : decode cX3_tenthsOf 10 = .ok (.istore_n 2, 1) := by decide +kernel
theorem dX3_tenthsOf_11 : decode cX3_tenthsOf 11 = .ok (.iload_n 1, 1) := by decide +kernel
theorem dX3_tenthsOf_12 : decode cX3_tenthsOf 12 = .ok (.invokestatic 57, 3) := by decide +kernel
theorem dX3_tenthsOf_15 : decode cX3_tenthsOf 15 = .ok (.ifCond .eq 7, 3) := by decide +kernel
theorem dX3_tenthsOf_18 : decode cX3_tenthsOf 18 = .ok (.iload_n 2, 1) := by decide +kernel
theorem dX3_tenthsOf_19 : decode cX3_tenthsOf 19 = .ok (.goto 7, 3) := by decide +kernel
theorem dX3_tenthsOf_22 : decode cX3_tenthsOf 22 = .ok (.bipush 10, 2) := by decide +kernel
theorem dX3_tenthsOf_24 : decode cX3_tenthsOf 24 = .ok (.iload_n 2, 1) := by decide +kernel
theorem dX3_tenthsOf_25 : decode cX3_tenthsOf 25 = .ok (.isub, 1) := by decide +kernel
theorem dX3_tenthsOf_26 : decode cX3_tenthsOf 26 = .ok (.ireturn, 1) := by decide +kernel
theorem dX3_isYes_0 : decode cX3_isYes 0 = .ok (.iload_n 0, 1) := by decide +kernel
theorem dX3_isYes_1 : decode cX3_isYes 1 = .ok (.iconst 2, 1) := by decide +kernel
theorem dX3_isYes_2 : decode cX3_isYes 2 = .ok (.irem, 1) := by decide +kernel
theorem dX3_isYes_3 : decode cX3_isYes 3 = .ok (.iconst 1, 1) := by decide +kernel
theorem dX3_isYes_4 : decode cX3_isYes 4 = .ok (.if_icmp .ne 7, 3) := by decide +kernel
theorem dX3_isYes_7 : decode cX3_isYes 7 = .ok (.iconst 1, 1) := by decide +kernel
theorem dX3_isYes_8 : decode cX3_isYes 8 = .ok (.goto 4, 3) := by decide +kernel
theorem dX3_isYes_11 : decode cX3_isYes 11 = .ok (.iconst 0, 1) := by decide +kernel
theorem dX3_isYes_12 : decode cX3_isYes 12 = .ok (.ireturn, 1) := by decide +kernel
theorem dX3_depthOf_0 : decode cX3_depthOf 0 = .ok (.iconst 0, 1) := by decide +kernel
theorem dX3_depthOf_1 : decode cX3_depthOf 1 = .ok (.istore_n 2, 1) := by decide +kernel
theorem dX3_depthOf_2 : decode cX3_depthOf 2 = .ok (.iload_n 1, 1) := by decide +kernel
theorem dX3_depthOf_3 : decode cX3_depthOf 3 = .ok (.istore_n 3, 1) := by decide +kernel
theorem dX3_depthOf_4 : decode cX3_depthOf 4 = .ok (.iload_n 2, 1) := by decide +kernel
theorem dX3_depthOf_5 : decode cX3_depthOf 5 = .ok (.bipush 6, 2) := by decide +kernel
theorem dX3_depthOf_7 : decode cX3_depthOf 7 = .ok (.if_icmp .ge 19, 3) := by decide +kernel
theorem dX3_depthOf_10 : decode cX3_depthOf 10 = .ok (.iload_n 3, 1) := by decide +kernel
theorem dX3_depthOf_11 : decode cX3_depthOf 11 = .ok (.ifCond .le 15, 3) := by decide +kernel
theorem dX3_depthOf_14 : decode cX3_depthOf 14 = .ok (.aload_n 0, 1) := by decide +kernel
theorem dX3_depthOf_15 : decode cX3_depthOf 15 = .ok (.iload_n 3, 1) := by decide +kernel
theorem dX3_depthOf_16 : decode cX3_depthOf 16 = .ok (.invokevirtual 61, 3) := by decide +kernel
theorem dX3_depthOf_19 : decode cX3_depthOf 19 = .ok (.istore_n 3, 1) := by decide +kernel
theorem dX3_depthOf_20 : decode cX3_depthOf 20 = .ok (.iinc 2 1, 3) := by decide +kernel
theorem dX3_depthOf_23 : decode cX3_depthOf 23 = .ok (.goto (-19), 3) := by decide +kernel
theorem dX3_depthOf_26 : decode cX3_depthOf 26 = .ok (.iload_n 2, 1) := by decide +kernel
theorem dX3_depthOf_27 : decode cX3_depthOf 27 = .ok (.ireturn, 1) := by decide +kernel
theorem dX3_greatestDepth_0 : decode cX3_greatestDepth 0 = .ok (.iconst 0, 1) := by decide +kernel
theorem dX3_greatestDepth_1 : decode cX3_greatestDepth 1 = .ok (.istore_n 1, 1) := by decide +kernel
theorem dX3_greatestDepth_2 : decode cX3_greatestDepth 2 = .ok (.iconst 0, 1) := by decide +kernel
theorem dX3_greatestDepth_3 : decode cX3_greatestDepth 3 = .ok (.istore_n 2, 1) := by decide +kernel
theorem dX3_greatestDepth_4 : decode cX3_greatestDepth 4 = .ok (.iload_n 2, 1) := by decide +kernel
theorem dX3_greatestDepth_5 : decode cX3_greatestDepth 5 = .ok (.aload_n 0, 1) := by decide +kernel
theorem dX3_greatestDepth_6 : decode cX3_greatestDepth 6 = .ok (.invokevirtual 49, 3) := by decide +kernel
theorem dX3_greatestDepth_9 : decode cX3_greatestDepth 9 = .ok (.if_icmp .ge 19, 3) := by decide +kernel
theorem dX3_greatestDepth_12 : decode cX3_greatestDepth 12 = .ok (.iload_n 1, 1) := by decide +kernel
theorem dX3_greatestDepth_13 : decode cX3_greatestDepth 13 = .ok (.aload_n 0, 1) := by decide +kernel
theorem dX3_greatestDepth_14 : decode cX3_greatestDepth 14 = .ok (.iload_n 2, 1) := by decide +kernel
theorem dX3_greatestDepth_15 : decode cX3_greatestDepth 15 = .ok (.invokevirtual 64, 3) := by decide +kernel
theorem dX3_greatestDepth_18 : decode cX3_greatestDepth 18 = .ok (.invokestatic 67, 3) := by decide +kernel
theorem dX3_greatestDepth_21 : decode cX3_greatestDepth 21 = .ok (.istore_n 1, 1) := by decide +kernel
theorem dX3_greatestDepth_22 : decode cX3_greatestDepth 22 = .ok (.iinc 2 1, 3) := by decide +kernel
theorem dX3_greatestDepth_25 : decode cX3_greatestDepth 25 = .ok (.goto (-21), 3) := by decide +kernel
theorem dX3_greatestDepth_28 : decode cX3_greatestDepth 28 = .ok (.iload_n 1, 1) := by decide +kernel
theorem dX3_greatestDepth_29 : decode cX3_greatestDepth 29 = .ok (.ireturn, 1) := by decide +kernel
theorem dX3_isWithin_0 : decode cX3_isWithin 0 = .ok (.iload_n 1, 1) := by decide +kernel
theorem dX3_isWithin_1 : decode cX3_isWithin 1 = .ok (.istore_n 3, 1) := by decide +kernel
theorem dX3_isWithin_2 : decode cX3_isWithin 2 = .ok (.iconst 0, 1) := by decide +kernel
theorem dX3_isWithin_3 : decode cX3_isWithin 3 = .ok (.istore 4, 2) := by decide +kernel
theorem dX3_isWithin_5 : decode cX3_isWithin 5 = .ok (.iload 4, 2) := by decide +kernel
theorem dX3_isWithin_7 : decode cX3_isWithin 7 = .ok (.bipush 6, 2) := by decide +kernel
theorem dX3_isWithin_9 : decode cX3_isWithin 9 = .ok (.if_icmp .ge 24, 3) := by decide +kernel
theorem dX3_isWithin_12 : decode cX3_isWithin 12 = .ok (.iload_n 3, 1) := by decide +kernel
theorem dX3_isWithin_13 : decode cX3_isWithin 13 = .ok (.ifCond .le 20, 3) := by decide +kernel
theorem dX3_isWithin_16 : decode cX3_isWithin 16 = .ok (.iload_n 3, 1) := by decide +kernel
theorem dX3_isWithin_17 : decode cX3_isWithin 17 = .ok (.iload_n 2, 1) := by decide +kernel
theorem dX3_isWithin_18 : decode cX3_isWithin 18 = .ok (.if_icmp .eq 15, 3) := by decide +kernel
theorem dX3_isWithin_21 : decode cX3_isWithin 21 = .ok (.aload_n 0, 1) := by decide +kernel
theorem dX3_isWithin_22 : decode cX3_isWithin 22 = .ok (.iload_n 3, 1) := by decide +kernel
theorem dX3_isWithin_23 : decode cX3_isWithin 23 = .ok (.invokevirtual 61, 3) := by decide +kernel
theorem dX3_isWithin_26 : decode cX3_isWithin 26 = .ok (.istore_n 3, 1) := by decide +kernel
theorem dX3_isWithin_27 : decode cX3_isWithin 27 = .ok (.iinc 4 1, 3) := by decide +kernel
theorem dX3_isWithin_30 : decode cX3_isWithin 30 = .ok (.goto (-25), 3) := by decide +kernel
theorem dX3_isWithin_33 : decode cX3_isWithin 33 = .ok (.iload_n 3, 1) := by decide +kernel
theorem dX3_isWithin_34 : decode cX3_isWithin 34 = .ok (.iload_n 2, 1) := by decide +kernel
theorem dX3_isWithin_35 : decode cX3_isWithin 35 = .ok (.if_icmp .ne 7, 3) := by decide +kernel
theorem dX3_isWithin_38 : decode cX3_isWithin 38 = .ok (.iconst 1, 1) := by decide +kernel
theorem dX3_isWithin_39 : decode cX3_isWithin 39 = .ok (.goto 4, 3) := by decide +kernel
theorem dX3_isWithin_42 : decode cX3_isWithin 42 = .ok (.iconst 0, 1) := by decide +kernel
theorem dX3_isWithin_43 : decode cX3_isWithin 43 = .ok (.ireturn, 1) := by decide +kernel
theorem dX3_howManyUnder_0 : decode cX3_howManyUnder 0 = .ok (.iconst 0, 1) := by decide +kernel
theorem dX3_howManyUnder_1 : decode cX3_howManyUnder 1 = .ok (.istore_n 2, 1) := by decide +kernel
theorem dX3_howManyUnder_2 : decode cX3_howManyUnder 2 = .ok (.iconst 0, 1) := by decide +kernel
theorem dX3_howManyUnder_3 : decode cX3_howManyUnder 3 = .ok (.istore_n 3, 1) := by decide +kernel
theorem dX3_howManyUnder_4 : decode cX3_howManyUnder 4 = .ok (.iload_n 3, 1) := by decide +kernel
theorem dX3_howManyUnder_5 : decode cX3_howManyUnder 5 = .ok (.aload_n 0, 1) := by decide +kernel
theorem dX3_howManyUnder_6 : decode cX3_howManyUnder 6 = .ok (.getfield 37, 3) := by decide +kernel
theorem dX3_howManyUnder_9 : decode cX3_howManyUnder 9 = .ok (.if_icmp .ge 30, 3) := by decide +kernel
theorem dX3_howManyUnder_12 : decode cX3_howManyUnder 12 = .ok (.iload_n 2, 1) := by decide +kernel
theorem dX3_howManyUnder_13 : decode cX3_howManyUnder 13 = .ok (.aload_n 0, 1) := by decide +kernel
theorem dX3_howManyUnder_14 : decode cX3_howManyUnder 14 = .ok (.getfield 24, 3) := by decide +kernel
theorem dX3_howManyUnder_17 : decode cX3_howManyUnder 17 = .ok (.iload_n 3, 1) := by decide +kernel
theorem dX3_howManyUnder_18 : decode cX3_howManyUnder 18 = .ok (.iaload, 1) := by decide +kernel
theorem dX3_howManyUnder_19 : decode cX3_howManyUnder 19 = .ok (.iload_n 1, 1) := by decide +kernel
theorem dX3_howManyUnder_20 : decode cX3_howManyUnder 20 = .ok (.if_icmp .ne 7, 3) := by decide +kernel
theorem dX3_howManyUnder_23 : decode cX3_howManyUnder 23 = .ok (.iconst 1, 1) := by decide +kernel
theorem dX3_howManyUnder_24 : decode cX3_howManyUnder 24 = .ok (.goto 4, 3) := by decide +kernel
theorem dX3_howManyUnder_27 : decode cX3_howManyUnder 27 = .ok (.iconst 0, 1) := by decide +kernel
theorem dX3_howManyUnder_28 : decode cX3_howManyUnder 28 = .ok (.invokestatic 73, 3) := by decide +kernel
theorem dX3_howManyUnder_31 : decode cX3_howManyUnder 31 = .ok (.iadd, 1) := by decide +kernel
theorem dX3_howManyUnder_32 : decode cX3_howManyUnder 32 = .ok (.istore_n 2, 1) := by decide +kernel
theorem dX3_howManyUnder_33 : decode cX3_howManyUnder 33 = .ok (.iinc 3 1, 3) := by decide +kernel
theorem dX3_howManyUnder_36 : decode cX3_howManyUnder 36 = .ok (.goto (-32), 3) := by decide +kernel
theorem dX3_howManyUnder_39 : decode cX3_howManyUnder 39 = .ok (.iload_n 2, 1) := by decide +kernel
theorem dX3_howManyUnder_40 : decode cX3_howManyUnder 40 = .ok (.ireturn, 1) := by decide +kernel
theorem dX3_howManyOf_0 : decode cX3_howManyOf 0 = .ok (.iconst 0, 1) := by decide +kernel
theorem dX3_howManyOf_1 : decode cX3_howManyOf 1 = .ok (.istore_n 2, 1) := by decide +kernel
theorem dX3_howManyOf_2 : decode cX3_howManyOf 2 = .ok (.iconst 0, 1) := by decide +kernel
theorem dX3_howManyOf_3 : decode cX3_howManyOf 3 = .ok (.istore_n 3, 1) := by decide +kernel
theorem dX3_howManyOf_4 : decode cX3_howManyOf 4 = .ok (.iload_n 3, 1) := by decide +kernel
theorem dX3_howManyOf_5 : decode cX3_howManyOf 5 = .ok (.aload_n 0, 1) := by decide +kernel
theorem dX3_howManyOf_6 : decode cX3_howManyOf 6 = .ok (.getfield 37, 3) := by decide +kernel
theorem dX3_howManyOf_9 : decode cX3_howManyOf 9 = .ok (.if_icmp .ge 30, 3) := by decide +kernel
theorem dX3_howManyOf_12 : decode cX3_howManyOf 12 = .ok (.iload_n 2, 1) := by decide +kernel
theorem dX3_howManyOf_13 : decode cX3_howManyOf 13 = .ok (.aload_n 0, 1) := by decide +kernel
theorem dX3_howManyOf_14 : decode cX3_howManyOf 14 = .ok (.getfield 9, 3) := by decide +kernel
theorem dX3_howManyOf_17 : decode cX3_howManyOf 17 = .ok (.iload_n 3, 1) := by decide +kernel
theorem dX3_howManyOf_18 : decode cX3_howManyOf 18 = .ok (.iaload, 1) := by decide +kernel
theorem dX3_howManyOf_19 : decode cX3_howManyOf 19 = .ok (.iload_n 1, 1) := by decide +kernel
theorem dX3_howManyOf_20 : decode cX3_howManyOf 20 = .ok (.if_icmp .ne 7, 3) := by decide +kernel
theorem dX3_howManyOf_23 : decode cX3_howManyOf 23 = .ok (.iconst 1, 1) := by decide +kernel
theorem dX3_howManyOf_24 : decode cX3_howManyOf 24 = .ok (.goto 4, 3) := by decide +kernel
theorem dX3_howManyOf_27 : decode cX3_howManyOf 27 = .ok (.iconst 0, 1) := by decide +kernel
theorem dX3_howManyOf_28 : decode cX3_howManyOf 28 = .ok (.invokestatic 73, 3) := by decide +kernel
theorem dX3_howManyOf_31 : decode cX3_howManyOf 31 = .ok (.iadd, 1) := by decide +kernel
theorem dX3_howManyOf_32 : decode cX3_howManyOf 32 = .ok (.istore_n 2, 1) := by decide +kernel
theorem dX3_howManyOf_33 : decode cX3_howManyOf 33 = .ok (.iinc 3 1, 3) := by decide +kernel
theorem dX3_howManyOf_36 : decode cX3_howManyOf 36 = .ok (.goto (-32), 3) := by decide +kernel
theorem dX3_howManyOf_39 : decode cX3_howManyOf 39 = .ok (.iload_n 2, 1) := by decide +kernel
theorem dX3_howManyOf_40 : decode cX3_howManyOf 40 = .ok (.ireturn, 1) := by decide +kernel
theorem dX3_secondsOf_0 : decode cX3_secondsOf 0 = .ok (.iconst 0, 1) := by decide +kernel
theorem dX3_secondsOf_1 : decode cX3_secondsOf 1 = .ok (.istore_n 2, 1) := by decide +kernel
theorem dX3_secondsOf_2 : decode cX3_secondsOf 2 = .ok (.iconst 0, 1) := by decide +kernel
theorem dX3_secondsOf_3 : decode cX3_secondsOf 3 = .ok (.istore_n 3, 1) := by decide +kernel
theorem dX3_secondsOf_4 : decode cX3_secondsOf 4 = .ok (.iload_n 3, 1) := by decide +kernel
theorem dX3_secondsOf_5 : decode cX3_secondsOf 5 = .ok (.aload_n 0, 1) := by decide +kernel
theorem dX3_secondsOf_6 : decode cX3_secondsOf 6 = .ok (.getfield 37, 3) := by decide +kernel
theorem dX3_secondsOf_9 : decode cX3_secondsOf 9 = .ok (.if_icmp .ge 32, 3) := by decide +kernel
theorem dX3_secondsOf_12 : decode cX3_secondsOf 12 = .ok (.iload_n 2, 1) := by decide +kernel
theorem dX3_secondsOf_13 : decode cX3_secondsOf 13 = .ok (.aload_n 0, 1) := by decide +kernel
theorem dX3_secondsOf_14 : decode cX3_secondsOf 14 = .ok (.getfield 9, 3) := by decide +kernel
theorem dX3_secondsOf_17 : decode cX3_secondsOf 17 = .ok (.iload_n 3, 1) := by decide +kernel
theorem dX3_secondsOf_18 : decode cX3_secondsOf 18 = .ok (.iaload, 1) := by decide +kernel
theorem dX3_secondsOf_19 : decode cX3_secondsOf 19 = .ok (.iload_n 1, 1) := by decide +kernel
theorem dX3_secondsOf_20 : decode cX3_secondsOf 20 = .ok (.if_icmp .ne 12, 3) := by decide +kernel
theorem dX3_secondsOf_23 : decode cX3_secondsOf 23 = .ok (.aload_n 0, 1) := by decide +kernel
theorem dX3_secondsOf_24 : decode cX3_secondsOf 24 = .ok (.getfield 18, 3) := by decide +kernel
theorem dX3_secondsOf_27 : decode cX3_secondsOf 27 = .ok (.iload_n 3, 1) := by decide +kernel
theorem dX3_secondsOf_28 : decode cX3_secondsOf 28 = .ok (.iaload, 1) := by decide +kernel
theorem dX3_secondsOf_29 : decode cX3_secondsOf 29 = .ok (.goto 4, 3) := by decide +kernel
theorem dX3_secondsOf_32 : decode cX3_secondsOf 32 = .ok (.iconst 0, 1) := by decide +kernel
theorem dX3_secondsOf_33 : decode cX3_secondsOf 33 = .ok (.iadd, 1) := by decide +kernel
theorem dX3_secondsOf_34 : decode cX3_secondsOf 34 = .ok (.istore_n 2, 1) := by decide +kernel
theorem dX3_secondsOf_35 : decode cX3_secondsOf 35 = .ok (.iinc 3 1, 3) := by decide +kernel
theorem dX3_secondsOf_38 : decode cX3_secondsOf 38 = .ok (.goto (-34), 3) := by decide +kernel
theorem dX3_secondsOf_41 : decode cX3_secondsOf 41 = .ok (.iload_n 2, 1) := by decide +kernel
theorem dX3_secondsOf_42 : decode cX3_secondsOf 42 = .ok (.ireturn, 1) := by decide +kernel
theorem dX3_readsOf_0 : decode cX3_readsOf 0 = .ok (.aload_n 0, 1) := by decide +kernel
theorem dX3_readsOf_1 : decode cX3_readsOf 1 = .ok (.getfield 9, 3) := by decide +kernel
theorem dX3_readsOf_4 : decode cX3_readsOf 4 = .ok (.iload_n 1, 1) := by decide +kernel
theorem dX3_readsOf_5 : decode cX3_readsOf 5 = .ok (.iaload, 1) := by decide +kernel
theorem dX3_readsOf_6 : decode cX3_readsOf 6 = .ok (.ifCond .ne 5, 3) := by decide +kernel
theorem dX3_readsOf_9 : decode cX3_readsOf 9 = .ok (.iconst 0, 1) := by decide +kernel
theorem dX3_readsOf_10 : decode cX3_readsOf 10 = .ok (.ireturn, 1) := by decide +kernel
theorem dX3_readsOf_11 : decode cX3_readsOf 11 = .ok (.aload_n 0, 1) := by decide +kernel
theorem dX3_readsOf_12 : decode cX3_readsOf 12 = .ok (.getfield 9, 3) := by decide +kernel
theorem dX3_readsOf_15 : decode cX3_readsOf 15 = .ok (.iload_n 1, 1) := by decide +kernel
theorem dX3_readsOf_16 : decode cX3_readsOf 16 = .ok (.iaload, 1) := by decide +kernel
theorem dX3_readsOf_17 : decode cX3_readsOf 17 = .ok (.iconst 5, 1) := by decide +kernel
theorem dX3_readsOf_18 : decode cX3_readsOf 18 = .ok (.if_icmp .ne 14, 3) := by decide +kernel
theorem dX3_readsOf_21 : decode cX3_readsOf 21 = .ok (.iconst 1, 1) := by decide +kernel
theorem dX3_readsOf_22 : decode cX3_readsOf 22 = .ok (.aload_n 0, 1) := by decide +kernel
theorem dX3_readsOf_23 : decode cX3_readsOf 23 = .ok (.getfield 15, 3) := by decide +kernel
theorem dX3_readsOf_26 : decode cX3_readsOf 26 = .ok (.iload_n 1, 1) := by decide +kernel
theorem dX3_readsOf_27 : decode cX3_readsOf 27 = .ok (.iaload, 1) := by decide +kernel
theorem dX3_readsOf_28 : decode cX3_readsOf 28 = .ok (.ishl, 1) := by decide +kernel
theorem dX3_readsOf_29 : decode cX3_readsOf 29 = .ok (.goto 20, 3) := by decide +kernel
theorem dX3_readsOf_32 : decode cX3_readsOf 32 = .ok (.iconst 1, 1) := by decide +kernel
theorem dX3_readsOf_33 : decode cX3_readsOf 33 = .ok (.aload_n 0, 1) := by decide +kernel
theorem dX3_readsOf_34 : decode cX3_readsOf 34 = .ok (.getfield 18, 3) := by decide +kernel
theorem dX3_readsOf_37 : decode cX3_readsOf 37 = .ok (.iload_n 1, 1) := by decide +kernel
theorem dX3_readsOf_38 : decode cX3_readsOf 38 = .ok (.iaload, 1) := by decide +kernel
theorem dX3_readsOf_39 : decode cX3_readsOf 39 = .ok (.ishl, 1) := by decide +kernel
theorem dX3_readsOf_40 : decode cX3_readsOf 40 = .ok (.iconst 1, 1) := by decide +kernel
theorem dX3_readsOf_41 : decode cX3_readsOf 41 = .ok (.aload_n 0, 1) := by decide +kernel
theorem dX3_readsOf_42 : decode cX3_readsOf 42 = .ok (.getfield 21, 3) := by decide +kernel
theorem dX3_readsOf_45 : decode cX3_readsOf 45 = .ok (.iload_n 1, 1) := by decide +kernel
theorem dX3_readsOf_46 : decode cX3_readsOf 46 = .ok (.iaload, 1) := by decide +kernel
theorem dX3_readsOf_47 : decode cX3_readsOf 47 = .ok (.ishl, 1) := by decide +kernel
theorem dX3_readsOf_48 : decode cX3_readsOf 48 = .ok (.ior, 1) := by decide +kernel
theorem dX3_readsOf_49 : decode cX3_readsOf 49 = .ok (.ireturn, 1) := by decide +kernel
theorem dX3_mostOfPart_0 : decode cX3_mostOfPart 0 = .ok (.iload_n 2, 1) := by decide +kernel
theorem dX3_mostOfPart_1 : decode cX3_mostOfPart 1 = .ok (.iconst 1, 1) := by decide +kernel
theorem dX3_mostOfPart_2 : decode cX3_mostOfPart 2 = .ok (.if_icmp .ne 6, 3) := by decide +kernel
theorem dX3_mostOfPart_5 : decode cX3_mostOfPart 5 = .ok (.bipush 7, 2) := by decide +kernel
theorem dX3_mostOfPart_7 : decode cX3_mostOfPart 7 = .ok (.ireturn, 1) := by decide +kernel
theorem dX3_mostOfPart_8 : decode cX3_mostOfPart 8 = .ok (.iload_n 2, 1) := by decide +kernel
theorem dX3_mostOfPart_9 : decode cX3_mostOfPart 9 = .ok (.iconst 2, 1) := by decide +kernel
theorem dX3_mostOfPart_10 : decode cX3_mostOfPart 10 = .ok (.if_icmp .ne 15, 3) := by decide +kernel
theorem dX3_mostOfPart_13 : decode cX3_mostOfPart 13 = .ok (.aload_n 0, 1) := by decide +kernel
theorem dX3_mostOfPart_14 : decode cX3_mostOfPart 14 = .ok (.getfield 9, 3) := by decide +kernel
theorem dX3_mostOfPart_17 : decode cX3_mostOfPart 17 = .ok (.iload_n 1, 1) := by decide +kernel
theorem dX3_mostOfPart_18 : decode cX3_mostOfPart 18 = .ok (.iaload, 1) := by decide +kernel
theorem dX3_mostOfPart_19 : decode cX3_mostOfPart 19 = .ok (.ifCond .ne 6, 3) := by decide +kernel
theorem dX3_mostOfPart_22 : decode cX3_mostOfPart 22 = .ok (.bipush 99, 2) := by decide +kernel
theorem dX3_mostOfPart_24 : decode cX3_mostOfPart 24 = .ok (.ireturn, 1) := by decide +kernel
theorem dX3_mostOfPart_25 : decode cX3_mostOfPart 25 = .ok (.iload_n 2, 1) := by decide +kernel
theorem dX3_mostOfPart_26 : decode cX3_mostOfPart 26 = .ok (.iconst 2, 1) := by decide +kernel
theorem dX3_mostOfPart_27 : decode cX3_mostOfPart 27 = .ok (.if_icmp .ne 16, 3) := by decide +kernel
theorem dX3_mostOfPart_30 : decode cX3_mostOfPart 30 = .ok (.aload_n 0, 1) := by decide +kernel
theorem dX3_mostOfPart_31 : decode cX3_mostOfPart 31 = .ok (.getfield 9, 3) := by decide +kernel
theorem dX3_mostOfPart_34 : decode cX3_mostOfPart 34 = .ok (.iload_n 1, 1) := by decide +kernel
theorem dX3_mostOfPart_35 : decode cX3_mostOfPart 35 = .ok (.iaload, 1) := by decide +kernel
theorem dX3_mostOfPart_36 : decode cX3_mostOfPart 36 = .ok (.iconst 5, 1) := by decide +kernel
theorem dX3_mostOfPart_37 : decode cX3_mostOfPart 37 = .ok (.if_icmp .ne 6, 3) := by decide +kernel
theorem dX3_mostOfPart_40 : decode cX3_mostOfPart 40 = .ok (.bipush 10, 2) := by decide +kernel
theorem dX3_mostOfPart_42 : decode cX3_mostOfPart 42 = .ok (.ireturn, 1) := by decide +kernel
theorem dX3_mostOfPart_43 : decode cX3_mostOfPart 43 = .ok (.iload_n 2, 1) := by decide +kernel
theorem dX3_mostOfPart_44 : decode cX3_mostOfPart 44 = .ok (.iconst 2, 1) := by decide +kernel
theorem dX3_mostOfPart_45 : decode cX3_mostOfPart 45 = .ok (.if_icmp .eq 8, 3) := by decide +kernel
theorem dX3_mostOfPart_48 : decode cX3_mostOfPart 48 = .ok (.iload_n 2, 1) := by decide +kernel
theorem dX3_mostOfPart_49 : decode cX3_mostOfPart 49 = .ok (.iconst 3, 1) := by decide +kernel
theorem dX3_mostOfPart_50 : decode cX3_mostOfPart 50 = .ok (.if_icmp .ne 16, 3) := by decide +kernel
theorem dX3_mostOfPart_53 : decode cX3_mostOfPart 53 = .ok (.aload_n 0, 1) := by decide +kernel
theorem dX3_mostOfPart_54 : decode cX3_mostOfPart 54 = .ok (.iload_n 1, 1) := by decide +kernel
theorem dX3_mostOfPart_55 : decode cX3_mostOfPart 55 = .ok (.invokevirtual 77, 3) := by decide +kernel
theorem dX3_mostOfPart_58 : decode cX3_mostOfPart 58 = .ok (.ifCond .eq 8, 3) := by decide +kernel
theorem dX3_mostOfPart_61 : decode cX3_mostOfPart 61 = .ok (.bipush 7, 2) := by decide +kernel
theorem dX3_mostOfPart_63 : decode cX3_mostOfPart 63 = .ok (.goto 5, 3) := by decide +kernel
theorem dX3_mostOfPart_66 : decode cX3_mostOfPart 66 = .ok (.bipush (-4), 2) := by decide +kernel
theorem dX3_mostOfPart_68 : decode cX3_mostOfPart 68 = .ok (.ireturn, 1) := by decide +kernel
theorem dX3_mayChange_0 : decode cX3_mayChange 0 = .ok (.aload_n 0, 1) := by decide +kernel
theorem dX3_mayChange_1 : decode cX3_mayChange 1 = .ok (.iload_n 1, 1) := by decide +kernel
theorem dX3_mayChange_2 : decode cX3_mayChange 2 = .ok (.invokevirtual 80, 3) := by decide +kernel
theorem dX3_mayChange_5 : decode cX3_mayChange 5 = .ok (.ifCond .eq 21, 3) := by decide +kernel
theorem dX3_mayChange_8 : decode cX3_mayChange 8 = .ok (.iload_n 3, 1) := by decide +kernel
theorem dX3_mayChange_9 : decode cX3_mayChange 9 = .ok (.ifCond .lt 17, 3) := by decide +kernel
theorem dX3_mayChange_12 : decode cX3_mayChange 12 = .ok (.iload_n 3, 1) := by decide +kernel
theorem dX3_mayChange_13 : decode cX3_mayChange 13 = .ok (.aload_n 0, 1) := by decide +kernel
theorem dX3_mayChange_14 : decode cX3_mayChange 14 = .ok (.iload_n 1, 1) := by decide +kernel
theorem dX3_mayChange_15 : decode cX3_mayChange 15 = .ok (.iload_n 2, 1) := by decide +kernel
theorem dX3_mayChange_16 : decode cX3_mayChange 16 = .ok (.invokevirtual 83, 3) := by decide +kernel
theorem dX3_mayChange_19 : decode cX3_mayChange 19 = .ok (.if_icmp .gt 7, 3) := by decide +kernel
theorem dX3_mayChange_22 : decode cX3_mayChange 22 = .ok (.iconst 1, 1) := by decide +kernel
theorem dX3_mayChange_23 : decode cX3_mayChange 23 = .ok (.goto 4, 3) := by decide +kernel
theorem dX3_mayChange_26 : decode cX3_mayChange 26 = .ok (.iconst 0, 1) := by decide +kernel
theorem dX3_mayChange_27 : decode cX3_mayChange 27 = .ok (.ireturn, 1) := by decide +kernel
theorem dX3_change_0 : decode cX3_change 0 = .ok (.iload_n 2, 1) := by decide +kernel
theorem dX3_change_1 : decode cX3_change 1 = .ok (.iconst 1, 1) := by decide +kernel
theorem dX3_change_2 : decode cX3_change 2 = .ok (.if_icmp .ne 10, 3) := by decide +kernel
theorem dX3_change_5 : decode cX3_change 5 = .ok (.aload_n 0, 1) := by decide +kernel
theorem dX3_change_6 : decode cX3_change 6 = .ok (.getfield 15, 3) := by decide +kernel
theorem dX3_change_9 : decode cX3_change 9 = .ok (.goto 19, 3) := by decide +kernel
theorem dX3_change_12 : decode cX3_change 12 = .ok (.iload_n 2, 1) := by decide +kernel
theorem dX3_change_13 : decode cX3_change 13 = .ok (.iconst 2, 1) := by decide +kernel
theorem dX3_change_14 : decode cX3_change 14 = .ok (.if_icmp .ne 10, 3) := by decide +kernel
theorem dX3_change_17 : decode cX3_change 17 = .ok (.aload_n 0, 1) := by decide +kernel
theorem dX3_change_18 : decode cX3_change 18 = .ok (.getfield 18, 3) := by decide +kernel
theorem dX3_change_21 : decode cX3_change 21 = .ok (.goto 7, 3) := by decide +kernel
theorem dX3_change_24 : decode cX3_change 24 = .ok (.aload_n 0, 1) := by decide +kernel
theorem dX3_change_25 : decode cX3_change 25 = .ok (.getfield 21, 3) := by decide +kernel
theorem dX3_change_28 : decode cX3_change 28 = .ok (.astore 4, 2) := by decide +kernel
theorem dX3_change_30 : decode cX3_change 30 = .ok (.aload 4, 2) := by decide +kernel
theorem dX3_change_32 : decode cX3_change 32 = .ok (.iload_n 1, 1) := by decide +kernel
theorem dX3_change_33 : decode cX3_change 33 = .ok (.iaload, 1) := by decide +kernel
theorem dX3_change_34 : decode cX3_change 34 = .ok (.istore 5, 2) := by decide +kernel
theorem dX3_change_36 : decode cX3_change 36 = .ok (.aload 4, 2) := by decide +kernel
theorem dX3_change_38 : decode cX3_change 38 = .ok (.iload_n 1, 1) := by decide +kernel
theorem dX3_change_39 : decode cX3_change 39 = .ok (.iload_n 3, 1) := by decide +kernel
theorem dX3_change_40 : decode cX3_change 40 = .ok (.iastore, 1) := by decide +kernel
theorem dX3_change_41 : decode cX3_change 41 = .ok (.iload 5, 2) := by decide +kernel
theorem dX3_change_43 : decode cX3_change 43 = .ok (.ireturn, 1) := by decide +kernel
theorem dX3_dropUnread_0 : decode cX3_dropUnread 0 = .ok (.iconst 0, 1) := by decide +kernel
theorem dX3_dropUnread_1 : decode cX3_dropUnread 1 = .ok (.istore_n 2, 1) := by decide +kernel
theorem dX3_dropUnread_2 : decode cX3_dropUnread 2 = .ok (.iconst 0, 1) := by decide +kernel
theorem dX3_dropUnread_3 : decode cX3_dropUnread 3 = .ok (.istore_n 3, 1) := by decide +kernel
theorem dX3_dropUnread_4 : decode cX3_dropUnread 4 = .ok (.iload_n 3, 1) := by decide +kernel
theorem dX3_dropUnread_5 : decode cX3_dropUnread 5 = .ok (.aload_n 0, 1) := by decide +kernel
theorem dX3_dropUnread_6 : decode cX3_dropUnread 6 = .ok (.getfield 37, 3) := by decide +kernel
theorem dX3_dropUnread_9 : decode cX3_dropUnread 9 = .ok (.if_icmp .ge 47, 3) := by decide +kernel
theorem dX3_dropUnread_12 : decode cX3_dropUnread 12 = .ok (.aload_n 0, 1) := by decide +kernel
theorem dX3_dropUnread_13 : decode cX3_dropUnread 13 = .ok (.getfield 9, 3) := by decide +kernel
theorem dX3_dropUnread_16 : decode cX3_dropUnread 16 = .ok (.iload_n 3, 1) := by decide +kernel
theorem dX3_dropUnread_17 : decode cX3_dropUnread 17 = .ok (.iaload, 1) := by decide +kernel
theorem dX3_dropUnread_18 : decode cX3_dropUnread 18 = .ok (.iconst 4, 1) := by decide +kernel
theorem dX3_dropUnread_19 : decode cX3_dropUnread 19 = .ok (.if_icmp .eq 22, 3) := by decide +kernel
theorem dX3_dropUnread_22 : decode cX3_dropUnread 22 = .ok (.aload_n 0, 1) := by decide +kernel
theorem dX3_dropUnread_23 : decode cX3_dropUnread 23 = .ok (.getfield 9, 3) := by decide +kernel
theorem dX3_dropUnread_26 : decode cX3_dropUnread 26 = .ok (.iload_n 3, 1) := by decide +kernel
theorem dX3_dropUnread_27 : decode cX3_dropUnread 27 = .ok (.iaload, 1) := by decide +kernel
theorem dX3_dropUnread_28 : decode cX3_dropUnread 28 = .ok (.iconst 5, 1) := by decide +kernel
theorem dX3_dropUnread_29 : decode cX3_dropUnread 29 = .ok (.if_icmp .eq 12, 3) := by decide +kernel
theorem dX3_dropUnread_32 : decode cX3_dropUnread 32 = .ok (.iload_n 1, 1) := by decide +kernel
theorem dX3_dropUnread_33 : decode cX3_dropUnread 33 = .ok (.iload_n 3, 1) := by decide +kernel
theorem dX3_dropUnread_34 : decode cX3_dropUnread 34 = .ok (.ishr, 1) := by decide +kernel
theorem dX3_dropUnread_35 : decode cX3_dropUnread 35 = .ok (.iconst 1, 1) := by decide +kernel
theorem dX3_dropUnread_36 : decode cX3_dropUnread 36 = .ok (.iand, 1) := by decide +kernel
theorem dX3_dropUnread_37 : decode cX3_dropUnread 37 = .ok (.iconst 1, 1) := by decide +kernel
theorem dX3_dropUnread_38 : decode cX3_dropUnread 38 = .ok (.if_icmp .ne 12, 3) := by decide +kernel
theorem dX3_dropUnread_41 : decode cX3_dropUnread 41 = .ok (.aload_n 0, 1) := by decide +kernel
theorem dX3_dropUnread_42 : decode cX3_dropUnread 42 = .ok (.iload_n 3, 1) := by decide +kernel
theorem dX3_dropUnread_43 : decode cX3_dropUnread 43 = .ok (.iload_n 2, 1) := by decide +kernel
theorem dX3_dropUnread_44 : decode cX3_dropUnread 44 = .ok (.invokevirtual 86, 3) := by decide +kernel
theorem dX3_dropUnread_47 : decode cX3_dropUnread 47 = .ok (.iinc 2 1, 3) := by decide +kernel
theorem dX3_dropUnread_50 : decode cX3_dropUnread 50 = .ok (.iinc 3 1, 3) := by decide +kernel
theorem dX3_dropUnread_53 : decode cX3_dropUnread 53 = .ok (.goto (-49), 3) := by decide +kernel
theorem dX3_dropUnread_56 : decode cX3_dropUnread 56 = .ok (.aload_n 0, 1) := by decide +kernel
theorem dX3_dropUnread_57 : decode cX3_dropUnread 57 = .ok (.getfield 37, 3) := by decide +kernel
theorem dX3_dropUnread_60 : decode cX3_dropUnread 60 = .ok (.iload_n 2, 1) := by decide +kernel
theorem dX3_dropUnread_61 : decode cX3_dropUnread 61 = .ok (.isub, 1) := by decide +kernel
theorem dX3_dropUnread_62 : decode cX3_dropUnread 62 = .ok (.istore_n 3, 1) := by decide +kernel
theorem dX3_dropUnread_63 : decode cX3_dropUnread 63 = .ok (.aload_n 0, 1) := by decide +kernel
theorem dX3_dropUnread_64 : decode cX3_dropUnread 64 = .ok (.iload_n 2, 1) := by decide +kernel
theorem dX3_dropUnread_65 : decode cX3_dropUnread 65 = .ok (.putfield 37, 3) := by decide +kernel
theorem dX3_dropUnread_68 : decode cX3_dropUnread 68 = .ok (.aload_n 0, 1) := by decide +kernel
theorem dX3_dropUnread_69 : decode cX3_dropUnread 69 = .ok (.invokevirtual 90, 3) := by decide +kernel
theorem dX3_dropUnread_72 : decode cX3_dropUnread 72 = .ok (.iload_n 3, 1) := by decide +kernel
theorem dX3_dropUnread_73 : decode cX3_dropUnread 73 = .ok (.ireturn, 1) := by decide +kernel
theorem dX3_move_0 : decode cX3_move 0 = .ok (.aload_n 0, 1) := by decide +kernel
theorem dX3_move_1 : decode cX3_move 1 = .ok (.getfield 9, 3) := by decide +kernel
theorem dX3_move_4 : decode cX3_move 4 = .ok (.iload_n 2, 1) := by decide +kernel
theorem dX3_move_5 : decode cX3_move 5 = .ok (.aload_n 0, 1) := by decide +kernel
theorem dX3_move_6 : decode cX3_move 6 = .ok (.getfield 9, 3) := by decide +kernel
theorem dX3_move_9 : decode cX3_move 9 = .ok (.iload_n 1, 1) := by decide +kernel
theorem dX3_move_10 : decode cX3_move 10 = .ok (.iaload, 1) := by decide +kernel
theorem dX3_move_11 : decode cX3_move 11 = .ok (.iastore, 1) := by decide +kernel
theorem dX3_move_12 : decode cX3_move 12 = .ok (.aload_n 0, 1) := by decide +kernel
theorem dX3_move_13 : decode cX3_move 13 = .ok (.getfield 15, 3) := by decide +kernel
theorem dX3_move_16 : decode cX3_move 16 = .ok (.iload_n 2, 1) := by decide +kernel
theorem dX3_move_17 : decode cX3_move 17 = .ok (.aload_n 0, 1) := by decide +kernel
theorem dX3_move_18 : decode cX3_move 18 = .ok (.getfield 15, 3) := by decide +kernel
theorem dX3_move_21 : decode cX3_move 21 = .ok (.iload_n 1, 1) := by decide +kernel
theorem dX3_move_22 : decode cX3_move 22 = .ok (.iaload, 1) := by decide +kernel
theorem dX3_move_23 : decode cX3_move 23 = .ok (.iastore, 1) := by decide +kernel
theorem dX3_move_24 : decode cX3_move 24 = .ok (.aload_n 0, 1) := by decide +kernel
theorem dX3_move_25 : decode cX3_move 25 = .ok (.getfield 18, 3) := by decide +kernel
theorem dX3_move_28 : decode cX3_move 28 = .ok (.iload_n 2, 1) := by decide +kernel
theorem dX3_move_29 : decode cX3_move 29 = .ok (.aload_n 0, 1) := by decide +kernel
theorem dX3_move_30 : decode cX3_move 30 = .ok (.getfield 18, 3) := by decide +kernel
theorem dX3_move_33 : decode cX3_move 33 = .ok (.iload_n 1, 1) := by decide +kernel
theorem dX3_move_34 : decode cX3_move 34 = .ok (.iaload, 1) := by decide +kernel
theorem dX3_move_35 : decode cX3_move 35 = .ok (.iastore, 1) := by decide +kernel
theorem dX3_move_36 : decode cX3_move 36 = .ok (.aload_n 0, 1) := by decide +kernel
theorem dX3_move_37 : decode cX3_move 37 = .ok (.getfield 21, 3) := by decide +kernel
theorem dX3_move_40 : decode cX3_move 40 = .ok (.iload_n 2, 1) := by decide +kernel
theorem dX3_move_41 : decode cX3_move 41 = .ok (.aload_n 0, 1) := by decide +kernel
theorem dX3_move_42 : decode cX3_move 42 = .ok (.getfield 21, 3) := by decide +kernel
theorem dX3_move_45 : decode cX3_move 45 = .ok (.iload_n 1, 1) := by decide +kernel
theorem dX3_move_46 : decode cX3_move 46 = .ok (.iaload, 1) := by decide +kernel
theorem dX3_move_47 : decode cX3_move 47 = .ok (.iastore, 1) := by decide +kernel
theorem dX3_move_48 : decode cX3_move 48 = .ok (.aload_n 0, 1) := by decide +kernel
theorem dX3_move_49 : decode cX3_move 49 = .ok (.getfield 24, 3) := by decide +kernel
theorem dX3_move_52 : decode cX3_move 52 = .ok (.iload_n 2, 1) := by decide +kernel
theorem dX3_move_53 : decode cX3_move 53 = .ok (.aload_n 0, 1) := by decide +kernel
theorem dX3_move_54 : decode cX3_move 54 = .ok (.getfield 24, 3) := by decide +kernel
theorem dX3_move_57 : decode cX3_move 57 = .ok (.iload_n 1, 1) := by decide +kernel
theorem dX3_move_58 : decode cX3_move 58 = .ok (.iaload, 1) := by decide +kernel
theorem dX3_move_59 : decode cX3_move 59 = .ok (.iastore, 1) := by decide +kernel
theorem dX3_move_60 : decode cX3_move 60 = .ok (.return_, 1) := by decide +kernel
theorem dX3_findIfs_0 : decode cX3_findIfs 0 = .ok (.iconst 0, 1) := by decide +kernel
theorem dX3_findIfs_1 : decode cX3_findIfs 1 = .ok (.istore_n 1, 1) := by decide +kernel
theorem dX3_findIfs_2 : decode cX3_findIfs 2 = .ok (.iconst 0, 1) := by decide +kernel
theorem dX3_findIfs_3 : decode cX3_findIfs 3 = .ok (.istore_n 2, 1) := by decide +kernel
theorem dX3_findIfs_4 : decode cX3_findIfs 4 = .ok (.iload_n 2, 1) := by decide +kernel
theorem dX3_findIfs_5 : decode cX3_findIfs 5 = .ok (.aload_n 0, 1) := by decide +kernel
theorem dX3_findIfs_6 : decode cX3_findIfs 6 = .ok (.getfield 37, 3) := by decide +kernel
theorem dX3_findIfs_9 : decode cX3_findIfs 9 = .ok (.if_icmp .ge 37, 3) := by decide +kernel
theorem dX3_findIfs_12 : decode cX3_findIfs 12 = .ok (.iload_n 1, 1) := by decide +kernel
theorem dX3_findIfs_13 : decode cX3_findIfs 13 = .ok (.aload_n 0, 1) := by decide +kernel
theorem dX3_findIfs_14 : decode cX3_findIfs 14 = .ok (.getfield 40, 3) := by decide +kernel
theorem dX3_findIfs_17 : decode cX3_findIfs 17 = .ok (.if_icmp .ge 29, 3) := by decide +kernel
theorem dX3_findIfs_20 : decode cX3_findIfs 20 = .ok (.aload_n 0, 1) := by decide +kernel
theorem dX3_findIfs_21 : decode cX3_findIfs 21 = .ok (.getfield 9, 3) := by decide +kernel
theorem dX3_findIfs_24 : decode cX3_findIfs 24 = .ok (.iload_n 2, 1) := by decide +kernel
theorem dX3_findIfs_25 : decode cX3_findIfs 25 = .ok (.iaload, 1) := by decide +kernel
theorem dX3_findIfs_26 : decode cX3_findIfs 26 = .ok (.iconst 5, 1) := by decide +kernel
theorem dX3_findIfs_27 : decode cX3_findIfs 27 = .ok (.if_icmp .ne 13, 3) := by decide +kernel
theorem dX3_findIfs_30 : decode cX3_findIfs 30 = .ok (.aload_n 0, 1) := by decide +kernel
theorem dX3_findIfs_31 : decode cX3_findIfs 31 = .ok (.getfield 27, 3) := by decide +kernel
theorem dX3_findIfs_34 : decode cX3_findIfs 34 = .ok (.iload_n 1, 1) := by decide +kernel
theorem dX3_findIfs_35 : decode cX3_findIfs 35 = .ok (.iload_n 2, 1) := by decide +kernel
theorem dX3_findIfs_36 : decode cX3_findIfs 36 = .ok (.iastore, 1) := by decide +kernel
theorem dX3_findIfs_37 : decode cX3_findIfs 37 = .ok (.iinc 1 1, 3) := by decide +kernel
theorem dX3_findIfs_40 : decode cX3_findIfs 40 = .ok (.iinc 2 1, 3) := by decide +kernel
theorem dX3_findIfs_43 : decode cX3_findIfs 43 = .ok (.goto (-39), 3) := by decide +kernel
theorem dX3_findIfs_46 : decode cX3_findIfs 46 = .ok (.return_, 1) := by decide +kernel
theorem dX3_firstUnder_0 : decode cX3_firstUnder 0 = .ok (.iconst 0, 1) := by decide +kernel
theorem dX3_firstUnder_1 : decode cX3_firstUnder 1 = .ok (.istore_n 2, 1) := by decide +kernel
theorem dX3_firstUnder_2 : decode cX3_firstUnder 2 = .ok (.iload_n 2, 1) := by decide +kernel
theorem dX3_firstUnder_3 : decode cX3_firstUnder 3 = .ok (.aload_n 0, 1) := by decide +kernel
theorem dX3_firstUnder_4 : decode cX3_firstUnder 4 = .ok (.getfield 37, 3) := by decide +kernel
theorem dX3_firstUnder_7 : decode cX3_firstUnder 7 = .ok (.if_icmp .ge 21, 3) := by decide +kernel
theorem dX3_firstUnder_10 : decode cX3_firstUnder 10 = .ok (.aload_n 0, 1) := by decide +kernel
theorem dX3_firstUnder_11 : decode cX3_firstUnder 11 = .ok (.getfield 24, 3) := by decide +kernel
theorem dX3_firstUnder_14 : decode cX3_firstUnder 14 = .ok (.iload_n 2, 1) := by decide +kernel
theorem dX3_firstUnder_15 : decode cX3_firstUnder 15 = .ok (.iaload, 1) := by decide +kernel
theorem dX3_firstUnder_16 : decode cX3_firstUnder 16 = .ok (.iload_n 1, 1) := by decide +kernel
theorem dX3_firstUnder_17 : decode cX3_firstUnder 17 = .ok (.if_icmp .ne 5, 3) := by decide +kernel
theorem dX3_firstUnder_20 : decode cX3_firstUnder 20 = .ok (.iload_n 2, 1) := by decide +kernel
theorem dX3_firstUnder_21 : decode cX3_firstUnder 21 = .ok (.ireturn, 1) := by decide +kernel
theorem dX3_firstUnder_22 : decode cX3_firstUnder 22 = .ok (.iinc 2 1, 3) := by decide +kernel
theorem dX3_firstUnder_25 : decode cX3_firstUnder 25 = .ok (.goto (-23), 3) := by decide +kernel
theorem dX3_firstUnder_28 : decode cX3_firstUnder 28 = .ok (.bipush (-4), 2) := by decide +kernel
theorem dX3_firstUnder_30 : decode cX3_firstUnder 30 = .ok (.ireturn, 1) := by decide +kernel
theorem dX3_firstToMerge_0 : decode cX3_firstToMerge 0 = .ok (.iconst 0, 1) := by decide +kernel
theorem dX3_firstToMerge_1 : decode cX3_firstToMerge 1 = .ok (.istore_n 1, 1) := by decide +kernel
theorem dX3_firstToMerge_2 : decode cX3_firstToMerge 2 = .ok (.iload_n 1, 1) := by decide +kernel
theorem dX3_firstToMerge_3 : decode cX3_firstToMerge 3 = .ok (.aload_n 0, 1) := by decide +kernel
theorem dX3_firstToMerge_4 : decode cX3_firstToMerge 4 = .ok (.getfield 40, 3) := by decide +kernel
theorem dX3_firstToMerge_7 : decode cX3_firstToMerge 7 = .ok (.if_icmp .ge 19, 3) := by decide +kernel
theorem dX3_firstToMerge_10 : decode cX3_firstToMerge 10 = .ok (.aload_n 0, 1) := by decide +kernel
theorem dX3_firstToMerge_11 : decode cX3_firstToMerge 11 = .ok (.iload_n 1, 1) := by decide +kernel
theorem dX3_firstToMerge_12 : decode cX3_firstToMerge 12 = .ok (.invokevirtual 93, 3) := by decide +kernel
theorem dX3_firstToMerge_15 : decode cX3_firstToMerge 15 = .ok (.ifCond .eq 5, 3) := by decide +kernel
theorem dX3_firstToMerge_18 : decode cX3_firstToMerge 18 = .ok (.iload_n 1, 1) := by decide +kernel
theorem dX3_firstToMerge_19 : decode cX3_firstToMerge 19 = .ok (.ireturn, 1) := by decide +kernel
theorem dX3_firstToMerge_20 : decode cX3_firstToMerge 20 = .ok (.iinc 1 1, 3) := by decide +kernel
theorem dX3_firstToMerge_23 : decode cX3_firstToMerge 23 = .ok (.goto (-21), 3) := by decide +kernel
theorem dX3_firstToMerge_26 : decode cX3_firstToMerge 26 = .ok (.bipush (-4), 2) := by decide +kernel
theorem dX3_firstToMerge_28 : decode cX3_firstToMerge 28 = .ok (.ireturn, 1) := by decide +kernel
theorem dX3_mayMerge_0 : decode cX3_mayMerge 0 = .ok (.aload_n 0, 1) := by decide +kernel
theorem dX3_mayMerge_1 : decode cX3_mayMerge 1 = .ok (.iconst 2, 1) := by decide +kernel
theorem dX3_mayMerge_2 : decode cX3_mayMerge 2 = .ok (.iload_n 1, 1) := by decide +kernel
theorem dX3_mayMerge_3 : decode cX3_mayMerge 3 = .ok (.imul, 1) := by decide +kernel
theorem dX3_mayMerge_4 : decode cX3_mayMerge 4 = .ok (.iconst 1, 1) := by decide +kernel
theorem dX3_mayMerge_5 : decode cX3_mayMerge 5 = .ok (.iadd, 1) := by decide +kernel
theorem dX3_mayMerge_6 : decode cX3_mayMerge 6 = .ok (.invokevirtual 96, 3) := by decide +kernel
theorem dX3_mayMerge_9 : decode cX3_mayMerge 9 = .ok (.istore_n 2, 1) := by decide +kernel
theorem dX3_mayMerge_10 : decode cX3_mayMerge 10 = .ok (.aload_n 0, 1) := by decide +kernel
theorem dX3_mayMerge_11 : decode cX3_mayMerge 11 = .ok (.iconst 2, 1) := by decide +kernel
theorem dX3_mayMerge_12 : decode cX3_mayMerge 12 = .ok (.iload_n 1, 1) := by decide +kernel
theorem dX3_mayMerge_13 : decode cX3_mayMerge 13 = .ok (.imul, 1) := by decide +kernel
theorem dX3_mayMerge_14 : decode cX3_mayMerge 14 = .ok (.iconst 2, 1) := by decide +kernel
theorem dX3_mayMerge_15 : decode cX3_mayMerge 15 = .ok (.iadd, 1) := by decide +kernel
theorem dX3_mayMerge_16 : decode cX3_mayMerge 16 = .ok (.invokevirtual 96, 3) := by decide +kernel
theorem dX3_mayMerge_19 : decode cX3_mayMerge 19 = .ok (.istore_n 3, 1) := by decide +kernel
theorem dX3_mayMerge_20 : decode cX3_mayMerge 20 = .ok (.iload_n 2, 1) := by decide +kernel
theorem dX3_mayMerge_21 : decode cX3_mayMerge 21 = .ok (.bipush (-4), 2) := by decide +kernel
theorem dX3_mayMerge_23 : decode cX3_mayMerge 23 = .ok (.if_icmp .eq 52, 3) := by decide +kernel
theorem dX3_mayMerge_26 : decode cX3_mayMerge 26 = .ok (.iload_n 3, 1) := by decide +kernel
theorem dX3_mayMerge_27 : decode cX3_mayMerge 27 = .ok (.bipush (-4), 2) := by decide +kernel
theorem dX3_mayMerge_29 : decode cX3_mayMerge 29 = .ok (.if_icmp .eq 46, 3) := by decide +kernel
theorem dX3_mayMerge_32 : decode cX3_mayMerge 32 = .ok (.aload_n 0, 1) := by decide +kernel
theorem dX3_mayMerge_33 : decode cX3_mayMerge 33 = .ok (.getfield 9, 3) := by decide +kernel
theorem dX3_mayMerge_36 : decode cX3_mayMerge 36 = .ok (.iload_n 2, 1) := by decide +kernel
theorem dX3_mayMerge_37 : decode cX3_mayMerge 37 = .ok (.iaload, 1) := by decide +kernel
theorem dX3_mayMerge_38 : decode cX3_mayMerge 38 = .ok (.iconst 5, 1) := by decide +kernel
theorem dX3_mayMerge_39 : decode cX3_mayMerge 39 = .ok (.if_icmp .eq 36, 3) := by decide +kernel
theorem dX3_mayMerge_42 : decode cX3_mayMerge 42 = .ok (.aload_n 0, 1) := by decide +kernel
theorem dX3_mayMerge_43 : decode cX3_mayMerge 43 = .ok (.iload_n 2, 1) := by decide +kernel
theorem dX3_mayMerge_44 : decode cX3_mayMerge 44 = .ok (.iload_n 3, 1) := by decide +kernel
theorem dX3_mayMerge_45 : decode cX3_mayMerge 45 = .ok (.invokevirtual 99, 3) := by decide +kernel
theorem dX3_mayMerge_48 : decode cX3_mayMerge 48 = .ok (.ifCond .eq 27, 3) := by decide +kernel
theorem dX3_mayMerge_51 : decode cX3_mayMerge 51 = .ok (.aload_n 0, 1) := by decide +kernel
theorem dX3_mayMerge_52 : decode cX3_mayMerge 52 = .ok (.getfield 15, 3) := by decide +kernel
theorem dX3_mayMerge_55 : decode cX3_mayMerge 55 = .ok (.iload_n 2, 1) := by decide +kernel
theorem dX3_mayMerge_56 : decode cX3_mayMerge 56 = .ok (.iaload, 1) := by decide +kernel
theorem dX3_mayMerge_57 : decode cX3_mayMerge 57 = .ok (.aload_n 0, 1) := by decide +kernel
theorem dX3_mayMerge_58 : decode cX3_mayMerge 58 = .ok (.getfield 15, 3) := by decide +kernel
theorem dX3_mayMerge_61 : decode cX3_mayMerge 61 = .ok (.aload_n 0, 1) := by decide +kernel
theorem dX3_mayMerge_62 : decode cX3_mayMerge 62 = .ok (.getfield 27, 3) := by decide +kernel
theorem dX3_mayMerge_65 : decode cX3_mayMerge 65 = .ok (.iload_n 1, 1) := by decide +kernel
theorem dX3_mayMerge_66 : decode cX3_mayMerge 66 = .ok (.iaload, 1) := by decide +kernel
theorem dX3_mayMerge_67 : decode cX3_mayMerge 67 = .ok (.iaload, 1) := by decide +kernel
theorem dX3_mayMerge_68 : decode cX3_mayMerge 68 = .ok (.if_icmp .eq 7, 3) := by decide +kernel
theorem dX3_mayMerge_71 : decode cX3_mayMerge 71 = .ok (.iconst 1, 1) := by decide +kernel
theorem dX3_mayMerge_72 : decode cX3_mayMerge 72 = .ok (.goto 4, 3) := by decide +kernel
theorem dX3_mayMerge_75 : decode cX3_mayMerge 75 = .ok (.iconst 0, 1) := by decide +kernel
theorem dX3_mayMerge_76 : decode cX3_mayMerge 76 = .ok (.ireturn, 1) := by decide +kernel
theorem dX3_areAlike_0 : decode cX3_areAlike 0 = .ok (.aload_n 0, 1) := by decide +kernel
theorem dX3_areAlike_1 : decode cX3_areAlike 1 = .ok (.getfield 9, 3) := by decide +kernel
theorem dX3_areAlike_4 : decode cX3_areAlike 4 = .ok (.iload_n 1, 1) := by decide +kernel
theorem dX3_areAlike_5 : decode cX3_areAlike 5 = .ok (.iaload, 1) := by decide +kernel
theorem dX3_areAlike_6 : decode cX3_areAlike 6 = .ok (.aload_n 0, 1) := by decide +kernel
theorem dX3_areAlike_7 : decode cX3_areAlike 7 = .ok (.getfield 9, 3) := by decide +kernel
theorem dX3_areAlike_10 : decode cX3_areAlike 10 = .ok (.iload_n 2, 1) := by decide +kernel
theorem dX3_areAlike_11 : decode cX3_areAlike 11 = .ok (.iaload, 1) := by decide +kernel
theorem dX3_areAlike_12 : decode cX3_areAlike 12 = .ok (.if_icmp .ne 52, 3) := by decide +kernel
theorem dX3_areAlike_15 : decode cX3_areAlike 15 = .ok (.aload_n 0, 1) := by decide +kernel
theorem dX3_areAlike_16 : decode cX3_areAlike 16 = .ok (.getfield 15, 3) := by decide +kernel
theorem dX3_areAlike_19 : decode cX3_areAlike 19 = .ok (.iload_n 1, 1) := by decide +kernel
theorem dX3_areAlike_20 : decode cX3_areAlike 20 = .ok (.iaload, 1) := by decide +kernel
theorem dX3_areAlike_21 : decode cX3_areAlike 21 = .ok (.aload_n 0, 1) := by decide +kernel
theorem dX3_areAlike_22 : decode cX3_areAlike 22 = .ok (.getfield 15, 3) := by decide +kernel
theorem dX3_areAlike_25 : decode cX3_areAlike 25 = .ok (.iload_n 2, 1) := by decide +kernel
theorem dX3_areAlike_26 : decode cX3_areAlike 26 = .ok (.iaload, 1) := by decide +kernel
theorem dX3_areAlike_27 : decode cX3_areAlike 27 = .ok (.if_icmp .ne 37, 3) := by decide +kernel
theorem dX3_areAlike_30 : decode cX3_areAlike 30 = .ok (.aload_n 0, 1) := by decide +kernel
theorem dX3_areAlike_31 : decode cX3_areAlike 31 = .ok (.getfield 18, 3) := by decide +kernel
theorem dX3_areAlike_34 : decode cX3_areAlike 34 = .ok (.iload_n 1, 1) := by decide +kernel
theorem dX3_areAlike_35 : decode cX3_areAlike 35 = .ok (.iaload, 1) := by decide +kernel
theorem dX3_areAlike_36 : decode cX3_areAlike 36 = .ok (.aload_n 0, 1) := by decide +kernel
theorem dX3_areAlike_37 : decode cX3_areAlike 37 = .ok (.getfield 18, 3) := by decide +kernel
theorem dX3_areAlike_40 : decode cX3_areAlike 40 = .ok (.iload_n 2, 1) := by decide +kernel
theorem dX3_areAlike_41 : decode cX3_areAlike 41 = .ok (.iaload, 1) := by decide +kernel
theorem dX3_areAlike_42 : decode cX3_areAlike 42 = .ok (.if_icmp .ne 22, 3) := by decide +kernel
theorem dX3_areAlike_45 : decode cX3_areAlike 45 = .ok (.aload_n 0, 1) := by decide +kernel
theorem dX3_areAlike_46 : decode cX3_areAlike 46 = .ok (.getfield 21, 3) := by decide +kernel
theorem dX3_areAlike_49 : decode cX3_areAlike 49 = .ok (.iload_n 1, 1) := by decide +kernel
theorem dX3_areAlike_50 : decode cX3_areAlike 50 = .ok (.iaload, 1) := by decide +kernel
theorem dX3_areAlike_51 : decode cX3_areAlike 51 = .ok (.aload_n 0, 1) := by decide +kernel
theorem dX3_areAlike_52 : decode cX3_areAlike 52 = .ok (.getfield 21, 3) := by decide +kernel
theorem dX3_areAlike_55 : decode cX3_areAlike 55 = .ok (.iload_n 2, 1) := by decide +kernel
theorem dX3_areAlike_56 : decode cX3_areAlike 56 = .ok (.iaload, 1) := by decide +kernel
theorem dX3_areAlike_57 : decode cX3_areAlike 57 = .ok (.if_icmp .ne 7, 3) := by decide +kernel
theorem dX3_areAlike_60 : decode cX3_areAlike 60 = .ok (.iconst 1, 1) := by decide +kernel
theorem dX3_areAlike_61 : decode cX3_areAlike 61 = .ok (.goto 4, 3) := by decide +kernel
theorem dX3_areAlike_64 : decode cX3_areAlike 64 = .ok (.iconst 0, 1) := by decide +kernel
theorem dX3_areAlike_65 : decode cX3_areAlike 65 = .ok (.ireturn, 1) := by decide +kernel
theorem dX3_mergeAhead_0 : decode cX3_mergeAhead 0 = .ok (.aload_n 0, 1) := by decide +kernel
theorem dX3_mergeAhead_1 : decode cX3_mergeAhead 1 = .ok (.getfield 27, 3) := by decide +kernel
theorem dX3_mergeAhead_4 : decode cX3_mergeAhead 4 = .ok (.iload_n 1, 1) := by decide +kernel
theorem dX3_mergeAhead_5 : decode cX3_mergeAhead 5 = .ok (.iaload, 1) := by decide +kernel
theorem dX3_mergeAhead_6 : decode cX3_mergeAhead 6 = .ok (.istore_n 2, 1) := by decide +kernel
theorem dX3_mergeAhead_7 : decode cX3_mergeAhead 7 = .ok (.aload_n 0, 1) := by decide +kernel
theorem dX3_mergeAhead_8 : decode cX3_mergeAhead 8 = .ok (.iconst 2, 1) := by decide +kernel
theorem dX3_mergeAhead_9 : decode cX3_mergeAhead 9 = .ok (.iload_n 1, 1) := by decide +kernel
theorem dX3_mergeAhead_10 : decode cX3_mergeAhead 10 = .ok (.imul, 1) := by decide +kernel
theorem dX3_mergeAhead_11 : decode cX3_mergeAhead 11 = .ok (.iconst 1, 1) := by decide +kernel
theorem dX3_mergeAhead_12 : decode cX3_mergeAhead 12 = .ok (.iadd, 1) := by decide +kernel
theorem dX3_mergeAhead_13 : decode cX3_mergeAhead 13 = .ok (.invokevirtual 96, 3) := by decide +kernel
theorem dX3_mergeAhead_16 : decode cX3_mergeAhead 16 = .ok (.istore_n 3, 1) := by decide +kernel
theorem dX3_mergeAhead_17 : decode cX3_mergeAhead 17 = .ok (.aload_n 0, 1) := by decide +kernel
theorem dX3_mergeAhead_18 : decode cX3_mergeAhead 18 = .ok (.iconst 2, 1) := by decide +kernel
theorem dX3_mergeAhead_19 : decode cX3_mergeAhead 19 = .ok (.iload_n 1, 1) := by decide +kernel
theorem dX3_mergeAhead_20 : decode cX3_mergeAhead 20 = .ok (.imul, 1) := by decide +kernel
theorem dX3_mergeAhead_21 : decode cX3_mergeAhead 21 = .ok (.iconst 2, 1) := by decide +kernel
theorem dX3_mergeAhead_22 : decode cX3_mergeAhead 22 = .ok (.iadd, 1) := by decide +kernel
theorem dX3_mergeAhead_23 : decode cX3_mergeAhead 23 = .ok (.invokevirtual 96, 3) := by decide +kernel
theorem dX3_mergeAhead_26 : decode cX3_mergeAhead 26 = .ok (.istore 4, 2) := by decide +kernel
theorem dX3_mergeAhead_28 : decode cX3_mergeAhead 28 = .ok (.aload_n 0, 1) := by decide +kernel
theorem dX3_mergeAhead_29 : decode cX3_mergeAhead 29 = .ok (.getfield 9, 3) := by decide +kernel
theorem dX3_mergeAhead_32 : decode cX3_mergeAhead 32 = .ok (.iload_n 3, 1) := by decide +kernel
theorem dX3_mergeAhead_33 : decode cX3_mergeAhead 33 = .ok (.iaload, 1) := by decide +kernel
theorem dX3_mergeAhead_34 : decode cX3_mergeAhead 34 = .ok (.istore 5, 2) := by decide +kernel
theorem dX3_mergeAhead_36 : decode cX3_mergeAhead 36 = .ok (.aload_n 0, 1) := by decide +kernel
theorem dX3_mergeAhead_37 : decode cX3_mergeAhead 37 = .ok (.getfield 15, 3) := by decide +kernel
theorem dX3_mergeAhead_40 : decode cX3_mergeAhead 40 = .ok (.iload_n 3, 1) := by decide +kernel
theorem dX3_mergeAhead_41 : decode cX3_mergeAhead 41 = .ok (.iaload, 1) := by decide +kernel
theorem dX3_mergeAhead_42 : decode cX3_mergeAhead 42 = .ok (.istore 6, 2) := by decide +kernel
theorem dX3_mergeAhead_44 : decode cX3_mergeAhead 44 = .ok (.aload_n 0, 1) := by decide +kernel
theorem dX3_mergeAhead_45 : decode cX3_mergeAhead 45 = .ok (.getfield 18, 3) := by decide +kernel
theorem dX3_mergeAhead_48 : decode cX3_mergeAhead 48 = .ok (.iload_n 3, 1) := by decide +kernel
theorem dX3_mergeAhead_49 : decode cX3_mergeAhead 49 = .ok (.iaload, 1) := by decide +kernel
theorem dX3_mergeAhead_50 : decode cX3_mergeAhead 50 = .ok (.istore 7, 2) := by decide +kernel
theorem dX3_mergeAhead_52 : decode cX3_mergeAhead 52 = .ok (.aload_n 0, 1) := by decide +kernel
theorem dX3_mergeAhead_53 : decode cX3_mergeAhead 53 = .ok (.getfield 21, 3) := by decide +kernel
theorem dX3_mergeAhead_56 : decode cX3_mergeAhead 56 = .ok (.iload_n 3, 1) := by decide +kernel
theorem dX3_mergeAhead_57 : decode cX3_mergeAhead 57 = .ok (.iaload, 1) := by decide +kernel
theorem dX3_mergeAhead_58 : decode cX3_mergeAhead 58 = .ok (.istore 8, 2) := by decide +kernel
theorem dX3_mergeAhead_60 : decode cX3_mergeAhead 60 = .ok (.iload 4, 2) := by decide +kernel
theorem dX3_mergeAhead_62 : decode cX3_mergeAhead 62 = .ok (.iconst 1, 1) := by decide +kernel
theorem dX3_mergeAhead_63 : decode cX3_mergeAhead 63 = .ok (.iadd, 1) := by decide +kernel
theorem dX3_mergeAhead_64 : decode cX3_mergeAhead 64 = .ok (.istore 9, 2) := by decide +kernel
theorem dX3_mergeAhead_66 : decode cX3_mergeAhead 66 = .ok (.iload 9, 2) := by decide +kernel
theorem dX3_mergeAhead_68 : decode cX3_mergeAhead 68 = .ok (.aload_n 0, 1) := by decide +kernel
theorem dX3_mergeAhead_69 : decode cX3_mergeAhead 69 = .ok (.getfield 37, 3) := by decide +kernel
theorem dX3_mergeAhead_72 : decode cX3_mergeAhead 72 = .ok (.if_icmp .ge 19, 3) := by decide +kernel
theorem dX3_mergeAhead_75 : decode cX3_mergeAhead 75 = .ok (.aload_n 0, 1) := by decide +kernel
theorem dX3_mergeAhead_76 : decode cX3_mergeAhead 76 = .ok (.iload 9, 2) := by decide +kernel
theorem dX3_mergeAhead_78 : decode cX3_mergeAhead 78 = .ok (.iload 9, 2) := by decide +kernel
theorem dX3_mergeAhead_80 : decode cX3_mergeAhead 80 = .ok (.iconst 1, 1) := by decide +kernel
theorem dX3_mergeAhead_81 : decode cX3_mergeAhead 81 = .ok (.isub, 1) := by decide +kernel
theorem dX3_mergeAhead_82 : decode cX3_mergeAhead 82 = .ok (.invokevirtual 86, 3) := by decide +kernel
theorem dX3_mergeAhead_85 : decode cX3_mergeAhead 85 = .ok (.iinc 9 1, 3) := by decide +kernel
theorem dX3_mergeAhead_88 : decode cX3_mergeAhead 88 = .ok (.goto (-22), 3) := by decide +kernel
theorem dX3_mergeAhead_91 : decode cX3_mergeAhead 91 = .ok (.aload_n 0, 1) := by decide +kernel
theorem dX3_mergeAhead_92 : decode cX3_mergeAhead 92 = .ok (.dup, 1) := by decide +kernel
theorem dX3_mergeAhead_93 : decode cX3_mergeAhead 93 = .ok (.getfield 37, 3) := by decide +kernel
theorem dX3_mergeAhead_96 : decode cX3_mergeAhead 96 = .ok (.iconst 1, 1) := by decide +kernel
theorem dX3_mergeAhead_97 : decode cX3_mergeAhead 97 = .ok (.isub, 1) := by decide +kernel
theorem dX3_mergeAhead_98 : decode cX3_mergeAhead 98 = .ok (.putfield 37, 3) := by decide +kernel
theorem dX3_mergeAhead_101 : decode cX3_mergeAhead 101 = .ok (.iload_n 3, 1) := by decide +kernel
theorem dX3_mergeAhead_102 : decode cX3_mergeAhead 102 = .ok (.istore 9, 2) := by decide +kernel
theorem dX3_mergeAhead_104 : decode cX3_mergeAhead 104 = .ok (.iload 9, 2) := by decide +kernel
theorem dX3_mergeAhead_106 : decode cX3_mergeAhead 106 = .ok (.iload_n 2, 1) := by decide +kernel
theorem dX3_mergeAhead_107 : decode cX3_mergeAhead 107 = .ok (.if_icmp .le 19, 3) := by decide +kernel
theorem dX3_mergeAhead_110 : decode cX3_mergeAhead 110 = .ok (.aload_n 0, 1) := by decide +kernel
theorem dX3_mergeAhead_111 : decode cX3_mergeAhead 111 = .ok (.iload 9, 2) := by decide +kernel
theorem dX3_mergeAhead_113 : decode cX3_mergeAhead 113 = .ok (.iconst 1, 1) := by decide +kernel
theorem dX3_mergeAhead_114 : decode cX3_mergeAhead 114 = .ok (.isub, 1) := by decide +kernel
theorem dX3_mergeAhead_115 : decode cX3_mergeAhead 115 = .ok (.iload 9, 2) := by decide +kernel
theorem dX3_mergeAhead_117 : decode cX3_mergeAhead 117 = .ok (.invokevirtual 86, 3) := by decide +kernel
theorem dX3_mergeAhead_120 : decode cX3_mergeAhead 120 = .ok (.iinc 9 (-1), 3) := by decide +kernel
theorem dX3_mergeAhead_123 : decode cX3_mergeAhead 123 = .ok (.goto (-19), 3) := by decide +kernel
theorem dX3_mergeAhead_126 : decode cX3_mergeAhead 126 = .ok (.aload_n 0, 1) := by decide +kernel
theorem dX3_mergeAhead_127 : decode cX3_mergeAhead 127 = .ok (.getfield 9, 3) := by decide +kernel
theorem dX3_mergeAhead_130 : decode cX3_mergeAhead 130 = .ok (.iload_n 2, 1) := by decide +kernel
theorem dX3_mergeAhead_131 : decode cX3_mergeAhead 131 = .ok (.iload 5, 2) := by decide +kernel
theorem dX3_mergeAhead_133 : decode cX3_mergeAhead 133 = .ok (.iastore, 1) := by decide +kernel
theorem dX3_mergeAhead_134 : decode cX3_mergeAhead 134 = .ok (.aload_n 0, 1) := by decide +kernel
theorem dX3_mergeAhead_135 : decode cX3_mergeAhead 135 = .ok (.getfield 15, 3) := by decide +kernel
theorem dX3_mergeAhead_138 : decode cX3_mergeAhead 138 = .ok (.iload_n 2, 1) := by decide +kernel
theorem dX3_mergeAhead_139 : decode cX3_mergeAhead 139 = .ok (.iload 6, 2) := by decide +kernel
theorem dX3_mergeAhead_141 : decode cX3_mergeAhead 141 = .ok (.iastore, 1) := by decide +kernel
theorem dX3_mergeAhead_142 : decode cX3_mergeAhead 142 = .ok (.aload_n 0, 1) := by decide +kernel
theorem dX3_mergeAhead_143 : decode cX3_mergeAhead 143 = .ok (.getfield 18, 3) := by decide +kernel
theorem dX3_mergeAhead_146 : decode cX3_mergeAhead 146 = .ok (.iload_n 2, 1) := by decide +kernel
theorem dX3_mergeAhead_147 : decode cX3_mergeAhead 147 = .ok (.iload 7, 2) := by decide +kernel
theorem dX3_mergeAhead_149 : decode cX3_mergeAhead 149 = .ok (.iastore, 1) := by decide +kernel
theorem dX3_mergeAhead_150 : decode cX3_mergeAhead 150 = .ok (.aload_n 0, 1) := by decide +kernel
theorem dX3_mergeAhead_151 : decode cX3_mergeAhead 151 = .ok (.getfield 21, 3) := by decide +kernel
theorem dX3_mergeAhead_154 : decode cX3_mergeAhead 154 = .ok (.iload_n 2, 1) := by decide +kernel
theorem dX3_mergeAhead_155 : decode cX3_mergeAhead 155 = .ok (.iload 8, 2) := by decide +kernel
theorem dX3_mergeAhead_157 : decode cX3_mergeAhead 157 = .ok (.iastore, 1) := by decide +kernel
theorem dX3_mergeAhead_158 : decode cX3_mergeAhead 158 = .ok (.aload_n 0, 1) := by decide +kernel
theorem dX3_mergeAhead_159 : decode cX3_mergeAhead 159 = .ok (.invokevirtual 90, 3) := by decide +kernel
theorem dX3_mergeAhead_162 : decode cX3_mergeAhead 162 = .ok (.return_, 1) := by decide +kernel
theorem dX4_init_0 : decode cX4_init 0 = .ok (.aload_n 0, 1) := by decide +kernel
theorem dX4_init_1 : decode cX4_init 1 = .ok (.invokespecial 3, 3) := by decide +kernel
theorem dX4_init_4 : decode cX4_init 4 = .ok (.aload_n 0, 1) := by decide +kernel
theorem dX4_init_5 : decode cX4_init 5 = .ok (.bipush 40, 2) := by decide +kernel
theorem dX4_init_7 : decode cX4_init 7 = .ok (.newarray .int, 2) := by decide +kernel
theorem dX4_init_9 : decode cX4_init 9 = .ok (.putfield 9, 3) := by decide +kernel
theorem dX4_init_12 : decode cX4_init 12 = .ok (.aload_n 0, 1) := by decide +kernel
theorem dX4_init_13 : decode cX4_init 13 = .ok (.bipush (-4), 2) := by decide +kernel
theorem dX4_init_15 : decode cX4_init 15 = .ok (.putfield 15, 3) := by decide +kernel
theorem dX4_init_18 : decode cX4_init 18 = .ok (.return_, 1) := by decide +kernel
theorem dX4_renew_0 : decode cX4_renew 0 = .ok (.aload_n 0, 1) := by decide +kernel
theorem dX4_renew_1 : decode cX4_renew 1 = .ok (.getfield 9, 3) := by decide +kernel
theorem dX4_renew_4 : decode cX4_renew 4 = .ok (.iconst 0, 1) := by decide +kernel
theorem dX4_renew_5 : decode cX4_renew 5 = .ok (.invokestatic 19, 3) := by decide +kernel
theorem dX4_renew_8 : decode cX4_renew 8 = .ok (.aload_n 0, 1) := by decide +kernel
theorem dX4_renew_9 : decode cX4_renew 9 = .ok (.iload_n 1, 1) := by decide +kernel
theorem dX4_renew_10 : decode cX4_renew 10 = .ok (.putfield 25, 3) := by decide +kernel
theorem dX4_renew_13 : decode cX4_renew 13 = .ok (.aload_n 0, 1) := by decide +kernel
theorem dX4_renew_14 : decode cX4_renew 14 = .ok (.iload_n 2, 1) := by decide +kernel
theorem dX4_renew_15 : decode cX4_renew 15 = .ok (.putfield 15, 3) := by decide +kernel
theorem dX4_renew_18 : decode cX4_renew 18 = .ok (.return_, 1) := by decide +kernel
theorem dX4_write_0 : decode cX4_write 0 = .ok (.aload_n 0, 1) := by decide +kernel
theorem dX4_write_1 : decode cX4_write 1 = .ok (.getfield 25, 3) := by decide +kernel
theorem dX4_write_4 : decode cX4_write 4 = .ok (.ifCond .ne 14, 3) := by decide +kernel
theorem dX4_write_7 : decode cX4_write 7 = .ok (.aload_n 0, 1) := by decide +kernel
theorem dX4_write_8 : decode cX4_write 8 = .ok (.getfield 9, 3) := by decide +kernel
theorem dX4_write_11 : decode cX4_write 11 = .ok (.iload_n 1, 1) := by decide +kernel
theorem dX4_write_12 : decode cX4_write 12 = .ok (.iload_n 2, 1) := by decide +kernel
theorem dX4_write_13 : decode cX4_write 13 = .ok (.i2b, 1) := by decide +kernel
theorem dX4_write_14 : decode cX4_write 14 = .ok (.iastore, 1) := by decide +kernel
theorem dX4_write_15 : decode cX4_write 15 = .ok (.goto 29, 3) := by decide +kernel
theorem dX4_write_18 : decode cX4_write 18 = .ok (.aload_n 0, 1) := by decide +kernel
theorem dX4_write_19 : decode cX4_write 19 = .ok (.getfield 25, 3) := by decide +kernel
theorem dX4_write_22 : decode cX4_write 22 = .ok (.iconst 1, 1) := by decide +kernel
theorem dX4_write_23 : decode cX4_write 23 = .ok (.if_icmp .ne 14, 3) := by decide +kernel
theorem dX4_write_26 : decode cX4_write 26 = .ok (.aload_n 0, 1) := by decide +kernel
theorem dX4_write_27 : decode cX4_write 27 = .ok (.getfield 9, 3) := by decide +kernel
theorem dX4_write_30 : decode cX4_write 30 = .ok (.iload_n 1, 1) := by decide +kernel
theorem dX4_write_31 : decode cX4_write 31 = .ok (.iload_n 2, 1) := by decide +kernel
theorem dX4_write_32 : decode cX4_write 32 = .ok (.i2s, 1) := by decide +kernel
theorem dX4_write_33 : decode cX4_write 33 = .ok (.iastore, 1) := by decide +kernel
theorem dX4_write_34 : decode cX4_write 34 = .ok (.goto 10, 3) := by decide +kernel
theorem dX4_write_37 : decode cX4_write 37 = .ok (.aload_n 0, 1) := by decide +kernel
theorem dX4_write_38 : decode cX4_write 38 = .ok (.getfield 9, 3) := by decide +kernel
theorem dX4_write_41 : decode cX4_write 41 = .ok (.iload_n 1, 1) := by decide +kernel
theorem dX4_write_42 : decode cX4_write 42 = .ok (.iload_n 2, 1) := by decide +kernel
theorem dX4_write_43 : decode cX4_write 43 = .ok (.iastore, 1) := by decide +kernel
theorem dX4_write_44 : decode cX4_write 44 = .ok (.return_, 1) := by decide +kernel
theorem dX4_faultOfChange_0 : decode cX4_faultOfChange 0 = .ok (.aload_n 0, 1) := by decide +kernel
theorem dX4_faultOfChange_1 : decode cX4_faultOfChange 1 = .ok (.getfield 15, 3) := by decide +kernel
theorem dX4_faultOfChange_4 : decode cX4_faultOfChange 4 = .ok (.bipush (-4), 2) := by decide +kernel
theorem dX4_faultOfChange_6 : decode cX4_faultOfChange 6 = .ok (.if_icmp .ne 5, 3) := by decide +kernel
theorem dX4_faultOfChange_9 : decode cX4_faultOfChange 9 = .ok (.iconst 1, 1) := by decide +kernel
theorem dX4_faultOfChange_10 : decode cX4_faultOfChange 10 = .ok (.ireturn, 1) := by decide +kernel
theorem dX4_faultOfChange_11 : decode cX4_faultOfChange 11 = .ok (.iload_n 1, 1) := by decide +kernel
theorem dX4_faultOfChange_12 : decode cX4_faultOfChange 12 = .ok (.aload_n 0, 1) := by decide +kernel
theorem dX4_faultOfChange_13 : decode cX4_faultOfChange 13 = .ok (.getfield 25, 3) := by decide +kernel
theorem dX4_faultOfChange_16 : decode cX4_faultOfChange 16 = .ok (.if_icmp .eq 5, 3) := by decide +kernel
theorem dX4_faultOfChange_19 : decode cX4_faultOfChange 19 = .ok (.iconst 3, 1) := by decide +kernel
theorem dX4_faultOfChange_20 : decode cX4_faultOfChange 20 = .ok (.ireturn, 1) := by decide +kernel
theorem dX4_faultOfChange_21 : decode cX4_faultOfChange 21 = .ok (.iload_n 2, 1) := by decide +kernel
theorem dX4_faultOfChange_22 : decode cX4_faultOfChange 22 = .ok (.ifCond .lt 13, 3) := by decide +kernel
theorem dX4_faultOfChange_25 : decode cX4_faultOfChange 25 = .ok (.iload_n 2, 1) := by decide +kernel
theorem dX4_faultOfChange_26 : decode cX4_faultOfChange 26 = .ok (.aload_n 0, 1) := by decide +kernel
theorem dX4_faultOfChange_27 : decode cX4_faultOfChange 27 = .ok (.getfield 15, 3) := by decide +kernel
theorem dX4_faultOfChange_30 : decode cX4_faultOfChange 30 = .ok (.iconst 3, 1) := by decide +kernel
theorem dX4_faultOfChange_31 : decode cX4_faultOfChange 31 = .ok (.isub, 1) := by decide +kernel
theorem dX4_faultOfChange_32 : decode cX4_faultOfChange 32 = .ok (.if_icmp .le 7, 3) := by decide +kernel
theorem dX4_faultOfChange_35 : decode cX4_faultOfChange 35 = .ok (.iconst 2, 1) := by decide +kernel
theorem dX4_faultOfChange_36 : decode cX4_faultOfChange 36 = .ok (.goto 4, 3) := by decide +kernel
theorem dX4_faultOfChange_39 : decode cX4_faultOfChange 39 = .ok (.iconst 0, 1) := by decide +kernel
theorem dX4_faultOfChange_40 : decode cX4_faultOfChange 40 = .ok (.ireturn, 1) := by decide +kernel
theorem dX5_init_0 : decode cX5_init 0 = .ok (.aload_n 0, 1) := by decide +kernel
theorem dX5_init_1 : decode cX5_init 1 = .ok (.invokespecial 3, 3) := by decide +kernel
theorem dX5_init_4 : decode cX5_init 4 = .ok (.aload_n 0, 1) := by decide +kernel
theorem dX5_init_5 : decode cX5_init 5 = .ok (.new 9, 3) := by decide +kernel
theorem dX5_init_8 : decode cX5_init 8 = .ok (.dup, 1) := by decide +kernel
theorem dX5_init_9 : decode cX5_init 9 = .ok (.invokespecial 11, 3) := by decide +kernel
theorem dX5_init_12 : decode cX5_init 12 = .ok (.putfield 12, 3) := by decide +kernel
theorem dX5_init_15 : decode cX5_init 15 = .ok (.aload_n 0, 1) := by decide +kernel
theorem dX5_init_16 : decode cX5_init 16 = .ok (.sipush 320, 3) := by decide +kernel
theorem dX5_init_19 : decode cX5_init 19 = .ok (.newarray .byte, 2) := by decide +kernel
theorem dX5_init_21 : decode cX5_init 21 = .ok (.putfield 18, 3) := by decide +kernel
theorem dX5_init_24 : decode cX5_init 24 = .ok (.aload_n 0, 1) := by decide +kernel
theorem dX5_init_25 : decode cX5_init 25 = .ok (.bipush 6, 2) := by decide +kernel
theorem dX5_init_27 : decode cX5_init 27 = .ok (.newarray .int, 2) := by decide +kernel
theorem dX5_init_29 : decode cX5_init 29 = .ok (.putfield 22, 3) := by decide +kernel
theorem dX5_init_32 : decode cX5_init 32 = .ok (.return_, 1) := by decide +kernel
theorem dX5_takeAll_0 : decode cX5_takeAll 0 = .ok (.aload_n 0, 1) := by decide +kernel
theorem dX5_takeAll_1 : decode cX5_takeAll 1 = .ok (.iconst 0, 1) := by decide +kernel
theorem dX5_takeAll_2 : decode cX5_takeAll 2 = .ok (.putfield 26, 3) := by decide +kernel
theorem dX5_takeAll_5 : decode cX5_takeAll 5 = .ok (.aload_n 0, 1) := by decide +kernel
theorem dX5_takeAll_6 : decode cX5_takeAll 6 = .ok (.iconst 0, 1) := by decide +kernel
theorem dX5_takeAll_7 : decode cX5_takeAll 7 = .ok (.putfield 30, 3) := by decide +kernel
theorem dX5_takeAll_10 : decode cX5_takeAll 10 = .ok (.aload_n 0, 1) := by decide +kernel
theorem dX5_takeAll_11 : decode cX5_takeAll 11 = .ok (.iconst 0, 1) := by decide +kernel
theorem dX5_takeAll_12 : decode cX5_takeAll 12 = .ok (.putfield 33, 3) := by decide +kernel
theorem dX5_takeAll_15 : decode cX5_takeAll 15 = .ok (.aload_n 0, 1) := by decide +kernel
theorem dX5_takeAll_16 : decode cX5_takeAll 16 = .ok (.getfield 12, 3) := by decide +kernel
theorem dX5_takeAll_19 : decode cX5_takeAll 19 = .ok (.invokevirtual 36, 3) := by decide +kernel
theorem dX5_takeAll_22 : decode cX5_takeAll 22 = .ok (.iconst 0, 1) := by decide +kernel
theorem dX5_takeAll_23 : decode cX5_takeAll 23 = .ok (.istore_n 1, 1) := by decide +kernel
theorem dX5_takeAll_24 : decode cX5_takeAll 24 = .ok (.iload_n 1, 1) := by decide +kernel
theorem dX5_takeAll_25 : decode cX5_takeAll 25 = .ok (.sipush 320, 3) := by decide +kernel
theorem dX5_takeAll_28 : decode cX5_takeAll 28 = .ok (.if_icmp .gt 60, 3) := by decide +kernel
theorem dX5_takeAll_31 : decode cX5_takeAll 31 = .ok (.aload_n 0, 1) := by decide +kernel
theorem dX5_takeAll_32 : decode cX5_takeAll 32 = .ok (.invokevirtual 39, 3) := by decide +kernel
theorem dX5_takeAll_35 : decode cX5_takeAll 35 = .ok (.ifCond .ne 5, 3) := by decide +kernel
theorem dX5_takeAll_38 : decode cX5_takeAll 38 = .ok (.iconst 0, 1) := by decide +kernel
theorem dX5_takeAll_39 : decode cX5_takeAll 39 = .ok (.ireturn, 1) := by decide +kernel
theorem dX5_takeAll_40 : decode cX5_takeAll 40 = .ok (.aload_n 0, 1) := by decide +kernel
theorem dX5_takeAll_41 : decode cX5_takeAll 41 = .ok (.getfield 43, 3) := by decide +kernel
theorem dX5_takeAll_44 : decode cX5_takeAll 44 = .ok (.ifCond .ne 12, 3) := by decide +kernel
theorem dX5_takeAll_47 : decode cX5_takeAll 47 = .ok (.aload_n 0, 1) := by decide +kernel
theorem dX5_takeAll_48 : decode cX5_takeAll 48 = .ok (.getfield 26, 3) := by decide +kernel
theorem dX5_takeAll_51 : decode cX5_takeAll 51 = .ok (.ifCond .ne 5, 3) := by decide +kernel
theorem dX5_takeAll_54 : decode cX5_takeAll 54 = .ok (.iconst 1, 1) := by decide +kernel
theorem dX5_takeAll_55 : decode cX5_takeAll 55 = .ok (.ireturn, 1) := by decide +kernel
theorem dX5_takeAll_56 : decode cX5_takeAll 56 = .ok (.aload_n 0, 1) := by decide +kernel
theorem dX5_takeAll_57 : decode cX5_takeAll 57 = .ok (.getfield 43, 3) := by decide +kernel
theorem dX5_takeAll_60 : decode cX5_takeAll 60 = .ok (.iconst 1, 1) := by decide +kernel
theorem dX5_takeAll_61 : decode cX5_takeAll 61 = .ok (.if_icmp .ne 10, 3) := by decide +kernel
theorem dX5_takeAll_64 : decode cX5_takeAll 64 = .ok (.aload_n 0, 1) := by decide +kernel
theorem dX5_takeAll_65 : decode cX5_takeAll 65 = .ok (.invokevirtual 46, 3) := by decide +kernel
theorem dX5_takeAll_68 : decode cX5_takeAll 68 = .ok (.goto 7, 3) := by decide +kernel
theorem dX5_takeAll_71 : decode cX5_takeAll 71 = .ok (.aload_n 0, 1) := by decide +kernel
theorem dX5_takeAll_72 : decode cX5_takeAll 72 = .ok (.invokevirtual 49, 3) := by decide +kernel
theorem dX5_takeAll_75 : decode cX5_takeAll 75 = .ok (.istore_n 2, 1) := by decide +kernel
theorem dX5_takeAll_76 : decode cX5_takeAll 76 = .ok (.iload_n 2, 1) := by decide +kernel
theorem dX5_takeAll_77 : decode cX5_takeAll 77 = .ok (.ifCond .ne 5, 3) := by decide +kernel
theorem dX5_takeAll_80 : decode cX5_takeAll 80 = .ok (.iconst 0, 1) := by decide +kernel
theorem dX5_takeAll_81 : decode cX5_takeAll 81 = .ok (.ireturn, 1) := by decide +kernel
theorem dX5_takeAll_82 : decode cX5_takeAll 82 = .ok (.iinc 1 1, 3) := by decide +kernel
theorem dX5_takeAll_85 : decode cX5_takeAll 85 = .ok (.goto (-61), 3) := by decide +kernel
theorem dX5_takeAll_88 : decode cX5_takeAll 88 = .ok (.aload_n 0, 1) := by decide +kernel
theorem dX5_takeAll_89 : decode cX5_takeAll 89 = .ok (.iconst 2, 1) := by decide +kernel
theorem dX5_takeAll_90 : decode cX5_takeAll 90 = .ok (.invokevirtual 52, 3) := by decide +kernel
theorem dX5_takeAll_93 : decode cX5_takeAll 93 = .ok (.ireturn, 1) := by decide +kernel
theorem dX5_closeSide_0 : decode cX5_closeSide 0 = .ok (.aload_n 0, 1) := by decide +kernel
theorem dX5_closeSide_1 : decode cX5_closeSide 1 = .ok (.getfield 43, 3) := by decide +kernel
theorem dX5_closeSide_4 : decode cX5_closeSide 4 = .ok (.bipush 125, 2) := by decide +kernel
theorem dX5_closeSide_6 : decode cX5_closeSide 6 = .ok (.if_icmp .ne 10, 3) := by decide +kernel
theorem dX5_closeSide_9 : decode cX5_closeSide 9 = .ok (.aload_n 0, 1) := by decide +kernel
theorem dX5_closeSide_10 : decode cX5_closeSide 10 = .ok (.getfield 26, 3) := by decide +kernel
theorem dX5_closeSide_13 : decode cX5_closeSide 13 = .ok (.ifCond .ne 9, 3) := by decide +kernel
theorem dX5_closeSide_16 : decode cX5_closeSide 16 = .ok (.aload_n 0, 1) := by decide +kernel
theorem dX5_closeSide_17 : decode cX5_closeSide 17 = .ok (.iconst 2, 1) := by decide +kernel
theorem dX5_closeSide_18 : decode cX5_closeSide 18 = .ok (.invokevirtual 52, 3) := by decide +kernel
theorem dX5_closeSide_21 : decode cX5_closeSide 21 = .ok (.ireturn, 1) := by decide +kernel
theorem dX5_closeSide_22 : decode cX5_closeSide 22 = .ok (.aload_n 0, 1) := by decide +kernel
theorem dX5_closeSide_23 : decode cX5_closeSide 23 = .ok (.getfield 22, 3) := by decide +kernel
theorem dX5_closeSide_26 : decode cX5_closeSide 26 = .ok (.aload_n 0, 1) := by decide +kernel
theorem dX5_closeSide_27 : decode cX5_closeSide 27 = .ok (.getfield 26, 3) := by decide +kernel
theorem dX5_closeSide_30 : decode cX5_closeSide 30 = .ok (.iconst 1, 1) := by decide +kernel
theorem dX5_closeSide_31 : decode cX5_closeSide 31 = .ok (.isub, 1) := by decide +kernel
theorem dX5_closeSide_32 : decode cX5_closeSide 32 = .ok (.iaload, 1) := by decide +kernel
theorem dX5_closeSide_33 : decode cX5_closeSide 33 = .ok (.istore_n 1, 1) := by decide +kernel
theorem dX5_closeSide_34 : decode cX5_closeSide 34 = .ok (.iload_n 1, 1) := by decide +kernel
theorem dX5_closeSide_35 : decode cX5_closeSide 35 = .ok (.invokestatic 56, 3) := by decide +kernel
theorem dX5_closeSide_38 : decode cX5_closeSide 38 = .ok (.ifCond .eq 24, 3) := by decide +kernel
theorem dX5_closeSide_41 : decode cX5_closeSide 41 = .ok (.aload_n 0, 1) := by decide +kernel
theorem dX5_closeSide_42 : decode cX5_closeSide 42 = .ok (.getfield 22, 3) := by decide +kernel
theorem dX5_closeSide_45 : decode cX5_closeSide 45 = .ok (.aload_n 0, 1) := by decide +kernel
theorem dX5_closeSide_46 : decode cX5_closeSide 46 = .ok (.getfield 26, 3) := by decide +kernel
theorem dX5_closeSide_49 : decode cX5_closeSide 49 = .ok (.iconst 1, 1) := by decide +kernel
theorem dX5_closeSide_50 : decode cX5_closeSide 50 = .ok (.isub, 1) := by decide +kernel
theorem dX5_closeSide_51 : decode cX5_closeSide 51 = .ok (.iload_n 1, 1) := by decide +kernel
theorem dX5_closeSide_52 : decode cX5_closeSide 52 = .ok (.iconst 1, 1) := by decide +kernel
theorem dX5_closeSide_53 : decode cX5_closeSide 53 = .ok (.iadd, 1) := by decide +kernel
theorem dX5_closeSide_54 : decode cX5_closeSide 54 = .ok (.iastore, 1) := by decide +kernel
theorem dX5_closeSide_55 : decode cX5_closeSide 55 = .ok (.aload_n 0, 1) := by decide +kernel
theorem dX5_closeSide_56 : decode cX5_closeSide 56 = .ok (.bipush 123, 2) := by decide +kernel
theorem dX5_closeSide_58 : decode cX5_closeSide 58 = .ok (.invokevirtual 59, 3) := by decide +kernel
theorem dX5_closeSide_61 : decode cX5_closeSide 61 = .ok (.ireturn, 1) := by decide +kernel
theorem dX5_closeSide_62 : decode cX5_closeSide 62 = .ok (.aload_n 0, 1) := by decide +kernel
theorem dX5_closeSide_63 : decode cX5_closeSide 63 = .ok (.dup, 1) := by decide +kernel
theorem dX5_closeSide_64 : decode cX5_closeSide 64 = .ok (.getfield 26, 3) := by decide +kernel
theorem dX5_closeSide_67 : decode cX5_closeSide 67 = .ok (.iconst 1, 1) := by decide +kernel
theorem dX5_closeSide_68 : decode cX5_closeSide 68 = .ok (.isub, 1) := by decide +kernel
theorem dX5_closeSide_69 : decode cX5_closeSide 69 = .ok (.putfield 26, 3) := by decide +kernel
theorem dX5_closeSide_72 : decode cX5_closeSide 72 = .ok (.iconst 1, 1) := by decide +kernel
theorem dX5_closeSide_73 : decode cX5_closeSide 73 = .ok (.ireturn, 1) := by decide +kernel
theorem dX5_takeStatement_0 : decode cX5_takeStatement 0 = .ok (.aload_n 0, 1) := by decide +kernel
theorem dX5_takeStatement_1 : decode cX5_takeStatement 1 = .ok (.invokevirtual 62, 3) := by decide +kernel
theorem dX5_takeStatement_4 : decode cX5_takeStatement 4 = .ok (.istore_n 1, 1) := by decide +kernel
theorem dX5_takeStatement_5 : decode cX5_takeStatement 5 = .ok (.iload_n 1, 1) := by decide +kernel
theorem dX5_takeStatement_6 : decode cX5_takeStatement 6 = .ok (.bipush (-4), 2) := by decide +kernel
theorem dX5_takeStatement_8 : decode cX5_takeStatement 8 = .ok (.if_icmp .ne 9, 3) := by decide +kernel
theorem dX5_takeStatement_11 : decode cX5_takeStatement 11 = .ok (.aload_n 0, 1) := by decide +kernel
theorem dX5_takeStatement_12 : decode cX5_takeStatement 12 = .ok (.iconst 2, 1) := by decide +kernel
theorem dX5_takeStatement_13 : decode cX5_takeStatement 13 = .ok (.invokevirtual 52, 3) := by decide +kernel
theorem dX5_takeStatement_16 : decode cX5_takeStatement 16 = .ok (.ireturn, 1) := by decide +kernel
theorem dX5_takeStatement_17 : decode cX5_takeStatement 17 = .ok (.aload_n 0, 1) := by decide +kernel
theorem dX5_takeStatement_18 : decode cX5_takeStatement 18 = .ok (.getfield 12, 3) := by decide +kernel
theorem dX5_takeStatement_21 : decode cX5_takeStatement 21 = .ok (.iload_n 1, 1) := by decide +kernel
theorem dX5_takeStatement_22 : decode cX5_takeStatement 22 = .ok (.invokevirtual 66, 3) := by decide +kernel
theorem dX5_takeStatement_25 : decode cX5_takeStatement 25 = .ok (.ifCond .ne 9, 3) := by decide +kernel
theorem dX5_takeStatement_28 : decode cX5_takeStatement 28 = .ok (.aload_n 0, 1) := by decide +kernel
theorem dX5_takeStatement_29 : decode cX5_takeStatement 29 = .ok (.iconst 5, 1) := by decide +kernel
theorem dX5_takeStatement_30 : decode cX5_takeStatement 30 = .ok (.invokevirtual 52, 3) := by decide +kernel
theorem dX5_takeStatement_33 : decode cX5_takeStatement 33 = .ok (.ireturn, 1) := by decide +kernel
theorem dX5_takeStatement_34 : decode cX5_takeStatement 34 = .ok (.aload_n 0, 1) := by decide +kernel
theorem dX5_takeStatement_35 : decode cX5_takeStatement 35 = .ok (.invokevirtual 69, 3) := by decide +kernel
theorem dX5_takeStatement_38 : decode cX5_takeStatement 38 = .ok (.istore_n 2, 1) := by decide +kernel
theorem dX5_takeStatement_39 : decode cX5_takeStatement 39 = .ok (.iload_n 2, 1) := by decide +kernel
theorem dX5_takeStatement_40 : decode cX5_takeStatement 40 = .ok (.bipush (-4), 2) := by decide +kernel
theorem dX5_takeStatement_42 : decode cX5_takeStatement 42 = .ok (.if_icmp .ne 8, 3) := by decide +kernel
theorem dX5_takeStatement_45 : decode cX5_takeStatement 45 = .ok (.bipush (-4), 2) := by decide +kernel
theorem dX5_takeStatement_47 : decode cX5_takeStatement 47 = .ok (.goto 8, 3) := by decide +kernel
theorem dX5_takeStatement_50 : decode cX5_takeStatement 50 = .ok (.aload_n 0, 1) := by decide +kernel
theorem dX5_takeStatement_51 : decode cX5_takeStatement 51 = .ok (.iload_n 1, 1) := by decide +kernel
theorem dX5_takeStatement_52 : decode cX5_takeStatement 52 = .ok (.invokevirtual 72, 3) := by decide +kernel
theorem dX5_takeStatement_55 : decode cX5_takeStatement 55 = .ok (.istore_n 3, 1) := by decide +kernel
theorem dX5_takeStatement_56 : decode cX5_takeStatement 56 = .ok (.iload_n 3, 1) := by decide +kernel
theorem dX5_takeStatement_57 : decode cX5_takeStatement 57 = .ok (.bipush (-4), 2) := by decide +kernel
theorem dX5_takeStatement_59 : decode cX5_takeStatement 59 = .ok (.if_icmp .ne 5, 3) := by decide +kernel
theorem dX5_takeStatement_62 : decode cX5_takeStatement 62 = .ok (.iconst 0, 1) := by decide +kernel
theorem dX5_takeStatement_63 : decode cX5_takeStatement 63 = .ok (.ireturn, 1) := by decide +kernel
theorem dX5_takeStatement_64 : decode cX5_takeStatement 64 = .ok (.iload_n 1, 1) := by decide +kernel
theorem dX5_takeStatement_65 : decode cX5_takeStatement 65 = .ok (.ifCond .eq 8, 3) := by decide +kernel
theorem dX5_takeStatement_68 : decode cX5_takeStatement 68 = .ok (.iload_n 1, 1) := by decide +kernel
theorem dX5_takeStatement_69 : decode cX5_takeStatement 69 = .ok (.iconst 5, 1) := by decide +kernel
theorem dX5_takeStatement_70 : decode cX5_takeStatement 70 = .ok (.if_icmp .ne 7, 3) := by decide +kernel
theorem dX5_takeStatement_73 : decode cX5_takeStatement 73 = .ok (.iconst 0, 1) := by decide +kernel
theorem dX5_takeStatement_74 : decode cX5_takeStatement 74 = .ok (.goto 7, 3) := by decide +kernel
theorem dX5_takeStatement_77 : decode cX5_takeStatement 77 = .ok (.aload_n 0, 1) := by decide +kernel
theorem dX5_takeStatement_78 : decode cX5_takeStatement 78 = .ok (.invokevirtual 69, 3) := by decide +kernel
theorem dX5_takeStatement_81 : decode cX5_takeStatement 81 = .ok (.istore 4, 2) := by decide +kernel
theorem dX5_takeStatement_83 : decode cX5_takeStatement 83 = .ok (.iload 4, 2) := by decide +kernel
theorem dX5_takeStatement_85 : decode cX5_takeStatement 85 = .ok (.bipush (-4), 2) := by decide +kernel
theorem dX5_takeStatement_87 : decode cX5_takeStatement 87 = .ok (.if_icmp .eq 22, 3) := by decide +kernel
theorem dX5_takeStatement_90 : decode cX5_takeStatement 90 = .ok (.aload_n 0, 1) := by decide +kernel
theorem dX5_takeStatement_91 : decode cX5_takeStatement 91 = .ok (.iload_n 1, 1) := by decide +kernel
theorem dX5_takeStatement_92 : decode cX5_takeStatement 92 = .ok (.iconst 5, 1) := by decide +kernel
theorem dX5_takeStatement_93 : decode cX5_takeStatement 93 = .ok (.if_icmp .ne 8, 3) := by decide +kernel
theorem dX5_takeStatement_96 : decode cX5_takeStatement 96 = .ok (.bipush 123, 2) := by decide +kernel
theorem dX5_takeStatement_98 : decode cX5_takeStatement 98 = .ok (.goto 5, 3) := by decide +kernel
theorem dX5_takeStatement_101 : decode cX5_takeStatement 101 = .ok (.bipush 59, 2) := by decide +kernel
theorem dX5_takeStatement_103 : decode cX5_takeStatement 103 = .ok (.invokevirtual 59, 3) := by decide +kernel
theorem dX5_takeStatement_106 : decode cX5_takeStatement 106 = .ok (.ifCond .ne 5, 3) := by decide +kernel
theorem dX5_takeStatement_109 : decode cX5_takeStatement 109 = .ok (.iconst 0, 1) := by decide +kernel
theorem dX5_takeStatement_110 : decode cX5_takeStatement 110 = .ok (.ireturn, 1) := by decide +kernel
theorem dX5_takeStatement_111 : decode cX5_takeStatement 111 = .ok (.aload_n 0, 1) := by decide +kernel
theorem dX5_takeStatement_112 : decode cX5_takeStatement 112 = .ok (.getfield 12, 3) := by decide +kernel
theorem dX5_takeStatement_115 : decode cX5_takeStatement 115 = .ok (.iload_n 1, 1) := by decide +kernel
theorem dX5_takeStatement_116 : decode cX5_takeStatement 116 = .ok (.iload_n 2, 1) := by decide +kernel
theorem dX5_takeStatement_117 : decode cX5_takeStatement 117 = .ok (.iload_n 3, 1) := by decide +kernel
theorem dX5_takeStatement_118 : decode cX5_takeStatement 118 = .ok (.iload 4, 2) := by decide +kernel
theorem dX5_takeStatement_120 : decode cX5_takeStatement 120 = .ok (.aload_n 0, 1) := by decide +kernel
theorem dX5_takeStatement_121 : decode cX5_takeStatement 121 = .ok (.getfield 26, 3) := by decide +kernel
theorem dX5_takeStatement_124 : decode cX5_takeStatement 124 = .ok (.ifCond .ne 7, 3) := by decide +kernel
theorem dX5_takeStatement_127 : decode cX5_takeStatement 127 = .ok (.iconst 0, 1) := by decide +kernel
theorem dX5_takeStatement_128 : decode cX5_takeStatement 128 = .ok (.goto 14, 3) := by decide +kernel
theorem dX5_takeStatement_131 : decode cX5_takeStatement 131 = .ok (.aload_n 0, 1) := by decide +kernel
theorem dX5_takeStatement_132 : decode cX5_takeStatement 132 = .ok (.getfield 22, 3) := by decide +kernel
theorem dX5_takeStatement_135 : decode cX5_takeStatement 135 = .ok (.aload_n 0, 1) := by decide +kernel
theorem dX5_takeStatement_136 : decode cX5_takeStatement 136 = .ok (.getfield 26, 3) := by decide +kernel
theorem dX5_takeStatement_139 : decode cX5_takeStatement 139 = .ok (.iconst 1, 1) := by decide +kernel
theorem dX5_takeStatement_140 : decode cX5_takeStatement 140 = .ok (.isub, 1) := by decide +kernel
theorem dX5_takeStatement_141 : decode cX5_takeStatement 141 = .ok (.iaload, 1) := by decide +kernel
theorem dX5_takeStatement_142 : decode cX5_takeStatement 142 = .ok (.invokevirtual 76, 3) := by decide +kernel
theorem dX5_takeStatement_145 : decode cX5_takeStatement 145 = .ok (.iload_n 1, 1) := by decide +kernel
theorem dX5_takeStatement_146 : decode cX5_takeStatement 146 = .ok (.iconst 5, 1) := by decide +kernel
theorem dX5_takeStatement_147 : decode cX5_takeStatement 147 = .ok (.if_icmp .ne 33, 3) := by decide +kernel
theorem dX5_takeStatement_150 : decode cX5_takeStatement 150 = .ok (.aload_n 0, 1) := by decide +kernel
theorem dX5_takeStatement_151 : decode cX5_takeStatement 151 = .ok (.getfield 22, 3) := by decide +kernel
theorem dX5_takeStatement_154 : decode cX5_takeStatement 154 = .ok (.aload_n 0, 1) := by decide +kernel
theorem dX5_takeStatement_155 : decode cX5_takeStatement 155 = .ok (.getfield 26, 3) := by decide +kernel
theorem dX5_takeStatement_158 : decode cX5_takeStatement 158 = .ok (.iconst 2, 1) := by decide +kernel
theorem dX5_takeStatement_159 : decode cX5_takeStatement 159 = .ok (.aload_n 0, 1) := by decide +kernel
theorem dX5_takeStatement_160 : decode cX5_takeStatement 160 = .ok (.getfield 12, 3) := by decide +kernel
theorem dX5_takeStatement_163 : decode cX5_takeStatement 163 = .ok (.getfield 80, 3) := by decide +kernel
theorem dX5_takeStatement_166 : decode cX5_takeStatement 166 = .ok (.imul, 1) := by decide +kernel
theorem dX5_takeStatement_167 : decode cX5_takeStatement 167 = .ok (.iconst 1, 1) := by decide +kernel
theorem dX5_takeStatement_168 : decode cX5_takeStatement 168 = .ok (.isub, 1) := by decide +kernel
theorem dX5_takeStatement_169 : decode cX5_takeStatement 169 = .ok (.iastore, 1) := by decide +kernel
theorem dX5_takeStatement_170 : decode cX5_takeStatement 170 = .ok (.aload_n 0, 1) := by decide +kernel
theorem dX5_takeStatement_171 : decode cX5_takeStatement 171 = .ok (.dup, 1) := by decide +kernel
theorem dX5_takeStatement_172 : decode cX5_takeStatement 172 = .ok (.getfield 26, 3) := by decide +kernel
theorem dX5_takeStatement_175 : decode cX5_takeStatement 175 = .ok (.iconst 1, 1) := by decide +kernel
theorem dX5_takeStatement_176 : decode cX5_takeStatement 176 = .ok (.iadd, 1) := by decide +kernel
theorem dX5_takeStatement_177 : decode cX5_takeStatement 177 = .ok (.putfield 26, 3) := by decide +kernel
theorem dX5_takeStatement_180 : decode cX5_takeStatement 180 = .ok (.iconst 1, 1) := by decide +kernel
theorem dX5_takeStatement_181 : decode cX5_takeStatement 181 = .ok (.ireturn, 1) := by decide +kernel
theorem dX5_takeSecond_0 : decode cX5_takeSecond 0 = .ok (.iload_n 1, 1) := by decide +kernel
theorem dX5_takeSecond_1 : decode cX5_takeSecond 1 = .ok (.ifCond .ne 10, 3) := by decide +kernel
theorem dX5_takeSecond_4 : decode cX5_takeSecond 4 = .ok (.aload_n 0, 1) := by decide +kernel
theorem dX5_takeSecond_5 : decode cX5_takeSecond 5 = .ok (.bipush 99, 2) := by decide +kernel
theorem dX5_takeSecond_7 : decode cX5_takeSecond 7 = .ok (.invokevirtual 83, 3) := by decide +kernel
theorem dX5_takeSecond_10 : decode cX5_takeSecond 10 = .ok (.ireturn, 1) := by decide +kernel
theorem dX5_takeSecond_11 : decode cX5_takeSecond 11 = .ok (.iload_n 1, 1) := by decide +kernel
theorem dX5_takeSecond_12 : decode cX5_takeSecond 12 = .ok (.iconst 5, 1) := by decide +kernel
theorem dX5_takeSecond_13 : decode cX5_takeSecond 13 = .ok (.if_icmp .ne 12, 3) := by decide +kernel
theorem dX5_takeSecond_16 : decode cX5_takeSecond 16 = .ok (.aload_n 0, 1) := by decide +kernel
theorem dX5_takeSecond_17 : decode cX5_takeSecond 17 = .ok (.bipush 10, 2) := by decide +kernel
theorem dX5_takeSecond_19 : decode cX5_takeSecond 19 = .ok (.invokevirtual 83, 3) := by decide +kernel
theorem dX5_takeSecond_22 : decode cX5_takeSecond 22 = .ok (.goto 7, 3) := by decide +kernel
theorem dX5_takeSecond_25 : decode cX5_takeSecond 25 = .ok (.aload_n 0, 1) := by decide +kernel
theorem dX5_takeSecond_26 : decode cX5_takeSecond 26 = .ok (.invokevirtual 69, 3) := by decide +kernel
theorem dX5_takeSecond_29 : decode cX5_takeSecond 29 = .ok (.ireturn, 1) := by decide +kernel
theorem dX5_kindOfName_0 : decode cX5_kindOfName 0 = .ok (.aload_n 0, 1) := by decide +kernel
theorem dX5_kindOfName_1 : decode cX5_kindOfName 1 = .ok (.ldc 86, 2) := by decide +kernel
theorem dX5_kindOfName_3 : decode cX5_kindOfName 3 = .ok (.invokevirtual 88, 3) := by decide +kernel
theorem dX5_kindOfName_6 : decode cX5_kindOfName 6 = .ok (.ifCond .eq 5, 3) := by decide +kernel
theorem dX5_kindOfName_9 : decode cX5_kindOfName 9 = .ok (.iconst 0, 1) := by decide +kernel
theorem dX5_kindOfName_10 : decode cX5_kindOfName 10 = .ok (.ireturn, 1) := by decide +kernel
theorem dX5_kindOfName_11 : decode cX5_kindOfName 11 = .ok (.aload_n 0, 1) := by decide +kernel
theorem dX5_kindOfName_12 : decode cX5_kindOfName 12 = .ok (.ldc 92, 2) := by decide +kernel
theorem dX5_kindOfName_14 : decode cX5_kindOfName 14 = .ok (.invokevirtual 88, 3) := by decide +kernel
theorem dX5_kindOfName_17 : decode cX5_kindOfName 17 = .ok (.ifCond .eq 5, 3) := by decide +kernel
theorem dX5_kindOfName_20 : decode cX5_kindOfName 20 = .ok (.iconst 1, 1) := by decide +kernel
theorem dX5_kindOfName_21 : decode cX5_kindOfName 21 = .ok (.ireturn, 1) := by decide +kernel
theorem dX5_kindOfName_22 : decode cX5_kindOfName 22 = .ok (.aload_n 0, 1) := by decide +kernel
theorem dX5_kindOfName_23 : decode cX5_kindOfName 23 = .ok (.ldc 94, 2) := by decide +kernel
theorem dX5_kindOfName_25 : decode cX5_kindOfName 25 = .ok (.invokevirtual 88, 3) := by decide +kernel
theorem dX5_kindOfName_28 : decode cX5_kindOfName 28 = .ok (.ifCond .eq 5, 3) := by decide +kernel
theorem dX5_kindOfName_31 : decode cX5_kindOfName 31 = .ok (.iconst 2, 1) := by decide +kernel
theorem dX5_kindOfName_32 : decode cX5_kindOfName 32 = .ok (.ireturn, 1) := by decide +kernel
theorem dX5_kindOfName_33 : decode cX5_kindOfName 33 = .ok (.aload_n 0, 1) := by decide +kernel
theorem dX5_kindOfName_34 : decode cX5_kindOfName 34 = .ok (.ldc 96, 2) := by decide +kernel
theorem dX5_kindOfName_36 : decode cX5_kindOfName 36 = .ok (.invokevirtual 88, 3) := by decide +kernel
theorem dX5_kindOfName_39 : decode cX5_kindOfName 39 = .ok (.ifCond .eq 5, 3) := by decide +kernel
theorem dX5_kindOfName_42 : decode cX5_kindOfName 42 = .ok (.iconst 3, 1) := by decide +kernel
theorem dX5_kindOfName_43 : decode cX5_kindOfName 43 = .ok (.ireturn, 1) := by decide +kernel
theorem dX5_kindOfName_44 : decode cX5_kindOfName 44 = .ok (.aload_n 0, 1) := by decide +kernel
theorem dX5_kindOfName_45 : decode cX5_kindOfName 45 = .ok (.ldc 98, 2) := by decide +kernel
theorem dX5_kindOfName_47 : decode cX5_kindOfName 47 = .ok (.invokevirtual 88, 3) := by decide +kernel
theorem dX5_kindOfName_50 : decode cX5_kindOfName 50 = .ok (.ifCond .eq 5, 3) := by decide +kernel
theorem dX5_kindOfName_53 : decode cX5_kindOfName 53 = .ok (.iconst 4, 1) := by decide +kernel
theorem dX5_kindOfName_54 : decode cX5_kindOfName 54 = .ok (.ireturn, 1) := by decide +kernel
theorem dX5_kindOfName_55 : decode cX5_kindOfName 55 = .ok (.aload_n 0, 1) := by decide +kernel
theorem dX5_kindOfName_56 : decode cX5_kindOfName 56 = .ok (.ldc 100, 2) := by decide +kernel
theorem dX5_kindOfName_58 : decode cX5_kindOfName 58 = .ok (.invokevirtual 88, 3) := by decide +kernel
theorem dX5_kindOfName_61 : decode cX5_kindOfName 61 = .ok (.ifCond .eq 7, 3) := by decide +kernel
theorem dX5_kindOfName_64 : decode cX5_kindOfName 64 = .ok (.iconst 5, 1) := by decide +kernel
theorem dX5_kindOfName_65 : decode cX5_kindOfName 65 = .ok (.goto 5, 3) := by decide +kernel
theorem dX5_kindOfName_68 : decode cX5_kindOfName 68 = .ok (.bipush (-4), 2) := by decide +kernel
theorem dX5_kindOfName_70 : decode cX5_kindOfName 70 = .ok (.ireturn, 1) := by decide +kernel
theorem dX5_nameIs_0 : decode cX5_nameIs 0 = .ok (.aload_n 0, 1) := by decide +kernel
theorem dX5_nameIs_1 : decode cX5_nameIs 1 = .ok (.getfield 30, 3) := by decide +kernel
theorem dX5_nameIs_4 : decode cX5_nameIs 4 = .ok (.aload_n 0, 1) := by decide +kernel
theorem dX5_nameIs_5 : decode cX5_nameIs 5 = .ok (.getfield 102, 3) := by decide +kernel
theorem dX5_nameIs_8 : decode cX5_nameIs 8 = .ok (.isub, 1) := by decide +kernel
theorem dX5_nameIs_9 : decode cX5_nameIs 9 = .ok (.aload_n 1, 1) := by decide +kernel
theorem dX5_nameIs_10 : decode cX5_nameIs 10 = .ok (.invokevirtual 105, 3) := by decide +kernel
theorem dX5_nameIs_13 : decode cX5_nameIs 13 = .ok (.if_icmp .eq 5, 3) := by decide +kernel
theorem dX5_nameIs_16 : decode cX5_nameIs 16 = .ok (.iconst 0, 1) := by decide +kernel
theorem dX5_nameIs_17 : decode cX5_nameIs 17 = .ok (.ireturn, 1) := by decide +kernel
theorem dX5_nameIs_18 : decode cX5_nameIs 18 = .ok (.iconst 0, 1) := by decide +kernel
theorem dX5_nameIs_19 : decode cX5_nameIs 19 = .ok (.istore_n 2, 1) := by decide +kernel
theorem dX5_nameIs_20 : decode cX5_nameIs 20 = .ok (.iload_n 2, 1) := by decide +kernel
theorem dX5_nameIs_21 : decode cX5_nameIs 21 = .ok (.aload_n 1, 1) := by decide +kernel
theorem dX5_nameIs_22 : decode cX5_nameIs 22 = .ok (.invokevirtual 105, 3) := by decide +kernel
theorem dX5_nameIs_25 : decode cX5_nameIs 25 = .ok (.if_icmp .ge 30, 3) := by decide +kernel
theorem dX5_nameIs_28 : decode cX5_nameIs 28 = .ok (.aload_n 0, 1) := by decide +kernel
theorem dX5_nameIs_29 : decode cX5_nameIs 29 = .ok (.getfield 18, 3) := by decide +kernel
theorem dX5_nameIs_32 : decode cX5_nameIs 32 = .ok (.aload_n 0, 1) := by decide +kernel
theorem dX5_nameIs_33 : decode cX5_nameIs 33 = .ok (.getfield 102, 3) := by decide +kernel
theorem dX5_nameIs_36 : decode cX5_nameIs 36 = .ok (.iload_n 2, 1) := by decide +kernel
theorem dX5_nameIs_37 : decode cX5_nameIs 37 = .ok (.iadd, 1) := by decide +kernel
theorem dX5_nameIs_38 : decode cX5_nameIs 38 = .ok (.baload, 1) := by decide +kernel
theorem dX5_nameIs_39 : decode cX5_nameIs 39 = .ok (.aload_n 1, 1) := by decide +kernel
theorem dX5_nameIs_40 : decode cX5_nameIs 40 = .ok (.iload_n 2, 1) := by decide +kernel
theorem dX5_nameIs_41 : decode cX5_nameIs 41 = .ok (.invokevirtual 110, 3) := by decide +kernel
theorem dX5_nameIs_44 : decode cX5_nameIs 44 = .ok (.if_icmp .eq 5, 3) := by decide +kernel
theorem dX5_nameIs_47 : decode cX5_nameIs 47 = .ok (.iconst 0, 1) := by decide +kernel
theorem dX5_nameIs_48 : decode cX5_nameIs 48 = .ok (.ireturn, 1) := by decide +kernel
theorem dX5_nameIs_49 : decode cX5_nameIs 49 = .ok (.iinc 2 1, 3) := by decide +kernel
theorem dX5_nameIs_52 : decode cX5_nameIs 52 = .ok (.goto (-32), 3) := by decide +kernel
theorem dX5_nameIs_55 : decode cX5_nameIs 55 = .ok (.iconst 1, 1) := by decide +kernel
theorem dX5_nameIs_56 : decode cX5_nameIs 56 = .ok (.ireturn, 1) := by decide +kernel
theorem dX5_takeVariable_0 : decode cX5_takeVariable 0 = .ok (.aload_n 0, 1) := by decide +kernel
theorem dX5_takeVariable_1 : decode cX5_takeVariable 1 = .ok (.invokevirtual 39, 3) := by decide +kernel
theorem dX5_takeVariable_4 : decode cX5_takeVariable 4 = .ok (.ifCond .ne 6, 3) := by decide +kernel
theorem dX5_takeVariable_7 : decode cX5_takeVariable 7 = .ok (.bipush (-4), 2) := by decide +kernel
theorem dX5_takeVariable_9 : decode cX5_takeVariable 9 = .ok (.ireturn, 1) := by decide +kernel
theorem dX5_takeVariable_10 : decode cX5_takeVariable 10 = .ok (.aload_n 0, 1) := by decide +kernel
theorem dX5_takeVariable_11 : decode cX5_takeVariable 11 = .ok (.getfield 43, 3) := by decide +kernel
theorem dX5_takeVariable_14 : decode cX5_takeVariable 14 = .ok (.iconst 1, 1) := by decide +kernel
theorem dX5_takeVariable_15 : decode cX5_takeVariable 15 = .ok (.if_icmp .ne 33, 3) := by decide +kernel
theorem dX5_takeVariable_18 : decode cX5_takeVariable 18 = .ok (.aload_n 0, 1) := by decide +kernel
theorem dX5_takeVariable_19 : decode cX5_takeVariable 19 = .ok (.getfield 30, 3) := by decide +kernel
theorem dX5_takeVariable_22 : decode cX5_takeVariable 22 = .ok (.aload_n 0, 1) := by decide +kernel
theorem dX5_takeVariable_23 : decode cX5_takeVariable 23 = .ok (.getfield 102, 3) := by decide +kernel
theorem dX5_takeVariable_26 : decode cX5_takeVariable 26 = .ok (.isub, 1) := by decide +kernel
theorem dX5_takeVariable_27 : decode cX5_takeVariable 27 = .ok (.iconst 1, 1) := by decide +kernel
theorem dX5_takeVariable_28 : decode cX5_takeVariable 28 = .ok (.if_icmp .ne 20, 3) := by decide +kernel
theorem dX5_takeVariable_31 : decode cX5_takeVariable 31 = .ok (.aload_n 0, 1) := by decide +kernel
theorem dX5_takeVariable_32 : decode cX5_takeVariable 32 = .ok (.getfield 18, 3) := by decide +kernel
theorem dX5_takeVariable_35 : decode cX5_takeVariable 35 = .ok (.aload_n 0, 1) := by decide +kernel
theorem dX5_takeVariable_36 : decode cX5_takeVariable 36 = .ok (.getfield 102, 3) := by decide +kernel
theorem dX5_takeVariable_39 : decode cX5_takeVariable 39 = .ok (.baload, 1) := by decide +kernel
theorem dX5_takeVariable_40 : decode cX5_takeVariable 40 = .ok (.bipush 97, 2) := by decide +kernel
theorem dX5_takeVariable_42 : decode cX5_takeVariable 42 = .ok (.isub, 1) := by decide +kernel
theorem dX5_takeVariable_43 : decode cX5_takeVariable 43 = .ok (.bipush 8, 2) := by decide +kernel
theorem dX5_takeVariable_45 : decode cX5_takeVariable 45 = .ok (.if_icmp .lt 12, 3) := by decide +kernel
theorem dX5_takeVariable_48 : decode cX5_takeVariable 48 = .ok (.aload_n 0, 1) := by decide +kernel
theorem dX5_takeVariable_49 : decode cX5_takeVariable 49 = .ok (.iconst 2, 1) := by decide +kernel
theorem dX5_takeVariable_50 : decode cX5_takeVariable 50 = .ok (.invokevirtual 52, 3) := by decide +kernel
theorem dX5_takeVariable_53 : decode cX5_takeVariable 53 = .ok (.pop, 1) := by decide +kernel
theorem dX5_takeVariable_54 : decode cX5_takeVariable 54 = .ok (.bipush (-4), 2) := by decide +kernel
theorem dX5_takeVariable_56 : decode cX5_takeVariable 56 = .ok (.ireturn, 1) := by decide +kernel
theorem dX5_takeVariable_57 : decode cX5_takeVariable 57 = .ok (.aload_n 0, 1) := by decide +kernel
theorem dX5_takeVariable_58 : decode cX5_takeVariable 58 = .ok (.getfield 18, 3) := by decide +kernel
theorem dX5_takeVariable_61 : decode cX5_takeVariable 61 = .ok (.aload_n 0, 1) := by decide +kernel
theorem dX5_takeVariable_62 : decode cX5_takeVariable 62 = .ok (.getfield 102, 3) := by decide +kernel
theorem dX5_takeVariable_65 : decode cX5_takeVariable 65 = .ok (.baload, 1) := by decide +kernel
theorem dX5_takeVariable_66 : decode cX5_takeVariable 66 = .ok (.bipush 97, 2) := by decide +kernel
theorem dX5_takeVariable_68 : decode cX5_takeVariable 68 = .ok (.isub, 1) := by decide +kernel
theorem dX5_takeVariable_69 : decode cX5_takeVariable 69 = .ok (.ireturn, 1) := by decide +kernel
theorem dX5_takeNumber_0 : decode cX5_takeNumber 0 = .ok (.aload_n 0, 1) := by decide +kernel
theorem dX5_takeNumber_1 : decode cX5_takeNumber 1 = .ok (.invokevirtual 39, 3) := by decide +kernel
theorem dX5_takeNumber_4 : decode cX5_takeNumber 4 = .ok (.ifCond .ne 6, 3) := by decide +kernel
theorem dX5_takeNumber_7 : decode cX5_takeNumber 7 = .ok (.bipush (-4), 2) := by decide +kernel
theorem dX5_takeNumber_9 : decode cX5_takeNumber 9 = .ok (.ireturn, 1) := by decide +kernel
theorem dX5_takeNumber_10 : decode cX5_takeNumber 10 = .ok (.aload_n 0, 1) := by decide +kernel
theorem dX5_takeNumber_11 : decode cX5_takeNumber 11 = .ok (.getfield 43, 3) := by decide +kernel
theorem dX5_takeNumber_14 : decode cX5_takeNumber 14 = .ok (.iconst 2, 1) := by decide +kernel
theorem dX5_takeNumber_15 : decode cX5_takeNumber 15 = .ok (.if_icmp .eq 12, 3) := by decide +kernel
theorem dX5_takeNumber_18 : decode cX5_takeNumber 18 = .ok (.aload_n 0, 1) := by decide +kernel
theorem dX5_takeNumber_19 : decode cX5_takeNumber 19 = .ok (.iconst 2, 1) := by decide +kernel
theorem dX5_takeNumber_20 : decode cX5_takeNumber 20 = .ok (.invokevirtual 52, 3) := by decide +kernel
theorem dX5_takeNumber_23 : decode cX5_takeNumber 23 = .ok (.pop, 1) := by decide +kernel
theorem dX5_takeNumber_24 : decode cX5_takeNumber 24 = .ok (.bipush (-4), 2) := by decide +kernel
theorem dX5_takeNumber_26 : decode cX5_takeNumber 26 = .ok (.ireturn, 1) := by decide +kernel
theorem dX5_takeNumber_27 : decode cX5_takeNumber 27 = .ok (.iconst 0, 1) := by decide +kernel
theorem dX5_takeNumber_28 : decode cX5_takeNumber 28 = .ok (.istore_n 2, 1) := by decide +kernel
theorem dX5_takeNumber_29 : decode cX5_takeNumber 29 = .ok (.aload_n 0, 1) := by decide +kernel
theorem dX5_takeNumber_30 : decode cX5_takeNumber 30 = .ok (.getfield 102, 3) := by decide +kernel
theorem dX5_takeNumber_33 : decode cX5_takeNumber 33 = .ok (.istore_n 3, 1) := by decide +kernel
theorem dX5_takeNumber_34 : decode cX5_takeNumber 34 = .ok (.iload_n 3, 1) := by decide +kernel
theorem dX5_takeNumber_35 : decode cX5_takeNumber 35 = .ok (.aload_n 0, 1) := by decide +kernel
theorem dX5_takeNumber_36 : decode cX5_takeNumber 36 = .ok (.getfield 30, 3) := by decide +kernel
theorem dX5_takeNumber_39 : decode cX5_takeNumber 39 = .ok (.if_icmp .ge 24, 3) := by decide +kernel
theorem dX5_takeNumber_42 : decode cX5_takeNumber 42 = .ok (.bipush 10, 2) := by decide +kernel
theorem dX5_takeNumber_44 : decode cX5_takeNumber 44 = .ok (.iload_n 2, 1) := by decide +kernel
theorem dX5_takeNumber_45 : decode cX5_takeNumber 45 = .ok (.imul, 1) := by decide +kernel
theorem dX5_takeNumber_46 : decode cX5_takeNumber 46 = .ok (.aload_n 0, 1) := by decide +kernel
theorem dX5_takeNumber_47 : decode cX5_takeNumber 47 = .ok (.getfield 18, 3) := by decide +kernel
theorem dX5_takeNumber_50 : decode cX5_takeNumber 50 = .ok (.iload_n 3, 1) := by decide +kernel
theorem dX5_takeNumber_51 : decode cX5_takeNumber 51 = .ok (.baload, 1) := by decide +kernel
theorem dX5_takeNumber_52 : decode cX5_takeNumber 52 = .ok (.iadd, 1) := by decide +kernel
theorem dX5_takeNumber_53 : decode cX5_takeNumber 53 = .ok (.bipush 48, 2) := by decide +kernel
theorem dX5_takeNumber_55 : decode cX5_takeNumber 55 = .ok (.isub, 1) := by decide +kernel
theorem dX5_takeNumber_56 : decode cX5_takeNumber 56 = .ok (.istore_n 2, 1) := by decide +kernel
theorem dX5_takeNumber_57 : decode cX5_takeNumber 57 = .ok (.iinc 3 1, 3) := by decide +kernel
theorem dX5_takeNumber_60 : decode cX5_takeNumber 60 = .ok (.goto (-26), 3) := by decide +kernel
theorem dX5_takeNumber_63 : decode cX5_takeNumber 63 = .ok (.iload_n 2, 1) := by decide +kernel
theorem dX5_takeNumber_64 : decode cX5_takeNumber 64 = .ok (.iload_n 1, 1) := by decide +kernel
theorem dX5_takeNumber_65 : decode cX5_takeNumber 65 = .ok (.if_icmp .le 12, 3) := by decide +kernel
theorem dX5_takeNumber_68 : decode cX5_takeNumber 68 = .ok (.aload_n 0, 1) := by decide +kernel
theorem dX5_takeNumber_69 : decode cX5_takeNumber 69 = .ok (.iconst 3, 1) := by decide +kernel
theorem dX5_takeNumber_70 : decode cX5_takeNumber 70 = .ok (.invokevirtual 52, 3) := by decide +kernel
theorem dX5_takeNumber_73 : decode cX5_takeNumber 73 = .ok (.pop, 1) := by decide +kernel
theorem dX5_takeNumber_74 : decode cX5_takeNumber 74 = .ok (.bipush (-4), 2) := by decide +kernel
theorem dX5_takeNumber_76 : decode cX5_takeNumber 76 = .ok (.ireturn, 1) := by decide +kernel
theorem dX5_takeNumber_77 : decode cX5_takeNumber 77 = .ok (.iload_n 2, 1) := by decide +kernel
theorem dX5_takeNumber_78 : decode cX5_takeNumber 78 = .ok (.ireturn, 1) := by decide +kernel
theorem dX5_takeSign_0 : decode cX5_takeSign 0 = .ok (.aload_n 0, 1) := by decide +kernel
theorem dX5_takeSign_1 : decode cX5_takeSign 1 = .ok (.invokevirtual 39, 3) := by decide +kernel
theorem dX5_takeSign_4 : decode cX5_takeSign 4 = .ok (.ifCond .eq 23, 3) := by decide +kernel
theorem dX5_takeSign_7 : decode cX5_takeSign 7 = .ok (.aload_n 0, 1) := by decide +kernel
theorem dX5_takeSign_8 : decode cX5_takeSign 8 = .ok (.getfield 43, 3) := by decide +kernel
theorem dX5_takeSign_11 : decode cX5_takeSign 11 = .ok (.iload_n 1, 1) := by decide +kernel
theorem dX5_takeSign_12 : decode cX5_takeSign 12 = .ok (.if_icmp .eq 11, 3) := by decide +kernel
theorem dX5_takeSign_15 : decode cX5_takeSign 15 = .ok (.aload_n 0, 1) := by decide +kernel
theorem dX5_takeSign_16 : decode cX5_takeSign 16 = .ok (.iconst 2, 1) := by decide +kernel
theorem dX5_takeSign_17 : decode cX5_takeSign 17 = .ok (.invokevirtual 52, 3) := by decide +kernel
theorem dX5_takeSign_20 : decode cX5_takeSign 20 = .ok (.ifCond .eq 7, 3) := by decide +kernel
theorem dX5_takeSign_23 : decode cX5_takeSign 23 = .ok (.iconst 1, 1) := by decide +kernel
theorem dX5_takeSign_24 : decode cX5_takeSign 24 = .ok (.goto 4, 3) := by decide +kernel
theorem dX5_takeSign_27 : decode cX5_takeSign 27 = .ok (.iconst 0, 1) := by decide +kernel
theorem dX5_takeSign_28 : decode cX5_takeSign 28 = .ok (.ireturn, 1) := by decide +kernel
theorem dX5_readToken_0 : decode cX5_readToken 0 = .ok (.aload_n 0, 1) := by decide +kernel
theorem dX5_readToken_1 : decode cX5_readToken 1 = .ok (.aload_n 0, 1) := by decide +kernel
theorem dX5_readToken_2 : decode cX5_readToken 2 = .ok (.aload_n 0, 1) := by decide +kernel
theorem dX5_readToken_3 : decode cX5_readToken 3 = .ok (.getfield 30, 3) := by decide +kernel
theorem dX5_readToken_6 : decode cX5_readToken 6 = .ok (.bipush 32, 2) := by decide +kernel
theorem dX5_readToken_8 : decode cX5_readToken 8 = .ok (.bipush 32, 2) := by decide +kernel
theorem dX5_readToken_10 : decode cX5_readToken 10 = .ok (.invokevirtual 114, 3) := by decide +kernel
theorem dX5_readToken_13 : decode cX5_readToken 13 = .ok (.putfield 30, 3) := by decide +kernel
theorem dX5_readToken_16 : decode cX5_readToken 16 = .ok (.aload_n 0, 1) := by decide +kernel
theorem dX5_readToken_17 : decode cX5_readToken 17 = .ok (.aload_n 0, 1) := by decide +kernel
theorem dX5_readToken_18 : decode cX5_readToken 18 = .ok (.getfield 30, 3) := by decide +kernel
theorem dX5_readToken_21 : decode cX5_readToken 21 = .ok (.putfield 102, 3) := by decide +kernel
theorem dX5_readToken_24 : decode cX5_readToken 24 = .ok (.aload_n 0, 1) := by decide +kernel
theorem dX5_readToken_25 : decode cX5_readToken 25 = .ok (.getfield 102, 3) := by decide +kernel
theorem dX5_readToken_28 : decode cX5_readToken 28 = .ok (.aload_n 0, 1) := by decide +kernel
theorem dX5_readToken_29 : decode cX5_readToken 29 = .ok (.getfield 118, 3) := by decide +kernel
theorem dX5_readToken_32 : decode cX5_readToken 32 = .ok (.if_icmp .lt 10, 3) := by decide +kernel
theorem dX5_readToken_35 : decode cX5_readToken 35 = .ok (.aload_n 0, 1) := by decide +kernel
theorem dX5_readToken_36 : decode cX5_readToken 36 = .ok (.iconst 0, 1) := by decide +kernel
theorem dX5_readToken_37 : decode cX5_readToken 37 = .ok (.putfield 43, 3) := by decide +kernel
theorem dX5_readToken_40 : decode cX5_readToken 40 = .ok (.iconst 1, 1) := by decide +kernel
theorem dX5_readToken_41 : decode cX5_readToken 41 = .ok (.ireturn, 1) := by decide +kernel
theorem dX5_readToken_42 : decode cX5_readToken 42 = .ok (.aload_n 0, 1) := by decide +kernel
theorem dX5_readToken_43 : decode cX5_readToken 43 = .ok (.getfield 18, 3) := by decide +kernel
theorem dX5_readToken_46 : decode cX5_readToken 46 = .ok (.aload_n 0, 1) := by decide +kernel
theorem dX5_readToken_47 : decode cX5_readToken 47 = .ok (.getfield 102, 3) := by decide +kernel
theorem dX5_readToken_50 : decode cX5_readToken 50 = .ok (.baload, 1) := by decide +kernel
theorem dX5_readToken_51 : decode cX5_readToken 51 = .ok (.istore_n 1, 1) := by decide +kernel
theorem dX5_readToken_52 : decode cX5_readToken 52 = .ok (.iload_n 1, 1) := by decide +kernel
theorem dX5_readToken_53 : decode cX5_readToken 53 = .ok (.bipush 97, 2) := by decide +kernel
theorem dX5_readToken_55 : decode cX5_readToken 55 = .ok (.if_icmp .lt 32, 3) := by decide +kernel
theorem dX5_readToken_58 : decode cX5_readToken 58 = .ok (.iload_n 1, 1) := by decide +kernel
theorem dX5_readToken_59 : decode cX5_readToken 59 = .ok (.bipush 122, 2) := by decide +kernel
theorem dX5_readToken_61 : decode cX5_readToken 61 = .ok (.if_icmp .gt 26, 3) := by decide +kernel
theorem dX5_readToken_64 : decode cX5_readToken 64 = .ok (.aload_n 0, 1) := by decide +kernel
theorem dX5_readToken_65 : decode cX5_readToken 65 = .ok (.iconst 1, 1) := by decide +kernel
theorem dX5_readToken_66 : decode cX5_readToken 66 = .ok (.putfield 43, 3) := by decide +kernel
theorem dX5_readToken_69 : decode cX5_readToken 69 = .ok (.aload_n 0, 1) := by decide +kernel
theorem dX5_readToken_70 : decode cX5_readToken 70 = .ok (.aload_n 0, 1) := by decide +kernel
theorem dX5_readToken_71 : decode cX5_readToken 71 = .ok (.aload_n 0, 1) := by decide +kernel
theorem dX5_readToken_72 : decode cX5_readToken 72 = .ok (.getfield 102, 3) := by decide +kernel
theorem dX5_readToken_75 : decode cX5_readToken 75 = .ok (.bipush 97, 2) := by decide +kernel
theorem dX5_readToken_77 : decode cX5_readToken 77 = .ok (.bipush 122, 2) := by decide +kernel
theorem dX5_readToken_79 : decode cX5_readToken 79 = .ok (.invokevirtual 114, 3) := by decide +kernel
theorem dX5_readToken_82 : decode cX5_readToken 82 = .ok (.putfield 30, 3) := by decide +kernel
theorem dX5_readToken_85 : decode cX5_readToken 85 = .ok (.iconst 1, 1) := by decide +kernel
theorem dX5_readToken_86 : decode cX5_readToken 86 = .ok (.ireturn, 1) := by decide +kernel
theorem dX5_readToken_87 : decode cX5_readToken 87 = .ok (.iload_n 1, 1) := by decide +kernel
theorem dX5_readToken_88 : decode cX5_readToken 88 = .ok (.bipush 48, 2) := by decide +kernel
theorem dX5_readToken_90 : decode cX5_readToken 90 = .ok (.if_icmp .lt 57, 3) := by decide +kernel
theorem dX5_readToken_93 : decode cX5_readToken 93 = .ok (.iload_n 1, 1) := by decide +kernel
theorem dX5_readToken_94 : decode cX5_readToken 94 = .ok (.bipush 57, 2) := by decide +kernel
theorem dX5_readToken_96 : decode cX5_readToken 96 = .ok (.if_icmp .gt 51, 3) := by decide +kernel
theorem dX5_readToken_99 : decode cX5_readToken 99 = .ok (.aload_n 0, 1) := by decide +kernel
theorem dX5_readToken_100 : decode cX5_readToken 100 = .ok (.iconst 2, 1) := by decide +kernel
theorem dX5_readToken_101 : decode cX5_readToken 101 = .ok (.putfield 43, 3) := by decide +kernel
theorem dX5_readToken_104 : decode cX5_readToken 104 = .ok (.aload_n 0, 1) := by decide +kernel
theorem dX5_readToken_105 : decode cX5_readToken 105 = .ok (.aload_n 0, 1) := by decide +kernel
theorem dX5_readToken_106 : decode cX5_readToken 106 = .ok (.aload_n 0, 1) := by decide +kernel
theorem dX5_readToken_107 : decode cX5_readToken 107 = .ok (.getfield 102, 3) := by decide +kernel
theorem dX5_readToken_110 : decode cX5_readToken 110 = .ok (.bipush 48, 2) := by decide +kernel
theorem dX5_readToken_112 : decode cX5_readToken 112 = .ok (.bipush 57, 2) := by decide +kernel
theorem dX5_readToken_114 : decode cX5_readToken 114 = .ok (.invokevirtual 114, 3) := by decide +kernel
theorem dX5_readToken_117 : decode cX5_readToken 117 = .ok (.putfield 30, 3) := by decide +kernel
theorem dX5_readToken_120 : decode cX5_readToken 120 = .ok (.aload_n 0, 1) := by decide +kernel
theorem dX5_readToken_121 : decode cX5_readToken 121 = .ok (.getfield 30, 3) := by decide +kernel
theorem dX5_readToken_124 : decode cX5_readToken 124 = .ok (.aload_n 0, 1) := by decide +kernel
theorem dX5_readToken_125 : decode cX5_readToken 125 = .ok (.getfield 102, 3) := by decide +kernel
theorem dX5_readToken_128 : decode cX5_readToken 128 = .ok (.isub, 1) := by decide +kernel
theorem dX5_readToken_129 : decode cX5_readToken 129 = .ok (.iconst 2, 1) := by decide +kernel
theorem dX5_readToken_130 : decode cX5_readToken 130 = .ok (.if_icmp .le 11, 3) := by decide +kernel
theorem dX5_readToken_133 : decode cX5_readToken 133 = .ok (.aload_n 0, 1) := by decide +kernel
theorem dX5_readToken_134 : decode cX5_readToken 134 = .ok (.iconst 1, 1) := by decide +kernel
theorem dX5_readToken_135 : decode cX5_readToken 135 = .ok (.invokevirtual 52, 3) := by decide +kernel
theorem dX5_readToken_138 : decode cX5_readToken 138 = .ok (.ifCond .eq 7, 3) := by decide +kernel
theorem dX5_readToken_141 : decode cX5_readToken 141 = .ok (.iconst 1, 1) := by decide +kernel
theorem dX5_readToken_142 : decode cX5_readToken 142 = .ok (.goto 4, 3) := by decide +kernel
theorem dX5_readToken_145 : decode cX5_readToken 145 = .ok (.iconst 0, 1) := by decide +kernel
theorem dX5_readToken_146 : decode cX5_readToken 146 = .ok (.ireturn, 1) := by decide +kernel
theorem dX5_readToken_147 : decode cX5_readToken 147 = .ok (.aload_n 0, 1) := by decide +kernel
theorem dX5_readToken_148 : decode cX5_readToken 148 = .ok (.iload_n 1, 1) := by decide +kernel
theorem dX5_readToken_149 : decode cX5_readToken 149 = .ok (.putfield 43, 3) := by decide +kernel
theorem dX5_readToken_152 : decode cX5_readToken 152 = .ok (.aload_n 0, 1) := by decide +kernel
theorem dX5_readToken_153 : decode cX5_readToken 153 = .ok (.aload_n 0, 1) := by decide +kernel
theorem dX5_readToken_154 : decode cX5_readToken 154 = .ok (.getfield 102, 3) := by decide +kernel
theorem dX5_readToken_157 : decode cX5_readToken 157 = .ok (.iconst 1, 1) := by decide +kernel
theorem dX5_readToken_158 : decode cX5_readToken 158 = .ok (.iadd, 1) := by decide +kernel
theorem dX5_readToken_159 : decode cX5_readToken 159 = .ok (.putfield 30, 3) := by decide +kernel
theorem dX5_readToken_162 : decode cX5_readToken 162 = .ok (.iload_n 1, 1) := by decide +kernel
theorem dX5_readToken_163 : decode cX5_readToken 163 = .ok (.bipush 59, 2) := by decide +kernel
theorem dX5_readToken_165 : decode cX5_readToken 165 = .ok (.if_icmp .eq 23, 3) := by decide +kernel
theorem dX5_readToken_168 : decode cX5_readToken 168 = .ok (.iload_n 1, 1) := by decide +kernel
theorem dX5_readToken_169 : decode cX5_readToken 169 = .ok (.bipush 123, 2) := by decide +kernel
theorem dX5_readToken_171 : decode cX5_readToken 171 = .ok (.if_icmp .eq 17, 3) := by decide +kernel
theorem dX5_readToken_174 : decode cX5_readToken 174 = .ok (.iload_n 1, 1) := by decide +kernel
theorem dX5_readToken_175 : decode cX5_readToken 175 = .ok (.bipush 125, 2) := by decide +kernel
theorem dX5_readToken_177 : decode cX5_readToken 177 = .ok (.if_icmp .eq 11, 3) := by decide +kernel
theorem dX5_readToken_180 : decode cX5_readToken 180 = .ok (.aload_n 0, 1) := by decide +kernel
theorem dX5_readToken_181 : decode cX5_readToken 181 = .ok (.iconst 1, 1) := by decide +kernel
theorem dX5_readToken_182 : decode cX5_readToken 182 = .ok (.invokevirtual 52, 3) := by decide +kernel
theorem dX5_readToken_185 : decode cX5_readToken 185 = .ok (.ifCond .eq 7, 3) := by decide +kernel
theorem dX5_readToken_188 : decode cX5_readToken 188 = .ok (.iconst 1, 1) := by decide +kernel
theorem dX5_readToken_189 : decode cX5_readToken 189 = .ok (.goto 4, 3) := by decide +kernel
theorem dX5_readToken_192 : decode cX5_readToken 192 = .ok (.iconst 0, 1) := by decide +kernel
theorem dX5_readToken_193 : decode cX5_readToken 193 = .ok (.ireturn, 1) := by decide +kernel
theorem dX5_endOfSpan_0 : decode cX5_endOfSpan 0 = .ok (.iload_n 1, 1) := by decide +kernel
theorem dX5_endOfSpan_1 : decode cX5_endOfSpan 1 = .ok (.istore 4, 2) := by decide +kernel
theorem dX5_endOfSpan_3 : decode cX5_endOfSpan 3 = .ok (.iload 4, 2) := by decide +kernel
theorem dX5_endOfSpan_5 : decode cX5_endOfSpan 5 = .ok (.aload_n 0, 1) := by decide +kernel
theorem dX5_endOfSpan_6 : decode cX5_endOfSpan 6 = .ok (.getfield 118, 3) := by decide +kernel
theorem dX5_endOfSpan_9 : decode cX5_endOfSpan 9 = .ok (.if_icmp .ge 31, 3) := by decide +kernel
theorem dX5_endOfSpan_12 : decode cX5_endOfSpan 12 = .ok (.aload_n 0, 1) := by decide +kernel
theorem dX5_endOfSpan_13 : decode cX5_endOfSpan 13 = .ok (.getfield 18, 3) := by decide +kernel
theorem dX5_endOfSpan_16 : decode cX5_endOfSpan 16 = .ok (.iload 4, 2) := by decide +kernel
theorem dX5_endOfSpan_18 : decode cX5_endOfSpan 18 = .ok (.baload, 1) := by decide +kernel
theorem dX5_endOfSpan_19 : decode cX5_endOfSpan 19 = .ok (.iload_n 2, 1) := by decide +kernel
theorem dX5_endOfSpan_20 : decode cX5_endOfSpan 20 = .ok (.if_icmp .lt 20, 3) := by decide +kernel
theorem dX5_endOfSpan_23 : decode cX5_endOfSpan 23 = .ok (.aload_n 0, 1) := by decide +kernel
theorem dX5_endOfSpan_24 : decode cX5_endOfSpan 24 = .ok (.getfield 18, 3) := by decide +kernel
theorem dX5_endOfSpan_27 : decode cX5_endOfSpan 27 = .ok (.iload 4, 2) := by decide +kernel
theorem dX5_endOfSpan_29 : decode cX5_endOfSpan 29 = .ok (.baload, 1) := by decide +kernel
theorem dX5_endOfSpan_30 : decode cX5_endOfSpan 30 = .ok (.iload_n 3, 1) := by decide +kernel
theorem dX5_endOfSpan_31 : decode cX5_endOfSpan 31 = .ok (.if_icmp .gt 9, 3) := by decide +kernel
theorem dX5_endOfSpan_34 : decode cX5_endOfSpan 34 = .ok (.iinc 4 1, 3) := by decide +kernel
theorem dX5_endOfSpan_37 : decode cX5_endOfSpan 37 = .ok (.goto (-34), 3) := by decide +kernel
theorem dX5_endOfSpan_40 : decode cX5_endOfSpan 40 = .ok (.iload 4, 2) := by decide +kernel
theorem dX5_endOfSpan_42 : decode cX5_endOfSpan 42 = .ok (.ireturn, 1) := by decide +kernel
theorem dX5_refuse_0 : decode cX5_refuse 0 = .ok (.aload_n 0, 1) := by decide +kernel
theorem dX5_refuse_1 : decode cX5_refuse 1 = .ok (.iload_n 1, 1) := by decide +kernel
theorem dX5_refuse_2 : decode cX5_refuse 2 = .ok (.putfield 33, 3) := by decide +kernel
theorem dX5_refuse_5 : decode cX5_refuse 5 = .ok (.aload_n 0, 1) := by decide +kernel
theorem dX5_refuse_6 : decode cX5_refuse 6 = .ok (.aload_n 0, 1) := by decide +kernel
theorem dX5_refuse_7 : decode cX5_refuse 7 = .ok (.getfield 102, 3) := by decide +kernel
theorem dX5_refuse_10 : decode cX5_refuse 10 = .ok (.putfield 120, 3) := by decide +kernel
theorem dX5_refuse_13 : decode cX5_refuse 13 = .ok (.iconst 0, 1) := by decide +kernel
theorem dX5_refuse_14 : decode cX5_refuse 14 = .ok (.ireturn, 1) := by decide +kernel
theorem dJ9_max_7cf53_0 : decode cJ9_max_7cf53 0 = .ok (.iload_n 0, 1) := by decide +kernel
theorem dJ9_max_7cf53_1 : decode cJ9_max_7cf53 1 = .ok (.iload_n 1, 1) := by decide +kernel
theorem dJ9_max_7cf53_2 : decode cJ9_max_7cf53 2 = .ok (.if_icmp .lt 7, 3) := by decide +kernel
theorem dJ9_max_7cf53_5 : decode cJ9_max_7cf53 5 = .ok (.iload_n 0, 1) := by decide +kernel
theorem dJ9_max_7cf53_6 : decode cJ9_max_7cf53 6 = .ok (.goto 4, 3) := by decide +kernel
theorem dJ9_max_7cf53_9 : decode cJ9_max_7cf53 9 = .ok (.iload_n 1, 1) := by decide +kernel
theorem dJ9_max_7cf53_10 : decode cJ9_max_7cf53 10 = .ok (.ireturn, 1) := by decide +kernel
theorem dJ0_length_8abf5_0 : decode cJ0_length_8abf5 0 = .ok (.aload_n 0, 1) := by decide +kernel
theorem dJ0_length_8abf5_1 : decode cJ0_length_8abf5 1 = .ok (.getfield 9, 3) := by decide +kernel
theorem dJ0_length_8abf5_4 : decode cJ0_length_8abf5 4 = .ok (.arraylength, 1) := by decide +kernel
theorem dJ0_length_8abf5_5 : decode cJ0_length_8abf5 5 = .ok (.aload_n 0, 1) := by decide +kernel
theorem dJ0_length_8abf5_6 : decode cJ0_length_8abf5 6 = .ok (.invokevirtual 335, 3) := by decide +kernel
theorem dJ0_length_8abf5_9 : decode cJ0_length_8abf5 9 = .ok (.ishr, 1) := by decide +kernel
theorem dJ0_length_8abf5_10 : decode cJ0_length_8abf5 10 = .ok (.ireturn, 1) := by decide +kernel
theorem dJ0_charAt_5068e_0 : decode cJ0_charAt_5068e 0 = .ok (.aload_n 0, 1) := by decide +kernel
theorem dJ0_charAt_5068e_1 : decode cJ0_charAt_5068e 1 = .ok (.invokevirtual 492, 3) := by decide +kernel
theorem dJ0_charAt_5068e_4 : decode cJ0_charAt_5068e 4 = .ok (.ifCond .eq 12, 3) := by decide +kernel
theorem dJ0_charAt_5068e_7 : decode cJ0_charAt_5068e 7 = .ok (.aload_n 0, 1) := by decide +kernel
theorem dJ0_charAt_5068e_8 : decode cJ0_charAt_5068e 8 = .ok (.getfield 9, 3) := by decide +kernel
theorem dJ0_charAt_5068e_11 : decode cJ0_charAt_5068e 11 = .ok (.iload_n 1, 1) := by decide +kernel
theorem dJ0_charAt_5068e_12 : decode cJ0_charAt_5068e 12 = .ok (.invokestatic 495, 3) := by decide +kernel
theorem dJ0_charAt_5068e_15 : decode cJ0_charAt_5068e 15 = .ok (.ireturn, 1) := by decide +kernel
theorem dJ0_charAt_5068e_16 : decode cJ0_charAt_5068e 16 = .ok (.aload_n 0, 1) := by decide +kernel
theorem dJ0_charAt_5068e_17 : decode cJ0_charAt_5068e 17 = .ok (.getfield 9, 3) := by decide +kernel
theorem dJ0_charAt_5068e_20 : decode cJ0_charAt_5068e 20 = .ok (.iload_n 1, 1) := by decide +kernel
theorem dJ0_charAt_5068e_21 : decode cJ0_charAt_5068e 21 = .ok (.invokestatic 498, 3) := by decide +kernel
theorem dJ0_charAt_5068e_24 : decode cJ0_charAt_5068e 24 = .ok (.ireturn, 1) := by decide +kernel
theorem dJ0_coder_7d493_0 : decode cJ0_coder_7d493 0 = .ok (.getstatic 38, 3) := by decide +kernel
theorem dJ0_coder_7d493_3 : decode cJ0_coder_7d493 3 = .ok (.ifCond .eq 10, 3) := by decide +kernel
theorem dJ0_coder_7d493_6 : decode cJ0_coder_7d493 6 = .ok (.aload_n 0, 1) := by decide +kernel
theorem dJ0_coder_7d493_7 : decode cJ0_coder_7d493 7 = .ok (.getfield 15, 3) := by decide +kernel
theorem dJ0_coder_7d493_10 : decode cJ0_coder_7d493 10 = .ok (.goto 4, 3) := by decide +kernel
theorem dJ0_coder_7d493_13 : decode cJ0_coder_7d493 13 = .ok (.iconst 1, 1) := by decide +kernel
theorem dJ0_coder_7d493_14 : decode cJ0_coder_7d493 14 = .ok (.ireturn, 1) := by decide +kernel
theorem dJ0_isLatin1_aae02_0 : decode cJ0_isLatin1_aae02 0 = .ok (.getstatic 38, 3) := by decide +kernel
theorem dJ0_isLatin1_aae02_3 : decode cJ0_isLatin1_aae02 3 = .ok (.ifCond .eq 14, 3) := by decide +kernel
theorem dJ0_isLatin1_aae02_6 : decode cJ0_isLatin1_aae02 6 = .ok (.aload_n 0, 1) := by decide +kernel
theorem dJ0_isLatin1_aae02_7 : decode cJ0_isLatin1_aae02 7 = .ok (.getfield 15, 3) := by decide +kernel
theorem dJ0_isLatin1_aae02_10 : decode cJ0_isLatin1_aae02 10 = .ok (.ifCond .ne 7, 3) := by decide +kernel
theorem dJ0_isLatin1_aae02_13 : decode cJ0_isLatin1_aae02 13 = .ok (.iconst 1, 1) := by decide +kernel
theorem dJ0_isLatin1_aae02_14 : decode cJ0_isLatin1_aae02 14 = .ok (.goto 4, 3) := by decide +kernel
theorem dJ0_isLatin1_aae02_17 : decode cJ0_isLatin1_aae02 17 = .ok (.iconst 0, 1) := by decide +kernel
theorem dJ0_isLatin1_aae02_18 : decode cJ0_isLatin1_aae02 18 = .ok (.ireturn, 1) := by decide +kernel
theorem dJ0_checkIndex_df160_0 : decode cJ0_checkIndex_df160 0 = .ok (.iload_n 0, 1) := by decide +kernel
theorem dJ0_checkIndex_df160_1 : decode cJ0_checkIndex_df160 1 = .ok (.iload_n 1, 1) := by decide +kernel
theorem dJ0_checkIndex_df160_2 : decode cJ0_checkIndex_df160 2 = .ok (.getstatic 1053, 3) := by decide +kernel
theorem dJ0_checkIndex_df160_5 : decode cJ0_checkIndex_df160 5 = .ok (.invokestatic 1059, 3) := by decide +kernel
theorem dJ0_checkIndex_df160_8 : decode cJ0_checkIndex_df160 8 = .ok (.pop, 1) := by decide +kernel
theorem dJ0_checkIndex_df160_9 : decode cJ0_checkIndex_df160 9 = .ok (.return_, 1) := by decide +kernel
theorem dJ1_charAt_3b067_0 : decode cJ1_charAt_3b067 0 = .ok (.iload_n 1, 1) := by decide +kernel
theorem dJ1_charAt_3b067_1 : decode cJ1_charAt_3b067 1 = .ok (.aload_n 0, 1) := by decide +kernel
theorem dJ1_charAt_3b067_2 : decode cJ1_charAt_3b067 2 = .ok (.arraylength, 1) := by decide +kernel
theorem dJ1_charAt_3b067_3 : decode cJ1_charAt_3b067 3 = .ok (.invokestatic 9, 3) := by decide +kernel
theorem dJ1_charAt_3b067_6 : decode cJ1_charAt_3b067 6 = .ok (.aload_n 0, 1) := by decide +kernel
theorem dJ1_charAt_3b067_7 : decode cJ1_charAt_3b067 7 = .ok (.iload_n 1, 1) := by decide +kernel
theorem dJ1_charAt_3b067_8 : decode cJ1_charAt_3b067 8 = .ok (.baload, 1) := by decide +kernel
theorem dJ1_charAt_3b067_9 : decode cJ1_charAt_3b067 9 = .ok (.sipush 255, 3) := by decide +kernel
theorem dJ1_charAt_3b067_12 : decode cJ1_charAt_3b067 12 = .ok (.iand, 1) := by decide +kernel
theorem dJ1_charAt_3b067_13 : decode cJ1_charAt_3b067 13 = .ok (.i2c, 1) := by decide +kernel
theorem dJ1_charAt_3b067_14 : decode cJ1_charAt_3b067 14 = .ok (.ireturn, 1) := by decide +kernel
theorem dJ2_getChar_3b067_0 : decode cJ2_getChar_3b067 0 = .ok (.getstatic 44, 3) := by decide +kernel
theorem dJ2_getChar_3b067_3 : decode cJ2_getChar_3b067 3 = .ok (.ifCond .ne 25, 3) := by decide +kernel
theorem dJ2_getChar_3b067_6 : decode cJ2_getChar_3b067 6 = .ok (.iload_n 1, 1) := by decide +kernel
theorem dJ2_getChar_3b067_7 : decode cJ2_getChar_3b067 7 = .ok (.ifCond .lt 11, 3) := by decide +kernel
theorem dJ2_getChar_3b067_10 : decode cJ2_getChar_3b067 10 = .ok (.iload_n 1, 1) := by decide +kernel
theorem dJ2_getChar_3b067_11 : decode cJ2_getChar_3b067 11 = .ok (.aload_n 0, 1) := by decide +kernel
theorem dJ2_getChar_3b067_12 : decode cJ2_getChar_3b067 12 = .ok (.invokestatic 48, 3) := by decide +kernel
theorem dJ2_getChar_3b067_15 : decode cJ2_getChar_3b067 15 = .ok (.if_icmp .lt 13, 3) := by decide +kernel
theorem dJ2_getChar_3b067_18 : decode cJ2_getChar_3b067 18 = .ok (.new 52, 3) := by decide +kernel
theorem dJ2_getChar_3b067_21 : decode cJ2_getChar_3b067 21 = .ok (.dup, 1) := by decide +kernel
theorem dJ2_getChar_3b067_22 : decode cJ2_getChar_3b067 22 = .ok (.ldc 54, 2) := by decide +kernel
theorem dJ2_getChar_3b067_24 : decode cJ2_getChar_3b067 24 = .ok (.invokespecial 56, 3) := by decide +kernel
theorem dJ2_getChar_3b067_27 : decode cJ2_getChar_3b067 27 = .ok (.athrow, 1) := by decide +kernel
theorem dJ2_getChar_3b067_28 : decode cJ2_getChar_3b067 28 = .ok (.iload_n 1, 1) := by decide +kernel
theorem dJ2_getChar_3b067_29 : decode cJ2_getChar_3b067 29 = .ok (.iconst 1, 1) := by decide +kernel
theorem dJ2_getChar_3b067_30 : decode cJ2_getChar_3b067 30 = .ok (.ishl, 1) := by decide +kernel
theorem dJ2_getChar_3b067_31 : decode cJ2_getChar_3b067 31 = .ok (.istore_n 1, 1) := by decide +kernel
theorem dJ2_getChar_3b067_32 : decode cJ2_getChar_3b067 32 = .ok (.aload_n 0, 1) := by decide +kernel
theorem dJ2_getChar_3b067_33 : decode cJ2_getChar_3b067 33 = .ok (.iload_n 1, 1) := by decide +kernel
theorem dJ2_getChar_3b067_34 : decode cJ2_getChar_3b067 34 = .ok (.iinc 1 1, 3) := by decide +kernel
theorem dJ2_getChar_3b067_37 : decode cJ2_getChar_3b067 37 = .ok (.baload, 1) := by decide +kernel
theorem dJ2_getChar_3b067_38 : decode cJ2_getChar_3b067 38 = .ok (.sipush 255, 3) := by decide +kernel
theorem dJ2_getChar_3b067_41 : decode cJ2_getChar_3b067 41 = .ok (.iand, 1) := by decide +kernel
theorem dJ2_getChar_3b067_42 : decode cJ2_getChar_3b067 42 = .ok (.getstatic 59, 3) := by decide +kernel
theorem dJ2_getChar_3b067_45 : decode cJ2_getChar_3b067 45 = .ok (.ishl, 1) := by decide +kernel
theorem dJ2_getChar_3b067_46 : decode cJ2_getChar_3b067 46 = .ok (.aload_n 0, 1) := by decide +kernel
theorem dJ2_getChar_3b067_47 : decode cJ2_getChar_3b067 47 = .ok (.iload_n 1, 1) := by decide +kernel
theorem dJ2_getChar_3b067_48 : decode cJ2_getChar_3b067 48 = .ok (.baload, 1) := by decide +kernel
theorem dJ2_getChar_3b067_49 : decode cJ2_getChar_3b067 49 = .ok (.sipush 255, 3) := by decide +kernel
theorem dJ2_getChar_3b067_52 : decode cJ2_getChar_3b067 52 = .ok (.iand, 1) := by decide +kernel
theorem dJ2_getChar_3b067_53 : decode cJ2_getChar_3b067 53 = .ok (.getstatic 63, 3) := by decide +kernel
theorem dJ2_getChar_3b067_56 : decode cJ2_getChar_3b067 56 = .ok (.ishl, 1) := by decide +kernel
theorem dJ2_getChar_3b067_57 : decode cJ2_getChar_3b067 57 = .ok (.ior, 1) := by decide +kernel
theorem dJ2_getChar_3b067_58 : decode cJ2_getChar_3b067 58 = .ok (.i2c, 1) := by decide +kernel
theorem dJ2_getChar_3b067_59 : decode cJ2_getChar_3b067 59 = .ok (.ireturn, 1) := by decide +kernel
theorem dJ2_length_9d52b_0 : decode cJ2_length_9d52b 0 = .ok (.aload_n 0, 1) := by decide +kernel
theorem dJ2_length_9d52b_1 : decode cJ2_length_9d52b 1 = .ok (.arraylength, 1) := by decide +kernel
theorem dJ2_length_9d52b_2 : decode cJ2_length_9d52b 2 = .ok (.iconst 1, 1) := by decide +kernel
theorem dJ2_length_9d52b_3 : decode cJ2_length_9d52b 3 = .ok (.ishr, 1) := by decide +kernel
theorem dJ2_length_9d52b_4 : decode cJ2_length_9d52b 4 = .ok (.ireturn, 1) := by decide +kernel
theorem dJ2_charAt_3b067_0 : decode cJ2_charAt_3b067 0 = .ok (.iload_n 1, 1) := by decide +kernel
theorem dJ2_charAt_3b067_1 : decode cJ2_charAt_3b067 1 = .ok (.aload_n 0, 1) := by decide +kernel
theorem dJ2_charAt_3b067_2 : decode cJ2_charAt_3b067 2 = .ok (.invokestatic 67, 3) := by decide +kernel
theorem dJ2_charAt_3b067_5 : decode cJ2_charAt_3b067 5 = .ok (.aload_n 0, 1) := by decide +kernel
theorem dJ2_charAt_3b067_6 : decode cJ2_charAt_3b067 6 = .ok (.iload_n 1, 1) := by decide +kernel
theorem dJ2_charAt_3b067_7 : decode cJ2_charAt_3b067 7 = .ok (.invokestatic 71, 3) := by decide +kernel
theorem dJ2_charAt_3b067_10 : decode cJ2_charAt_3b067 10 = .ok (.ireturn, 1) := by decide +kernel
theorem dJ2_checkIndex_2214a_0 : decode cJ2_checkIndex_2214a 0 = .ok (.iload_n 0, 1) := by decide +kernel
theorem dJ2_checkIndex_2214a_1 : decode cJ2_checkIndex_2214a 1 = .ok (.aload_n 1, 1) := by decide +kernel
theorem dJ2_checkIndex_2214a_2 : decode cJ2_checkIndex_2214a 2 = .ok (.invokestatic 48, 3) := by decide +kernel
theorem dJ2_checkIndex_2214a_5 : decode cJ2_checkIndex_2214a 5 = .ok (.invokestatic 414, 3) := by decide +kernel
theorem dJ2_checkIndex_2214a_8 : decode cJ2_checkIndex_2214a 8 = .ok (.return_, 1) := by decide +kernel
theorem dJ7_fill_d0a16_0 : decode cJ7_fill_d0a16 0 = .ok (.iconst 0, 1) := by decide +kernel
theorem dJ7_fill_d0a16_1 : decode cJ7_fill_d0a16 1 = .ok (.istore_n 3, 1) := by decide +kernel
theorem dJ7_fill_d0a16_2 : decode cJ7_fill_d0a16 2 = .ok (.aload_n 0, 1) := by decide +kernel
theorem dJ7_fill_d0a16_3 : decode cJ7_fill_d0a16 3 = .ok (.arraylength, 1) := by decide +kernel
theorem dJ7_fill_d0a16_4 : decode cJ7_fill_d0a16 4 = .ok (.istore 4, 2) := by decide +kernel
theorem dJ7_fill_d0a16_6 : decode cJ7_fill_d0a16 6 = .ok (.iload_n 3, 1) := by decide +kernel
theorem dJ7_fill_d0a16_7 : decode cJ7_fill_d0a16 7 = .ok (.iload 4, 2) := by decide +kernel
theorem dJ7_fill_d0a16_9 : decode cJ7_fill_d0a16 9 = .ok (.if_icmp .ge 13, 3) := by decide +kernel
theorem dJ7_fill_d0a16_12 : decode cJ7_fill_d0a16 12 = .ok (.aload_n 0, 1) := by decide +kernel
theorem dJ7_fill_d0a16_13 : decode cJ7_fill_d0a16 13 = .ok (.iload_n 3, 1) := by decide +kernel
theorem dJ7_fill_d0a16_14 : decode cJ7_fill_d0a16 14 = .ok (.lload_n 1, 1) := by decide +kernel
theorem dJ7_fill_d0a16_15 : decode cJ7_fill_d0a16 15 = .ok (.lastore, 1) := by decide +kernel
theorem dJ7_fill_d0a16_16 : decode cJ7_fill_d0a16 16 = .ok (.iinc 3 1, 3) := by decide +kernel
theorem dJ7_fill_d0a16_19 : decode cJ7_fill_d0a16 19 = .ok (.goto (-13), 3) := by decide +kernel
theorem dJ7_fill_d0a16_22 : decode cJ7_fill_d0a16 22 = .ok (.return_, 1) := by decide +kernel
theorem dJ7_fill_53178_0 : decode cJ7_fill_53178 0 = .ok (.iconst 0, 1) := by decide +kernel
theorem dJ7_fill_53178_1 : decode cJ7_fill_53178 1 = .ok (.istore_n 2, 1) := by decide +kernel
theorem dJ7_fill_53178_2 : decode cJ7_fill_53178 2 = .ok (.aload_n 0, 1) := by decide +kernel
theorem dJ7_fill_53178_3 : decode cJ7_fill_53178 3 = .ok (.arraylength, 1) := by decide +kernel
theorem dJ7_fill_53178_4 : decode cJ7_fill_53178 4 = .ok (.istore_n 3, 1) := by decide +kernel
theorem dJ7_fill_53178_5 : decode cJ7_fill_53178 5 = .ok (.iload_n 2, 1) := by decide +kernel
theorem dJ7_fill_53178_6 : decode cJ7_fill_53178 6 = .ok (.iload_n 3, 1) := by decide +kernel
theorem dJ7_fill_53178_7 : decode cJ7_fill_53178 7 = .ok (.if_icmp .ge 13, 3) := by decide +kernel
theorem dJ7_fill_53178_10 : decode cJ7_fill_53178 10 = .ok (.aload_n 0, 1) := by decide +kernel
theorem dJ7_fill_53178_11 : decode cJ7_fill_53178 11 = .ok (.iload_n 2, 1) := by decide +kernel
theorem dJ7_fill_53178_12 : decode cJ7_fill_53178 12 = .ok (.iload_n 1, 1) := by decide +kernel
theorem dJ7_fill_53178_13 : decode cJ7_fill_53178 13 = .ok (.iastore, 1) := by decide +kernel
theorem dJ7_fill_53178_14 : decode cJ7_fill_53178 14 = .ok (.iinc 2 1, 3) := by decide +kernel
theorem dJ7_fill_53178_17 : decode cJ7_fill_53178 17 = .ok (.goto (-12), 3) := by decide +kernel
theorem dJ7_fill_53178_20 : decode cJ7_fill_53178 20 = .ok (.return_, 1) := by decide +kernel
theorem dJ3_checkIndex_8e157_0 : decode cJ3_checkIndex_8e157 0 = .ok (.iload_n 0, 1) := by decide +kernel
theorem dJ3_checkIndex_8e157_1 : decode cJ3_checkIndex_8e157 1 = .ok (.ifCond .lt 8, 3) := by decide +kernel
theorem dJ3_checkIndex_8e157_4 : decode cJ3_checkIndex_8e157 4 = .ok (.iload_n 0, 1) := by decide +kernel
theorem dJ3_checkIndex_8e157_5 : decode cJ3_checkIndex_8e157 5 = .ok (.iload_n 1, 1) := by decide +kernel
theorem dJ3_checkIndex_8e157_6 : decode cJ3_checkIndex_8e157 6 = .ok (.if_icmp .lt 10, 3) := by decide +kernel
theorem dJ3_checkIndex_8e157_9 : decode cJ3_checkIndex_8e157 9 = .ok (.aload_n 2, 1) := by decide +kernel
theorem dJ3_checkIndex_8e157_10 : decode cJ3_checkIndex_8e157 10 = .ok (.iload_n 0, 1) := by decide +kernel
theorem dJ3_checkIndex_8e157_11 : decode cJ3_checkIndex_8e157 11 = .ok (.iload_n 1, 1) := by decide +kernel
theorem dJ3_checkIndex_8e157_12 : decode cJ3_checkIndex_8e157 12 = .ok (.invokestatic 95, 3) := by decide +kernel
theorem dJ3_checkIndex_8e157_15 : decode cJ3_checkIndex_8e157 15 = .ok (.athrow, 1) := by decide +kernel
theorem dJ3_checkIndex_8e157_16 : decode cJ3_checkIndex_8e157 16 = .ok (.iload_n 0, 1) := by decide +kernel
theorem dJ3_checkIndex_8e157_17 : decode cJ3_checkIndex_8e157 17 = .ok (.ireturn, 1) := by decide +kernel
