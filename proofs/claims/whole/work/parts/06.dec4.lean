theorem dX7_cover_107 : decode cX7_cover 107 = .ok (.iload 6, 2) := by decide +kernel
theorem dX7_cover_109 : decode cX7_cover 109 = .ok (.ifCond .ne 13, 3) := by decide +kernel
theorem dX7_cover_112 : decode cX7_cover 112 = .ok (.aload_n 0, 1) := by decide +kernel
theorem dX7_cover_113 : decode cX7_cover 113 = .ok (.iload_n 1, 1) := by decide +kernel
theorem dX7_cover_114 : decode cX7_cover 114 = .ok (.iload 5, 2) := by decide +kernel
theorem dX7_cover_116 : decode cX7_cover 116 = .ok (.invokevirtual 220, 3) := by decide +kernel
theorem dX7_cover_119 : decode cX7_cover 119 = .ok (.ifCond .ne 7, 3) := by decide +kernel
theorem dX7_cover_122 : decode cX7_cover 122 = .ok (.iconst 1, 1) := by decide +kernel
theorem dX7_cover_123 : decode cX7_cover 123 = .ok (.goto 4, 3) := by decide +kernel
theorem dX7_cover_126 : decode cX7_cover 126 = .ok (.iconst 0, 1) := by decide +kernel
theorem dX7_cover_127 : decode cX7_cover 127 = .ok (.istore 4, 2) := by decide +kernel
theorem dX7_cover_129 : decode cX7_cover 129 = .ok (.iinc 5 1, 3) := by decide +kernel
theorem dX7_cover_132 : decode cX7_cover 132 = .ok (.goto (-92), 3) := by decide +kernel
theorem dX7_cover_135 : decode cX7_cover 135 = .ok (.iload 4, 2) := by decide +kernel
theorem dX7_cover_137 : decode cX7_cover 137 = .ok (.invokestatic 159, 3) := by decide +kernel
theorem dX7_cover_140 : decode cX7_cover 140 = .ok (.ireturn, 1) := by decide +kernel
theorem dX7_starts_0 : decode cX7_starts 0 = .ok (.iconst 0, 1) := by decide +kernel
theorem dX7_starts_1 : decode cX7_starts 1 = .ok (.istore 5, 2) := by decide +kernel
theorem dX7_starts_3 : decode cX7_starts 3 = .ok (.iload 5, 2) := by decide +kernel
theorem dX7_starts_5 : decode cX7_starts 5 = .ok (.bipush 8, 2) := by decide +kernel
theorem dX7_starts_7 : decode cX7_starts 7 = .ok (.if_icmp .ge 17, 3) := by decide +kernel
theorem dX7_starts_10 : decode cX7_starts 10 = .ok (.aload_n 0, 1) := by decide +kernel
theorem dX7_starts_11 : decode cX7_starts 11 = .ok (.getfield 39, 3) := by decide +kernel
theorem dX7_starts_14 : decode cX7_starts 14 = .ok (.iload 5, 2) := by decide +kernel
theorem dX7_starts_16 : decode cX7_starts 16 = .ok (.iconst 0, 1) := by decide +kernel
theorem dX7_starts_17 : decode cX7_starts 17 = .ok (.iastore, 1) := by decide +kernel
theorem dX7_starts_18 : decode cX7_starts 18 = .ok (.iinc 5 1, 3) := by decide +kernel
theorem dX7_starts_21 : decode cX7_starts 21 = .ok (.goto (-18), 3) := by decide +kernel
theorem dX7_starts_24 : decode cX7_starts 24 = .ok (.aload_n 0, 1) := by decide +kernel
theorem dX7_starts_25 : decode cX7_starts 25 = .ok (.getfield 39, 3) := by decide +kernel
theorem dX7_starts_28 : decode cX7_starts 28 = .ok (.iconst 0, 1) := by decide +kernel
theorem dX7_starts_29 : decode cX7_starts 29 = .ok (.iload_n 1, 1) := by decide +kernel
theorem dX7_starts_30 : decode cX7_starts 30 = .ok (.iastore, 1) := by decide +kernel
theorem dX7_starts_31 : decode cX7_starts 31 = .ok (.aload_n 0, 1) := by decide +kernel
theorem dX7_starts_32 : decode cX7_starts 32 = .ok (.getfield 39, 3) := by decide +kernel
theorem dX7_starts_35 : decode cX7_starts 35 = .ok (.iconst 1, 1) := by decide +kernel
theorem dX7_starts_36 : decode cX7_starts 36 = .ok (.iload_n 2, 1) := by decide +kernel
theorem dX7_starts_37 : decode cX7_starts 37 = .ok (.iastore, 1) := by decide +kernel
theorem dX7_starts_38 : decode cX7_starts 38 = .ok (.aload_n 0, 1) := by decide +kernel
theorem dX7_starts_39 : decode cX7_starts 39 = .ok (.getfield 39, 3) := by decide +kernel
theorem dX7_starts_42 : decode cX7_starts 42 = .ok (.iconst 2, 1) := by decide +kernel
theorem dX7_starts_43 : decode cX7_starts 43 = .ok (.iload_n 3, 1) := by decide +kernel
theorem dX7_starts_44 : decode cX7_starts 44 = .ok (.iastore, 1) := by decide +kernel
theorem dX7_starts_45 : decode cX7_starts 45 = .ok (.aload_n 0, 1) := by decide +kernel
theorem dX7_starts_46 : decode cX7_starts 46 = .ok (.getfield 39, 3) := by decide +kernel
theorem dX7_starts_49 : decode cX7_starts 49 = .ok (.iconst 3, 1) := by decide +kernel
theorem dX7_starts_50 : decode cX7_starts 50 = .ok (.iload 4, 2) := by decide +kernel
theorem dX7_starts_52 : decode cX7_starts 52 = .ok (.iastore, 1) := by decide +kernel
theorem dX7_starts_53 : decode cX7_starts 53 = .ok (.return_, 1) := by decide +kernel
theorem dX7_brought_0 : decode cX7_brought 0 = .ok (.iload_n 1, 1) := by decide +kernel
theorem dX7_brought_1 : decode cX7_brought 1 = .ok (.tableswitch 39 1 3 #[27, 31, 35], 27) := by decide +kernel
theorem dX7_brought_28 : decode cX7_brought 28 = .ok (.iload_n 2, 1) := by decide +kernel
theorem dX7_brought_29 : decode cX7_brought 29 = .ok (.iload_n 3, 1) := by decide +kernel
theorem dX7_brought_30 : decode cX7_brought 30 = .ok (.iadd, 1) := by decide +kernel
theorem dX7_brought_31 : decode cX7_brought 31 = .ok (.ireturn, 1) := by decide +kernel
theorem dX7_brought_32 : decode cX7_brought 32 = .ok (.iload_n 2, 1) := by decide +kernel
theorem dX7_brought_33 : decode cX7_brought 33 = .ok (.iload_n 3, 1) := by decide +kernel
theorem dX7_brought_34 : decode cX7_brought 34 = .ok (.isub, 1) := by decide +kernel
theorem dX7_brought_35 : decode cX7_brought 35 = .ok (.ireturn, 1) := by decide +kernel
theorem dX7_brought_36 : decode cX7_brought 36 = .ok (.iload_n 2, 1) := by decide +kernel
theorem dX7_brought_37 : decode cX7_brought 37 = .ok (.iload_n 3, 1) := by decide +kernel
theorem dX7_brought_38 : decode cX7_brought 38 = .ok (.imul, 1) := by decide +kernel
theorem dX7_brought_39 : decode cX7_brought 39 = .ok (.ireturn, 1) := by decide +kernel
theorem dX7_brought_40 : decode cX7_brought 40 = .ok (.iload_n 3, 1) := by decide +kernel
theorem dX7_brought_41 : decode cX7_brought 41 = .ok (.iconst (-1), 1) := by decide +kernel
theorem dX7_brought_42 : decode cX7_brought 42 = .ok (.if_icmp .ne 8, 3) := by decide +kernel
theorem dX7_brought_45 : decode cX7_brought 45 = .ok (.iload_n 2, 1) := by decide +kernel
theorem dX7_brought_46 : decode cX7_brought 46 = .ok (.ineg, 1) := by decide +kernel
theorem dX7_brought_47 : decode cX7_brought 47 = .ok (.goto 6, 3) := by decide +kernel
theorem dX7_brought_50 : decode cX7_brought 50 = .ok (.iload_n 2, 1) := by decide +kernel
theorem dX7_brought_51 : decode cX7_brought 51 = .ok (.iload_n 3, 1) := by decide +kernel
theorem dX7_brought_52 : decode cX7_brought 52 = .ok (.idiv, 1) := by decide +kernel
theorem dX7_brought_53 : decode cX7_brought 53 = .ok (.ireturn, 1) := by decide +kernel
theorem dX7_isDone_0 : decode cX7_isDone 0 = .ok (.aload_n 0, 1) := by decide +kernel
theorem dX7_isDone_1 : decode cX7_isDone 1 = .ok (.iload_n 1, 1) := by decide +kernel
theorem dX7_isDone_2 : decode cX7_isDone 2 = .ok (.iconst 0, 1) := by decide +kernel
theorem dX7_isDone_3 : decode cX7_isDone 3 = .ok (.invokevirtual 156, 3) := by decide +kernel
theorem dX7_isDone_6 : decode cX7_isDone 6 = .ok (.istore_n 2, 1) := by decide +kernel
theorem dX7_isDone_7 : decode cX7_isDone 7 = .ok (.iload_n 2, 1) := by decide +kernel
theorem dX7_isDone_8 : decode cX7_isDone 8 = .ok (.ifCond .ne 23, 3) := by decide +kernel
theorem dX7_isDone_11 : decode cX7_isDone 11 = .ok (.aload_n 0, 1) := by decide +kernel
theorem dX7_isDone_12 : decode cX7_isDone 12 = .ok (.getfield 39, 3) := by decide +kernel
theorem dX7_isDone_15 : decode cX7_isDone 15 = .ok (.aload_n 0, 1) := by decide +kernel
theorem dX7_isDone_16 : decode cX7_isDone 16 = .ok (.iload_n 1, 1) := by decide +kernel
theorem dX7_isDone_17 : decode cX7_isDone 17 = .ok (.iconst 1, 1) := by decide +kernel
theorem dX7_isDone_18 : decode cX7_isDone 18 = .ok (.invokevirtual 156, 3) := by decide +kernel
theorem dX7_isDone_21 : decode cX7_isDone 21 = .ok (.aload_n 0, 1) := by decide +kernel
theorem dX7_isDone_22 : decode cX7_isDone 22 = .ok (.iload_n 1, 1) := by decide +kernel
theorem dX7_isDone_23 : decode cX7_isDone 23 = .ok (.iconst 2, 1) := by decide +kernel
theorem dX7_isDone_24 : decode cX7_isDone 24 = .ok (.invokevirtual 156, 3) := by decide +kernel
theorem dX7_isDone_27 : decode cX7_isDone 27 = .ok (.iastore, 1) := by decide +kernel
theorem dX7_isDone_28 : decode cX7_isDone 28 = .ok (.goto 78, 3) := by decide +kernel
theorem dX7_isDone_31 : decode cX7_isDone 31 = .ok (.iload_n 2, 1) := by decide +kernel
theorem dX7_isDone_32 : decode cX7_isDone 32 = .ok (.iconst 4, 1) := by decide +kernel
theorem dX7_isDone_33 : decode cX7_isDone 33 = .ok (.if_icmp .ne 35, 3) := by decide +kernel
theorem dX7_isDone_36 : decode cX7_isDone 36 = .ok (.aload_n 0, 1) := by decide +kernel
theorem dX7_isDone_37 : decode cX7_isDone 37 = .ok (.getfield 39, 3) := by decide +kernel
theorem dX7_isDone_40 : decode cX7_isDone 40 = .ok (.aload_n 0, 1) := by decide +kernel
theorem dX7_isDone_41 : decode cX7_isDone 41 = .ok (.iload_n 1, 1) := by decide +kernel
theorem dX7_isDone_42 : decode cX7_isDone 42 = .ok (.iconst 3, 1) := by decide +kernel
theorem dX7_isDone_43 : decode cX7_isDone 43 = .ok (.invokevirtual 156, 3) := by decide +kernel
theorem dX7_isDone_46 : decode cX7_isDone 46 = .ok (.iaload, 1) := by decide +kernel
theorem dX7_isDone_47 : decode cX7_isDone 47 = .ok (.ifCond .ne 21, 3) := by decide +kernel
theorem dX7_isDone_50 : decode cX7_isDone 50 = .ok (.aload_n 0, 1) := by decide +kernel
theorem dX7_isDone_51 : decode cX7_isDone 51 = .ok (.iload_n 1, 1) := by decide +kernel
theorem dX7_isDone_52 : decode cX7_isDone 52 = .ok (.putfield 223, 3) := by decide +kernel
theorem dX7_isDone_55 : decode cX7_isDone 55 = .ok (.aload_n 0, 1) := by decide +kernel
theorem dX7_isDone_56 : decode cX7_isDone 56 = .ok (.dup, 1) := by decide +kernel
theorem dX7_isDone_57 : decode cX7_isDone 57 = .ok (.getfield 226, 3) := by decide +kernel
theorem dX7_isDone_60 : decode cX7_isDone 60 = .ok (.iconst 1, 1) := by decide +kernel
theorem dX7_isDone_61 : decode cX7_isDone 61 = .ok (.isub, 1) := by decide +kernel
theorem dX7_isDone_62 : decode cX7_isDone 62 = .ok (.putfield 226, 3) := by decide +kernel
theorem dX7_isDone_65 : decode cX7_isDone 65 = .ok (.goto 41, 3) := by decide +kernel
theorem dX7_isDone_68 : decode cX7_isDone 68 = .ok (.aload_n 0, 1) := by decide +kernel
theorem dX7_isDone_69 : decode cX7_isDone 69 = .ok (.getfield 39, 3) := by decide +kernel
theorem dX7_isDone_72 : decode cX7_isDone 72 = .ok (.aload_n 0, 1) := by decide +kernel
theorem dX7_isDone_73 : decode cX7_isDone 73 = .ok (.iload_n 1, 1) := by decide +kernel
theorem dX7_isDone_74 : decode cX7_isDone 74 = .ok (.iconst 1, 1) := by decide +kernel
theorem dX7_isDone_75 : decode cX7_isDone 75 = .ok (.invokevirtual 156, 3) := by decide +kernel
theorem dX7_isDone_78 : decode cX7_isDone 78 = .ok (.aload_n 0, 1) := by decide +kernel
theorem dX7_isDone_79 : decode cX7_isDone 79 = .ok (.iload_n 2, 1) := by decide +kernel
theorem dX7_isDone_80 : decode cX7_isDone 80 = .ok (.aload_n 0, 1) := by decide +kernel
theorem dX7_isDone_81 : decode cX7_isDone 81 = .ok (.getfield 39, 3) := by decide +kernel
theorem dX7_isDone_84 : decode cX7_isDone 84 = .ok (.aload_n 0, 1) := by decide +kernel
theorem dX7_isDone_85 : decode cX7_isDone 85 = .ok (.iload_n 1, 1) := by decide +kernel
theorem dX7_isDone_86 : decode cX7_isDone 86 = .ok (.iconst 2, 1) := by decide +kernel
theorem dX7_isDone_87 : decode cX7_isDone 87 = .ok (.invokevirtual 156, 3) := by decide +kernel
theorem dX7_isDone_90 : decode cX7_isDone 90 = .ok (.iaload, 1) := by decide +kernel
theorem dX7_isDone_91 : decode cX7_isDone 91 = .ok (.aload_n 0, 1) := by decide +kernel
theorem dX7_isDone_92 : decode cX7_isDone 92 = .ok (.getfield 39, 3) := by decide +kernel
theorem dX7_isDone_95 : decode cX7_isDone 95 = .ok (.aload_n 0, 1) := by decide +kernel
theorem dX7_isDone_96 : decode cX7_isDone 96 = .ok (.iload_n 1, 1) := by decide +kernel
theorem dX7_isDone_97 : decode cX7_isDone 97 = .ok (.iconst 3, 1) := by decide +kernel
theorem dX7_isDone_98 : decode cX7_isDone 98 = .ok (.invokevirtual 156, 3) := by decide +kernel
theorem dX7_isDone_101 : decode cX7_isDone 101 = .ok (.iaload, 1) := by decide +kernel
theorem dX7_isDone_102 : decode cX7_isDone 102 = .ok (.invokevirtual 229, 3) := by decide +kernel
theorem dX7_isDone_105 : decode cX7_isDone 105 = .ok (.iastore, 1) := by decide +kernel
theorem dX7_isDone_106 : decode cX7_isDone 106 = .ok (.aload_n 0, 1) := by decide +kernel
theorem dX7_isDone_107 : decode cX7_isDone 107 = .ok (.dup, 1) := by decide +kernel
theorem dX7_isDone_108 : decode cX7_isDone 108 = .ok (.getfield 226, 3) := by decide +kernel
theorem dX7_isDone_111 : decode cX7_isDone 111 = .ok (.iconst 1, 1) := by decide +kernel
theorem dX7_isDone_112 : decode cX7_isDone 112 = .ok (.iadd, 1) := by decide +kernel
theorem dX7_isDone_113 : decode cX7_isDone 113 = .ok (.putfield 226, 3) := by decide +kernel
theorem dX7_isDone_116 : decode cX7_isDone 116 = .ok (.return_, 1) := by decide +kernel
theorem dX7_ifComes_0 : decode cX7_ifComes 0 = .ok (.aload_n 0, 1) := by decide +kernel
theorem dX7_ifComes_1 : decode cX7_ifComes 1 = .ok (.getfield 39, 3) := by decide +kernel
theorem dX7_ifComes_4 : decode cX7_ifComes 4 = .ok (.aload_n 0, 1) := by decide +kernel
theorem dX7_ifComes_5 : decode cX7_ifComes 5 = .ok (.iload_n 1, 1) := by decide +kernel
theorem dX7_ifComes_6 : decode cX7_ifComes 6 = .ok (.iconst 1, 1) := by decide +kernel
theorem dX7_ifComes_7 : decode cX7_ifComes 7 = .ok (.invokevirtual 156, 3) := by decide +kernel
theorem dX7_ifComes_10 : decode cX7_ifComes 10 = .ok (.iaload, 1) := by decide +kernel
theorem dX7_ifComes_11 : decode cX7_ifComes 11 = .ok (.ifCond .le 7, 3) := by decide +kernel
theorem dX7_ifComes_14 : decode cX7_ifComes 14 = .ok (.iconst 1, 1) := by decide +kernel
theorem dX7_ifComes_15 : decode cX7_ifComes 15 = .ok (.goto 4, 3) := by decide +kernel
theorem dX7_ifComes_18 : decode cX7_ifComes 18 = .ok (.iconst 0, 1) := by decide +kernel
theorem dX7_ifComes_19 : decode cX7_ifComes 19 = .ok (.istore 5, 2) := by decide +kernel
theorem dX7_ifComes_21 : decode cX7_ifComes 21 = .ok (.aload_n 0, 1) := by decide +kernel
theorem dX7_ifComes_22 : decode cX7_ifComes 22 = .ok (.getfield 45, 3) := by decide +kernel
theorem dX7_ifComes_25 : decode cX7_ifComes 25 = .ok (.iconst 2, 1) := by decide +kernel
theorem dX7_ifComes_26 : decode cX7_ifComes 26 = .ok (.iload_n 2, 1) := by decide +kernel
theorem dX7_ifComes_27 : decode cX7_ifComes 27 = .ok (.imul, 1) := by decide +kernel
theorem dX7_ifComes_28 : decode cX7_ifComes 28 = .ok (.iconst 1, 1) := by decide +kernel
theorem dX7_ifComes_29 : decode cX7_ifComes 29 = .ok (.iadd, 1) := by decide +kernel
theorem dX7_ifComes_30 : decode cX7_ifComes 30 = .ok (.iload_n 3, 1) := by decide +kernel
theorem dX7_ifComes_31 : decode cX7_ifComes 31 = .ok (.ifCond .eq 12, 3) := by decide +kernel
theorem dX7_ifComes_34 : decode cX7_ifComes 34 = .ok (.iload 5, 2) := by decide +kernel
theorem dX7_ifComes_36 : decode cX7_ifComes 36 = .ok (.ifCond .eq 7, 3) := by decide +kernel
theorem dX7_ifComes_39 : decode cX7_ifComes 39 = .ok (.iconst 1, 1) := by decide +kernel
theorem dX7_ifComes_40 : decode cX7_ifComes 40 = .ok (.goto 4, 3) := by decide +kernel
theorem dX7_ifComes_43 : decode cX7_ifComes 43 = .ok (.iconst 0, 1) := by decide +kernel
theorem dX7_ifComes_44 : decode cX7_ifComes 44 = .ok (.bastore, 1) := by decide +kernel
theorem dX7_ifComes_45 : decode cX7_ifComes 45 = .ok (.aload_n 0, 1) := by decide +kernel
theorem dX7_ifComes_46 : decode cX7_ifComes 46 = .ok (.getfield 45, 3) := by decide +kernel
theorem dX7_ifComes_49 : decode cX7_ifComes 49 = .ok (.iconst 2, 1) := by decide +kernel
theorem dX7_ifComes_50 : decode cX7_ifComes 50 = .ok (.iload_n 2, 1) := by decide +kernel
theorem dX7_ifComes_51 : decode cX7_ifComes 51 = .ok (.imul, 1) := by decide +kernel
theorem dX7_ifComes_52 : decode cX7_ifComes 52 = .ok (.iconst 2, 1) := by decide +kernel
theorem dX7_ifComes_53 : decode cX7_ifComes 53 = .ok (.iadd, 1) := by decide +kernel
theorem dX7_ifComes_54 : decode cX7_ifComes 54 = .ok (.iload_n 3, 1) := by decide +kernel
theorem dX7_ifComes_55 : decode cX7_ifComes 55 = .ok (.ifCond .eq 12, 3) := by decide +kernel
theorem dX7_ifComes_58 : decode cX7_ifComes 58 = .ok (.iload 5, 2) := by decide +kernel
theorem dX7_ifComes_60 : decode cX7_ifComes 60 = .ok (.ifCond .ne 7, 3) := by decide +kernel
theorem dX7_ifComes_63 : decode cX7_ifComes 63 = .ok (.iconst 1, 1) := by decide +kernel
theorem dX7_ifComes_64 : decode cX7_ifComes 64 = .ok (.goto 4, 3) := by decide +kernel
theorem dX7_ifComes_67 : decode cX7_ifComes 67 = .ok (.iconst 0, 1) := by decide +kernel
theorem dX7_ifComes_68 : decode cX7_ifComes 68 = .ok (.bastore, 1) := by decide +kernel
theorem dX7_ifComes_69 : decode cX7_ifComes 69 = .ok (.aload_n 0, 1) := by decide +kernel
theorem dX7_ifComes_70 : decode cX7_ifComes 70 = .ok (.getfield 48, 3) := by decide +kernel
theorem dX7_ifComes_73 : decode cX7_ifComes 73 = .ok (.iload_n 2, 1) := by decide +kernel
theorem dX7_ifComes_74 : decode cX7_ifComes 74 = .ok (.iload 4, 2) := by decide +kernel
theorem dX7_ifComes_76 : decode cX7_ifComes 76 = .ok (.ifCond .eq 16, 3) := by decide +kernel
theorem dX7_ifComes_79 : decode cX7_ifComes 79 = .ok (.aload_n 0, 1) := by decide +kernel
theorem dX7_ifComes_80 : decode cX7_ifComes 80 = .ok (.getfield 36, 3) := by decide +kernel
theorem dX7_ifComes_83 : decode cX7_ifComes 83 = .ok (.iload_n 2, 1) := by decide +kernel
theorem dX7_ifComes_84 : decode cX7_ifComes 84 = .ok (.baload, 1) := by decide +kernel
theorem dX7_ifComes_85 : decode cX7_ifComes 85 = .ok (.ifCond .eq 7, 3) := by decide +kernel
theorem dX7_ifComes_88 : decode cX7_ifComes 88 = .ok (.iconst 1, 1) := by decide +kernel
theorem dX7_ifComes_89 : decode cX7_ifComes 89 = .ok (.goto 4, 3) := by decide +kernel
theorem dX7_ifComes_92 : decode cX7_ifComes 92 = .ok (.iconst 0, 1) := by decide +kernel
theorem dX7_ifComes_93 : decode cX7_ifComes 93 = .ok (.bastore, 1) := by decide +kernel
theorem dX7_ifComes_94 : decode cX7_ifComes 94 = .ok (.aload_n 0, 1) := by decide +kernel
theorem dX7_ifComes_95 : decode cX7_ifComes 95 = .ok (.dup, 1) := by decide +kernel
theorem dX7_ifComes_96 : decode cX7_ifComes 96 = .ok (.getfield 226, 3) := by decide +kernel
theorem dX7_ifComes_99 : decode cX7_ifComes 99 = .ok (.iload_n 3, 1) := by decide +kernel
theorem dX7_ifComes_100 : decode cX7_ifComes 100 = .ok (.invokestatic 159, 3) := by decide +kernel
theorem dX7_ifComes_103 : decode cX7_ifComes 103 = .ok (.iadd, 1) := by decide +kernel
theorem dX7_ifComes_104 : decode cX7_ifComes 104 = .ok (.putfield 226, 3) := by decide +kernel
theorem dX7_ifComes_107 : decode cX7_ifComes 107 = .ok (.aload_n 0, 1) := by decide +kernel
theorem dX7_ifComes_108 : decode cX7_ifComes 108 = .ok (.dup, 1) := by decide +kernel
theorem dX7_ifComes_109 : decode cX7_ifComes 109 = .ok (.getfield 233, 3) := by decide +kernel
theorem dX7_ifComes_112 : decode cX7_ifComes 112 = .ok (.iload 4, 2) := by decide +kernel
theorem dX7_ifComes_114 : decode cX7_ifComes 114 = .ok (.ifCond .eq 20, 3) := by decide +kernel
theorem dX7_ifComes_117 : decode cX7_ifComes 117 = .ok (.aload_n 0, 1) := by decide +kernel
theorem dX7_ifComes_118 : decode cX7_ifComes 118 = .ok (.getfield 36, 3) := by decide +kernel
theorem dX7_ifComes_121 : decode cX7_ifComes 121 = .ok (.iload_n 2, 1) := by decide +kernel
theorem dX7_ifComes_122 : decode cX7_ifComes 122 = .ok (.baload, 1) := by decide +kernel
theorem dX7_ifComes_123 : decode cX7_ifComes 123 = .ok (.ifCond .eq 7, 3) := by decide +kernel
theorem dX7_ifComes_126 : decode cX7_ifComes 126 = .ok (.iconst 1, 1) := by decide +kernel
theorem dX7_ifComes_127 : decode cX7_ifComes 127 = .ok (.goto 8, 3) := by decide +kernel
theorem dX7_ifComes_130 : decode cX7_ifComes 130 = .ok (.iconst 4, 1) := by decide +kernel
theorem dX7_ifComes_131 : decode cX7_ifComes 131 = .ok (.goto 4, 3) := by decide +kernel
theorem dX7_ifComes_134 : decode cX7_ifComes 134 = .ok (.iconst 0, 1) := by decide +kernel
theorem dX7_ifComes_135 : decode cX7_ifComes 135 = .ok (.iadd, 1) := by decide +kernel
theorem dX7_ifComes_136 : decode cX7_ifComes 136 = .ok (.putfield 233, 3) := by decide +kernel
theorem dX7_ifComes_139 : decode cX7_ifComes 139 = .ok (.return_, 1) := by decide +kernel
theorem dX7_runs1_0 : decode cX7_runs1 0 = .ok (.aload_n 0, 1) := by decide +kernel
theorem dX7_runs1_1 : decode cX7_runs1 1 = .ok (.invokevirtual 198, 3) := by decide +kernel
theorem dX7_runs1_4 : decode cX7_runs1 4 = .ok (.aload_n 0, 1) := by decide +kernel
theorem dX7_runs1_5 : decode cX7_runs1 5 = .ok (.iconst 0, 1) := by decide +kernel
theorem dX7_runs1_6 : decode cX7_runs1 6 = .ok (.putfield 226, 3) := by decide +kernel
theorem dX7_runs1_9 : decode cX7_runs1 9 = .ok (.aload_n 0, 1) := by decide +kernel
theorem dX7_runs1_10 : decode cX7_runs1 10 = .ok (.iconst 0, 1) := by decide +kernel
theorem dX7_runs1_11 : decode cX7_runs1 11 = .ok (.putfield 233, 3) := by decide +kernel
theorem dX7_runs1_14 : decode cX7_runs1 14 = .ok (.aload_n 0, 1) := by decide +kernel
theorem dX7_runs1_15 : decode cX7_runs1 15 = .ok (.bipush (-4), 2) := by decide +kernel
theorem dX7_runs1_17 : decode cX7_runs1 17 = .ok (.putfield 223, 3) := by decide +kernel
theorem dX7_runs1_20 : decode cX7_runs1 20 = .ok (.aload_n 0, 1) := by decide +kernel
theorem dX7_runs1_21 : decode cX7_runs1 21 = .ok (.getfield 45, 3) := by decide +kernel
theorem dX7_runs1_24 : decode cX7_runs1 24 = .ok (.iconst 0, 1) := by decide +kernel
theorem dX7_runs1_25 : decode cX7_runs1 25 = .ok (.iconst 1, 1) := by decide +kernel
theorem dX7_runs1_26 : decode cX7_runs1 26 = .ok (.bastore, 1) := by decide +kernel
theorem dX7_runs1_27 : decode cX7_runs1 27 = .ok (.iconst 0, 1) := by decide +kernel
theorem dX7_runs1_28 : decode cX7_runs1 28 = .ok (.istore_n 1, 1) := by decide +kernel
theorem dX7_runs1_29 : decode cX7_runs1 29 = .ok (.iconst 0, 1) := by decide +kernel
theorem dX7_runs1_30 : decode cX7_runs1 30 = .ok (.istore_n 2, 1) := by decide +kernel
theorem dX7_runs1_31 : decode cX7_runs1 31 = .ok (.iload_n 2, 1) := by decide +kernel
theorem dX7_runs1_32 : decode cX7_runs1 32 = .ok (.aload_n 0, 1) := by decide +kernel
theorem dX7_runs1_33 : decode cX7_runs1 33 = .ok (.getfield 7, 3) := by decide +kernel
theorem dX7_runs1_36 : decode cX7_runs1 36 = .ok (.bipush 120, 2) := by decide +kernel
theorem dX7_runs1_38 : decode cX7_runs1 38 = .ok (.iaload, 1) := by decide +kernel
theorem dX7_runs1_39 : decode cX7_runs1 39 = .ok (.if_icmp .ge 125, 3) := by decide +kernel
theorem dX7_runs1_42 : decode cX7_runs1 42 = .ok (.aload_n 0, 1) := by decide +kernel
theorem dX7_runs1_43 : decode cX7_runs1 43 = .ok (.getfield 223, 3) := by decide +kernel
theorem dX7_runs1_46 : decode cX7_runs1 46 = .ok (.bipush (-4), 2) := by decide +kernel
theorem dX7_runs1_48 : decode cX7_runs1 48 = .ok (.if_icmp .ne 116, 3) := by decide +kernel
theorem dX7_runs1_51 : decode cX7_runs1 51 = .ok (.aload_n 0, 1) := by decide +kernel
theorem dX7_runs1_52 : decode cX7_runs1 52 = .ok (.iload_n 2, 1) := by decide +kernel
theorem dX7_runs1_53 : decode cX7_runs1 53 = .ok (.iconst 4, 1) := by decide +kernel
theorem dX7_runs1_54 : decode cX7_runs1 54 = .ok (.invokevirtual 156, 3) := by decide +kernel
theorem dX7_runs1_57 : decode cX7_runs1 57 = .ok (.istore_n 3, 1) := by decide +kernel
theorem dX7_runs1_58 : decode cX7_runs1 58 = .ok (.aload_n 0, 1) := by decide +kernel
theorem dX7_runs1_59 : decode cX7_runs1 59 = .ok (.getfield 45, 3) := by decide +kernel
theorem dX7_runs1_62 : decode cX7_runs1 62 = .ok (.iload_n 3, 1) := by decide +kernel
theorem dX7_runs1_63 : decode cX7_runs1 63 = .ok (.baload, 1) := by decide +kernel
theorem dX7_runs1_64 : decode cX7_runs1 64 = .ok (.istore 4, 2) := by decide +kernel
theorem dX7_runs1_66 : decode cX7_runs1 66 = .ok (.iload 4, 2) := by decide +kernel
theorem dX7_runs1_68 : decode cX7_runs1 68 = .ok (.ifCond .ne 20, 3) := by decide +kernel
theorem dX7_runs1_71 : decode cX7_runs1 71 = .ok (.iload_n 3, 1) := by decide +kernel
theorem dX7_runs1_72 : decode cX7_runs1 72 = .ok (.ifCond .le 20, 3) := by decide +kernel
theorem dX7_runs1_75 : decode cX7_runs1 75 = .ok (.aload_n 0, 1) := by decide +kernel
theorem dX7_runs1_76 : decode cX7_runs1 76 = .ok (.getfield 48, 3) := by decide +kernel
theorem dX7_runs1_79 : decode cX7_runs1 79 = .ok (.iload_n 3, 1) := by decide +kernel
theorem dX7_runs1_80 : decode cX7_runs1 80 = .ok (.iconst 1, 1) := by decide +kernel
theorem dX7_runs1_81 : decode cX7_runs1 81 = .ok (.isub, 1) := by decide +kernel
theorem dX7_runs1_82 : decode cX7_runs1 82 = .ok (.iconst 2, 1) := by decide +kernel
theorem dX7_runs1_83 : decode cX7_runs1 83 = .ok (.idiv, 1) := by decide +kernel
theorem dX7_runs1_84 : decode cX7_runs1 84 = .ok (.baload, 1) := by decide +kernel
theorem dX7_runs1_85 : decode cX7_runs1 85 = .ok (.ifCond .eq 7, 3) := by decide +kernel
theorem dX7_runs1_88 : decode cX7_runs1 88 = .ok (.iconst 1, 1) := by decide +kernel
theorem dX7_runs1_89 : decode cX7_runs1 89 = .ok (.goto 4, 3) := by decide +kernel
theorem dX7_runs1_92 : decode cX7_runs1 92 = .ok (.iconst 0, 1) := by decide +kernel
theorem dX7_runs1_93 : decode cX7_runs1 93 = .ok (.istore 5, 2) := by decide +kernel
theorem dX7_runs1_95 : decode cX7_runs1 95 = .ok (.aload_n 0, 1) := by decide +kernel
theorem dX7_runs1_96 : decode cX7_runs1 96 = .ok (.iload_n 2, 1) := by decide +kernel
theorem dX7_runs1_97 : decode cX7_runs1 97 = .ok (.iconst 0, 1) := by decide +kernel
theorem dX7_runs1_98 : decode cX7_runs1 98 = .ok (.invokevirtual 156, 3) := by decide +kernel
theorem dX7_runs1_101 : decode cX7_runs1 101 = .ok (.iconst 5, 1) := by decide +kernel
theorem dX7_runs1_102 : decode cX7_runs1 102 = .ok (.if_icmp .ne 19, 3) := by decide +kernel
theorem dX7_runs1_105 : decode cX7_runs1 105 = .ok (.aload_n 0, 1) := by decide +kernel
theorem dX7_runs1_106 : decode cX7_runs1 106 = .ok (.iload_n 2, 1) := by decide +kernel
theorem dX7_runs1_107 : decode cX7_runs1 107 = .ok (.iload_n 1, 1) := by decide +kernel
theorem dX7_runs1_108 : decode cX7_runs1 108 = .ok (.iload 4, 2) := by decide +kernel
theorem dX7_runs1_110 : decode cX7_runs1 110 = .ok (.iload 5, 2) := by decide +kernel
theorem dX7_runs1_112 : decode cX7_runs1 112 = .ok (.invokevirtual 236, 3) := by decide +kernel
theorem dX7_runs1_115 : decode cX7_runs1 115 = .ok (.iinc 1 1, 3) := by decide +kernel
theorem dX7_runs1_118 : decode cX7_runs1 118 = .ok (.goto 40, 3) := by decide +kernel
theorem dX7_runs1_121 : decode cX7_runs1 121 = .ok (.aload_n 0, 1) := by decide +kernel
theorem dX7_runs1_122 : decode cX7_runs1 122 = .ok (.dup, 1) := by decide +kernel
theorem dX7_runs1_123 : decode cX7_runs1 123 = .ok (.getfield 233, 3) := by decide +kernel
theorem dX7_runs1_126 : decode cX7_runs1 126 = .ok (.iload 5, 2) := by decide +kernel
theorem dX7_runs1_128 : decode cX7_runs1 128 = .ok (.ifCond .eq 15, 3) := by decide +kernel
theorem dX7_runs1_131 : decode cX7_runs1 131 = .ok (.aload_n 0, 1) := by decide +kernel
theorem dX7_runs1_132 : decode cX7_runs1 132 = .ok (.iload_n 2, 1) := by decide +kernel
theorem dX7_runs1_133 : decode cX7_runs1 133 = .ok (.iconst 0, 1) := by decide +kernel
theorem dX7_runs1_134 : decode cX7_runs1 134 = .ok (.invokevirtual 156, 3) := by decide +kernel
theorem dX7_runs1_137 : decode cX7_runs1 137 = .ok (.invokestatic 172, 3) := by decide +kernel
theorem dX7_runs1_140 : decode cX7_runs1 140 = .ok (.goto 4, 3) := by decide +kernel
theorem dX7_runs1_143 : decode cX7_runs1 143 = .ok (.iconst 0, 1) := by decide +kernel
theorem dX7_runs1_144 : decode cX7_runs1 144 = .ok (.iadd, 1) := by decide +kernel
theorem dX7_runs1_145 : decode cX7_runs1 145 = .ok (.putfield 233, 3) := by decide +kernel
theorem dX7_runs1_148 : decode cX7_runs1 148 = .ok (.iload 4, 2) := by decide +kernel
theorem dX7_runs1_150 : decode cX7_runs1 150 = .ok (.ifCond .eq 8, 3) := by decide +kernel
theorem dX7_runs1_153 : decode cX7_runs1 153 = .ok (.aload_n 0, 1) := by decide +kernel
theorem dX7_runs1_154 : decode cX7_runs1 154 = .ok (.iload_n 2, 1) := by decide +kernel
theorem dX7_runs1_155 : decode cX7_runs1 155 = .ok (.invokevirtual 240, 3) := by decide +kernel
theorem dX7_runs1_158 : decode cX7_runs1 158 = .ok (.iinc 2 1, 3) := by decide +kernel
theorem dX7_runs1_161 : decode cX7_runs1 161 = .ok (.goto (-130), 3) := by decide +kernel
theorem dX7_runs1_164 : decode cX7_runs1 164 = .ok (.return_, 1) := by decide +kernel
theorem dX7_run_0 : decode cX7_run 0 = .ok (.aload_n 0, 1) := by decide +kernel
theorem dX7_run_1 : decode cX7_run 1 = .ok (.iload_n 1, 1) := by decide +kernel
theorem dX7_run_2 : decode cX7_run 2 = .ok (.iload_n 2, 1) := by decide +kernel
theorem dX7_run_3 : decode cX7_run 3 = .ok (.iload_n 3, 1) := by decide +kernel
theorem dX7_run_4 : decode cX7_run 4 = .ok (.iload 4, 2) := by decide +kernel
theorem dX7_run_6 : decode cX7_run 6 = .ok (.invokevirtual 243, 3) := by decide +kernel
theorem dX7_run_9 : decode cX7_run 9 = .ok (.aload_n 0, 1) := by decide +kernel
theorem dX7_run_10 : decode cX7_run 10 = .ok (.invokevirtual 247, 3) := by decide +kernel
theorem dX7_run_13 : decode cX7_run 13 = .ok (.aload_n 0, 1) := by decide +kernel
theorem dX7_run_14 : decode cX7_run 14 = .ok (.iconst 1, 1) := by decide +kernel
theorem dX7_run_15 : decode cX7_run 15 = .ok (.putfield 72, 3) := by decide +kernel
theorem dX7_run_18 : decode cX7_run 18 = .ok (.aload_n 0, 1) := by decide +kernel
theorem dX7_run_19 : decode cX7_run 19 = .ok (.aload_n 0, 1) := by decide +kernel
theorem dX7_run_20 : decode cX7_run 20 = .ok (.getfield 233, 3) := by decide +kernel
theorem dX7_run_23 : decode cX7_run 23 = .ok (.putfield 250, 3) := by decide +kernel
theorem dX7_run_26 : decode cX7_run 26 = .ok (.iconst 0, 1) := by decide +kernel
theorem dX7_run_27 : decode cX7_run 27 = .ok (.istore 5, 2) := by decide +kernel
theorem dX7_run_29 : decode cX7_run 29 = .ok (.iload 5, 2) := by decide +kernel
theorem dX7_run_31 : decode cX7_run 31 = .ok (.bipush 8, 2) := by decide +kernel
theorem dX7_run_33 : decode cX7_run 33 = .ok (.if_icmp .ge 23, 3) := by decide +kernel
theorem dX7_run_36 : decode cX7_run 36 = .ok (.aload_n 0, 1) := by decide +kernel
theorem dX7_run_37 : decode cX7_run 37 = .ok (.getfield 42, 3) := by decide +kernel
theorem dX7_run_40 : decode cX7_run 40 = .ok (.iload 5, 2) := by decide +kernel
theorem dX7_run_42 : decode cX7_run 42 = .ok (.aload_n 0, 1) := by decide +kernel
theorem dX7_run_43 : decode cX7_run 43 = .ok (.getfield 39, 3) := by decide +kernel
theorem dX7_run_46 : decode cX7_run 46 = .ok (.iload 5, 2) := by decide +kernel
theorem dX7_run_48 : decode cX7_run 48 = .ok (.iaload, 1) := by decide +kernel
theorem dX7_run_49 : decode cX7_run 49 = .ok (.iastore, 1) := by decide +kernel
theorem dX7_run_50 : decode cX7_run 50 = .ok (.iinc 5 1, 3) := by decide +kernel
theorem dX7_run_53 : decode cX7_run 53 = .ok (.goto (-24), 3) := by decide +kernel
theorem dX7_run_56 : decode cX7_run 56 = .ok (.aload_n 0, 1) := by decide +kernel
theorem dX7_run_57 : decode cX7_run 57 = .ok (.getfield 223, 3) := by decide +kernel
theorem dX7_run_60 : decode cX7_run 60 = .ok (.bipush (-4), 2) := by decide +kernel
theorem dX7_run_62 : decode cX7_run 62 = .ok (.if_icmp .ne 10, 3) := by decide +kernel
theorem dX7_run_65 : decode cX7_run 65 = .ok (.aload_n 0, 1) := by decide +kernel
theorem dX7_run_66 : decode cX7_run 66 = .ok (.getfield 226, 3) := by decide +kernel
theorem dX7_run_69 : decode cX7_run 69 = .ok (.goto 10, 3) := by decide +kernel
theorem dX7_run_72 : decode cX7_run 72 = .ok (.bipush (-10), 2) := by decide +kernel
theorem dX7_run_74 : decode cX7_run 74 = .ok (.aload_n 0, 1) := by decide +kernel
theorem dX7_run_75 : decode cX7_run 75 = .ok (.getfield 223, 3) := by decide +kernel
theorem dX7_run_78 : decode cX7_run 78 = .ok (.isub, 1) := by decide +kernel
theorem dX7_run_79 : decode cX7_run 79 = .ok (.ireturn, 1) := by decide +kernel
theorem dX7_value_0 : decode cX7_value 0 = .ok (.iload_n 1, 1) := by decide +kernel
theorem dX7_value_1 : decode cX7_value 1 = .ok (.i2l, 1) := by decide +kernel
theorem dX7_value_2 : decode cX7_value 2 = .ok (.lconst 0, 1) := by decide +kernel
theorem dX7_value_3 : decode cX7_value 3 = .ok (.ldc2_w 253, 3) := by decide +kernel
theorem dX7_value_6 : decode cX7_value 6 = .ok (.invokestatic 78, 3) := by decide +kernel
theorem dX7_value_9 : decode cX7_value 9 = .ok (.ifCond .ne 7, 3) := by decide +kernel
theorem dX7_value_12 : decode cX7_value 12 = .ok (.iconst (-1), 1) := by decide +kernel
theorem dX7_value_13 : decode cX7_value 13 = .ok (.goto 20, 3) := by decide +kernel
theorem dX7_value_16 : decode cX7_value 16 = .ok (.aload_n 0, 1) := by decide +kernel
theorem dX7_value_17 : decode cX7_value 17 = .ok (.getfield 72, 3) := by decide +kernel
theorem dX7_value_20 : decode cX7_value 20 = .ok (.ifCond .eq 12, 3) := by decide +kernel
theorem dX7_value_23 : decode cX7_value 23 = .ok (.aload_n 0, 1) := by decide +kernel
theorem dX7_value_24 : decode cX7_value 24 = .ok (.getfield 42, 3) := by decide +kernel
theorem dX7_value_27 : decode cX7_value 27 = .ok (.iload_n 1, 1) := by decide +kernel
theorem dX7_value_28 : decode cX7_value 28 = .ok (.iaload, 1) := by decide +kernel
theorem dX7_value_29 : decode cX7_value 29 = .ok (.goto 4, 3) := by decide +kernel
theorem dX7_value_32 : decode cX7_value 32 = .ok (.iconst 0, 1) := by decide +kernel
theorem dX7_value_33 : decode cX7_value 33 = .ok (.ireturn, 1) := by decide +kernel
theorem dX7_spent_0 : decode cX7_spent 0 = .ok (.aload_n 0, 1) := by decide +kernel
theorem dX7_spent_1 : decode cX7_spent 1 = .ok (.getfield 72, 3) := by decide +kernel
theorem dX7_spent_4 : decode cX7_spent 4 = .ok (.ifCond .eq 10, 3) := by decide +kernel
theorem dX7_spent_7 : decode cX7_spent 7 = .ok (.aload_n 0, 1) := by decide +kernel
theorem dX7_spent_8 : decode cX7_spent 8 = .ok (.getfield 250, 3) := by decide +kernel
theorem dX7_spent_11 : decode cX7_spent 11 = .ok (.goto 5, 3) := by decide +kernel
theorem dX7_spent_14 : decode cX7_spent 14 = .ok (.bipush (-4), 2) := by decide +kernel
theorem dX7_spent_16 : decode cX7_spent 16 = .ok (.ireturn, 1) := by decide +kernel
theorem dX7_draws_0 : decode cX7_draws 0 = .ok (.aload_n 0, 1) := by decide +kernel
theorem dX7_draws_1 : decode cX7_draws 1 = .ok (.aload_n 0, 1) := by decide +kernel
theorem dX7_draws_2 : decode cX7_draws 2 = .ok (.getfield 255, 3) := by decide +kernel
theorem dX7_draws_5 : decode cX7_draws 5 = .ok (.ldc_w 258, 3) := by decide +kernel
theorem dX7_draws_8 : decode cX7_draws 8 = .ok (.imul, 1) := by decide +kernel
theorem dX7_draws_9 : decode cX7_draws 9 = .ok (.sipush 12345, 3) := by decide +kernel
theorem dX7_draws_12 : decode cX7_draws 12 = .ok (.iadd, 1) := by decide +kernel
theorem dX7_draws_13 : decode cX7_draws 13 = .ok (.putfield 255, 3) := by decide +kernel
theorem dX7_draws_16 : decode cX7_draws 16 = .ok (.aload_n 0, 1) := by decide +kernel
theorem dX7_draws_17 : decode cX7_draws 17 = .ok (.getfield 255, 3) := by decide +kernel
theorem dX7_draws_20 : decode cX7_draws 20 = .ok (.bipush 16, 2) := by decide +kernel
theorem dX7_draws_22 : decode cX7_draws 22 = .ok (.ishr, 1) := by decide +kernel
theorem dX7_draws_23 : decode cX7_draws 23 = .ok (.sipush 32767, 3) := by decide +kernel
theorem dX7_draws_26 : decode cX7_draws 26 = .ok (.iand, 1) := by decide +kernel
theorem dX7_draws_27 : decode cX7_draws 27 = .ok (.bipush 9, 2) := by decide +kernel
theorem dX7_draws_29 : decode cX7_draws 29 = .ok (.irem, 1) := by decide +kernel
theorem dX7_draws_30 : decode cX7_draws 30 = .ok (.iconst 4, 1) := by decide +kernel
theorem dX7_draws_31 : decode cX7_draws 31 = .ok (.isub, 1) := by decide +kernel
theorem dX7_draws_32 : decode cX7_draws 32 = .ok (.ireturn, 1) := by decide +kernel
theorem dX7_runs_0 : decode cX7_runs 0 = .ok (.iload_n 2, 1) := by decide +kernel
theorem dX7_runs_1 : decode cX7_runs 1 = .ok (.i2l, 1) := by decide +kernel
theorem dX7_runs_2 : decode cX7_runs 2 = .ok (.lconst 1, 1) := by decide +kernel
theorem dX7_runs_3 : decode cX7_runs 3 = .ok (.ldc2_w 259, 3) := by decide +kernel
theorem dX7_runs_6 : decode cX7_runs 6 = .ok (.invokestatic 78, 3) := by decide +kernel
theorem dX7_runs_9 : decode cX7_runs 9 = .ok (.ifCond .eq 10, 3) := by decide +kernel
theorem dX7_runs_12 : decode cX7_runs 12 = .ok (.iload_n 3, 1) := by decide +kernel
theorem dX7_runs_13 : decode cX7_runs 13 = .ok (.invokestatic 261, 3) := by decide +kernel
theorem dX7_runs_16 : decode cX7_runs 16 = .ok (.ifCond .ne 5, 3) := by decide +kernel
theorem dX7_runs_19 : decode cX7_runs 19 = .ok (.iconst (-1), 1) := by decide +kernel
theorem dX7_runs_20 : decode cX7_runs 20 = .ok (.ireturn, 1) := by decide +kernel
theorem dX7_runs_21 : decode cX7_runs 21 = .ok (.aload_n 0, 1) := by decide +kernel
theorem dX7_runs_22 : decode cX7_runs 22 = .ok (.iload_n 1, 1) := by decide +kernel
theorem dX7_runs_23 : decode cX7_runs 23 = .ok (.putfield 255, 3) := by decide +kernel
theorem dX7_runs_26 : decode cX7_runs 26 = .ok (.iconst 0, 1) := by decide +kernel
theorem dX7_runs_27 : decode cX7_runs 27 = .ok (.istore 4, 2) := by decide +kernel
theorem dX7_runs_29 : decode cX7_runs 29 = .ok (.iconst 0, 1) := by decide +kernel
theorem dX7_runs_30 : decode cX7_runs 30 = .ok (.istore 5, 2) := by decide +kernel
theorem dX7_runs_32 : decode cX7_runs 32 = .ok (.iconst 0, 1) := by decide +kernel
theorem dX7_runs_33 : decode cX7_runs 33 = .ok (.istore 6, 2) := by decide +kernel
theorem dX7_runs_35 : decode cX7_runs 35 = .ok (.iload 6, 2) := by decide +kernel
theorem dX7_runs_37 : decode cX7_runs 37 = .ok (.iload_n 2, 1) := by decide +kernel
theorem dX7_runs_38 : decode cX7_runs 38 = .ok (.if_icmp .ge 76, 3) := by decide +kernel
theorem dX7_runs_41 : decode cX7_runs 41 = .ok (.aload_n 0, 1) := by decide +kernel
theorem dX7_runs_42 : decode cX7_runs 42 = .ok (.invokevirtual 264, 3) := by decide +kernel
theorem dX7_runs_45 : decode cX7_runs 45 = .ok (.istore 7, 2) := by decide +kernel
theorem dX7_runs_47 : decode cX7_runs 47 = .ok (.aload_n 0, 1) := by decide +kernel
theorem dX7_runs_48 : decode cX7_runs 48 = .ok (.invokevirtual 264, 3) := by decide +kernel
theorem dX7_runs_51 : decode cX7_runs 51 = .ok (.istore 8, 2) := by decide +kernel
theorem dX7_runs_53 : decode cX7_runs 53 = .ok (.aload_n 0, 1) := by decide +kernel
theorem dX7_runs_54 : decode cX7_runs 54 = .ok (.invokevirtual 264, 3) := by decide +kernel
theorem dX7_runs_57 : decode cX7_runs 57 = .ok (.istore 9, 2) := by decide +kernel
theorem dX7_runs_59 : decode cX7_runs 59 = .ok (.aload_n 0, 1) := by decide +kernel
theorem dX7_runs_60 : decode cX7_runs 60 = .ok (.iload 7, 2) := by decide +kernel
theorem dX7_runs_62 : decode cX7_runs 62 = .ok (.iload 8, 2) := by decide +kernel
theorem dX7_runs_64 : decode cX7_runs 64 = .ok (.iload 9, 2) := by decide +kernel
theorem dX7_runs_66 : decode cX7_runs 66 = .ok (.aload_n 0, 1) := by decide +kernel
theorem dX7_runs_67 : decode cX7_runs 67 = .ok (.invokevirtual 264, 3) := by decide +kernel
theorem dX7_runs_70 : decode cX7_runs 70 = .ok (.invokevirtual 243, 3) := by decide +kernel
theorem dX7_runs_73 : decode cX7_runs 73 = .ok (.aload_n 0, 1) := by decide +kernel
theorem dX7_runs_74 : decode cX7_runs 74 = .ok (.invokevirtual 247, 3) := by decide +kernel
theorem dX7_runs_77 : decode cX7_runs 77 = .ok (.iload 4, 2) := by decide +kernel
theorem dX7_runs_79 : decode cX7_runs 79 = .ok (.aload_n 0, 1) := by decide +kernel
theorem dX7_runs_80 : decode cX7_runs 80 = .ok (.getfield 223, 3) := by decide +kernel
theorem dX7_runs_83 : decode cX7_runs 83 = .ok (.bipush (-4), 2) := by decide +kernel
theorem dX7_runs_85 : decode cX7_runs 85 = .ok (.if_icmp .ne 7, 3) := by decide +kernel
theorem dX7_runs_88 : decode cX7_runs 88 = .ok (.iconst 1, 1) := by decide +kernel
theorem dX7_runs_89 : decode cX7_runs 89 = .ok (.goto 4, 3) := by decide +kernel
theorem dX7_runs_92 : decode cX7_runs 92 = .ok (.iconst 0, 1) := by decide +kernel
theorem dX7_runs_93 : decode cX7_runs 93 = .ok (.invokestatic 159, 3) := by decide +kernel
theorem dX7_runs_96 : decode cX7_runs 96 = .ok (.iadd, 1) := by decide +kernel
theorem dX7_runs_97 : decode cX7_runs 97 = .ok (.istore 4, 2) := by decide +kernel
theorem dX7_runs_99 : decode cX7_runs 99 = .ok (.iload 5, 2) := by decide +kernel
theorem dX7_runs_101 : decode cX7_runs 101 = .ok (.aload_n 0, 1) := by decide +kernel
theorem dX7_runs_102 : decode cX7_runs 102 = .ok (.getfield 233, 3) := by decide +kernel
theorem dX7_runs_105 : decode cX7_runs 105 = .ok (.iadd, 1) := by decide +kernel
theorem dX7_runs_106 : decode cX7_runs 106 = .ok (.istore 5, 2) := by decide +kernel
theorem dX7_runs_108 : decode cX7_runs 108 = .ok (.iinc 6 1, 3) := by decide +kernel
theorem dX7_runs_111 : decode cX7_runs 111 = .ok (.goto (-76), 3) := by decide +kernel
theorem dX7_runs_114 : decode cX7_runs 114 = .ok (.iload_n 3, 1) := by decide +kernel
theorem dX7_runs_115 : decode cX7_runs 115 = .ok (.ifCond .ne 8, 3) := by decide +kernel
theorem dX7_runs_118 : decode cX7_runs 118 = .ok (.iload 4, 2) := by decide +kernel
theorem dX7_runs_120 : decode cX7_runs 120 = .ok (.goto 5, 3) := by decide +kernel
theorem dX7_runs_123 : decode cX7_runs 123 = .ok (.iload 5, 2) := by decide +kernel
theorem dX7_runs_125 : decode cX7_runs 125 = .ok (.ireturn, 1) := by decide +kernel
theorem dX7_wish_0 : decode cX7_wish 0 = .ok (.aload_n 0, 1) := by decide +kernel
theorem dX7_wish_1 : decode cX7_wish 1 = .ok (.iload_n 1, 1) := by decide +kernel
theorem dX7_wish_2 : decode cX7_wish 2 = .ok (.invokevirtual 267, 3) := by decide +kernel
theorem dX7_wish_5 : decode cX7_wish 5 = .ok (.ifCond .eq 10, 3) := by decide +kernel
theorem dX7_wish_8 : decode cX7_wish 8 = .ok (.iload_n 2, 1) := by decide +kernel
theorem dX7_wish_9 : decode cX7_wish 9 = .ok (.invokestatic 261, 3) := by decide +kernel
theorem dX7_wish_12 : decode cX7_wish 12 = .ok (.ifCond .ne 5, 3) := by decide +kernel
theorem dX7_wish_15 : decode cX7_wish 15 = .ok (.iconst (-1), 1) := by decide +kernel
theorem dX7_wish_16 : decode cX7_wish 16 = .ok (.ireturn, 1) := by decide +kernel
theorem dX7_wish_17 : decode cX7_wish 17 = .ok (.aload_n 0, 1) := by decide +kernel
theorem dX7_wish_18 : decode cX7_wish 18 = .ok (.invokevirtual 198, 3) := by decide +kernel
theorem dX7_wish_21 : decode cX7_wish 21 = .ok (.iload_n 2, 1) := by decide +kernel
theorem dX7_wish_22 : decode cX7_wish 22 = .ok (.ifCond .ne 15, 3) := by decide +kernel
theorem dX7_wish_25 : decode cX7_wish 25 = .ok (.aload_n 0, 1) := by decide +kernel
theorem dX7_wish_26 : decode cX7_wish 26 = .ok (.getfield 7, 3) := by decide +kernel
theorem dX7_wish_29 : decode cX7_wish 29 = .ok (.bipush 122, 2) := by decide +kernel
theorem dX7_wish_31 : decode cX7_wish 31 = .ok (.iload_n 1, 1) := by decide +kernel
theorem dX7_wish_32 : decode cX7_wish 32 = .ok (.iadd, 1) := by decide +kernel
theorem dX7_wish_33 : decode cX7_wish 33 = .ok (.iaload, 1) := by decide +kernel
theorem dX7_wish_34 : decode cX7_wish 34 = .ok (.goto 12, 3) := by decide +kernel
theorem dX7_wish_37 : decode cX7_wish 37 = .ok (.aload_n 0, 1) := by decide +kernel
theorem dX7_wish_38 : decode cX7_wish 38 = .ok (.getfield 36, 3) := by decide +kernel
theorem dX7_wish_41 : decode cX7_wish 41 = .ok (.iload_n 1, 1) := by decide +kernel
theorem dX7_wish_42 : decode cX7_wish 42 = .ok (.baload, 1) := by decide +kernel
theorem dX7_wish_43 : decode cX7_wish 43 = .ok (.invokestatic 159, 3) := by decide +kernel
theorem dX7_wish_46 : decode cX7_wish 46 = .ok (.ireturn, 1) := by decide +kernel
theorem dX7_becomes_0 : decode cX7_becomes 0 = .ok (.aload_n 0, 1) := by decide +kernel
theorem dX7_becomes_1 : decode cX7_becomes 1 = .ok (.getfield 7, 3) := by decide +kernel
theorem dX7_becomes_4 : decode cX7_becomes 4 = .ok (.iload_n 1, 1) := by decide +kernel
theorem dX7_becomes_5 : decode cX7_becomes 5 = .ok (.iaload, 1) := by decide +kernel
theorem dX7_becomes_6 : decode cX7_becomes 6 = .ok (.istore_n 3, 1) := by decide +kernel
theorem dX7_becomes_7 : decode cX7_becomes 7 = .ok (.aload_n 0, 1) := by decide +kernel
theorem dX7_becomes_8 : decode cX7_becomes 8 = .ok (.getfield 7, 3) := by decide +kernel
theorem dX7_becomes_11 : decode cX7_becomes 11 = .ok (.iload_n 1, 1) := by decide +kernel
theorem dX7_becomes_12 : decode cX7_becomes 12 = .ok (.iload_n 2, 1) := by decide +kernel
theorem dX7_becomes_13 : decode cX7_becomes 13 = .ok (.iastore, 1) := by decide +kernel
theorem dX7_becomes_14 : decode cX7_becomes 14 = .ok (.iload_n 3, 1) := by decide +kernel
theorem dX7_becomes_15 : decode cX7_becomes 15 = .ok (.ireturn, 1) := by decide +kernel
theorem dX7_want_0 : decode cX7_want 0 = .ok (.aload_n 0, 1) := by decide +kernel
theorem dX7_want_1 : decode cX7_want 1 = .ok (.iload_n 1, 1) := by decide +kernel
theorem dX7_want_2 : decode cX7_want 2 = .ok (.invokevirtual 267, 3) := by decide +kernel
theorem dX7_want_5 : decode cX7_want 5 = .ok (.ifCond .eq 27, 3) := by decide +kernel
theorem dX7_want_8 : decode cX7_want 8 = .ok (.iload_n 2, 1) := by decide +kernel
theorem dX7_want_9 : decode cX7_want 9 = .ok (.i2l, 1) := by decide +kernel
theorem dX7_want_10 : decode cX7_want 10 = .ok (.lconst 0, 1) := by decide +kernel
theorem dX7_want_11 : decode cX7_want 11 = .ok (.ldc2_w 270, 3) := by decide +kernel
theorem dX7_want_14 : decode cX7_want 14 = .ok (.invokestatic 78, 3) := by decide +kernel
theorem dX7_want_17 : decode cX7_want 17 = .ok (.ifCond .eq 15, 3) := by decide +kernel
theorem dX7_want_20 : decode cX7_want 20 = .ok (.aload_n 0, 1) := by decide +kernel
theorem dX7_want_21 : decode cX7_want 21 = .ok (.bipush 122, 2) := by decide +kernel
theorem dX7_want_23 : decode cX7_want 23 = .ok (.iload_n 1, 1) := by decide +kernel
theorem dX7_want_24 : decode cX7_want 24 = .ok (.iadd, 1) := by decide +kernel
theorem dX7_want_25 : decode cX7_want 25 = .ok (.iload_n 2, 1) := by decide +kernel
theorem dX7_want_26 : decode cX7_want 26 = .ok (.invokevirtual 272, 3) := by decide +kernel
theorem dX7_want_29 : decode cX7_want 29 = .ok (.goto 4, 3) := by decide +kernel
theorem dX7_want_32 : decode cX7_want 32 = .ok (.iconst (-1), 1) := by decide +kernel
theorem dX7_want_33 : decode cX7_want 33 = .ok (.ireturn, 1) := by decide +kernel
theorem dX7_lowest_0 : decode cX7_lowest 0 = .ok (.lload_n 2, 1) := by decide +kernel
theorem dX7_lowest_1 : decode cX7_lowest 1 = .ok (.lstore 5, 2) := by decide +kernel
theorem dX7_lowest_3 : decode cX7_lowest 3 = .ok (.lload_n 0, 1) := by decide +kernel
theorem dX7_lowest_4 : decode cX7_lowest 4 = .ok (.lstore 7, 2) := by decide +kernel
theorem dX7_lowest_6 : decode cX7_lowest 6 = .ok (.lload 7, 2) := by decide +kernel
theorem dX7_lowest_8 : decode cX7_lowest 8 = .ok (.lconst 0, 1) := by decide +kernel
theorem dX7_lowest_9 : decode cX7_lowest 9 = .ok (.lcmp, 1) := by decide +kernel
theorem dX7_lowest_10 : decode cX7_lowest 10 = .ok (.ifCond .eq 21, 3) := by decide +kernel
theorem dX7_lowest_13 : decode cX7_lowest 13 = .ok (.lload 5, 2) := by decide +kernel
theorem dX7_lowest_15 : decode cX7_lowest 15 = .ok (.lload 7, 2) := by decide +kernel
theorem dX7_lowest_17 : decode cX7_lowest 17 = .ok (.lrem, 1) := by decide +kernel
theorem dX7_lowest_18 : decode cX7_lowest 18 = .ok (.lstore 9, 2) := by decide +kernel
theorem dX7_lowest_20 : decode cX7_lowest 20 = .ok (.lload 7, 2) := by decide +kernel
theorem dX7_lowest_22 : decode cX7_lowest 22 = .ok (.lstore 5, 2) := by decide +kernel
theorem dX7_lowest_24 : decode cX7_lowest 24 = .ok (.lload 9, 2) := by decide +kernel
theorem dX7_lowest_26 : decode cX7_lowest 26 = .ok (.lstore 7, 2) := by decide +kernel
theorem dX7_lowest_28 : decode cX7_lowest 28 = .ok (.goto (-22), 3) := by decide +kernel
theorem dX7_lowest_31 : decode cX7_lowest 31 = .ok (.iload 4, 2) := by decide +kernel
theorem dX7_lowest_33 : decode cX7_lowest 33 = .ok (.ifCond .ne 10, 3) := by decide +kernel
theorem dX7_lowest_36 : decode cX7_lowest 36 = .ok (.lload_n 0, 1) := by decide +kernel
theorem dX7_lowest_37 : decode cX7_lowest 37 = .ok (.lload 5, 2) := by decide +kernel
theorem dX7_lowest_39 : decode cX7_lowest 39 = .ok (.ldiv, 1) := by decide +kernel
theorem dX7_lowest_40 : decode cX7_lowest 40 = .ok (.goto 7, 3) := by decide +kernel
theorem dX7_lowest_43 : decode cX7_lowest 43 = .ok (.lload_n 2, 1) := by decide +kernel
theorem dX7_lowest_44 : decode cX7_lowest 44 = .ok (.lload 5, 2) := by decide +kernel
theorem dX7_lowest_46 : decode cX7_lowest 46 = .ok (.ldiv, 1) := by decide +kernel
theorem dX7_lowest_47 : decode cX7_lowest 47 = .ok (.lreturn, 1) := by decide +kernel
theorem dX7_mean_0 : decode cX7_mean 0 = .ok (.iload_n 1, 1) := by decide +kernel
theorem dX7_mean_1 : decode cX7_mean 1 = .ok (.invokestatic 261, 3) := by decide +kernel
theorem dX7_mean_4 : decode cX7_mean 4 = .ok (.ifCond .ne 7, 3) := by decide +kernel
theorem dX7_mean_7 : decode cX7_mean 7 = .ok (.ldc2_w 275, 3) := by decide +kernel
theorem dX7_mean_10 : decode cX7_mean 10 = .ok (.lreturn, 1) := by decide +kernel
theorem dX7_mean_11 : decode cX7_mean 11 = .ok (.aload_n 0, 1) := by decide +kernel
theorem dX7_mean_12 : decode cX7_mean 12 = .ok (.invokevirtual 198, 3) := by decide +kernel
theorem dX7_mean_15 : decode cX7_mean 15 = .ok (.aload_n 0, 1) := by decide +kernel
theorem dX7_mean_16 : decode cX7_mean 16 = .ok (.iconst 0, 1) := by decide +kernel
theorem dX7_mean_17 : decode cX7_mean 17 = .ok (.invokevirtual 189, 3) := by decide +kernel
theorem dX7_mean_20 : decode cX7_mean 20 = .ok (.ldc2_w 185, 3) := by decide +kernel
theorem dX7_mean_23 : decode cX7_mean 23 = .ok (.iload_n 1, 1) := by decide +kernel
theorem dX7_mean_24 : decode cX7_mean 24 = .ok (.invokestatic 277, 3) := by decide +kernel
theorem dX7_mean_27 : decode cX7_mean 27 = .ok (.lreturn, 1) := by decide +kernel
theorem dX7_odds_0 : decode cX7_odds 0 = .ok (.aload_n 0, 1) := by decide +kernel
theorem dX7_odds_1 : decode cX7_odds 1 = .ok (.iload_n 1, 1) := by decide +kernel
theorem dX7_odds_2 : decode cX7_odds 2 = .ok (.invokevirtual 214, 3) := by decide +kernel
theorem dX7_odds_5 : decode cX7_odds 5 = .ok (.ifCond .eq 10, 3) := by decide +kernel
theorem dX7_odds_8 : decode cX7_odds 8 = .ok (.iload_n 2, 1) := by decide +kernel
theorem dX7_odds_9 : decode cX7_odds 9 = .ok (.invokestatic 261, 3) := by decide +kernel
theorem dX7_odds_12 : decode cX7_odds 12 = .ok (.ifCond .ne 7, 3) := by decide +kernel
theorem dX7_odds_15 : decode cX7_odds 15 = .ok (.ldc2_w 275, 3) := by decide +kernel
theorem dX7_odds_18 : decode cX7_odds 18 = .ok (.lreturn, 1) := by decide +kernel
theorem dX7_odds_19 : decode cX7_odds 19 = .ok (.lconst 1, 1) := by decide +kernel
theorem dX7_odds_20 : decode cX7_odds 20 = .ok (.lstore_n 3, 1) := by decide +kernel
theorem dX7_odds_21 : decode cX7_odds 21 = .ok (.lconst 1, 1) := by decide +kernel
theorem dX7_odds_22 : decode cX7_odds 22 = .ok (.lstore 5, 2) := by decide +kernel
theorem dX7_odds_24 : decode cX7_odds 24 = .ok (.iload_n 1, 1) := by decide +kernel
theorem dX7_odds_25 : decode cX7_odds 25 = .ok (.istore 7, 2) := by decide +kernel
theorem dX7_odds_27 : decode cX7_odds 27 = .ok (.iload 7, 2) := by decide +kernel
theorem dX7_odds_29 : decode cX7_odds 29 = .ok (.ifCond .le 62, 3) := by decide +kernel
theorem dX7_odds_32 : decode cX7_odds 32 = .ok (.aload_n 0, 1) := by decide +kernel
theorem dX7_odds_33 : decode cX7_odds 33 = .ok (.aload_n 0, 1) := by decide +kernel
theorem dX7_odds_34 : decode cX7_odds 34 = .ok (.iload 7, 2) := by decide +kernel
theorem dX7_odds_36 : decode cX7_odds 36 = .ok (.iconst 1, 1) := by decide +kernel
theorem dX7_odds_37 : decode cX7_odds 37 = .ok (.isub, 1) := by decide +kernel
theorem dX7_odds_38 : decode cX7_odds 38 = .ok (.iconst 2, 1) := by decide +kernel
theorem dX7_odds_39 : decode cX7_odds 39 = .ok (.idiv, 1) := by decide +kernel
theorem dX7_odds_40 : decode cX7_odds 40 = .ok (.invokevirtual 166, 3) := by decide +kernel
theorem dX7_odds_43 : decode cX7_odds 43 = .ok (.iconst 2, 1) := by decide +kernel
theorem dX7_odds_44 : decode cX7_odds 44 = .ok (.invokevirtual 156, 3) := by decide +kernel
theorem dX7_odds_47 : decode cX7_odds 47 = .ok (.istore 8, 2) := by decide +kernel
theorem dX7_odds_49 : decode cX7_odds 49 = .ok (.lload_n 3, 1) := by decide +kernel
theorem dX7_odds_50 : decode cX7_odds 50 = .ok (.iload 7, 2) := by decide +kernel
theorem dX7_odds_52 : decode cX7_odds 52 = .ok (.iconst 2, 1) := by decide +kernel
theorem dX7_odds_53 : decode cX7_odds 53 = .ok (.irem, 1) := by decide +kernel
theorem dX7_odds_54 : decode cX7_odds 54 = .ok (.iconst 1, 1) := by decide +kernel
theorem dX7_odds_55 : decode cX7_odds 55 = .ok (.if_icmp .ne 9, 3) := by decide +kernel
theorem dX7_odds_58 : decode cX7_odds 58 = .ok (.iload 8, 2) := by decide +kernel
theorem dX7_odds_60 : decode cX7_odds 60 = .ok (.i2l, 1) := by decide +kernel
theorem dX7_odds_61 : decode cX7_odds 61 = .ok (.goto 9, 3) := by decide +kernel
theorem dX7_odds_64 : decode cX7_odds 64 = .ok (.bipush 10, 2) := by decide +kernel
theorem dX7_odds_66 : decode cX7_odds 66 = .ok (.iload 8, 2) := by decide +kernel
theorem dX7_odds_68 : decode cX7_odds 68 = .ok (.isub, 1) := by decide +kernel
theorem dX7_odds_69 : decode cX7_odds 69 = .ok (.i2l, 1) := by decide +kernel
theorem dX7_odds_70 : decode cX7_odds 70 = .ok (.lmul, 1) := by decide +kernel
theorem dX7_odds_71 : decode cX7_odds 71 = .ok (.lstore_n 3, 1) := by decide +kernel
theorem dX7_odds_72 : decode cX7_odds 72 = .ok (.lload 5, 2) := by decide +kernel
theorem dX7_odds_74 : decode cX7_odds 74 = .ok (.ldc2_w 193, 3) := by decide +kernel
theorem dX7_odds_77 : decode cX7_odds 77 = .ok (.lmul, 1) := by decide +kernel
theorem dX7_odds_78 : decode cX7_odds 78 = .ok (.lstore 5, 2) := by decide +kernel
theorem dX7_odds_80 : decode cX7_odds 80 = .ok (.aload_n 0, 1) := by decide +kernel
theorem dX7_odds_81 : decode cX7_odds 81 = .ok (.iload 7, 2) := by decide +kernel
theorem dX7_odds_83 : decode cX7_odds 83 = .ok (.invokevirtual 169, 3) := by decide +kernel
theorem dX7_odds_86 : decode cX7_odds 86 = .ok (.istore 7, 2) := by decide +kernel
theorem dX7_odds_88 : decode cX7_odds 88 = .ok (.goto (-61), 3) := by decide +kernel
theorem dX7_odds_91 : decode cX7_odds 91 = .ok (.lload_n 3, 1) := by decide +kernel
theorem dX7_odds_92 : decode cX7_odds 92 = .ok (.lload 5, 2) := by decide +kernel
theorem dX7_odds_94 : decode cX7_odds 94 = .ok (.iload_n 2, 1) := by decide +kernel
theorem dX7_odds_95 : decode cX7_odds 95 = .ok (.invokestatic 277, 3) := by decide +kernel
theorem dX7_odds_98 : decode cX7_odds 98 = .ok (.lreturn, 1) := by decide +kernel
theorem dX7_isRead_0 : decode cX7_isRead 0 = .ok (.aload_n 0, 1) := by decide +kernel
theorem dX7_isRead_1 : decode cX7_isRead 1 = .ok (.iload_n 1, 1) := by decide +kernel
theorem dX7_isRead_2 : decode cX7_isRead 2 = .ok (.iconst 0, 1) := by decide +kernel
theorem dX7_isRead_3 : decode cX7_isRead 3 = .ok (.invokevirtual 156, 3) := by decide +kernel
theorem dX7_isRead_6 : decode cX7_isRead 6 = .ok (.istore_n 3, 1) := by decide +kernel
theorem dX7_isRead_7 : decode cX7_isRead 7 = .ok (.iload_n 3, 1) := by decide +kernel
theorem dX7_isRead_8 : decode cX7_isRead 8 = .ok (.iconst 5, 1) := by decide +kernel
theorem dX7_isRead_9 : decode cX7_isRead 9 = .ok (.if_icmp .ne 21, 3) := by decide +kernel
theorem dX7_isRead_12 : decode cX7_isRead 12 = .ok (.aload_n 0, 1) := by decide +kernel
theorem dX7_isRead_13 : decode cX7_isRead 13 = .ok (.iload_n 1, 1) := by decide +kernel
theorem dX7_isRead_14 : decode cX7_isRead 14 = .ok (.iconst 1, 1) := by decide +kernel
theorem dX7_isRead_15 : decode cX7_isRead 15 = .ok (.invokevirtual 156, 3) := by decide +kernel
theorem dX7_isRead_18 : decode cX7_isRead 18 = .ok (.iload_n 2, 1) := by decide +kernel
theorem dX7_isRead_19 : decode cX7_isRead 19 = .ok (.if_icmp .ne 7, 3) := by decide +kernel
theorem dX7_isRead_22 : decode cX7_isRead 22 = .ok (.iconst 1, 1) := by decide +kernel
theorem dX7_isRead_23 : decode cX7_isRead 23 = .ok (.goto 36, 3) := by decide +kernel
theorem dX7_isRead_26 : decode cX7_isRead 26 = .ok (.iconst 0, 1) := by decide +kernel
theorem dX7_isRead_27 : decode cX7_isRead 27 = .ok (.goto 32, 3) := by decide +kernel
theorem dX7_isRead_30 : decode cX7_isRead 30 = .ok (.iload_n 3, 1) := by decide +kernel
theorem dX7_isRead_31 : decode cX7_isRead 31 = .ok (.ifCond .eq 27, 3) := by decide +kernel
theorem dX7_isRead_34 : decode cX7_isRead 34 = .ok (.aload_n 0, 1) := by decide +kernel
theorem dX7_isRead_35 : decode cX7_isRead 35 = .ok (.iload_n 1, 1) := by decide +kernel
theorem dX7_isRead_36 : decode cX7_isRead 36 = .ok (.iconst 2, 1) := by decide +kernel
theorem dX7_isRead_37 : decode cX7_isRead 37 = .ok (.invokevirtual 156, 3) := by decide +kernel
theorem dX7_isRead_40 : decode cX7_isRead 40 = .ok (.iload_n 2, 1) := by decide +kernel
theorem dX7_isRead_41 : decode cX7_isRead 41 = .ok (.if_icmp .eq 13, 3) := by decide +kernel
theorem dX7_isRead_44 : decode cX7_isRead 44 = .ok (.aload_n 0, 1) := by decide +kernel
theorem dX7_isRead_45 : decode cX7_isRead 45 = .ok (.iload_n 1, 1) := by decide +kernel
theorem dX7_isRead_46 : decode cX7_isRead 46 = .ok (.iconst 3, 1) := by decide +kernel
theorem dX7_isRead_47 : decode cX7_isRead 47 = .ok (.invokevirtual 156, 3) := by decide +kernel
theorem dX7_isRead_50 : decode cX7_isRead 50 = .ok (.iload_n 2, 1) := by decide +kernel
theorem dX7_isRead_51 : decode cX7_isRead 51 = .ok (.if_icmp .ne 7, 3) := by decide +kernel
theorem dX7_isRead_54 : decode cX7_isRead 54 = .ok (.iconst 1, 1) := by decide +kernel
theorem dX7_isRead_55 : decode cX7_isRead 55 = .ok (.goto 4, 3) := by decide +kernel
theorem dX7_isRead_58 : decode cX7_isRead 58 = .ok (.iconst 0, 1) := by decide +kernel
theorem dX7_isRead_59 : decode cX7_isRead 59 = .ok (.ireturn, 1) := by decide +kernel
theorem dX7_isLiveBy_0 : decode cX7_isLiveBy 0 = .ok (.aload_n 0, 1) := by decide +kernel
theorem dX7_isLiveBy_1 : decode cX7_isLiveBy 1 = .ok (.aload_n 0, 1) := by decide +kernel
theorem dX7_isLiveBy_2 : decode cX7_isLiveBy 2 = .ok (.iload_n 1, 1) := by decide +kernel
theorem dX7_isLiveBy_3 : decode cX7_isLiveBy 3 = .ok (.iconst 4, 1) := by decide +kernel
theorem dX7_isLiveBy_4 : decode cX7_isLiveBy 4 = .ok (.invokevirtual 156, 3) := by decide +kernel
theorem dX7_isLiveBy_7 : decode cX7_isLiveBy 7 = .ok (.iload_n 2, 1) := by decide +kernel
theorem dX7_isLiveBy_8 : decode cX7_isLiveBy 8 = .ok (.invokevirtual 220, 3) := by decide +kernel
theorem dX7_isLiveBy_11 : decode cX7_isLiveBy 11 = .ok (.ifCond .ne 5, 3) := by decide +kernel
theorem dX7_isLiveBy_14 : decode cX7_isLiveBy 14 = .ok (.iconst 0, 1) := by decide +kernel
theorem dX7_isLiveBy_15 : decode cX7_isLiveBy 15 = .ok (.ireturn, 1) := by decide +kernel
theorem dX7_isLiveBy_16 : decode cX7_isLiveBy 16 = .ok (.aload_n 0, 1) := by decide +kernel
theorem dX7_isLiveBy_17 : decode cX7_isLiveBy 17 = .ok (.iload_n 1, 1) := by decide +kernel
theorem dX7_isLiveBy_18 : decode cX7_isLiveBy 18 = .ok (.iconst 1, 1) := by decide +kernel
theorem dX7_isLiveBy_19 : decode cX7_isLiveBy 19 = .ok (.invokevirtual 156, 3) := by decide +kernel
theorem dX7_isLiveBy_22 : decode cX7_isLiveBy 22 = .ok (.istore_n 3, 1) := by decide +kernel
theorem dX7_isLiveBy_23 : decode cX7_isLiveBy 23 = .ok (.iload_n 1, 1) := by decide +kernel
theorem dX7_isLiveBy_24 : decode cX7_isLiveBy 24 = .ok (.iconst 1, 1) := by decide +kernel
theorem dX7_isLiveBy_25 : decode cX7_isLiveBy 25 = .ok (.iadd, 1) := by decide +kernel
theorem dX7_isLiveBy_26 : decode cX7_isLiveBy 26 = .ok (.istore 4, 2) := by decide +kernel
theorem dX7_isLiveBy_28 : decode cX7_isLiveBy 28 = .ok (.iload 4, 2) := by decide +kernel
theorem dX7_isLiveBy_30 : decode cX7_isLiveBy 30 = .ok (.aload_n 0, 1) := by decide +kernel
theorem dX7_isLiveBy_31 : decode cX7_isLiveBy 31 = .ok (.getfield 7, 3) := by decide +kernel
theorem dX7_isLiveBy_34 : decode cX7_isLiveBy 34 = .ok (.bipush 120, 2) := by decide +kernel
theorem dX7_isLiveBy_36 : decode cX7_isLiveBy 36 = .ok (.iaload, 1) := by decide +kernel
theorem dX7_isLiveBy_37 : decode cX7_isLiveBy 37 = .ok (.if_icmp .ge 60, 3) := by decide +kernel
theorem dX7_isLiveBy_40 : decode cX7_isLiveBy 40 = .ok (.aload_n 0, 1) := by decide +kernel
theorem dX7_isLiveBy_41 : decode cX7_isLiveBy 41 = .ok (.aload_n 0, 1) := by decide +kernel
theorem dX7_isLiveBy_42 : decode cX7_isLiveBy 42 = .ok (.iload 4, 2) := by decide +kernel
theorem dX7_isLiveBy_44 : decode cX7_isLiveBy 44 = .ok (.iconst 4, 1) := by decide +kernel
theorem dX7_isLiveBy_45 : decode cX7_isLiveBy 45 = .ok (.invokevirtual 156, 3) := by decide +kernel
theorem dX7_isLiveBy_48 : decode cX7_isLiveBy 48 = .ok (.iload_n 2, 1) := by decide +kernel
theorem dX7_isLiveBy_49 : decode cX7_isLiveBy 49 = .ok (.invokevirtual 220, 3) := by decide +kernel
theorem dX7_isLiveBy_52 : decode cX7_isLiveBy 52 = .ok (.ifCond .eq 39, 3) := by decide +kernel
theorem dX7_isLiveBy_55 : decode cX7_isLiveBy 55 = .ok (.aload_n 0, 1) := by decide +kernel
theorem dX7_isLiveBy_56 : decode cX7_isLiveBy 56 = .ok (.iload 4, 2) := by decide +kernel
theorem dX7_isLiveBy_58 : decode cX7_isLiveBy 58 = .ok (.iload_n 3, 1) := by decide +kernel
theorem dX7_isLiveBy_59 : decode cX7_isLiveBy 59 = .ok (.invokevirtual 281, 3) := by decide +kernel
theorem dX7_isLiveBy_62 : decode cX7_isLiveBy 62 = .ok (.ifCond .eq 5, 3) := by decide +kernel
theorem dX7_isLiveBy_65 : decode cX7_isLiveBy 65 = .ok (.iconst 1, 1) := by decide +kernel
theorem dX7_isLiveBy_66 : decode cX7_isLiveBy 66 = .ok (.ireturn, 1) := by decide +kernel
theorem dX7_isLiveBy_67 : decode cX7_isLiveBy 67 = .ok (.aload_n 0, 1) := by decide +kernel
theorem dX7_isLiveBy_68 : decode cX7_isLiveBy 68 = .ok (.iload 4, 2) := by decide +kernel
theorem dX7_isLiveBy_70 : decode cX7_isLiveBy 70 = .ok (.iconst 0, 1) := by decide +kernel
theorem dX7_isLiveBy_71 : decode cX7_isLiveBy 71 = .ok (.invokevirtual 156, 3) := by decide +kernel
theorem dX7_isLiveBy_74 : decode cX7_isLiveBy 74 = .ok (.iconst 5, 1) := by decide +kernel
theorem dX7_isLiveBy_75 : decode cX7_isLiveBy 75 = .ok (.if_icmp .eq 16, 3) := by decide +kernel
theorem dX7_isLiveBy_78 : decode cX7_isLiveBy 78 = .ok (.aload_n 0, 1) := by decide +kernel
theorem dX7_isLiveBy_79 : decode cX7_isLiveBy 79 = .ok (.iload 4, 2) := by decide +kernel
theorem dX7_isLiveBy_81 : decode cX7_isLiveBy 81 = .ok (.iconst 1, 1) := by decide +kernel
theorem dX7_isLiveBy_82 : decode cX7_isLiveBy 82 = .ok (.invokevirtual 156, 3) := by decide +kernel
theorem dX7_isLiveBy_85 : decode cX7_isLiveBy 85 = .ok (.iload_n 3, 1) := by decide +kernel
theorem dX7_isLiveBy_86 : decode cX7_isLiveBy 86 = .ok (.if_icmp .ne 5, 3) := by decide +kernel
theorem dX7_isLiveBy_89 : decode cX7_isLiveBy 89 = .ok (.iconst 0, 1) := by decide +kernel
theorem dX7_isLiveBy_90 : decode cX7_isLiveBy 90 = .ok (.ireturn, 1) := by decide +kernel
theorem dX7_isLiveBy_91 : decode cX7_isLiveBy 91 = .ok (.iinc 4 1, 3) := by decide +kernel
theorem dX7_isLiveBy_94 : decode cX7_isLiveBy 94 = .ok (.goto (-66), 3) := by decide +kernel
theorem dX7_isLiveBy_97 : decode cX7_isLiveBy 97 = .ok (.aload_n 0, 1) := by decide +kernel
theorem dX7_isLiveBy_98 : decode cX7_isLiveBy 98 = .ok (.getfield 7, 3) := by decide +kernel
theorem dX7_isLiveBy_101 : decode cX7_isLiveBy 101 = .ok (.bipush 121, 2) := by decide +kernel
theorem dX7_isLiveBy_103 : decode cX7_isLiveBy 103 = .ok (.iaload, 1) := by decide +kernel
theorem dX7_isLiveBy_104 : decode cX7_isLiveBy 104 = .ok (.iload_n 3, 1) := by decide +kernel
theorem dX7_isLiveBy_105 : decode cX7_isLiveBy 105 = .ok (.ishr, 1) := by decide +kernel
theorem dX7_isLiveBy_106 : decode cX7_isLiveBy 106 = .ok (.iconst 1, 1) := by decide +kernel
theorem dX7_isLiveBy_107 : decode cX7_isLiveBy 107 = .ok (.iand, 1) := by decide +kernel
theorem dX7_isLiveBy_108 : decode cX7_isLiveBy 108 = .ok (.iconst 1, 1) := by decide +kernel
theorem dX7_isLiveBy_109 : decode cX7_isLiveBy 109 = .ok (.if_icmp .ne 7, 3) := by decide +kernel
theorem dX7_isLiveBy_112 : decode cX7_isLiveBy 112 = .ok (.iconst 1, 1) := by decide +kernel
theorem dX7_isLiveBy_113 : decode cX7_isLiveBy 113 = .ok (.goto 4, 3) := by decide +kernel
theorem dX7_isLiveBy_116 : decode cX7_isLiveBy 116 = .ok (.iconst 0, 1) := by decide +kernel
theorem dX7_isLiveBy_117 : decode cX7_isLiveBy 117 = .ok (.ireturn, 1) := by decide +kernel
theorem dX7_isLive_0 : decode cX7_isLive 0 = .ok (.iconst 0, 1) := by decide +kernel
theorem dX7_isLive_1 : decode cX7_isLive 1 = .ok (.istore_n 2, 1) := by decide +kernel
theorem dX7_isLive_2 : decode cX7_isLive 2 = .ok (.iconst 0, 1) := by decide +kernel
theorem dX7_isLive_3 : decode cX7_isLive 3 = .ok (.istore_n 3, 1) := by decide +kernel
theorem dX7_isLive_4 : decode cX7_isLive 4 = .ok (.iload_n 3, 1) := by decide +kernel
theorem dX7_isLive_5 : decode cX7_isLive 5 = .ok (.iconst 1, 1) := by decide +kernel
theorem dX7_isLive_6 : decode cX7_isLive 6 = .ok (.aload_n 0, 1) := by decide +kernel
theorem dX7_isLive_7 : decode cX7_isLive 7 = .ok (.invokevirtual 163, 3) := by decide +kernel
theorem dX7_isLive_10 : decode cX7_isLive 10 = .ok (.ishl, 1) := by decide +kernel
theorem dX7_isLive_11 : decode cX7_isLive 11 = .ok (.if_icmp .ge 20, 3) := by decide +kernel
theorem dX7_isLive_14 : decode cX7_isLive 14 = .ok (.iload_n 2, 1) := by decide +kernel
theorem dX7_isLive_15 : decode cX7_isLive 15 = .ok (.ifCond .ne 16, 3) := by decide +kernel
theorem dX7_isLive_18 : decode cX7_isLive 18 = .ok (.aload_n 0, 1) := by decide +kernel
theorem dX7_isLive_19 : decode cX7_isLive 19 = .ok (.iload_n 1, 1) := by decide +kernel
theorem dX7_isLive_20 : decode cX7_isLive 20 = .ok (.iload_n 3, 1) := by decide +kernel
theorem dX7_isLive_21 : decode cX7_isLive 21 = .ok (.invokevirtual 284, 3) := by decide +kernel
theorem dX7_isLive_24 : decode cX7_isLive 24 = .ok (.istore_n 2, 1) := by decide +kernel
theorem dX7_isLive_25 : decode cX7_isLive 25 = .ok (.iinc 3 1, 3) := by decide +kernel
theorem dX7_isLive_28 : decode cX7_isLive 28 = .ok (.goto (-24), 3) := by decide +kernel
theorem dX7_isLive_31 : decode cX7_isLive 31 = .ok (.iload_n 2, 1) := by decide +kernel
theorem dX7_isLive_32 : decode cX7_isLive 32 = .ok (.ireturn, 1) := by decide +kernel
theorem dX7_live_0 : decode cX7_live 0 = .ok (.aload_n 0, 1) := by decide +kernel
theorem dX7_live_1 : decode cX7_live 1 = .ok (.iload_n 1, 1) := by decide +kernel
theorem dX7_live_2 : decode cX7_live 2 = .ok (.invokevirtual 210, 3) := by decide +kernel
theorem dX7_live_5 : decode cX7_live 5 = .ok (.ifCond .eq 24, 3) := by decide +kernel
theorem dX7_live_8 : decode cX7_live 8 = .ok (.aload_n 0, 1) := by decide +kernel
theorem dX7_live_9 : decode cX7_live 9 = .ok (.iload_n 1, 1) := by decide +kernel
theorem dX7_live_10 : decode cX7_live 10 = .ok (.iconst 0, 1) := by decide +kernel
theorem dX7_live_11 : decode cX7_live 11 = .ok (.invokevirtual 156, 3) := by decide +kernel
theorem dX7_live_14 : decode cX7_live 14 = .ok (.iconst 5, 1) := by decide +kernel
theorem dX7_live_15 : decode cX7_live 15 = .ok (.if_icmp .eq 14, 3) := by decide +kernel
theorem dX7_live_18 : decode cX7_live 18 = .ok (.aload_n 0, 1) := by decide +kernel
theorem dX7_live_19 : decode cX7_live 19 = .ok (.iload_n 1, 1) := by decide +kernel
theorem dX7_live_20 : decode cX7_live 20 = .ok (.invokevirtual 287, 3) := by decide +kernel
theorem dX7_live_23 : decode cX7_live 23 = .ok (.invokestatic 159, 3) := by decide +kernel
theorem dX7_live_26 : decode cX7_live 26 = .ok (.goto 4, 3) := by decide +kernel
theorem dX7_live_29 : decode cX7_live 29 = .ok (.iconst (-1), 1) := by decide +kernel
theorem dX7_live_30 : decode cX7_live 30 = .ok (.ireturn, 1) := by decide +kernel
theorem dX7_out_0 : decode cX7_out 0 = .ok (.iload_n 1, 1) := by decide +kernel
theorem dX7_out_1 : decode cX7_out 1 = .ok (.i2l, 1) := by decide +kernel
theorem dX7_out_2 : decode cX7_out 2 = .ok (.lconst 0, 1) := by decide +kernel
theorem dX7_out_3 : decode cX7_out 3 = .ok (.ldc2_w 290, 3) := by decide +kernel
theorem dX7_out_6 : decode cX7_out 6 = .ok (.invokestatic 78, 3) := by decide +kernel
theorem dX7_out_9 : decode cX7_out 9 = .ok (.ifCond .eq 13, 3) := by decide +kernel
theorem dX7_out_12 : decode cX7_out 12 = .ok (.aload_n 0, 1) := by decide +kernel
theorem dX7_out_13 : decode cX7_out 13 = .ok (.bipush 121, 2) := by decide +kernel
theorem dX7_out_15 : decode cX7_out 15 = .ok (.iload_n 1, 1) := by decide +kernel
theorem dX7_out_16 : decode cX7_out 16 = .ok (.invokevirtual 272, 3) := by decide +kernel
theorem dX7_out_19 : decode cX7_out 19 = .ok (.goto 4, 3) := by decide +kernel
theorem dX7_out_22 : decode cX7_out 22 = .ok (.iconst (-1), 1) := by decide +kernel
theorem dX7_out_23 : decode cX7_out 23 = .ok (.ireturn, 1) := by decide +kernel
theorem dX7_codeGoes_0 : decode cX7_codeGoes 0 = .ok (.iconst 5, 1) := by decide +kernel
theorem dX7_codeGoes_1 : decode cX7_codeGoes 1 = .ok (.iload_n 1, 1) := by decide +kernel
theorem dX7_codeGoes_2 : decode cX7_codeGoes 2 = .ok (.imul, 1) := by decide +kernel
theorem dX7_codeGoes_3 : decode cX7_codeGoes 3 = .ok (.istore_n 2, 1) := by decide +kernel
theorem dX7_codeGoes_4 : decode cX7_codeGoes 4 = .ok (.iload_n 2, 1) := by decide +kernel
theorem dX7_codeGoes_5 : decode cX7_codeGoes 5 = .ok (.iconst 5, 1) := by decide +kernel
theorem dX7_codeGoes_6 : decode cX7_codeGoes 6 = .ok (.aload_n 0, 1) := by decide +kernel
theorem dX7_codeGoes_7 : decode cX7_codeGoes 7 = .ok (.getfield 7, 3) := by decide +kernel
theorem dX7_codeGoes_10 : decode cX7_codeGoes 10 = .ok (.bipush 120, 2) := by decide +kernel
theorem dX7_codeGoes_12 : decode cX7_codeGoes 12 = .ok (.iaload, 1) := by decide +kernel
theorem dX7_codeGoes_13 : decode cX7_codeGoes 13 = .ok (.iconst 1, 1) := by decide +kernel
theorem dX7_codeGoes_14 : decode cX7_codeGoes 14 = .ok (.isub, 1) := by decide +kernel
theorem dX7_codeGoes_15 : decode cX7_codeGoes 15 = .ok (.imul, 1) := by decide +kernel
theorem dX7_codeGoes_16 : decode cX7_codeGoes 16 = .ok (.if_icmp .ge 23, 3) := by decide +kernel
theorem dX7_codeGoes_19 : decode cX7_codeGoes 19 = .ok (.aload_n 0, 1) := by decide +kernel
theorem dX7_codeGoes_20 : decode cX7_codeGoes 20 = .ok (.getfield 7, 3) := by decide +kernel
theorem dX7_codeGoes_23 : decode cX7_codeGoes 23 = .ok (.iload_n 2, 1) := by decide +kernel
theorem dX7_codeGoes_24 : decode cX7_codeGoes 24 = .ok (.aload_n 0, 1) := by decide +kernel
theorem dX7_codeGoes_25 : decode cX7_codeGoes 25 = .ok (.getfield 7, 3) := by decide +kernel
theorem dX7_codeGoes_28 : decode cX7_codeGoes 28 = .ok (.iload_n 2, 1) := by decide +kernel
theorem dX7_codeGoes_29 : decode cX7_codeGoes 29 = .ok (.iconst 5, 1) := by decide +kernel
theorem dX7_codeGoes_30 : decode cX7_codeGoes 30 = .ok (.iadd, 1) := by decide +kernel
theorem dX7_codeGoes_31 : decode cX7_codeGoes 31 = .ok (.iaload, 1) := by decide +kernel
theorem dX7_codeGoes_32 : decode cX7_codeGoes 32 = .ok (.iastore, 1) := by decide +kernel
theorem dX7_codeGoes_33 : decode cX7_codeGoes 33 = .ok (.iinc 2 1, 3) := by decide +kernel
theorem dX7_codeGoes_36 : decode cX7_codeGoes 36 = .ok (.goto (-32), 3) := by decide +kernel
theorem dX7_codeGoes_39 : decode cX7_codeGoes 39 = .ok (.aload_n 0, 1) := by decide +kernel
theorem dX7_codeGoes_40 : decode cX7_codeGoes 40 = .ok (.getfield 7, 3) := by decide +kernel
theorem dX7_codeGoes_43 : decode cX7_codeGoes 43 = .ok (.bipush 120, 2) := by decide +kernel
theorem dX7_codeGoes_45 : decode cX7_codeGoes 45 = .ok (.dup2, 1) := by decide +kernel
theorem dX7_codeGoes_46 : decode cX7_codeGoes 46 = .ok (.iaload, 1) := by decide +kernel
theorem dX7_codeGoes_47 : decode cX7_codeGoes 47 = .ok (.iconst 1, 1) := by decide +kernel
theorem dX7_codeGoes_48 : decode cX7_codeGoes 48 = .ok (.isub, 1) := by decide +kernel
theorem dX7_codeGoes_49 : decode cX7_codeGoes 49 = .ok (.iastore, 1) := by decide +kernel
theorem dX7_codeGoes_50 : decode cX7_codeGoes 50 = .ok (.return_, 1) := by decide +kernel
theorem dX7_sweepOnce_0 : decode cX7_sweepOnce 0 = .ok (.iconst 0, 1) := by decide +kernel
theorem dX7_sweepOnce_1 : decode cX7_sweepOnce 1 = .ok (.istore_n 1, 1) := by decide +kernel
theorem dX7_sweepOnce_2 : decode cX7_sweepOnce 2 = .ok (.iconst 0, 1) := by decide +kernel
theorem dX7_sweepOnce_3 : decode cX7_sweepOnce 3 = .ok (.istore_n 2, 1) := by decide +kernel
theorem dX7_sweepOnce_4 : decode cX7_sweepOnce 4 = .ok (.iload_n 2, 1) := by decide +kernel
theorem dX7_sweepOnce_5 : decode cX7_sweepOnce 5 = .ok (.aload_n 0, 1) := by decide +kernel
theorem dX7_sweepOnce_6 : decode cX7_sweepOnce 6 = .ok (.getfield 7, 3) := by decide +kernel
theorem dX7_sweepOnce_9 : decode cX7_sweepOnce 9 = .ok (.bipush 120, 2) := by decide +kernel
theorem dX7_sweepOnce_11 : decode cX7_sweepOnce 11 = .ok (.iaload, 1) := by decide +kernel
theorem dX7_sweepOnce_12 : decode cX7_sweepOnce 12 = .ok (.if_icmp .ge 50, 3) := by decide +kernel
theorem dX7_sweepOnce_15 : decode cX7_sweepOnce 15 = .ok (.aload_n 0, 1) := by decide +kernel
theorem dX7_sweepOnce_16 : decode cX7_sweepOnce 16 = .ok (.getfield 51, 3) := by decide +kernel
theorem dX7_sweepOnce_19 : decode cX7_sweepOnce 19 = .ok (.iload_n 2, 1) := by decide +kernel
theorem dX7_sweepOnce_20 : decode cX7_sweepOnce 20 = .ok (.aload_n 0, 1) := by decide +kernel
theorem dX7_sweepOnce_21 : decode cX7_sweepOnce 21 = .ok (.iload_n 2, 1) := by decide +kernel
theorem dX7_sweepOnce_22 : decode cX7_sweepOnce 22 = .ok (.iconst 0, 1) := by decide +kernel
theorem dX7_sweepOnce_23 : decode cX7_sweepOnce 23 = .ok (.invokevirtual 156, 3) := by decide +kernel
theorem dX7_sweepOnce_26 : decode cX7_sweepOnce 26 = .ok (.iconst 4, 1) := by decide +kernel
theorem dX7_sweepOnce_27 : decode cX7_sweepOnce 27 = .ok (.if_icmp .ge 15, 3) := by decide +kernel
theorem dX7_sweepOnce_30 : decode cX7_sweepOnce 30 = .ok (.aload_n 0, 1) := by decide +kernel
theorem dX7_sweepOnce_31 : decode cX7_sweepOnce 31 = .ok (.iload_n 2, 1) := by decide +kernel
theorem dX7_sweepOnce_32 : decode cX7_sweepOnce 32 = .ok (.invokevirtual 287, 3) := by decide +kernel
theorem dX7_sweepOnce_35 : decode cX7_sweepOnce 35 = .ok (.ifCond .ne 7, 3) := by decide +kernel
theorem dX7_sweepOnce_38 : decode cX7_sweepOnce 38 = .ok (.iconst 1, 1) := by decide +kernel
theorem dX7_sweepOnce_39 : decode cX7_sweepOnce 39 = .ok (.goto 4, 3) := by decide +kernel
theorem dX7_sweepOnce_42 : decode cX7_sweepOnce 42 = .ok (.iconst 0, 1) := by decide +kernel
theorem dX7_sweepOnce_43 : decode cX7_sweepOnce 43 = .ok (.bastore, 1) := by decide +kernel
theorem dX7_sweepOnce_44 : decode cX7_sweepOnce 44 = .ok (.iload_n 1, 1) := by decide +kernel
theorem dX7_sweepOnce_45 : decode cX7_sweepOnce 45 = .ok (.aload_n 0, 1) := by decide +kernel
theorem dX7_sweepOnce_46 : decode cX7_sweepOnce 46 = .ok (.getfield 51, 3) := by decide +kernel
theorem dX7_sweepOnce_49 : decode cX7_sweepOnce 49 = .ok (.iload_n 2, 1) := by decide +kernel
theorem dX7_sweepOnce_50 : decode cX7_sweepOnce 50 = .ok (.baload, 1) := by decide +kernel
theorem dX7_sweepOnce_51 : decode cX7_sweepOnce 51 = .ok (.invokestatic 159, 3) := by decide +kernel
theorem dX7_sweepOnce_54 : decode cX7_sweepOnce 54 = .ok (.iadd, 1) := by decide +kernel
theorem dX7_sweepOnce_55 : decode cX7_sweepOnce 55 = .ok (.istore_n 1, 1) := by decide +kernel
theorem dX7_sweepOnce_56 : decode cX7_sweepOnce 56 = .ok (.iinc 2 1, 3) := by decide +kernel
theorem dX7_sweepOnce_59 : decode cX7_sweepOnce 59 = .ok (.goto (-55), 3) := by decide +kernel
theorem dX7_sweepOnce_62 : decode cX7_sweepOnce 62 = .ok (.aload_n 0, 1) := by decide +kernel
theorem dX7_sweepOnce_63 : decode cX7_sweepOnce 63 = .ok (.getfield 7, 3) := by decide +kernel
theorem dX7_sweepOnce_66 : decode cX7_sweepOnce 66 = .ok (.bipush 120, 2) := by decide +kernel
theorem dX7_sweepOnce_68 : decode cX7_sweepOnce 68 = .ok (.iaload, 1) := by decide +kernel
theorem dX7_sweepOnce_69 : decode cX7_sweepOnce 69 = .ok (.iconst 1, 1) := by decide +kernel
theorem dX7_sweepOnce_70 : decode cX7_sweepOnce 70 = .ok (.isub, 1) := by decide +kernel
theorem dX7_sweepOnce_71 : decode cX7_sweepOnce 71 = .ok (.istore_n 2, 1) := by decide +kernel
theorem dX7_sweepOnce_72 : decode cX7_sweepOnce 72 = .ok (.iload_n 2, 1) := by decide +kernel
theorem dX7_sweepOnce_73 : decode cX7_sweepOnce 73 = .ok (.ifCond .lt 23, 3) := by decide +kernel
theorem dX7_sweepOnce_76 : decode cX7_sweepOnce 76 = .ok (.aload_n 0, 1) := by decide +kernel
theorem dX7_sweepOnce_77 : decode cX7_sweepOnce 77 = .ok (.getfield 51, 3) := by decide +kernel
theorem dX7_sweepOnce_80 : decode cX7_sweepOnce 80 = .ok (.iload_n 2, 1) := by decide +kernel
theorem dX7_sweepOnce_81 : decode cX7_sweepOnce 81 = .ok (.baload, 1) := by decide +kernel
theorem dX7_sweepOnce_82 : decode cX7_sweepOnce 82 = .ok (.ifCond .eq 8, 3) := by decide +kernel
theorem dX7_sweepOnce_85 : decode cX7_sweepOnce 85 = .ok (.aload_n 0, 1) := by decide +kernel
theorem dX7_sweepOnce_86 : decode cX7_sweepOnce 86 = .ok (.iload_n 2, 1) := by decide +kernel
theorem dX7_sweepOnce_87 : decode cX7_sweepOnce 87 = .ok (.invokevirtual 292, 3) := by decide +kernel
theorem dX7_sweepOnce_90 : decode cX7_sweepOnce 90 = .ok (.iinc 2 (-1), 3) := by decide +kernel
theorem dX7_sweepOnce_93 : decode cX7_sweepOnce 93 = .ok (.goto (-21), 3) := by decide +kernel
theorem dX7_sweepOnce_96 : decode cX7_sweepOnce 96 = .ok (.iload_n 1, 1) := by decide +kernel
theorem dX7_sweepOnce_97 : decode cX7_sweepOnce 97 = .ok (.ireturn, 1) := by decide +kernel
theorem dX7_sweep_0 : decode cX7_sweep 0 = .ok (.iconst 0, 1) := by decide +kernel
theorem dX7_sweep_1 : decode cX7_sweep 1 = .ok (.istore_n 1, 1) := by decide +kernel
theorem dX7_sweep_2 : decode cX7_sweep 2 = .ok (.aload_n 0, 1) := by decide +kernel
theorem dX7_sweep_3 : decode cX7_sweep 3 = .ok (.invokevirtual 295, 3) := by decide +kernel
theorem dX7_sweep_6 : decode cX7_sweep 6 = .ok (.istore_n 2, 1) := by decide +kernel
theorem dX7_sweep_7 : decode cX7_sweep 7 = .ok (.iload_n 2, 1) := by decide +kernel
theorem dX7_sweep_8 : decode cX7_sweep 8 = .ok (.ifCond .le 15, 3) := by decide +kernel
theorem dX7_sweep_11 : decode cX7_sweep 11 = .ok (.iload_n 1, 1) := by decide +kernel
theorem dX7_sweep_12 : decode cX7_sweep 12 = .ok (.iload_n 2, 1) := by decide +kernel
theorem dX7_sweep_13 : decode cX7_sweep 13 = .ok (.iadd, 1) := by decide +kernel
theorem dX7_sweep_14 : decode cX7_sweep 14 = .ok (.istore_n 1, 1) := by decide +kernel
theorem dX7_sweep_15 : decode cX7_sweep 15 = .ok (.aload_n 0, 1) := by decide +kernel
theorem dX7_sweep_16 : decode cX7_sweep 16 = .ok (.invokevirtual 295, 3) := by decide +kernel
theorem dX7_sweep_19 : decode cX7_sweep 19 = .ok (.istore_n 2, 1) := by decide +kernel
theorem dX7_sweep_20 : decode cX7_sweep 20 = .ok (.goto (-13), 3) := by decide +kernel
theorem dX7_sweep_23 : decode cX7_sweep 23 = .ok (.iload_n 1, 1) := by decide +kernel
theorem dX7_sweep_24 : decode cX7_sweep 24 = .ok (.ireturn, 1) := by decide +kernel
theorem dX7_firstUnder_0 : decode cX7_firstUnder 0 = .ok (.iconst 0, 1) := by decide +kernel
theorem dX7_firstUnder_1 : decode cX7_firstUnder 1 = .ok (.istore_n 2, 1) := by decide +kernel
theorem dX7_firstUnder_2 : decode cX7_firstUnder 2 = .ok (.iload_n 2, 1) := by decide +kernel
theorem dX7_firstUnder_3 : decode cX7_firstUnder 3 = .ok (.aload_n 0, 1) := by decide +kernel
theorem dX7_firstUnder_4 : decode cX7_firstUnder 4 = .ok (.getfield 7, 3) := by decide +kernel
theorem dX7_firstUnder_7 : decode cX7_firstUnder 7 = .ok (.bipush 120, 2) := by decide +kernel
theorem dX7_firstUnder_9 : decode cX7_firstUnder 9 = .ok (.iaload, 1) := by decide +kernel
theorem dX7_firstUnder_10 : decode cX7_firstUnder 10 = .ok (.if_icmp .ge 21, 3) := by decide +kernel
theorem dX7_firstUnder_13 : decode cX7_firstUnder 13 = .ok (.aload_n 0, 1) := by decide +kernel
theorem dX7_firstUnder_14 : decode cX7_firstUnder 14 = .ok (.iload_n 2, 1) := by decide +kernel
theorem dX7_firstUnder_15 : decode cX7_firstUnder 15 = .ok (.iconst 4, 1) := by decide +kernel
theorem dX7_firstUnder_16 : decode cX7_firstUnder 16 = .ok (.invokevirtual 156, 3) := by decide +kernel
theorem dX7_firstUnder_19 : decode cX7_firstUnder 19 = .ok (.iload_n 1, 1) := by decide +kernel
theorem dX7_firstUnder_20 : decode cX7_firstUnder 20 = .ok (.if_icmp .ne 5, 3) := by decide +kernel
theorem dX7_firstUnder_23 : decode cX7_firstUnder 23 = .ok (.iload_n 2, 1) := by decide +kernel
theorem dX7_firstUnder_24 : decode cX7_firstUnder 24 = .ok (.ireturn, 1) := by decide +kernel
theorem dX7_firstUnder_25 : decode cX7_firstUnder 25 = .ok (.iinc 2 1, 3) := by decide +kernel
theorem dX7_firstUnder_28 : decode cX7_firstUnder 28 = .ok (.goto (-26), 3) := by decide +kernel
theorem dX7_firstUnder_31 : decode cX7_firstUnder 31 = .ok (.bipush (-4), 2) := by decide +kernel
theorem dX7_firstUnder_33 : decode cX7_firstUnder 33 = .ok (.ireturn, 1) := by decide +kernel
theorem dX7_isAlike_0 : decode cX7_isAlike 0 = .ok (.aload_n 0, 1) := by decide +kernel
theorem dX7_isAlike_1 : decode cX7_isAlike 1 = .ok (.iload_n 1, 1) := by decide +kernel
theorem dX7_isAlike_2 : decode cX7_isAlike 2 = .ok (.iconst 0, 1) := by decide +kernel
theorem dX7_isAlike_3 : decode cX7_isAlike 3 = .ok (.invokevirtual 156, 3) := by decide +kernel
theorem dX7_isAlike_6 : decode cX7_isAlike 6 = .ok (.iconst 5, 1) := by decide +kernel
theorem dX7_isAlike_7 : decode cX7_isAlike 7 = .ok (.if_icmp .eq 7, 3) := by decide +kernel
theorem dX7_isAlike_10 : decode cX7_isAlike 10 = .ok (.iconst 1, 1) := by decide +kernel
theorem dX7_isAlike_11 : decode cX7_isAlike 11 = .ok (.goto 4, 3) := by decide +kernel
theorem dX7_isAlike_14 : decode cX7_isAlike 14 = .ok (.iconst 0, 1) := by decide +kernel
theorem dX7_isAlike_15 : decode cX7_isAlike 15 = .ok (.istore_n 3, 1) := by decide +kernel
theorem dX7_isAlike_16 : decode cX7_isAlike 16 = .ok (.iconst 0, 1) := by decide +kernel
theorem dX7_isAlike_17 : decode cX7_isAlike 17 = .ok (.istore 4, 2) := by decide +kernel
theorem dX7_isAlike_19 : decode cX7_isAlike 19 = .ok (.iload 4, 2) := by decide +kernel
theorem dX7_isAlike_21 : decode cX7_isAlike 21 = .ok (.iconst 3, 1) := by decide +kernel
theorem dX7_isAlike_22 : decode cX7_isAlike 22 = .ok (.if_icmp .gt 36, 3) := by decide +kernel
theorem dX7_isAlike_25 : decode cX7_isAlike 25 = .ok (.iload_n 3, 1) := by decide +kernel
theorem dX7_isAlike_26 : decode cX7_isAlike 26 = .ok (.ifCond .eq 24, 3) := by decide +kernel
theorem dX7_isAlike_29 : decode cX7_isAlike 29 = .ok (.aload_n 0, 1) := by decide +kernel
theorem dX7_isAlike_30 : decode cX7_isAlike 30 = .ok (.iload_n 1, 1) := by decide +kernel
theorem dX7_isAlike_31 : decode cX7_isAlike 31 = .ok (.iload 4, 2) := by decide +kernel
theorem dX7_isAlike_33 : decode cX7_isAlike 33 = .ok (.invokevirtual 156, 3) := by decide +kernel
theorem dX7_isAlike_36 : decode cX7_isAlike 36 = .ok (.aload_n 0, 1) := by decide +kernel
theorem dX7_isAlike_37 : decode cX7_isAlike 37 = .ok (.iload_n 2, 1) := by decide +kernel
theorem dX7_isAlike_38 : decode cX7_isAlike 38 = .ok (.iload 4, 2) := by decide +kernel
theorem dX7_isAlike_40 : decode cX7_isAlike 40 = .ok (.invokevirtual 156, 3) := by decide +kernel
theorem dX7_isAlike_43 : decode cX7_isAlike 43 = .ok (.if_icmp .ne 7, 3) := by decide +kernel
theorem dX7_isAlike_46 : decode cX7_isAlike 46 = .ok (.iconst 1, 1) := by decide +kernel
theorem dX7_isAlike_47 : decode cX7_isAlike 47 = .ok (.goto 4, 3) := by decide +kernel
theorem dX7_isAlike_50 : decode cX7_isAlike 50 = .ok (.iconst 0, 1) := by decide +kernel
theorem dX7_isAlike_51 : decode cX7_isAlike 51 = .ok (.istore_n 3, 1) := by decide +kernel
theorem dX7_isAlike_52 : decode cX7_isAlike 52 = .ok (.iinc 4 1, 3) := by decide +kernel
theorem dX7_isAlike_55 : decode cX7_isAlike 55 = .ok (.goto (-36), 3) := by decide +kernel
theorem dX7_isAlike_58 : decode cX7_isAlike 58 = .ok (.iload_n 3, 1) := by decide +kernel
theorem dX7_isAlike_59 : decode cX7_isAlike 59 = .ok (.ireturn, 1) := by decide +kernel
theorem dX7_isMerged_0 : decode cX7_isMerged 0 = .ok (.aload_n 0, 1) := by decide +kernel
theorem dX7_isMerged_1 : decode cX7_isMerged 1 = .ok (.iload_n 1, 1) := by decide +kernel
theorem dX7_isMerged_2 : decode cX7_isMerged 2 = .ok (.invokevirtual 166, 3) := by decide +kernel
theorem dX7_isMerged_5 : decode cX7_isMerged 5 = .ok (.istore_n 2, 1) := by decide +kernel
theorem dX7_isMerged_6 : decode cX7_isMerged 6 = .ok (.aload_n 0, 1) := by decide +kernel
theorem dX7_isMerged_7 : decode cX7_isMerged 7 = .ok (.iconst 2, 1) := by decide +kernel
theorem dX7_isMerged_8 : decode cX7_isMerged 8 = .ok (.iload_n 1, 1) := by decide +kernel
theorem dX7_isMerged_9 : decode cX7_isMerged 9 = .ok (.imul, 1) := by decide +kernel
theorem dX7_isMerged_10 : decode cX7_isMerged 10 = .ok (.iconst 1, 1) := by decide +kernel
theorem dX7_isMerged_11 : decode cX7_isMerged 11 = .ok (.iadd, 1) := by decide +kernel
theorem dX7_isMerged_12 : decode cX7_isMerged 12 = .ok (.invokevirtual 298, 3) := by decide +kernel
theorem dX7_isMerged_15 : decode cX7_isMerged 15 = .ok (.istore_n 3, 1) := by decide +kernel
theorem dX7_isMerged_16 : decode cX7_isMerged 16 = .ok (.aload_n 0, 1) := by decide +kernel
theorem dX7_isMerged_17 : decode cX7_isMerged 17 = .ok (.iconst 2, 1) := by decide +kernel
theorem dX7_isMerged_18 : decode cX7_isMerged 18 = .ok (.iload_n 1, 1) := by decide +kernel
theorem dX7_isMerged_19 : decode cX7_isMerged 19 = .ok (.imul, 1) := by decide +kernel
theorem dX7_isMerged_20 : decode cX7_isMerged 20 = .ok (.iconst 2, 1) := by decide +kernel
theorem dX7_isMerged_21 : decode cX7_isMerged 21 = .ok (.iadd, 1) := by decide +kernel
theorem dX7_isMerged_22 : decode cX7_isMerged 22 = .ok (.invokevirtual 298, 3) := by decide +kernel
theorem dX7_isMerged_25 : decode cX7_isMerged 25 = .ok (.istore 4, 2) := by decide +kernel
theorem dX7_isMerged_27 : decode cX7_isMerged 27 = .ok (.iload_n 3, 1) := by decide +kernel
theorem dX7_isMerged_28 : decode cX7_isMerged 28 = .ok (.bipush (-4), 2) := by decide +kernel
theorem dX7_isMerged_30 : decode cX7_isMerged 30 = .ok (.if_icmp .eq 35, 3) := by decide +kernel
theorem dX7_isMerged_33 : decode cX7_isMerged 33 = .ok (.iload 4, 2) := by decide +kernel
theorem dX7_isMerged_35 : decode cX7_isMerged 35 = .ok (.bipush (-4), 2) := by decide +kernel
theorem dX7_isMerged_37 : decode cX7_isMerged 37 = .ok (.if_icmp .eq 28, 3) := by decide +kernel
theorem dX7_isMerged_40 : decode cX7_isMerged 40 = .ok (.aload_n 0, 1) := by decide +kernel
theorem dX7_isMerged_41 : decode cX7_isMerged 41 = .ok (.iload_n 3, 1) := by decide +kernel
theorem dX7_isMerged_42 : decode cX7_isMerged 42 = .ok (.iload 4, 2) := by decide +kernel
theorem dX7_isMerged_44 : decode cX7_isMerged 44 = .ok (.invokevirtual 301, 3) := by decide +kernel
theorem dX7_isMerged_47 : decode cX7_isMerged 47 = .ok (.ifCond .eq 18, 3) := by decide +kernel
theorem dX7_isMerged_50 : decode cX7_isMerged 50 = .ok (.aload_n 0, 1) := by decide +kernel
theorem dX7_isMerged_51 : decode cX7_isMerged 51 = .ok (.iload_n 3, 1) := by decide +kernel
theorem dX7_isMerged_52 : decode cX7_isMerged 52 = .ok (.iconst 1, 1) := by decide +kernel
theorem dX7_isMerged_53 : decode cX7_isMerged 53 = .ok (.invokevirtual 156, 3) := by decide +kernel
theorem dX7_isMerged_56 : decode cX7_isMerged 56 = .ok (.aload_n 0, 1) := by decide +kernel
theorem dX7_isMerged_57 : decode cX7_isMerged 57 = .ok (.iload_n 2, 1) := by decide +kernel
theorem dX7_isMerged_58 : decode cX7_isMerged 58 = .ok (.iconst 1, 1) := by decide +kernel
theorem dX7_isMerged_59 : decode cX7_isMerged 59 = .ok (.invokevirtual 156, 3) := by decide +kernel
theorem dX7_isMerged_62 : decode cX7_isMerged 62 = .ok (.if_icmp .ne 5, 3) := by decide +kernel
theorem dX7_isMerged_65 : decode cX7_isMerged 65 = .ok (.iconst 0, 1) := by decide +kernel
theorem dX7_isMerged_66 : decode cX7_isMerged 66 = .ok (.ireturn, 1) := by decide +kernel
theorem dX7_isMerged_67 : decode cX7_isMerged 67 = .ok (.aload_n 0, 1) := by decide +kernel
theorem dX7_isMerged_68 : decode cX7_isMerged 68 = .ok (.iload_n 3, 1) := by decide +kernel
theorem dX7_isMerged_69 : decode cX7_isMerged 69 = .ok (.iconst 0, 1) := by decide +kernel
theorem dX7_isMerged_70 : decode cX7_isMerged 70 = .ok (.invokevirtual 156, 3) := by decide +kernel
theorem dX7_isMerged_73 : decode cX7_isMerged 73 = .ok (.istore 5, 2) := by decide +kernel
theorem dX7_isMerged_75 : decode cX7_isMerged 75 = .ok (.aload_n 0, 1) := by decide +kernel
theorem dX7_isMerged_76 : decode cX7_isMerged 76 = .ok (.iload_n 3, 1) := by decide +kernel
theorem dX7_isMerged_77 : decode cX7_isMerged 77 = .ok (.iconst 1, 1) := by decide +kernel
theorem dX7_isMerged_78 : decode cX7_isMerged 78 = .ok (.invokevirtual 156, 3) := by decide +kernel
theorem dX7_isMerged_81 : decode cX7_isMerged 81 = .ok (.istore 6, 2) := by decide +kernel
theorem dX7_isMerged_83 : decode cX7_isMerged 83 = .ok (.aload_n 0, 1) := by decide +kernel
theorem dX7_isMerged_84 : decode cX7_isMerged 84 = .ok (.iload_n 3, 1) := by decide +kernel
theorem dX7_isMerged_85 : decode cX7_isMerged 85 = .ok (.iconst 2, 1) := by decide +kernel
theorem dX7_isMerged_86 : decode cX7_isMerged 86 = .ok (.invokevirtual 156, 3) := by decide +kernel
theorem dX7_isMerged_89 : decode cX7_isMerged 89 = .ok (.istore 7, 2) := by decide +kernel
theorem dX7_isMerged_91 : decode cX7_isMerged 91 = .ok (.aload_n 0, 1) := by decide +kernel
theorem dX7_isMerged_92 : decode cX7_isMerged 92 = .ok (.iload_n 3, 1) := by decide +kernel
theorem dX7_isMerged_93 : decode cX7_isMerged 93 = .ok (.iconst 3, 1) := by decide +kernel
theorem dX7_isMerged_94 : decode cX7_isMerged 94 = .ok (.invokevirtual 156, 3) := by decide +kernel
theorem dX7_isMerged_97 : decode cX7_isMerged 97 = .ok (.istore 8, 2) := by decide +kernel
theorem dX7_isMerged_99 : decode cX7_isMerged 99 = .ok (.aload_n 0, 1) := by decide +kernel
theorem dX7_isMerged_100 : decode cX7_isMerged 100 = .ok (.iload_n 2, 1) := by decide +kernel
theorem dX7_isMerged_101 : decode cX7_isMerged 101 = .ok (.iconst 4, 1) := by decide +kernel
theorem dX7_isMerged_102 : decode cX7_isMerged 102 = .ok (.invokevirtual 156, 3) := by decide +kernel
theorem dX7_isMerged_105 : decode cX7_isMerged 105 = .ok (.istore 9, 2) := by decide +kernel
theorem dX7_isMerged_107 : decode cX7_isMerged 107 = .ok (.aload_n 0, 1) := by decide +kernel
theorem dX7_isMerged_108 : decode cX7_isMerged 108 = .ok (.iload 4, 2) := by decide +kernel
theorem dX7_isMerged_110 : decode cX7_isMerged 110 = .ok (.invokevirtual 292, 3) := by decide +kernel
theorem dX7_isMerged_113 : decode cX7_isMerged 113 = .ok (.iconst 5, 1) := by decide +kernel
theorem dX7_isMerged_114 : decode cX7_isMerged 114 = .ok (.iload_n 3, 1) := by decide +kernel
theorem dX7_isMerged_115 : decode cX7_isMerged 115 = .ok (.imul, 1) := by decide +kernel
theorem dX7_isMerged_116 : decode cX7_isMerged 116 = .ok (.iconst 1, 1) := by decide +kernel
theorem dX7_isMerged_117 : decode cX7_isMerged 117 = .ok (.isub, 1) := by decide +kernel
theorem dX7_isMerged_118 : decode cX7_isMerged 118 = .ok (.istore 10, 2) := by decide +kernel
theorem dX7_isMerged_120 : decode cX7_isMerged 120 = .ok (.iload 10, 2) := by decide +kernel
theorem dX7_isMerged_122 : decode cX7_isMerged 122 = .ok (.iconst 5, 1) := by decide +kernel
theorem dX7_isMerged_123 : decode cX7_isMerged 123 = .ok (.iload_n 2, 1) := by decide +kernel
theorem dX7_isMerged_124 : decode cX7_isMerged 124 = .ok (.imul, 1) := by decide +kernel
theorem dX7_isMerged_125 : decode cX7_isMerged 125 = .ok (.if_icmp .lt 25, 3) := by decide +kernel
theorem dX7_isMerged_128 : decode cX7_isMerged 128 = .ok (.aload_n 0, 1) := by decide +kernel
theorem dX7_isMerged_129 : decode cX7_isMerged 129 = .ok (.getfield 7, 3) := by decide +kernel
theorem dX7_isMerged_132 : decode cX7_isMerged 132 = .ok (.iload 10, 2) := by decide +kernel
theorem dX7_isMerged_134 : decode cX7_isMerged 134 = .ok (.iconst 5, 1) := by decide +kernel
theorem dX7_isMerged_135 : decode cX7_isMerged 135 = .ok (.iadd, 1) := by decide +kernel
theorem dX7_isMerged_136 : decode cX7_isMerged 136 = .ok (.aload_n 0, 1) := by decide +kernel
theorem dX7_isMerged_137 : decode cX7_isMerged 137 = .ok (.getfield 7, 3) := by decide +kernel
theorem dX7_isMerged_140 : decode cX7_isMerged 140 = .ok (.iload 10, 2) := by decide +kernel
theorem dX7_isMerged_142 : decode cX7_isMerged 142 = .ok (.iaload, 1) := by decide +kernel
theorem dX7_isMerged_143 : decode cX7_isMerged 143 = .ok (.iastore, 1) := by decide +kernel
theorem dX7_isMerged_144 : decode cX7_isMerged 144 = .ok (.iinc 10 (-1), 3) := by decide +kernel
theorem dX7_isMerged_147 : decode cX7_isMerged 147 = .ok (.goto (-27), 3) := by decide +kernel
theorem dX7_isMerged_150 : decode cX7_isMerged 150 = .ok (.aload_n 0, 1) := by decide +kernel
theorem dX7_isMerged_151 : decode cX7_isMerged 151 = .ok (.getfield 7, 3) := by decide +kernel
theorem dX7_isMerged_154 : decode cX7_isMerged 154 = .ok (.iconst 5, 1) := by decide +kernel
theorem dX7_isMerged_155 : decode cX7_isMerged 155 = .ok (.iload_n 2, 1) := by decide +kernel
theorem dX7_isMerged_156 : decode cX7_isMerged 156 = .ok (.imul, 1) := by decide +kernel
theorem dX7_isMerged_157 : decode cX7_isMerged 157 = .ok (.iconst 0, 1) := by decide +kernel
theorem dX7_isMerged_158 : decode cX7_isMerged 158 = .ok (.iadd, 1) := by decide +kernel
theorem dX7_isMerged_159 : decode cX7_isMerged 159 = .ok (.iload 5, 2) := by decide +kernel
theorem dX7_isMerged_161 : decode cX7_isMerged 161 = .ok (.iastore, 1) := by decide +kernel
theorem dX7_isMerged_162 : decode cX7_isMerged 162 = .ok (.aload_n 0, 1) := by decide +kernel
theorem dX7_isMerged_163 : decode cX7_isMerged 163 = .ok (.getfield 7, 3) := by decide +kernel
theorem dX7_isMerged_166 : decode cX7_isMerged 166 = .ok (.iconst 5, 1) := by decide +kernel
theorem dX7_isMerged_167 : decode cX7_isMerged 167 = .ok (.iload_n 2, 1) := by decide +kernel
theorem dX7_isMerged_168 : decode cX7_isMerged 168 = .ok (.imul, 1) := by decide +kernel
theorem dX7_isMerged_169 : decode cX7_isMerged 169 = .ok (.iconst 1, 1) := by decide +kernel
theorem dX7_isMerged_170 : decode cX7_isMerged 170 = .ok (.iadd, 1) := by decide +kernel
theorem dX7_isMerged_171 : decode cX7_isMerged 171 = .ok (.iload 6, 2) := by decide +kernel
theorem dX7_isMerged_173 : decode cX7_isMerged 173 = .ok (.iastore, 1) := by decide +kernel
theorem dX7_isMerged_174 : decode cX7_isMerged 174 = .ok (.aload_n 0, 1) := by decide +kernel
theorem dX7_isMerged_175 : decode cX7_isMerged 175 = .ok (.getfield 7, 3) := by decide +kernel
theorem dX7_isMerged_178 : decode cX7_isMerged 178 = .ok (.iconst 5, 1) := by decide +kernel
theorem dX7_isMerged_179 : decode cX7_isMerged 179 = .ok (.iload_n 2, 1) := by decide +kernel
theorem dX7_isMerged_180 : decode cX7_isMerged 180 = .ok (.imul, 1) := by decide +kernel
theorem dX7_isMerged_181 : decode cX7_isMerged 181 = .ok (.iconst 2, 1) := by decide +kernel
theorem dX7_isMerged_182 : decode cX7_isMerged 182 = .ok (.iadd, 1) := by decide +kernel
theorem dX7_isMerged_183 : decode cX7_isMerged 183 = .ok (.iload 7, 2) := by decide +kernel
theorem dX7_isMerged_185 : decode cX7_isMerged 185 = .ok (.iastore, 1) := by decide +kernel
theorem dX7_isMerged_186 : decode cX7_isMerged 186 = .ok (.aload_n 0, 1) := by decide +kernel
theorem dX7_isMerged_187 : decode cX7_isMerged 187 = .ok (.getfield 7, 3) := by decide +kernel
theorem dX7_isMerged_190 : decode cX7_isMerged 190 = .ok (.iconst 5, 1) := by decide +kernel
theorem dX7_isMerged_191 : decode cX7_isMerged 191 = .ok (.iload_n 2, 1) := by decide +kernel
theorem dX7_isMerged_192 : decode cX7_isMerged 192 = .ok (.imul, 1) := by decide +kernel
theorem dX7_isMerged_193 : decode cX7_isMerged 193 = .ok (.iconst 3, 1) := by decide +kernel
theorem dX7_isMerged_194 : decode cX7_isMerged 194 = .ok (.iadd, 1) := by decide +kernel
theorem dX7_isMerged_195 : decode cX7_isMerged 195 = .ok (.iload 8, 2) := by decide +kernel
theorem dX7_isMerged_197 : decode cX7_isMerged 197 = .ok (.iastore, 1) := by decide +kernel
theorem dX7_isMerged_198 : decode cX7_isMerged 198 = .ok (.aload_n 0, 1) := by decide +kernel
theorem dX7_isMerged_199 : decode cX7_isMerged 199 = .ok (.getfield 7, 3) := by decide +kernel
theorem dX7_isMerged_202 : decode cX7_isMerged 202 = .ok (.iconst 5, 1) := by decide +kernel
theorem dX7_isMerged_203 : decode cX7_isMerged 203 = .ok (.iload_n 2, 1) := by decide +kernel
theorem dX7_isMerged_204 : decode cX7_isMerged 204 = .ok (.imul, 1) := by decide +kernel
theorem dX7_isMerged_205 : decode cX7_isMerged 205 = .ok (.iconst 4, 1) := by decide +kernel
theorem dX7_isMerged_206 : decode cX7_isMerged 206 = .ok (.iadd, 1) := by decide +kernel
theorem dX7_isMerged_207 : decode cX7_isMerged 207 = .ok (.iload 9, 2) := by decide +kernel
theorem dX7_isMerged_209 : decode cX7_isMerged 209 = .ok (.iastore, 1) := by decide +kernel
theorem dX7_isMerged_210 : decode cX7_isMerged 210 = .ok (.iconst 1, 1) := by decide +kernel
theorem dX7_isMerged_211 : decode cX7_isMerged 211 = .ok (.ireturn, 1) := by decide +kernel
theorem dX7_mergesOnce_0 : decode cX7_mergesOnce 0 = .ok (.iconst 0, 1) := by decide +kernel
theorem dX7_mergesOnce_1 : decode cX7_mergesOnce 1 = .ok (.istore_n 1, 1) := by decide +kernel
theorem dX7_mergesOnce_2 : decode cX7_mergesOnce 2 = .ok (.aload_n 0, 1) := by decide +kernel
theorem dX7_mergesOnce_3 : decode cX7_mergesOnce 3 = .ok (.invokevirtual 163, 3) := by decide +kernel
theorem dX7_mergesOnce_6 : decode cX7_mergesOnce 6 = .ok (.istore_n 2, 1) := by decide +kernel
theorem dX7_mergesOnce_7 : decode cX7_mergesOnce 7 = .ok (.iconst 0, 1) := by decide +kernel
theorem dX7_mergesOnce_8 : decode cX7_mergesOnce 8 = .ok (.istore_n 3, 1) := by decide +kernel
theorem dX7_mergesOnce_9 : decode cX7_mergesOnce 9 = .ok (.iload_n 3, 1) := by decide +kernel
theorem dX7_mergesOnce_10 : decode cX7_mergesOnce 10 = .ok (.iload_n 2, 1) := by decide +kernel
theorem dX7_mergesOnce_11 : decode cX7_mergesOnce 11 = .ok (.if_icmp .ge 19, 3) := by decide +kernel
theorem dX7_mergesOnce_14 : decode cX7_mergesOnce 14 = .ok (.iload_n 1, 1) := by decide +kernel
theorem dX7_mergesOnce_15 : decode cX7_mergesOnce 15 = .ok (.ifCond .ne 15, 3) := by decide +kernel
theorem dX7_mergesOnce_18 : decode cX7_mergesOnce 18 = .ok (.aload_n 0, 1) := by decide +kernel
theorem dX7_mergesOnce_19 : decode cX7_mergesOnce 19 = .ok (.iload_n 3, 1) := by decide +kernel
theorem dX7_mergesOnce_20 : decode cX7_mergesOnce 20 = .ok (.invokevirtual 304, 3) := by decide +kernel
theorem dX7_mergesOnce_23 : decode cX7_mergesOnce 23 = .ok (.istore_n 1, 1) := by decide +kernel
theorem dX7_mergesOnce_24 : decode cX7_mergesOnce 24 = .ok (.iinc 3 1, 3) := by decide +kernel
theorem dX7_mergesOnce_27 : decode cX7_mergesOnce 27 = .ok (.goto (-18), 3) := by decide +kernel
theorem dX7_mergesOnce_30 : decode cX7_mergesOnce 30 = .ok (.iload_n 1, 1) := by decide +kernel
theorem dX7_mergesOnce_31 : decode cX7_mergesOnce 31 = .ok (.ireturn, 1) := by decide +kernel
theorem dX7_merge_0 : decode cX7_merge 0 = .ok (.iconst 0, 1) := by decide +kernel
theorem dX7_merge_1 : decode cX7_merge 1 = .ok (.istore_n 1, 1) := by decide +kernel
theorem dX7_merge_2 : decode cX7_merge 2 = .ok (.aload_n 0, 1) := by decide +kernel
theorem dX7_merge_3 : decode cX7_merge 3 = .ok (.invokevirtual 307, 3) := by decide +kernel
theorem dX7_merge_6 : decode cX7_merge 6 = .ok (.ifCond .eq 9, 3) := by decide +kernel
theorem dX7_merge_9 : decode cX7_merge 9 = .ok (.iinc 1 1, 3) := by decide +kernel
theorem dX7_merge_12 : decode cX7_merge 12 = .ok (.goto (-10), 3) := by decide +kernel
theorem dX7_merge_15 : decode cX7_merge 15 = .ok (.iload_n 1, 1) := by decide +kernel
theorem dX7_merge_16 : decode cX7_merge 16 = .ok (.ireturn, 1) := by decide +kernel
theorem dX7_set_0 : decode cX7_set 0 = .ok (.aload_n 0, 1) := by decide +kernel
theorem dX7_set_1 : decode cX7_set 1 = .ok (.iload_n 1, 1) := by decide +kernel
theorem dX7_set_2 : decode cX7_set 2 = .ok (.invokevirtual 210, 3) := by decide +kernel
theorem dX7_set_5 : decode cX7_set 5 = .ok (.ifCond .eq 15, 3) := by decide +kernel
theorem dX7_set_8 : decode cX7_set 8 = .ok (.iload_n 2, 1) := by decide +kernel
theorem dX7_set_9 : decode cX7_set 9 = .ok (.i2l, 1) := by decide +kernel
theorem dX7_set_10 : decode cX7_set 10 = .ok (.lconst 1, 1) := by decide +kernel
theorem dX7_set_11 : decode cX7_set 11 = .ok (.ldc2_w 311, 3) := by decide +kernel
theorem dX7_set_14 : decode cX7_set 14 = .ok (.invokestatic 78, 3) := by decide +kernel
theorem dX7_set_17 : decode cX7_set 17 = .ok (.ifCond .ne 5, 3) := by decide +kernel
theorem dX7_set_20 : decode cX7_set 20 = .ok (.iconst (-1), 1) := by decide +kernel
theorem dX7_set_21 : decode cX7_set 21 = .ok (.ireturn, 1) := by decide +kernel
theorem dX7_set_22 : decode cX7_set 22 = .ok (.aload_n 0, 1) := by decide +kernel
theorem dX7_set_23 : decode cX7_set 23 = .ok (.iload_n 1, 1) := by decide +kernel
theorem dX7_set_24 : decode cX7_set 24 = .ok (.iconst 0, 1) := by decide +kernel
theorem dX7_set_25 : decode cX7_set 25 = .ok (.invokevirtual 156, 3) := by decide +kernel
theorem dX7_set_28 : decode cX7_set 28 = .ok (.istore 4, 2) := by decide +kernel
theorem dX7_set_30 : decode cX7_set 30 = .ok (.iload 4, 2) := by decide +kernel
theorem dX7_set_32 : decode cX7_set 32 = .ok (.ifCond .eq 9, 3) := by decide +kernel
theorem dX7_set_35 : decode cX7_set 35 = .ok (.iload 4, 2) := by decide +kernel
theorem dX7_set_37 : decode cX7_set 37 = .ok (.iconst 5, 1) := by decide +kernel
theorem dX7_set_38 : decode cX7_set 38 = .ok (.if_icmp .ne 7, 3) := by decide +kernel
theorem dX7_set_41 : decode cX7_set 41 = .ok (.iconst 1, 1) := by decide +kernel
theorem dX7_set_42 : decode cX7_set 42 = .ok (.goto 4, 3) := by decide +kernel
theorem dX7_set_45 : decode cX7_set 45 = .ok (.iconst 0, 1) := by decide +kernel
theorem dX7_set_46 : decode cX7_set 46 = .ok (.istore 5, 2) := by decide +kernel
theorem dX7_set_48 : decode cX7_set 48 = .ok (.iload_n 2, 1) := by decide +kernel
theorem dX7_set_49 : decode cX7_set 49 = .ok (.iconst 2, 1) := by decide +kernel
theorem dX7_set_50 : decode cX7_set 50 = .ok (.if_icmp .ne 13, 3) := by decide +kernel
theorem dX7_set_53 : decode cX7_set 53 = .ok (.iload 4, 2) := by decide +kernel
theorem dX7_set_55 : decode cX7_set 55 = .ok (.ifCond .ne 8, 3) := by decide +kernel
theorem dX7_set_58 : decode cX7_set 58 = .ok (.bipush 99, 2) := by decide +kernel
theorem dX7_set_60 : decode cX7_set 60 = .ok (.goto 36, 3) := by decide +kernel
theorem dX7_set_63 : decode cX7_set 63 = .ok (.iload_n 2, 1) := by decide +kernel
theorem dX7_set_64 : decode cX7_set 64 = .ok (.iconst 2, 1) := by decide +kernel
theorem dX7_set_65 : decode cX7_set 65 = .ok (.if_icmp .ne 14, 3) := by decide +kernel
theorem dX7_set_68 : decode cX7_set 68 = .ok (.iload 4, 2) := by decide +kernel
theorem dX7_set_70 : decode cX7_set 70 = .ok (.iconst 5, 1) := by decide +kernel
theorem dX7_set_71 : decode cX7_set 71 = .ok (.if_icmp .ne 8, 3) := by decide +kernel
theorem dX7_set_74 : decode cX7_set 74 = .ok (.bipush 10, 2) := by decide +kernel
theorem dX7_set_76 : decode cX7_set 76 = .ok (.goto 20, 3) := by decide +kernel
theorem dX7_set_79 : decode cX7_set 79 = .ok (.iload_n 2, 1) := by decide +kernel
theorem dX7_set_80 : decode cX7_set 80 = .ok (.iconst 3, 1) := by decide +kernel
theorem dX7_set_81 : decode cX7_set 81 = .ok (.if_icmp .ne 13, 3) := by decide +kernel
theorem dX7_set_84 : decode cX7_set 84 = .ok (.iload 5, 2) := by decide +kernel
theorem dX7_set_86 : decode cX7_set 86 = .ok (.ifCond .eq 8, 3) := by decide +kernel
theorem dX7_set_89 : decode cX7_set 89 = .ok (.bipush (-4), 2) := by decide +kernel
theorem dX7_set_91 : decode cX7_set 91 = .ok (.goto 5, 3) := by decide +kernel
theorem dX7_set_94 : decode cX7_set 94 = .ok (.bipush 7, 2) := by decide +kernel
theorem dX7_set_96 : decode cX7_set 96 = .ok (.istore 6, 2) := by decide +kernel
theorem dX7_set_98 : decode cX7_set 98 = .ok (.iload_n 3, 1) := by decide +kernel
theorem dX7_set_99 : decode cX7_set 99 = .ok (.i2l, 1) := by decide +kernel
theorem dX7_set_100 : decode cX7_set 100 = .ok (.lconst 0, 1) := by decide +kernel
theorem dX7_set_101 : decode cX7_set 101 = .ok (.iload 6, 2) := by decide +kernel
theorem dX7_set_103 : decode cX7_set 103 = .ok (.i2l, 1) := by decide +kernel
theorem dX7_set_104 : decode cX7_set 104 = .ok (.invokestatic 78, 3) := by decide +kernel
theorem dX7_set_107 : decode cX7_set 107 = .ok (.ifCond .eq 16, 3) := by decide +kernel
theorem dX7_set_110 : decode cX7_set 110 = .ok (.aload_n 0, 1) := by decide +kernel
theorem dX7_set_111 : decode cX7_set 111 = .ok (.iconst 5, 1) := by decide +kernel
theorem dX7_set_112 : decode cX7_set 112 = .ok (.iload_n 1, 1) := by decide +kernel
theorem dX7_set_113 : decode cX7_set 113 = .ok (.imul, 1) := by decide +kernel
theorem dX7_set_114 : decode cX7_set 114 = .ok (.iload_n 2, 1) := by decide +kernel
theorem dX7_set_115 : decode cX7_set 115 = .ok (.iadd, 1) := by decide +kernel
theorem dX7_set_116 : decode cX7_set 116 = .ok (.iload_n 3, 1) := by decide +kernel
theorem dX7_set_117 : decode cX7_set 117 = .ok (.invokevirtual 272, 3) := by decide +kernel
theorem dX7_set_120 : decode cX7_set 120 = .ok (.goto 4, 3) := by decide +kernel
theorem dX7_set_123 : decode cX7_set 123 = .ok (.iconst (-1), 1) := by decide +kernel
theorem dX7_set_124 : decode cX7_set 124 = .ok (.ireturn, 1) := by decide +kernel
theorem dX7_turn_0 : decode cX7_turn 0 = .ok (.aload_n 0, 1) := by decide +kernel
theorem dX7_turn_1 : decode cX7_turn 1 = .ok (.iload_n 1, 1) := by decide +kernel
theorem dX7_turn_2 : decode cX7_turn 2 = .ok (.invokevirtual 210, 3) := by decide +kernel
theorem dX7_turn_5 : decode cX7_turn 5 = .ok (.ifCond .eq 36, 3) := by decide +kernel
theorem dX7_turn_8 : decode cX7_turn 8 = .ok (.aload_n 0, 1) := by decide +kernel
theorem dX7_turn_9 : decode cX7_turn 9 = .ok (.iload_n 1, 1) := by decide +kernel
theorem dX7_turn_10 : decode cX7_turn 10 = .ok (.iconst 0, 1) := by decide +kernel
theorem dX7_turn_11 : decode cX7_turn 11 = .ok (.invokevirtual 156, 3) := by decide +kernel
theorem dX7_turn_14 : decode cX7_turn 14 = .ok (.i2l, 1) := by decide +kernel
theorem dX7_turn_15 : decode cX7_turn 15 = .ok (.lconst 1, 1) := by decide +kernel
theorem dX7_turn_16 : decode cX7_turn 16 = .ok (.ldc2_w 313, 3) := by decide +kernel
theorem dX7_turn_19 : decode cX7_turn 19 = .ok (.invokestatic 78, 3) := by decide +kernel
theorem dX7_turn_22 : decode cX7_turn 22 = .ok (.ifCond .eq 19, 3) := by decide +kernel
theorem dX7_turn_25 : decode cX7_turn 25 = .ok (.iload_n 2, 1) := by decide +kernel
theorem dX7_turn_26 : decode cX7_turn 26 = .ok (.i2l, 1) := by decide +kernel
theorem dX7_turn_27 : decode cX7_turn 27 = .ok (.lconst 1, 1) := by decide +kernel
theorem dX7_turn_28 : decode cX7_turn 28 = .ok (.ldc2_w 313, 3) := by decide +kernel
theorem dX7_turn_31 : decode cX7_turn 31 = .ok (.invokestatic 78, 3) := by decide +kernel
theorem dX7_turn_34 : decode cX7_turn 34 = .ok (.ifCond .eq 7, 3) := by decide +kernel
theorem dX7_turn_37 : decode cX7_turn 37 = .ok (.iconst 1, 1) := by decide +kernel
theorem dX7_turn_38 : decode cX7_turn 38 = .ok (.goto 4, 3) := by decide +kernel
theorem dX7_turn_41 : decode cX7_turn 41 = .ok (.iconst 0, 1) := by decide +kernel
theorem dX7_turn_42 : decode cX7_turn 42 = .ok (.istore_n 3, 1) := by decide +kernel
theorem dX7_turn_43 : decode cX7_turn 43 = .ok (.iload_n 3, 1) := by decide +kernel
theorem dX7_turn_44 : decode cX7_turn 44 = .ok (.ifCond .eq 16, 3) := by decide +kernel
theorem dX7_turn_47 : decode cX7_turn 47 = .ok (.aload_n 0, 1) := by decide +kernel
theorem dX7_turn_48 : decode cX7_turn 48 = .ok (.iconst 5, 1) := by decide +kernel
theorem dX7_turn_49 : decode cX7_turn 49 = .ok (.iload_n 1, 1) := by decide +kernel
theorem dX7_turn_50 : decode cX7_turn 50 = .ok (.imul, 1) := by decide +kernel
theorem dX7_turn_51 : decode cX7_turn 51 = .ok (.iconst 0, 1) := by decide +kernel
theorem dX7_turn_52 : decode cX7_turn 52 = .ok (.iadd, 1) := by decide +kernel
theorem dX7_turn_53 : decode cX7_turn 53 = .ok (.iload_n 2, 1) := by decide +kernel
theorem dX7_turn_54 : decode cX7_turn 54 = .ok (.invokevirtual 272, 3) := by decide +kernel
theorem dX7_turn_57 : decode cX7_turn 57 = .ok (.goto 4, 3) := by decide +kernel
theorem dX7_turn_60 : decode cX7_turn 60 = .ok (.iconst (-1), 1) := by decide +kernel
theorem dX7_turn_61 : decode cX7_turn 61 = .ok (.ireturn, 1) := by decide +kernel
theorem dX7_keep_0 : decode cX7_keep 0 = .ok (.iload_n 1, 1) := by decide +kernel
theorem dX7_keep_1 : decode cX7_keep 1 = .ok (.i2l, 1) := by decide +kernel
theorem dX7_keep_2 : decode cX7_keep 2 = .ok (.lconst 0, 1) := by decide +kernel
theorem dX7_keep_3 : decode cX7_keep 3 = .ok (.lconst 1, 1) := by decide +kernel
theorem dX7_keep_4 : decode cX7_keep 4 = .ok (.invokestatic 78, 3) := by decide +kernel
theorem dX7_keep_7 : decode cX7_keep 7 = .ok (.ifCond .ne 5, 3) := by decide +kernel
theorem dX7_keep_10 : decode cX7_keep 10 = .ok (.iconst (-1), 1) := by decide +kernel
theorem dX7_keep_11 : decode cX7_keep 11 = .ok (.ireturn, 1) := by decide +kernel
theorem dX7_keep_12 : decode cX7_keep 12 = .ok (.aload_n 0, 1) := by decide +kernel
theorem dX7_keep_13 : decode cX7_keep 13 = .ok (.getfield 16, 3) := by decide +kernel
theorem dX7_keep_16 : decode cX7_keep 16 = .ok (.iload_n 1, 1) := by decide +kernel
theorem dX7_keep_17 : decode cX7_keep 17 = .ok (.baload, 1) := by decide +kernel
theorem dX7_keep_18 : decode cX7_keep 18 = .ok (.invokestatic 159, 3) := by decide +kernel
theorem dX7_keep_21 : decode cX7_keep 21 = .ok (.istore_n 2, 1) := by decide +kernel
theorem dX7_keep_22 : decode cX7_keep 22 = .ok (.aload_n 0, 1) := by decide +kernel
theorem dX7_keep_23 : decode cX7_keep 23 = .ok (.getfield 16, 3) := by decide +kernel
theorem dX7_keep_26 : decode cX7_keep 26 = .ok (.iload_n 1, 1) := by decide +kernel
theorem dX7_keep_27 : decode cX7_keep 27 = .ok (.iconst 1, 1) := by decide +kernel
theorem dX7_keep_28 : decode cX7_keep 28 = .ok (.bastore, 1) := by decide +kernel
theorem dX7_keep_29 : decode cX7_keep 29 = .ok (.iconst 0, 1) := by decide +kernel
theorem dX7_keep_30 : decode cX7_keep 30 = .ok (.istore_n 3, 1) := by decide +kernel
theorem dX7_keep_31 : decode cX7_keep 31 = .ok (.iload_n 3, 1) := by decide +kernel
theorem dX7_keep_32 : decode cX7_keep 32 = .ok (.sipush 128, 3) := by decide +kernel
theorem dX7_keep_35 : decode cX7_keep 35 = .ok (.if_icmp .ge 27, 3) := by decide +kernel
theorem dX7_keep_38 : decode cX7_keep 38 = .ok (.aload_n 0, 1) := by decide +kernel
theorem dX7_keep_39 : decode cX7_keep 39 = .ok (.getfield 13, 3) := by decide +kernel
theorem dX7_keep_42 : decode cX7_keep 42 = .ok (.sipush 128, 3) := by decide +kernel
theorem dX7_keep_45 : decode cX7_keep 45 = .ok (.iload_n 1, 1) := by decide +kernel
theorem dX7_keep_46 : decode cX7_keep 46 = .ok (.imul, 1) := by decide +kernel
theorem dX7_keep_47 : decode cX7_keep 47 = .ok (.iload_n 3, 1) := by decide +kernel
theorem dX7_keep_48 : decode cX7_keep 48 = .ok (.iadd, 1) := by decide +kernel
theorem dX7_keep_49 : decode cX7_keep 49 = .ok (.aload_n 0, 1) := by decide +kernel
theorem dX7_keep_50 : decode cX7_keep 50 = .ok (.getfield 7, 3) := by decide +kernel
theorem dX7_keep_53 : decode cX7_keep 53 = .ok (.iload_n 3, 1) := by decide +kernel
theorem dX7_keep_54 : decode cX7_keep 54 = .ok (.iaload, 1) := by decide +kernel
theorem dX7_keep_55 : decode cX7_keep 55 = .ok (.iastore, 1) := by decide +kernel
theorem dX7_keep_56 : decode cX7_keep 56 = .ok (.iinc 3 1, 3) := by decide +kernel
theorem dX7_keep_59 : decode cX7_keep 59 = .ok (.goto (-28), 3) := by decide +kernel
theorem dX7_keep_62 : decode cX7_keep 62 = .ok (.iload_n 2, 1) := by decide +kernel
theorem dX7_keep_63 : decode cX7_keep 63 = .ok (.ireturn, 1) := by decide +kernel
theorem dX7_back_0 : decode cX7_back 0 = .ok (.iload_n 1, 1) := by decide +kernel
theorem dX7_back_1 : decode cX7_back 1 = .ok (.i2l, 1) := by decide +kernel
theorem dX7_back_2 : decode cX7_back 2 = .ok (.lconst 0, 1) := by decide +kernel
theorem dX7_back_3 : decode cX7_back 3 = .ok (.lconst 1, 1) := by decide +kernel
theorem dX7_back_4 : decode cX7_back 4 = .ok (.invokestatic 78, 3) := by decide +kernel
theorem dX7_back_7 : decode cX7_back 7 = .ok (.ifCond .ne 5, 3) := by decide +kernel
theorem dX7_back_10 : decode cX7_back 10 = .ok (.iconst (-1), 1) := by decide +kernel
theorem dX7_back_11 : decode cX7_back 11 = .ok (.ireturn, 1) := by decide +kernel
theorem dX7_back_12 : decode cX7_back 12 = .ok (.aload_n 0, 1) := by decide +kernel
theorem dX7_back_13 : decode cX7_back 13 = .ok (.getfield 16, 3) := by decide +kernel
theorem dX7_back_16 : decode cX7_back 16 = .ok (.iload_n 1, 1) := by decide +kernel
theorem dX7_back_17 : decode cX7_back 17 = .ok (.baload, 1) := by decide +kernel
theorem dX7_back_18 : decode cX7_back 18 = .ok (.ifCond .ne 6, 3) := by decide +kernel
theorem dX7_back_21 : decode cX7_back 21 = .ok (.bipush (-2), 2) := by decide +kernel
theorem dX7_back_23 : decode cX7_back 23 = .ok (.ireturn, 1) := by decide +kernel
theorem dX7_back_24 : decode cX7_back 24 = .ok (.iconst 0, 1) := by decide +kernel
theorem dX7_back_25 : decode cX7_back 25 = .ok (.istore_n 2, 1) := by decide +kernel
theorem dX7_back_26 : decode cX7_back 26 = .ok (.iload_n 2, 1) := by decide +kernel
theorem dX7_back_27 : decode cX7_back 27 = .ok (.sipush 128, 3) := by decide +kernel
theorem dX7_back_30 : decode cX7_back 30 = .ok (.if_icmp .ge 27, 3) := by decide +kernel
theorem dX7_back_33 : decode cX7_back 33 = .ok (.aload_n 0, 1) := by decide +kernel
theorem dX7_back_34 : decode cX7_back 34 = .ok (.getfield 7, 3) := by decide +kernel
theorem dX7_back_37 : decode cX7_back 37 = .ok (.iload_n 2, 1) := by decide +kernel
theorem dX7_back_38 : decode cX7_back 38 = .ok (.aload_n 0, 1) := by decide +kernel
theorem dX7_back_39 : decode cX7_back 39 = .ok (.getfield 13, 3) := by decide +kernel
theorem dX7_back_42 : decode cX7_back 42 = .ok (.sipush 128, 3) := by decide +kernel
theorem dX7_back_45 : decode cX7_back 45 = .ok (.iload_n 1, 1) := by decide +kernel
theorem dX7_back_46 : decode cX7_back 46 = .ok (.imul, 1) := by decide +kernel
theorem dX7_back_47 : decode cX7_back 47 = .ok (.iload_n 2, 1) := by decide +kernel
theorem dX7_back_48 : decode cX7_back 48 = .ok (.iadd, 1) := by decide +kernel
theorem dX7_back_49 : decode cX7_back 49 = .ok (.iaload, 1) := by decide +kernel
theorem dX7_back_50 : decode cX7_back 50 = .ok (.iastore, 1) := by decide +kernel
theorem dX7_back_51 : decode cX7_back 51 = .ok (.iinc 2 1, 3) := by decide +kernel
theorem dX7_back_54 : decode cX7_back 54 = .ok (.goto (-28), 3) := by decide +kernel
theorem dX7_back_57 : decode cX7_back 57 = .ok (.aload_n 0, 1) := by decide +kernel
theorem dX7_back_58 : decode cX7_back 58 = .ok (.iconst 0, 1) := by decide +kernel
theorem dX7_back_59 : decode cX7_back 59 = .ok (.putfield 72, 3) := by decide +kernel
theorem dX7_back_62 : decode cX7_back 62 = .ok (.aload_n 0, 1) := by decide +kernel
theorem dX7_back_63 : decode cX7_back 63 = .ok (.getfield 7, 3) := by decide +kernel
theorem dX7_back_66 : decode cX7_back 66 = .ok (.bipush 120, 2) := by decide +kernel
theorem dX7_back_68 : decode cX7_back 68 = .ok (.iaload, 1) := by decide +kernel
theorem dX7_back_69 : decode cX7_back 69 = .ok (.ireturn, 1) := by decide +kernel
theorem dX7_isSheet_0 : decode cX7_isSheet 0 = .ok (.iload_n 0, 1) := by decide +kernel
theorem dX7_isSheet_1 : decode cX7_isSheet 1 = .ok (.i2l, 1) := by decide +kernel
theorem dX7_isSheet_2 : decode cX7_isSheet 2 = .ok (.lconst 0, 1) := by decide +kernel
theorem dX7_isSheet_3 : decode cX7_isSheet 3 = .ok (.ldc2_w 311, 3) := by decide +kernel
theorem dX7_isSheet_6 : decode cX7_isSheet 6 = .ok (.invokestatic 78, 3) := by decide +kernel
theorem dX7_isSheet_9 : decode cX7_isSheet 9 = .ok (.ifCond .eq 19, 3) := by decide +kernel
theorem dX7_isSheet_12 : decode cX7_isSheet 12 = .ok (.iload_n 1, 1) := by decide +kernel
theorem dX7_isSheet_13 : decode cX7_isSheet 13 = .ok (.i2l, 1) := by decide +kernel
theorem dX7_isSheet_14 : decode cX7_isSheet 14 = .ok (.lconst 0, 1) := by decide +kernel
theorem dX7_isSheet_15 : decode cX7_isSheet 15 = .ok (.ldc2_w 270, 3) := by decide +kernel
theorem dX7_isSheet_18 : decode cX7_isSheet 18 = .ok (.invokestatic 78, 3) := by decide +kernel
theorem dX7_isSheet_21 : decode cX7_isSheet 21 = .ok (.ifCond .eq 7, 3) := by decide +kernel
theorem dX7_isSheet_24 : decode cX7_isSheet 24 = .ok (.iconst 1, 1) := by decide +kernel
theorem dX7_isSheet_25 : decode cX7_isSheet 25 = .ok (.goto 4, 3) := by decide +kernel
theorem dX7_isSheet_28 : decode cX7_isSheet 28 = .ok (.iconst 0, 1) := by decide +kernel
theorem dX7_isSheet_29 : decode cX7_isSheet 29 = .ok (.ireturn, 1) := by decide +kernel
theorem dX7_sheet_0 : decode cX7_sheet 0 = .ok (.iload_n 1, 1) := by decide +kernel
theorem dX7_sheet_1 : decode cX7_sheet 1 = .ok (.iload_n 2, 1) := by decide +kernel
theorem dX7_sheet_2 : decode cX7_sheet 2 = .ok (.invokestatic 315, 3) := by decide +kernel
theorem dX7_sheet_5 : decode cX7_sheet 5 = .ok (.ifCond .eq 9, 3) := by decide +kernel
theorem dX7_sheet_8 : decode cX7_sheet 8 = .ok (.iload_n 3, 1) := by decide +kernel
theorem dX7_sheet_9 : decode cX7_sheet 9 = .ok (.bipush 40, 2) := by decide +kernel
theorem dX7_sheet_11 : decode cX7_sheet 11 = .ok (.if_icmp .le 5, 3) := by decide +kernel
theorem dX7_sheet_14 : decode cX7_sheet 14 = .ok (.iconst (-1), 1) := by decide +kernel
theorem dX7_sheet_15 : decode cX7_sheet 15 = .ok (.ireturn, 1) := by decide +kernel
theorem dX7_sheet_16 : decode cX7_sheet 16 = .ok (.iload_n 3, 1) := by decide +kernel
theorem dX7_sheet_17 : decode cX7_sheet 17 = .ok (.ifCond .ge 6, 3) := by decide +kernel
theorem dX7_sheet_20 : decode cX7_sheet 20 = .ok (.bipush (-14), 2) := by decide +kernel
theorem dX7_sheet_22 : decode cX7_sheet 22 = .ok (.ireturn, 1) := by decide +kernel
theorem dX7_sheet_23 : decode cX7_sheet 23 = .ok (.aload_n 0, 1) := by decide +kernel
theorem dX7_sheet_24 : decode cX7_sheet 24 = .ok (.getfield 54, 3) := by decide +kernel
theorem dX7_sheet_27 : decode cX7_sheet 27 = .ok (.iload_n 1, 1) := by decide +kernel
theorem dX7_sheet_28 : decode cX7_sheet 28 = .ok (.iload_n 2, 1) := by decide +kernel
theorem dX7_sheet_29 : decode cX7_sheet 29 = .ok (.iastore, 1) := by decide +kernel
theorem dX7_sheet_30 : decode cX7_sheet 30 = .ok (.aload_n 0, 1) := by decide +kernel
theorem dX7_sheet_31 : decode cX7_sheet 31 = .ok (.getfield 57, 3) := by decide +kernel
theorem dX7_sheet_34 : decode cX7_sheet 34 = .ok (.iload_n 1, 1) := by decide +kernel
theorem dX7_sheet_35 : decode cX7_sheet 35 = .ok (.iload_n 3, 1) := by decide +kernel
theorem dX7_sheet_36 : decode cX7_sheet 36 = .ok (.iastore, 1) := by decide +kernel
theorem dX7_sheet_37 : decode cX7_sheet 37 = .ok (.iconst 0, 1) := by decide +kernel
theorem dX7_sheet_38 : decode cX7_sheet 38 = .ok (.istore 4, 2) := by decide +kernel
theorem dX7_sheet_40 : decode cX7_sheet 40 = .ok (.iload 4, 2) := by decide +kernel
theorem dX7_sheet_42 : decode cX7_sheet 42 = .ok (.bipush 40, 2) := by decide +kernel
theorem dX7_sheet_44 : decode cX7_sheet 44 = .ok (.if_icmp .ge 22, 3) := by decide +kernel
theorem dX7_sheet_47 : decode cX7_sheet 47 = .ok (.aload_n 0, 1) := by decide +kernel
theorem dX7_sheet_48 : decode cX7_sheet 48 = .ok (.getfield 60, 3) := by decide +kernel
theorem dX7_sheet_51 : decode cX7_sheet 51 = .ok (.bipush 40, 2) := by decide +kernel
theorem dX7_sheet_53 : decode cX7_sheet 53 = .ok (.iload_n 1, 1) := by decide +kernel
theorem dX7_sheet_54 : decode cX7_sheet 54 = .ok (.imul, 1) := by decide +kernel
theorem dX7_sheet_55 : decode cX7_sheet 55 = .ok (.iload 4, 2) := by decide +kernel
theorem dX7_sheet_57 : decode cX7_sheet 57 = .ok (.iadd, 1) := by decide +kernel
theorem dX7_sheet_58 : decode cX7_sheet 58 = .ok (.iconst 0, 1) := by decide +kernel
theorem dX7_sheet_59 : decode cX7_sheet 59 = .ok (.iastore, 1) := by decide +kernel
theorem dX7_sheet_60 : decode cX7_sheet 60 = .ok (.iinc 4 1, 3) := by decide +kernel
theorem dX7_sheet_63 : decode cX7_sheet 63 = .ok (.goto (-23), 3) := by decide +kernel
theorem dX7_sheet_66 : decode cX7_sheet 66 = .ok (.iconst 1, 1) := by decide +kernel
theorem dX7_sheet_67 : decode cX7_sheet 67 = .ok (.ireturn, 1) := by decide +kernel
theorem dX7_lay_0 : decode cX7_lay 0 = .ok (.iload_n 1, 1) := by decide +kernel
theorem dX7_lay_1 : decode cX7_lay 1 = .ok (.iconst 0, 1) := by decide +kernel
theorem dX7_lay_2 : decode cX7_lay 2 = .ok (.invokestatic 315, 3) := by decide +kernel
theorem dX7_lay_5 : decode cX7_lay 5 = .ok (.ifCond .ne 5, 3) := by decide +kernel
theorem dX7_lay_8 : decode cX7_lay 8 = .ok (.iconst (-1), 1) := by decide +kernel
theorem dX7_lay_9 : decode cX7_lay 9 = .ok (.ireturn, 1) := by decide +kernel
theorem dX7_lay_10 : decode cX7_lay 10 = .ok (.aload_n 0, 1) := by decide +kernel
theorem dX7_lay_11 : decode cX7_lay 11 = .ok (.getfield 54, 3) := by decide +kernel
theorem dX7_lay_14 : decode cX7_lay 14 = .ok (.iload_n 1, 1) := by decide +kernel
theorem dX7_lay_15 : decode cX7_lay 15 = .ok (.iaload, 1) := by decide +kernel
theorem dX7_lay_16 : decode cX7_lay 16 = .ok (.bipush (-4), 2) := by decide +kernel
theorem dX7_lay_18 : decode cX7_lay 18 = .ok (.if_icmp .ne 6, 3) := by decide +kernel
theorem dX7_lay_21 : decode cX7_lay 21 = .ok (.bipush (-11), 2) := by decide +kernel
theorem dX7_lay_23 : decode cX7_lay 23 = .ok (.ireturn, 1) := by decide +kernel
theorem dX7_lay_24 : decode cX7_lay 24 = .ok (.iload_n 2, 1) := by decide +kernel
theorem dX7_lay_25 : decode cX7_lay 25 = .ok (.i2l, 1) := by decide +kernel
theorem dX7_lay_26 : decode cX7_lay 26 = .ok (.lconst 0, 1) := by decide +kernel
theorem dX7_lay_27 : decode cX7_lay 27 = .ok (.aload_n 0, 1) := by decide +kernel
theorem dX7_lay_28 : decode cX7_lay 28 = .ok (.getfield 57, 3) := by decide +kernel
theorem dX7_lay_31 : decode cX7_lay 31 = .ok (.iload_n 1, 1) := by decide +kernel
theorem dX7_lay_32 : decode cX7_lay 32 = .ok (.iaload, 1) := by decide +kernel
theorem dX7_lay_33 : decode cX7_lay 33 = .ok (.iconst 1, 1) := by decide +kernel
theorem dX7_lay_34 : decode cX7_lay 34 = .ok (.isub, 1) := by decide +kernel
theorem dX7_lay_35 : decode cX7_lay 35 = .ok (.i2l, 1) := by decide +kernel
theorem dX7_lay_36 : decode cX7_lay 36 = .ok (.invokestatic 78, 3) := by decide +kernel
theorem dX7_lay_39 : decode cX7_lay 39 = .ok (.ifCond .ne 6, 3) := by decide +kernel
theorem dX7_lay_42 : decode cX7_lay 42 = .ok (.bipush (-12), 2) := by decide +kernel
theorem dX7_lay_44 : decode cX7_lay 44 = .ok (.ireturn, 1) := by decide +kernel
theorem dX7_lay_45 : decode cX7_lay 45 = .ok (.aload_n 0, 1) := by decide +kernel
theorem dX7_lay_46 : decode cX7_lay 46 = .ok (.getfield 60, 3) := by decide +kernel
theorem dX7_lay_49 : decode cX7_lay 49 = .ok (.bipush 40, 2) := by decide +kernel
theorem dX7_lay_51 : decode cX7_lay 51 = .ok (.iload_n 1, 1) := by decide +kernel
theorem dX7_lay_52 : decode cX7_lay 52 = .ok (.imul, 1) := by decide +kernel
theorem dX7_lay_53 : decode cX7_lay 53 = .ok (.iload_n 2, 1) := by decide +kernel
theorem dX7_lay_54 : decode cX7_lay 54 = .ok (.iadd, 1) := by decide +kernel
theorem dX7_lay_55 : decode cX7_lay 55 = .ok (.aload_n 0, 1) := by decide +kernel
theorem dX7_lay_56 : decode cX7_lay 56 = .ok (.getfield 54, 3) := by decide +kernel
theorem dX7_lay_59 : decode cX7_lay 59 = .ok (.iload_n 1, 1) := by decide +kernel
theorem dX7_lay_60 : decode cX7_lay 60 = .ok (.iaload, 1) := by decide +kernel
theorem dX7_lay_61 : decode cX7_lay 61 = .ok (.ifCond .ne 8, 3) := by decide +kernel
theorem dX7_lay_64 : decode cX7_lay 64 = .ok (.iload_n 3, 1) := by decide +kernel
theorem dX7_lay_65 : decode cX7_lay 65 = .ok (.i2b, 1) := by decide +kernel
theorem dX7_lay_66 : decode cX7_lay 66 = .ok (.goto 19, 3) := by decide +kernel
theorem dX7_lay_69 : decode cX7_lay 69 = .ok (.aload_n 0, 1) := by decide +kernel
theorem dX7_lay_70 : decode cX7_lay 70 = .ok (.getfield 54, 3) := by decide +kernel
theorem dX7_lay_73 : decode cX7_lay 73 = .ok (.iload_n 1, 1) := by decide +kernel
theorem dX7_lay_74 : decode cX7_lay 74 = .ok (.iaload, 1) := by decide +kernel
theorem dX7_lay_75 : decode cX7_lay 75 = .ok (.iconst 1, 1) := by decide +kernel
theorem dX7_lay_76 : decode cX7_lay 76 = .ok (.if_icmp .ne 8, 3) := by decide +kernel
theorem dX7_lay_79 : decode cX7_lay 79 = .ok (.iload_n 3, 1) := by decide +kernel
theorem dX7_lay_80 : decode cX7_lay 80 = .ok (.i2s, 1) := by decide +kernel
theorem dX7_lay_81 : decode cX7_lay 81 = .ok (.goto 4, 3) := by decide +kernel
theorem dX7_lay_84 : decode cX7_lay 84 = .ok (.iload_n 3, 1) := by decide +kernel
theorem dX7_lay_85 : decode cX7_lay 85 = .ok (.iastore, 1) := by decide +kernel
theorem dX7_lay_86 : decode cX7_lay 86 = .ok (.iconst 1, 1) := by decide +kernel
theorem dX7_lay_87 : decode cX7_lay 87 = .ok (.ireturn, 1) := by decide +kernel
theorem dX7_read_0 : decode cX7_read 0 = .ok (.iload_n 1, 1) := by decide +kernel
theorem dX7_read_1 : decode cX7_read 1 = .ok (.iload_n 2, 1) := by decide +kernel
theorem dX7_read_2 : decode cX7_read 2 = .ok (.invokestatic 315, 3) := by decide +kernel
theorem dX7_read_5 : decode cX7_read 5 = .ok (.ifCond .eq 16, 3) := by decide +kernel
theorem dX7_read_8 : decode cX7_read 8 = .ok (.iload 4, 2) := by decide +kernel
theorem dX7_read_10 : decode cX7_read 10 = .ok (.i2l, 1) := by decide +kernel
theorem dX7_read_11 : decode cX7_read 11 = .ok (.lconst 0, 1) := by decide +kernel
theorem dX7_read_12 : decode cX7_read 12 = .ok (.ldc2_w 318, 3) := by decide +kernel
theorem dX7_read_15 : decode cX7_read 15 = .ok (.invokestatic 78, 3) := by decide +kernel
theorem dX7_read_18 : decode cX7_read 18 = .ok (.ifCond .ne 5, 3) := by decide +kernel
theorem dX7_read_21 : decode cX7_read 21 = .ok (.iconst (-1), 1) := by decide +kernel
theorem dX7_read_22 : decode cX7_read 22 = .ok (.ireturn, 1) := by decide +kernel
theorem dX7_read_23 : decode cX7_read 23 = .ok (.iconst 0, 1) := by decide +kernel
theorem dX7_read_24 : decode cX7_read 24 = .ok (.istore 5, 2) := by decide +kernel
theorem dX7_read_26 : decode cX7_read 26 = .ok (.iload 5, 2) := by decide +kernel
theorem dX7_read_28 : decode cX7_read 28 = .ok (.sipush 128, 3) := by decide +kernel
theorem dX7_read_31 : decode cX7_read 31 = .ok (.if_icmp .ge 23, 3) := by decide +kernel
theorem dX7_read_34 : decode cX7_read 34 = .ok (.aload_n 0, 1) := by decide +kernel
theorem dX7_read_35 : decode cX7_read 35 = .ok (.getfield 63, 3) := by decide +kernel
theorem dX7_read_38 : decode cX7_read 38 = .ok (.iload 5, 2) := by decide +kernel
theorem dX7_read_40 : decode cX7_read 40 = .ok (.aload_n 0, 1) := by decide +kernel
theorem dX7_read_41 : decode cX7_read 41 = .ok (.getfield 7, 3) := by decide +kernel
theorem dX7_read_44 : decode cX7_read 44 = .ok (.iload 5, 2) := by decide +kernel
theorem dX7_read_46 : decode cX7_read 46 = .ok (.iaload, 1) := by decide +kernel
theorem dX7_read_47 : decode cX7_read 47 = .ok (.iastore, 1) := by decide +kernel
theorem dX7_read_48 : decode cX7_read 48 = .ok (.iinc 5 1, 3) := by decide +kernel
theorem dX7_read_51 : decode cX7_read 51 = .ok (.goto (-25), 3) := by decide +kernel
theorem dX7_read_54 : decode cX7_read 54 = .ok (.iconst 0, 1) := by decide +kernel
theorem dX7_read_55 : decode cX7_read 55 = .ok (.istore 5, 2) := by decide +kernel
theorem dX7_read_57 : decode cX7_read 57 = .ok (.iconst 0, 1) := by decide +kernel
theorem dX7_read_58 : decode cX7_read 58 = .ok (.istore 6, 2) := by decide +kernel
theorem dX7_read_60 : decode cX7_read 60 = .ok (.iconst 0, 1) := by decide +kernel
theorem dX7_read_61 : decode cX7_read 61 = .ok (.istore 7, 2) := by decide +kernel
theorem dX7_read_63 : decode cX7_read 63 = .ok (.iload 7, 2) := by decide +kernel
theorem dX7_read_65 : decode cX7_read 65 = .ok (.iload 4, 2) := by decide +kernel
theorem dX7_read_67 : decode cX7_read 67 = .ok (.if_icmp .ge 194, 3) := by decide +kernel
theorem dX7_read_70 : decode cX7_read 70 = .ok (.iload 5, 2) := by decide +kernel
theorem dX7_read_72 : decode cX7_read 72 = .ok (.ifCond .ne 189, 3) := by decide +kernel
theorem dX7_read_75 : decode cX7_read 75 = .ok (.iconst 0, 1) := by decide +kernel
theorem dX7_read_76 : decode cX7_read 76 = .ok (.istore 8, 2) := by decide +kernel
theorem dX7_read_78 : decode cX7_read 78 = .ok (.iload 8, 2) := by decide +kernel
theorem dX7_read_80 : decode cX7_read 80 = .ok (.iconst 3, 1) := by decide +kernel
theorem dX7_read_81 : decode cX7_read 81 = .ok (.if_icmp .ge 84, 3) := by decide +kernel
theorem dX7_read_84 : decode cX7_read 84 = .ok (.iload 5, 2) := by decide +kernel
theorem dX7_read_86 : decode cX7_read 86 = .ok (.ifCond .ne 79, 3) := by decide +kernel
theorem dX7_read_89 : decode cX7_read 89 = .ok (.iload_n 3, 1) := by decide +kernel
theorem dX7_read_90 : decode cX7_read 90 = .ok (.i2l, 1) := by decide +kernel
theorem dX7_read_91 : decode cX7_read 91 = .ok (.iconst 3, 1) := by decide +kernel
theorem dX7_read_92 : decode cX7_read 92 = .ok (.iload 7, 2) := by decide +kernel
theorem dX7_read_94 : decode cX7_read 94 = .ok (.imul, 1) := by decide +kernel
theorem dX7_read_95 : decode cX7_read 95 = .ok (.i2l, 1) := by decide +kernel
theorem dX7_read_96 : decode cX7_read 96 = .ok (.ladd, 1) := by decide +kernel
theorem dX7_read_97 : decode cX7_read 97 = .ok (.iload 8, 2) := by decide +kernel
theorem dX7_read_99 : decode cX7_read 99 = .ok (.i2l, 1) := by decide +kernel
theorem dX7_read_100 : decode cX7_read 100 = .ok (.ladd, 1) := by decide +kernel
theorem dX7_read_101 : decode cX7_read 101 = .ok (.lstore 9, 2) := by decide +kernel
theorem dX7_read_103 : decode cX7_read 103 = .ok (.aload_n 0, 1) := by decide +kernel
theorem dX7_read_104 : decode cX7_read 104 = .ok (.getfield 54, 3) := by decide +kernel
theorem dX7_read_107 : decode cX7_read 107 = .ok (.iload_n 1, 1) := by decide +kernel
theorem dX7_read_108 : decode cX7_read 108 = .ok (.iaload, 1) := by decide +kernel
theorem dX7_read_109 : decode cX7_read 109 = .ok (.bipush (-4), 2) := by decide +kernel
theorem dX7_read_111 : decode cX7_read 111 = .ok (.if_icmp .ne 7, 3) := by decide +kernel
theorem dX7_read_114 : decode cX7_read 114 = .ok (.iconst 1, 1) := by decide +kernel
theorem dX7_read_115 : decode cX7_read 115 = .ok (.goto 42, 3) := by decide +kernel
theorem dX7_read_118 : decode cX7_read 118 = .ok (.aload_n 0, 1) := by decide +kernel
theorem dX7_read_119 : decode cX7_read 119 = .ok (.getfield 54, 3) := by decide +kernel
theorem dX7_read_122 : decode cX7_read 122 = .ok (.iload_n 1, 1) := by decide +kernel
theorem dX7_read_123 : decode cX7_read 123 = .ok (.iaload, 1) := by decide +kernel
theorem dX7_read_124 : decode cX7_read 124 = .ok (.iload_n 2, 1) := by decide +kernel
theorem dX7_read_125 : decode cX7_read 125 = .ok (.if_icmp .eq 7, 3) := by decide +kernel
theorem dX7_read_128 : decode cX7_read 128 = .ok (.iconst 3, 1) := by decide +kernel
theorem dX7_read_129 : decode cX7_read 129 = .ok (.goto 28, 3) := by decide +kernel
theorem dX7_read_132 : decode cX7_read 132 = .ok (.lload 9, 2) := by decide +kernel
theorem dX7_read_134 : decode cX7_read 134 = .ok (.lconst 0, 1) := by decide +kernel
theorem dX7_read_135 : decode cX7_read 135 = .ok (.lcmp, 1) := by decide +kernel
theorem dX7_read_136 : decode cX7_read 136 = .ok (.ifCond .lt 16, 3) := by decide +kernel
theorem dX7_read_139 : decode cX7_read 139 = .ok (.lload 9, 2) := by decide +kernel
theorem dX7_read_141 : decode cX7_read 141 = .ok (.aload_n 0, 1) := by decide +kernel
theorem dX7_read_142 : decode cX7_read 142 = .ok (.getfield 57, 3) := by decide +kernel
theorem dX7_read_145 : decode cX7_read 145 = .ok (.iload_n 1, 1) := by decide +kernel
theorem dX7_read_146 : decode cX7_read 146 = .ok (.iaload, 1) := by decide +kernel
theorem dX7_read_147 : decode cX7_read 147 = .ok (.i2l, 1) := by decide +kernel
theorem dX7_read_148 : decode cX7_read 148 = .ok (.lcmp, 1) := by decide +kernel
theorem dX7_read_149 : decode cX7_read 149 = .ok (.ifCond .lt 7, 3) := by decide +kernel
theorem dX7_read_152 : decode cX7_read 152 = .ok (.iconst 2, 1) := by decide +kernel
theorem dX7_read_153 : decode cX7_read 153 = .ok (.goto 4, 3) := by decide +kernel
theorem dX7_read_156 : decode cX7_read 156 = .ok (.iconst 0, 1) := by decide +kernel
theorem dX7_read_157 : decode cX7_read 157 = .ok (.istore 5, 2) := by decide +kernel
theorem dX7_read_159 : decode cX7_read 159 = .ok (.iinc 8 1, 3) := by decide +kernel
theorem dX7_read_162 : decode cX7_read 162 = .ok (.goto (-84), 3) := by decide +kernel
theorem dX7_read_165 : decode cX7_read 165 = .ok (.iload 5, 2) := by decide +kernel
theorem dX7_read_167 : decode cX7_read 167 = .ok (.ifCond .ne 88, 3) := by decide +kernel
theorem dX7_read_170 : decode cX7_read 170 = .ok (.bipush 40, 2) := by decide +kernel
theorem dX7_read_172 : decode cX7_read 172 = .ok (.iload_n 1, 1) := by decide +kernel
theorem dX7_read_173 : decode cX7_read 173 = .ok (.imul, 1) := by decide +kernel
theorem dX7_read_174 : decode cX7_read 174 = .ok (.iload_n 3, 1) := by decide +kernel
theorem dX7_read_175 : decode cX7_read 175 = .ok (.iadd, 1) := by decide +kernel
theorem dX7_read_176 : decode cX7_read 176 = .ok (.iconst 3, 1) := by decide +kernel
theorem dX7_read_177 : decode cX7_read 177 = .ok (.iload 7, 2) := by decide +kernel
theorem dX7_read_179 : decode cX7_read 179 = .ok (.imul, 1) := by decide +kernel
theorem dX7_read_180 : decode cX7_read 180 = .ok (.iadd, 1) := by decide +kernel
theorem dX7_read_181 : decode cX7_read 181 = .ok (.istore 8, 2) := by decide +kernel
theorem dX7_read_183 : decode cX7_read 183 = .ok (.aload_n 0, 1) := by decide +kernel
theorem dX7_read_184 : decode cX7_read 184 = .ok (.aload_n 0, 1) := by decide +kernel
theorem dX7_read_185 : decode cX7_read 185 = .ok (.getfield 60, 3) := by decide +kernel
theorem dX7_read_188 : decode cX7_read 188 = .ok (.iload 8, 2) := by decide +kernel
theorem dX7_read_190 : decode cX7_read 190 = .ok (.iaload, 1) := by decide +kernel
theorem dX7_read_191 : decode cX7_read 191 = .ok (.aload_n 0, 1) := by decide +kernel
theorem dX7_read_192 : decode cX7_read 192 = .ok (.getfield 60, 3) := by decide +kernel
theorem dX7_read_195 : decode cX7_read 195 = .ok (.iload 8, 2) := by decide +kernel
theorem dX7_read_197 : decode cX7_read 197 = .ok (.iconst 1, 1) := by decide +kernel
theorem dX7_read_198 : decode cX7_read 198 = .ok (.iadd, 1) := by decide +kernel
theorem dX7_read_199 : decode cX7_read 199 = .ok (.iaload, 1) := by decide +kernel
theorem dX7_read_200 : decode cX7_read 200 = .ok (.aload_n 0, 1) := by decide +kernel
theorem dX7_read_201 : decode cX7_read 201 = .ok (.getfield 60, 3) := by decide +kernel
theorem dX7_read_204 : decode cX7_read 204 = .ok (.iload 8, 2) := by decide +kernel
theorem dX7_read_206 : decode cX7_read 206 = .ok (.iconst 2, 1) := by decide +kernel
theorem dX7_read_207 : decode cX7_read 207 = .ok (.iadd, 1) := by decide +kernel
theorem dX7_read_208 : decode cX7_read 208 = .ok (.iaload, 1) := by decide +kernel
theorem dX7_read_209 : decode cX7_read 209 = .ok (.invokevirtual 320, 3) := by decide +kernel
theorem dX7_read_212 : decode cX7_read 212 = .ok (.ifCond .ge 40, 3) := by decide +kernel
theorem dX7_read_215 : decode cX7_read 215 = .ok (.iconst 0, 1) := by decide +kernel
theorem dX7_read_216 : decode cX7_read 216 = .ok (.istore 9, 2) := by decide +kernel
theorem dX7_read_218 : decode cX7_read 218 = .ok (.iload 9, 2) := by decide +kernel
theorem dX7_read_220 : decode cX7_read 220 = .ok (.sipush 128, 3) := by decide +kernel
theorem dX7_read_223 : decode cX7_read 223 = .ok (.if_icmp .ge 23, 3) := by decide +kernel
theorem dX7_read_226 : decode cX7_read 226 = .ok (.aload_n 0, 1) := by decide +kernel
theorem dX7_read_227 : decode cX7_read 227 = .ok (.getfield 7, 3) := by decide +kernel
theorem dX7_read_230 : decode cX7_read 230 = .ok (.iload 9, 2) := by decide +kernel
theorem dX7_read_232 : decode cX7_read 232 = .ok (.aload_n 0, 1) := by decide +kernel
theorem dX7_read_233 : decode cX7_read 233 = .ok (.getfield 63, 3) := by decide +kernel
theorem dX7_read_236 : decode cX7_read 236 = .ok (.iload 9, 2) := by decide +kernel
theorem dX7_read_238 : decode cX7_read 238 = .ok (.iaload, 1) := by decide +kernel
theorem dX7_read_239 : decode cX7_read 239 = .ok (.iastore, 1) := by decide +kernel
theorem dX7_read_240 : decode cX7_read 240 = .ok (.iinc 9 1, 3) := by decide +kernel
theorem dX7_read_243 : decode cX7_read 243 = .ok (.goto (-25), 3) := by decide +kernel
theorem dX7_read_246 : decode cX7_read 246 = .ok (.bipush (-20), 2) := by decide +kernel
theorem dX7_read_248 : decode cX7_read 248 = .ok (.iload 7, 2) := by decide +kernel
theorem dX7_read_250 : decode cX7_read 250 = .ok (.isub, 1) := by decide +kernel
theorem dX7_read_251 : decode cX7_read 251 = .ok (.ireturn, 1) := by decide +kernel
theorem dX7_read_252 : decode cX7_read 252 = .ok (.iinc 6 1, 3) := by decide +kernel
theorem dX7_read_255 : decode cX7_read 255 = .ok (.iinc 7 1, 3) := by decide +kernel
theorem dX7_read_258 : decode cX7_read 258 = .ok (.goto (-195), 3) := by decide +kernel
theorem dX7_read_261 : decode cX7_read 261 = .ok (.aload_n 0, 1) := by decide +kernel
theorem dX7_read_262 : decode cX7_read 262 = .ok (.iload 5, 2) := by decide +kernel
theorem dX7_read_264 : decode cX7_read 264 = .ok (.putfield 323, 3) := by decide +kernel
theorem dX7_read_267 : decode cX7_read 267 = .ok (.iload 6, 2) := by decide +kernel
theorem dX7_read_269 : decode cX7_read 269 = .ok (.ireturn, 1) := by decide +kernel
theorem dX7_torn_0 : decode cX7_torn 0 = .ok (.aload_n 0, 1) := by decide +kernel
theorem dX7_torn_1 : decode cX7_torn 1 = .ok (.getfield 323, 3) := by decide +kernel
theorem dX7_torn_4 : decode cX7_torn 4 = .ok (.ireturn, 1) := by decide +kernel
theorem dX7_sumOf_0 : decode cX7_sumOf 0 = .ok (.iconst 0, 1) := by decide +kernel
theorem dX7_sumOf_1 : decode cX7_sumOf 1 = .ok (.istore_n 3, 1) := by decide +kernel
theorem dX7_sumOf_2 : decode cX7_sumOf 2 = .ok (.iconst 0, 1) := by decide +kernel
theorem dX7_sumOf_3 : decode cX7_sumOf 3 = .ok (.istore 4, 2) := by decide +kernel
theorem dX7_sumOf_5 : decode cX7_sumOf 5 = .ok (.iload 4, 2) := by decide +kernel
theorem dX7_sumOf_7 : decode cX7_sumOf 7 = .ok (.aload_n 0, 1) := by decide +kernel
theorem dX7_sumOf_8 : decode cX7_sumOf 8 = .ok (.getfield 7, 3) := by decide +kernel
theorem dX7_sumOf_11 : decode cX7_sumOf 11 = .ok (.bipush 120, 2) := by decide +kernel
theorem dX7_sumOf_13 : decode cX7_sumOf 13 = .ok (.iaload, 1) := by decide +kernel
theorem dX7_sumOf_14 : decode cX7_sumOf 14 = .ok (.if_icmp .ge 38, 3) := by decide +kernel
theorem dX7_sumOf_17 : decode cX7_sumOf 17 = .ok (.aload_n 0, 1) := by decide +kernel
theorem dX7_sumOf_18 : decode cX7_sumOf 18 = .ok (.iload 4, 2) := by decide +kernel
theorem dX7_sumOf_20 : decode cX7_sumOf 20 = .ok (.iconst 0, 1) := by decide +kernel
theorem dX7_sumOf_21 : decode cX7_sumOf 21 = .ok (.invokevirtual 156, 3) := by decide +kernel
theorem dX7_sumOf_24 : decode cX7_sumOf 24 = .ok (.iload_n 1, 1) := by decide +kernel
theorem dX7_sumOf_25 : decode cX7_sumOf 25 = .ok (.if_icmp .ne 21, 3) := by decide +kernel
theorem dX7_sumOf_28 : decode cX7_sumOf 28 = .ok (.iload_n 3, 1) := by decide +kernel
theorem dX7_sumOf_29 : decode cX7_sumOf 29 = .ok (.iload_n 2, 1) := by decide +kernel
theorem dX7_sumOf_30 : decode cX7_sumOf 30 = .ok (.ifCond .eq 7, 3) := by decide +kernel
theorem dX7_sumOf_33 : decode cX7_sumOf 33 = .ok (.iconst 1, 1) := by decide +kernel
theorem dX7_sumOf_34 : decode cX7_sumOf 34 = .ok (.goto 10, 3) := by decide +kernel
theorem dX7_sumOf_37 : decode cX7_sumOf 37 = .ok (.aload_n 0, 1) := by decide +kernel
theorem dX7_sumOf_38 : decode cX7_sumOf 38 = .ok (.iload 4, 2) := by decide +kernel
theorem dX7_sumOf_40 : decode cX7_sumOf 40 = .ok (.iconst 2, 1) := by decide +kernel
theorem dX7_sumOf_41 : decode cX7_sumOf 41 = .ok (.invokevirtual 156, 3) := by decide +kernel
theorem dX7_sumOf_44 : decode cX7_sumOf 44 = .ok (.iadd, 1) := by decide +kernel
theorem dX7_sumOf_45 : decode cX7_sumOf 45 = .ok (.istore_n 3, 1) := by decide +kernel
theorem dX7_sumOf_46 : decode cX7_sumOf 46 = .ok (.iinc 4 1, 3) := by decide +kernel
theorem dX7_sumOf_49 : decode cX7_sumOf 49 = .ok (.goto (-44), 3) := by decide +kernel
theorem dX7_sumOf_52 : decode cX7_sumOf 52 = .ok (.iload_n 3, 1) := by decide +kernel
theorem dX7_sumOf_53 : decode cX7_sumOf 53 = .ok (.ireturn, 1) := by decide +kernel
theorem dX7_count_0 : decode cX7_count 0 = .ok (.iload_n 1, 1) := by decide +kernel
theorem dX7_count_1 : decode cX7_count 1 = .ok (.tableswitch 108 0 5 #[39, 59, 66, 71, 94, 101], 39) := by decide +kernel
theorem dX7_count_40 : decode cX7_count 40 = .ok (.aload_n 0, 1) := by decide +kernel
theorem dX7_count_41 : decode cX7_count 41 = .ok (.getfield 16, 3) := by decide +kernel
theorem dX7_count_44 : decode cX7_count 44 = .ok (.iconst 0, 1) := by decide +kernel
theorem dX7_count_45 : decode cX7_count 45 = .ok (.baload, 1) := by decide +kernel
theorem dX7_count_46 : decode cX7_count 46 = .ok (.invokestatic 159, 3) := by decide +kernel
theorem dX7_count_49 : decode cX7_count 49 = .ok (.aload_n 0, 1) := by decide +kernel
theorem dX7_count_50 : decode cX7_count 50 = .ok (.getfield 16, 3) := by decide +kernel
theorem dX7_count_53 : decode cX7_count 53 = .ok (.iconst 1, 1) := by decide +kernel
theorem dX7_count_54 : decode cX7_count 54 = .ok (.baload, 1) := by decide +kernel
theorem dX7_count_55 : decode cX7_count 55 = .ok (.invokestatic 159, 3) := by decide +kernel
theorem dX7_count_58 : decode cX7_count 58 = .ok (.iadd, 1) := by decide +kernel
theorem dX7_count_59 : decode cX7_count 59 = .ok (.ireturn, 1) := by decide +kernel
theorem dX7_count_60 : decode cX7_count 60 = .ok (.aload_n 0, 1) := by decide +kernel
theorem dX7_count_61 : decode cX7_count 61 = .ok (.iconst 4, 1) := by decide +kernel
theorem dX7_count_62 : decode cX7_count 62 = .ok (.iconst 1, 1) := by decide +kernel
theorem dX7_count_63 : decode cX7_count 63 = .ok (.invokevirtual 326, 3) := by decide +kernel
theorem dX7_count_66 : decode cX7_count 66 = .ok (.ireturn, 1) := by decide +kernel
theorem dX7_count_67 : decode cX7_count 67 = .ok (.aload_n 0, 1) := by decide +kernel
theorem dX7_count_68 : decode cX7_count 68 = .ok (.getfield 82, 3) := by decide +kernel
theorem dX7_count_71 : decode cX7_count 71 = .ok (.ireturn, 1) := by decide +kernel
theorem dX7_count_72 : decode cX7_count 72 = .ok (.aload_n 0, 1) := by decide +kernel
theorem dX7_count_73 : decode cX7_count 73 = .ok (.getfield 54, 3) := by decide +kernel
theorem dX7_count_76 : decode cX7_count 76 = .ok (.iconst 0, 1) := by decide +kernel
theorem dX7_count_77 : decode cX7_count 77 = .ok (.iaload, 1) := by decide +kernel
theorem dX7_count_78 : decode cX7_count 78 = .ok (.bipush (-4), 2) := by decide +kernel
theorem dX7_count_80 : decode cX7_count 80 = .ok (.if_icmp .ne 8, 3) := by decide +kernel
theorem dX7_count_83 : decode cX7_count 83 = .ok (.bipush (-4), 2) := by decide +kernel
theorem dX7_count_85 : decode cX7_count 85 = .ok (.goto 9, 3) := by decide +kernel
theorem dX7_count_88 : decode cX7_count 88 = .ok (.aload_n 0, 1) := by decide +kernel
theorem dX7_count_89 : decode cX7_count 89 = .ok (.getfield 57, 3) := by decide +kernel
theorem dX7_count_92 : decode cX7_count 92 = .ok (.iconst 0, 1) := by decide +kernel
theorem dX7_count_93 : decode cX7_count 93 = .ok (.iaload, 1) := by decide +kernel
theorem dX7_count_94 : decode cX7_count 94 = .ok (.ireturn, 1) := by decide +kernel
theorem dX7_count_95 : decode cX7_count 95 = .ok (.aload_n 0, 1) := by decide +kernel
theorem dX7_count_96 : decode cX7_count 96 = .ok (.iconst 0, 1) := by decide +kernel
theorem dX7_count_97 : decode cX7_count 97 = .ok (.iconst 0, 1) := by decide +kernel
theorem dX7_count_98 : decode cX7_count 98 = .ok (.invokevirtual 326, 3) := by decide +kernel
theorem dX7_count_101 : decode cX7_count 101 = .ok (.ireturn, 1) := by decide +kernel
theorem dX7_count_102 : decode cX7_count 102 = .ok (.aload_n 0, 1) := by decide +kernel
theorem dX7_count_103 : decode cX7_count 103 = .ok (.iconst 5, 1) := by decide +kernel
theorem dX7_count_104 : decode cX7_count 104 = .ok (.iconst 0, 1) := by decide +kernel
theorem dX7_count_105 : decode cX7_count 105 = .ok (.invokevirtual 326, 3) := by decide +kernel
theorem dX7_count_108 : decode cX7_count 108 = .ok (.ireturn, 1) := by decide +kernel
theorem dX7_count_109 : decode cX7_count 109 = .ok (.iconst (-1), 1) := by decide +kernel
theorem dX7_count_110 : decode cX7_count 110 = .ok (.ireturn, 1) := by decide +kernel
