theorem dX6_init_0 : decode cX6_init 0 = .ok (.aload_n 0, 1) := by decide +kernel
theorem dX6_init_1 : decode cX6_init 1 = .ok (.invokespecial 3, 3) := by decide +kernel
theorem dX6_init_4 : decode cX6_init 4 = .ok (.aload_n 0, 1) := by decide +kernel
theorem dX6_init_5 : decode cX6_init 5 = .ok (.new 9, 3) := by decide +kernel
theorem dX6_init_8 : decode cX6_init 8 = .ok (.dup, 1) := by decide +kernel
theorem dX6_init_9 : decode cX6_init 9 = .ok (.invokespecial 11, 3) := by decide +kernel
theorem dX6_init_12 : decode cX6_init 12 = .ok (.putfield 12, 3) := by decide +kernel
theorem dX6_init_15 : decode cX6_init 15 = .ok (.aload_n 0, 1) := by decide +kernel
theorem dX6_init_16 : decode cX6_init 16 = .ok (.new 16, 3) := by decide +kernel
theorem dX6_init_19 : decode cX6_init 19 = .ok (.dup, 1) := by decide +kernel
theorem dX6_init_20 : decode cX6_init 20 = .ok (.invokespecial 18, 3) := by decide +kernel
theorem dX6_init_23 : decode cX6_init 23 = .ok (.putfield 19, 3) := by decide +kernel
theorem dX6_init_26 : decode cX6_init 26 = .ok (.aload_n 0, 1) := by decide +kernel
theorem dX6_init_27 : decode cX6_init 27 = .ok (.iconst 2, 1) := by decide +kernel
theorem dX6_init_28 : decode cX6_init 28 = .ok (.anewarray 16, 3) := by decide +kernel
theorem dX6_init_31 : decode cX6_init 31 = .ok (.putfield 23, 3) := by decide +kernel
theorem dX6_init_34 : decode cX6_init 34 = .ok (.aload_n 0, 1) := by decide +kernel
theorem dX6_init_35 : decode cX6_init 35 = .ok (.iconst 2, 1) := by decide +kernel
theorem dX6_init_36 : decode cX6_init 36 = .ok (.newarray .boolean, 2) := by decide +kernel
theorem dX6_init_38 : decode cX6_init 38 = .ok (.putfield 27, 3) := by decide +kernel
theorem dX6_init_41 : decode cX6_init 41 = .ok (.aload_n 0, 1) := by decide +kernel
theorem dX6_init_42 : decode cX6_init 42 = .ok (.new 31, 3) := by decide +kernel
theorem dX6_init_45 : decode cX6_init 45 = .ok (.dup, 1) := by decide +kernel
theorem dX6_init_46 : decode cX6_init 46 = .ok (.invokespecial 33, 3) := by decide +kernel
theorem dX6_init_49 : decode cX6_init 49 = .ok (.putfield 34, 3) := by decide +kernel
theorem dX6_init_52 : decode cX6_init 52 = .ok (.aload_n 0, 1) := by decide +kernel
theorem dX6_init_53 : decode cX6_init 53 = .ok (.new 38, 3) := by decide +kernel
theorem dX6_init_56 : decode cX6_init 56 = .ok (.dup, 1) := by decide +kernel
theorem dX6_init_57 : decode cX6_init 57 = .ok (.invokespecial 40, 3) := by decide +kernel
theorem dX6_init_60 : decode cX6_init 60 = .ok (.putfield 41, 3) := by decide +kernel
theorem dX6_init_63 : decode cX6_init 63 = .ok (.aload_n 0, 1) := by decide +kernel
theorem dX6_init_64 : decode cX6_init 64 = .ok (.new 38, 3) := by decide +kernel
theorem dX6_init_67 : decode cX6_init 67 = .ok (.dup, 1) := by decide +kernel
theorem dX6_init_68 : decode cX6_init 68 = .ok (.invokespecial 40, 3) := by decide +kernel
theorem dX6_init_71 : decode cX6_init 71 = .ok (.putfield 45, 3) := by decide +kernel
theorem dX6_init_74 : decode cX6_init 74 = .ok (.aload_n 0, 1) := by decide +kernel
theorem dX6_init_75 : decode cX6_init 75 = .ok (.iconst 4, 1) := by decide +kernel
theorem dX6_init_76 : decode cX6_init 76 = .ok (.anewarray 48, 3) := by decide +kernel
theorem dX6_init_79 : decode cX6_init 79 = .ok (.putfield 50, 3) := by decide +kernel
theorem dX6_init_82 : decode cX6_init 82 = .ok (.iconst 0, 1) := by decide +kernel
theorem dX6_init_83 : decode cX6_init 83 = .ok (.istore_n 1, 1) := by decide +kernel
theorem dX6_init_84 : decode cX6_init 84 = .ok (.iload_n 1, 1) := by decide +kernel
theorem dX6_init_85 : decode cX6_init 85 = .ok (.iconst 2, 1) := by decide +kernel
theorem dX6_init_86 : decode cX6_init 86 = .ok (.if_icmp .ge 22, 3) := by decide +kernel
theorem dX6_init_89 : decode cX6_init 89 = .ok (.aload_n 0, 1) := by decide +kernel
theorem dX6_init_90 : decode cX6_init 90 = .ok (.getfield 23, 3) := by decide +kernel
theorem dX6_init_93 : decode cX6_init 93 = .ok (.iload_n 1, 1) := by decide +kernel
theorem dX6_init_94 : decode cX6_init 94 = .ok (.new 16, 3) := by decide +kernel
theorem dX6_init_97 : decode cX6_init 97 = .ok (.dup, 1) := by decide +kernel
theorem dX6_init_98 : decode cX6_init 98 = .ok (.invokespecial 18, 3) := by decide +kernel
theorem dX6_init_101 : decode cX6_init 101 = .ok (.aastore, 1) := by decide +kernel
theorem dX6_init_102 : decode cX6_init 102 = .ok (.iinc 1 1, 3) := by decide +kernel
theorem dX6_init_105 : decode cX6_init 105 = .ok (.goto (-21), 3) := by decide +kernel
theorem dX6_init_108 : decode cX6_init 108 = .ok (.iconst 0, 1) := by decide +kernel
theorem dX6_init_109 : decode cX6_init 109 = .ok (.istore_n 1, 1) := by decide +kernel
theorem dX6_init_110 : decode cX6_init 110 = .ok (.iload_n 1, 1) := by decide +kernel
theorem dX6_init_111 : decode cX6_init 111 = .ok (.iconst 4, 1) := by decide +kernel
theorem dX6_init_112 : decode cX6_init 112 = .ok (.if_icmp .ge 22, 3) := by decide +kernel
theorem dX6_init_115 : decode cX6_init 115 = .ok (.aload_n 0, 1) := by decide +kernel
theorem dX6_init_116 : decode cX6_init 116 = .ok (.getfield 50, 3) := by decide +kernel
theorem dX6_init_119 : decode cX6_init 119 = .ok (.iload_n 1, 1) := by decide +kernel
theorem dX6_init_120 : decode cX6_init 120 = .ok (.new 48, 3) := by decide +kernel
theorem dX6_init_123 : decode cX6_init 123 = .ok (.dup, 1) := by decide +kernel
theorem dX6_init_124 : decode cX6_init 124 = .ok (.invokespecial 54, 3) := by decide +kernel
theorem dX6_init_127 : decode cX6_init 127 = .ok (.aastore, 1) := by decide +kernel
theorem dX6_init_128 : decode cX6_init 128 = .ok (.iinc 1 1, 3) := by decide +kernel
theorem dX6_init_131 : decode cX6_init 131 = .ok (.goto (-21), 3) := by decide +kernel
theorem dX6_init_134 : decode cX6_init 134 = .ok (.return_, 1) := by decide +kernel
theorem dX6_feed_0 : decode cX6_feed 0 = .ok (.iload_n 1, 1) := by decide +kernel
theorem dX6_feed_1 : decode cX6_feed 1 = .ok (.ifCond .lt 9, 3) := by decide +kernel
theorem dX6_feed_4 : decode cX6_feed 4 = .ok (.iload_n 1, 1) := by decide +kernel
theorem dX6_feed_5 : decode cX6_feed 5 = .ok (.bipush 127, 2) := by decide +kernel
theorem dX6_feed_7 : decode cX6_feed 7 = .ok (.if_icmp .le 5, 3) := by decide +kernel
theorem dX6_feed_10 : decode cX6_feed 10 = .ok (.iconst (-1), 1) := by decide +kernel
theorem dX6_feed_11 : decode cX6_feed 11 = .ok (.ireturn, 1) := by decide +kernel
theorem dX6_feed_12 : decode cX6_feed 12 = .ok (.aload_n 0, 1) := by decide +kernel
theorem dX6_feed_13 : decode cX6_feed 13 = .ok (.getfield 12, 3) := by decide +kernel
theorem dX6_feed_16 : decode cX6_feed 16 = .ok (.getfield 55, 3) := by decide +kernel
theorem dX6_feed_19 : decode cX6_feed 19 = .ok (.sipush 320, 3) := by decide +kernel
theorem dX6_feed_22 : decode cX6_feed 22 = .ok (.if_icmp .lt 6, 3) := by decide +kernel
theorem dX6_feed_25 : decode cX6_feed 25 = .ok (.bipush (-3), 2) := by decide +kernel
theorem dX6_feed_27 : decode cX6_feed 27 = .ok (.ireturn, 1) := by decide +kernel
theorem dX6_feed_28 : decode cX6_feed 28 = .ok (.aload_n 0, 1) := by decide +kernel
theorem dX6_feed_29 : decode cX6_feed 29 = .ok (.getfield 12, 3) := by decide +kernel
theorem dX6_feed_32 : decode cX6_feed 32 = .ok (.getfield 59, 3) := by decide +kernel
theorem dX6_feed_35 : decode cX6_feed 35 = .ok (.aload_n 0, 1) := by decide +kernel
theorem dX6_feed_36 : decode cX6_feed 36 = .ok (.getfield 12, 3) := by decide +kernel
theorem dX6_feed_39 : decode cX6_feed 39 = .ok (.getfield 55, 3) := by decide +kernel
theorem dX6_feed_42 : decode cX6_feed 42 = .ok (.iload_n 1, 1) := by decide +kernel
theorem dX6_feed_43 : decode cX6_feed 43 = .ok (.i2b, 1) := by decide +kernel
theorem dX6_feed_44 : decode cX6_feed 44 = .ok (.bastore, 1) := by decide +kernel
theorem dX6_feed_45 : decode cX6_feed 45 = .ok (.aload_n 0, 1) := by decide +kernel
theorem dX6_feed_46 : decode cX6_feed 46 = .ok (.getfield 12, 3) := by decide +kernel
theorem dX6_feed_49 : decode cX6_feed 49 = .ok (.dup, 1) := by decide +kernel
theorem dX6_feed_50 : decode cX6_feed 50 = .ok (.getfield 55, 3) := by decide +kernel
theorem dX6_feed_53 : decode cX6_feed 53 = .ok (.iconst 1, 1) := by decide +kernel
theorem dX6_feed_54 : decode cX6_feed 54 = .ok (.iadd, 1) := by decide +kernel
theorem dX6_feed_55 : decode cX6_feed 55 = .ok (.putfield 55, 3) := by decide +kernel
theorem dX6_feed_58 : decode cX6_feed 58 = .ok (.aload_n 0, 1) := by decide +kernel
theorem dX6_feed_59 : decode cX6_feed 59 = .ok (.getfield 12, 3) := by decide +kernel
theorem dX6_feed_62 : decode cX6_feed 62 = .ok (.getfield 55, 3) := by decide +kernel
theorem dX6_feed_65 : decode cX6_feed 65 = .ok (.ireturn, 1) := by decide +kernel
theorem dX6_end_0 : decode cX6_end 0 = .ok (.aload_n 0, 1) := by decide +kernel
theorem dX6_end_1 : decode cX6_end 1 = .ok (.getfield 12, 3) := by decide +kernel
theorem dX6_end_4 : decode cX6_end 4 = .ok (.getfield 55, 3) := by decide +kernel
theorem dX6_end_7 : decode cX6_end 7 = .ok (.istore_n 2, 1) := by decide +kernel
theorem dX6_end_8 : decode cX6_end 8 = .ok (.iload_n 1, 1) := by decide +kernel
theorem dX6_end_9 : decode cX6_end 9 = .ok (.ifCond .lt 8, 3) := by decide +kernel
theorem dX6_end_12 : decode cX6_end 12 = .ok (.iload_n 1, 1) := by decide +kernel
theorem dX6_end_13 : decode cX6_end 13 = .ok (.iload_n 2, 1) := by decide +kernel
theorem dX6_end_14 : decode cX6_end 14 = .ok (.if_icmp .le 5, 3) := by decide +kernel
theorem dX6_end_17 : decode cX6_end 17 = .ok (.iconst (-1), 1) := by decide +kernel
theorem dX6_end_18 : decode cX6_end 18 = .ok (.ireturn, 1) := by decide +kernel
theorem dX6_end_19 : decode cX6_end 19 = .ok (.aload_n 0, 1) := by decide +kernel
theorem dX6_end_20 : decode cX6_end 20 = .ok (.getfield 12, 3) := by decide +kernel
theorem dX6_end_23 : decode cX6_end 23 = .ok (.iload_n 1, 1) := by decide +kernel
theorem dX6_end_24 : decode cX6_end 24 = .ok (.putfield 55, 3) := by decide +kernel
theorem dX6_end_27 : decode cX6_end 27 = .ok (.iload_n 2, 1) := by decide +kernel
theorem dX6_end_28 : decode cX6_end 28 = .ok (.ireturn, 1) := by decide +kernel
theorem dX6_text_0 : decode cX6_text 0 = .ok (.aload_n 0, 1) := by decide +kernel
theorem dX6_text_1 : decode cX6_text 1 = .ok (.getfield 12, 3) := by decide +kernel
theorem dX6_text_4 : decode cX6_text 4 = .ok (.invokevirtual 63, 3) := by decide +kernel
theorem dX6_text_7 : decode cX6_text 7 = .ok (.istore_n 1, 1) := by decide +kernel
theorem dX6_text_8 : decode cX6_text 8 = .ok (.aload_n 0, 1) := by decide +kernel
theorem dX6_text_9 : decode cX6_text 9 = .ok (.getfield 12, 3) := by decide +kernel
theorem dX6_text_12 : decode cX6_text 12 = .ok (.iconst 0, 1) := by decide +kernel
theorem dX6_text_13 : decode cX6_text 13 = .ok (.putfield 55, 3) := by decide +kernel
theorem dX6_text_16 : decode cX6_text 16 = .ok (.iload_n 1, 1) := by decide +kernel
theorem dX6_text_17 : decode cX6_text 17 = .ok (.ifCond .ne 14, 3) := by decide +kernel
theorem dX6_text_20 : decode cX6_text 20 = .ok (.bipush (-10), 2) := by decide +kernel
theorem dX6_text_22 : decode cX6_text 22 = .ok (.aload_n 0, 1) := by decide +kernel
theorem dX6_text_23 : decode cX6_text 23 = .ok (.getfield 12, 3) := by decide +kernel
theorem dX6_text_26 : decode cX6_text 26 = .ok (.getfield 67, 3) := by decide +kernel
theorem dX6_text_29 : decode cX6_text 29 = .ok (.isub, 1) := by decide +kernel
theorem dX6_text_30 : decode cX6_text 30 = .ok (.ireturn, 1) := by decide +kernel
theorem dX6_text_31 : decode cX6_text 31 = .ok (.aload_n 0, 1) := by decide +kernel
theorem dX6_text_32 : decode cX6_text 32 = .ok (.getfield 19, 3) := by decide +kernel
theorem dX6_text_35 : decode cX6_text 35 = .ok (.aload_n 0, 1) := by decide +kernel
theorem dX6_text_36 : decode cX6_text 36 = .ok (.getfield 12, 3) := by decide +kernel
theorem dX6_text_39 : decode cX6_text 39 = .ok (.getfield 70, 3) := by decide +kernel
theorem dX6_text_42 : decode cX6_text 42 = .ok (.invokevirtual 73, 3) := by decide +kernel
theorem dX6_text_45 : decode cX6_text 45 = .ok (.aload_n 0, 1) := by decide +kernel
theorem dX6_text_46 : decode cX6_text 46 = .ok (.iconst 0, 1) := by decide +kernel
theorem dX6_text_47 : decode cX6_text 47 = .ok (.putfield 77, 3) := by decide +kernel
theorem dX6_text_50 : decode cX6_text 50 = .ok (.iconst 0, 1) := by decide +kernel
theorem dX6_text_51 : decode cX6_text 51 = .ok (.istore_n 2, 1) := by decide +kernel
theorem dX6_text_52 : decode cX6_text 52 = .ok (.iload_n 2, 1) := by decide +kernel
theorem dX6_text_53 : decode cX6_text 53 = .ok (.iconst 2, 1) := by decide +kernel
theorem dX6_text_54 : decode cX6_text 54 = .ok (.if_icmp .ge 16, 3) := by decide +kernel
theorem dX6_text_57 : decode cX6_text 57 = .ok (.aload_n 0, 1) := by decide +kernel
theorem dX6_text_58 : decode cX6_text 58 = .ok (.getfield 27, 3) := by decide +kernel
theorem dX6_text_61 : decode cX6_text 61 = .ok (.iload_n 2, 1) := by decide +kernel
theorem dX6_text_62 : decode cX6_text 62 = .ok (.iconst 0, 1) := by decide +kernel
theorem dX6_text_63 : decode cX6_text 63 = .ok (.bastore, 1) := by decide +kernel
theorem dX6_text_64 : decode cX6_text 64 = .ok (.iinc 2 1, 3) := by decide +kernel
theorem dX6_text_67 : decode cX6_text 67 = .ok (.goto (-15), 3) := by decide +kernel
theorem dX6_text_70 : decode cX6_text 70 = .ok (.aload_n 0, 1) := by decide +kernel
theorem dX6_text_71 : decode cX6_text 71 = .ok (.getfield 19, 3) := by decide +kernel
theorem dX6_text_74 : decode cX6_text 74 = .ok (.getfield 81, 3) := by decide +kernel
theorem dX6_text_77 : decode cX6_text 77 = .ok (.ireturn, 1) := by decide +kernel
theorem dX6_fault_0 : decode cX6_fault 0 = .ok (.aload_n 0, 1) := by decide +kernel
theorem dX6_fault_1 : decode cX6_fault 1 = .ok (.getfield 12, 3) := by decide +kernel
theorem dX6_fault_4 : decode cX6_fault 4 = .ok (.getfield 84, 3) := by decide +kernel
theorem dX6_fault_7 : decode cX6_fault 7 = .ok (.ireturn, 1) := by decide +kernel
theorem dX6_rule_0 : decode cX6_rule 0 = .ok (.iload_n 1, 1) := by decide +kernel
theorem dX6_rule_1 : decode cX6_rule 1 = .ok (.tableswitch 93 0 5 #[39, 47, 55, 63, 71, 83], 39) := by decide +kernel
theorem dX6_rule_40 : decode cX6_rule 40 = .ok (.aload_n 0, 1) := by decide +kernel
theorem dX6_rule_41 : decode cX6_rule 41 = .ok (.getfield 19, 3) := by decide +kernel
theorem dX6_rule_44 : decode cX6_rule 44 = .ok (.getfield 81, 3) := by decide +kernel
theorem dX6_rule_47 : decode cX6_rule 47 = .ok (.ireturn, 1) := by decide +kernel
theorem dX6_rule_48 : decode cX6_rule 48 = .ok (.aload_n 0, 1) := by decide +kernel
theorem dX6_rule_49 : decode cX6_rule 49 = .ok (.getfield 19, 3) := by decide +kernel
theorem dX6_rule_52 : decode cX6_rule 52 = .ok (.getfield 87, 3) := by decide +kernel
theorem dX6_rule_55 : decode cX6_rule 55 = .ok (.ireturn, 1) := by decide +kernel
theorem dX6_rule_56 : decode cX6_rule 56 = .ok (.aload_n 0, 1) := by decide +kernel
theorem dX6_rule_57 : decode cX6_rule 57 = .ok (.getfield 19, 3) := by decide +kernel
theorem dX6_rule_60 : decode cX6_rule 60 = .ok (.invokevirtual 90, 3) := by decide +kernel
theorem dX6_rule_63 : decode cX6_rule 63 = .ok (.ireturn, 1) := by decide +kernel
theorem dX6_rule_64 : decode cX6_rule 64 = .ok (.aload_n 0, 1) := by decide +kernel
theorem dX6_rule_65 : decode cX6_rule 65 = .ok (.getfield 19, 3) := by decide +kernel
theorem dX6_rule_68 : decode cX6_rule 68 = .ok (.getfield 94, 3) := by decide +kernel
theorem dX6_rule_71 : decode cX6_rule 71 = .ok (.ireturn, 1) := by decide +kernel
theorem dX6_rule_72 : decode cX6_rule 72 = .ok (.aload_n 0, 1) := by decide +kernel
theorem dX6_rule_73 : decode cX6_rule 73 = .ok (.invokevirtual 97, 3) := by decide +kernel
theorem dX6_rule_76 : decode cX6_rule 76 = .ok (.aload_n 0, 1) := by decide +kernel
theorem dX6_rule_77 : decode cX6_rule 77 = .ok (.getfield 19, 3) := by decide +kernel
theorem dX6_rule_80 : decode cX6_rule 80 = .ok (.invokevirtual 101, 3) := by decide +kernel
theorem dX6_rule_83 : decode cX6_rule 83 = .ok (.ireturn, 1) := by decide +kernel
theorem dX6_rule_84 : decode cX6_rule 84 = .ok (.aload_n 0, 1) := by decide +kernel
theorem dX6_rule_85 : decode cX6_rule 85 = .ok (.invokevirtual 97, 3) := by decide +kernel
theorem dX6_rule_88 : decode cX6_rule 88 = .ok (.getfield 105, 3) := by decide +kernel
theorem dX6_rule_91 : decode cX6_rule 91 = .ok (.iconst 0, 1) := by decide +kernel
theorem dX6_rule_92 : decode cX6_rule 92 = .ok (.iaload, 1) := by decide +kernel
theorem dX6_rule_93 : decode cX6_rule 93 = .ok (.ireturn, 1) := by decide +kernel
theorem dX6_rule_94 : decode cX6_rule 94 = .ok (.iconst (-1), 1) := by decide +kernel
theorem dX6_rule_95 : decode cX6_rule 95 = .ok (.ireturn, 1) := by decide +kernel
theorem dX6_code_0 : decode cX6_code 0 = .ok (.aload_n 0, 1) := by decide +kernel
theorem dX6_code_1 : decode cX6_code 1 = .ok (.getfield 19, 3) := by decide +kernel
theorem dX6_code_4 : decode cX6_code 4 = .ok (.iload_n 1, 1) := by decide +kernel
theorem dX6_code_5 : decode cX6_code 5 = .ok (.invokevirtual 109, 3) := by decide +kernel
theorem dX6_code_8 : decode cX6_code 8 = .ok (.ifCond .ne 5, 3) := by decide +kernel
theorem dX6_code_11 : decode cX6_code 11 = .ok (.iconst (-1), 1) := by decide +kernel
theorem dX6_code_12 : decode cX6_code 12 = .ok (.ireturn, 1) := by decide +kernel
theorem dX6_code_13 : decode cX6_code 13 = .ok (.iload_n 2, 1) := by decide +kernel
theorem dX6_code_14 : decode cX6_code 14 = .ok (.tableswitch 127 0 6 #[42, 52, 62, 72, 98, 108, 118], 42) := by decide +kernel
theorem dX6_code_56 : decode cX6_code 56 = .ok (.aload_n 0, 1) := by decide +kernel
theorem dX6_code_57 : decode cX6_code 57 = .ok (.getfield 19, 3) := by decide +kernel
theorem dX6_code_60 : decode cX6_code 60 = .ok (.getfield 113, 3) := by decide +kernel
theorem dX6_code_63 : decode cX6_code 63 = .ok (.iload_n 1, 1) := by decide +kernel
theorem dX6_code_64 : decode cX6_code 64 = .ok (.iaload, 1) := by decide +kernel
theorem dX6_code_65 : decode cX6_code 65 = .ok (.ireturn, 1) := by decide +kernel
theorem dX6_code_66 : decode cX6_code 66 = .ok (.aload_n 0, 1) := by decide +kernel
theorem dX6_code_67 : decode cX6_code 67 = .ok (.getfield 19, 3) := by decide +kernel
theorem dX6_code_70 : decode cX6_code 70 = .ok (.getfield 116, 3) := by decide +kernel
theorem dX6_code_73 : decode cX6_code 73 = .ok (.iload_n 1, 1) := by decide +kernel
theorem dX6_code_74 : decode cX6_code 74 = .ok (.iaload, 1) := by decide +kernel
theorem dX6_code_75 : decode cX6_code 75 = .ok (.ireturn, 1) := by decide +kernel
theorem dX6_code_76 : decode cX6_code 76 = .ok (.aload_n 0, 1) := by decide +kernel
theorem dX6_code_77 : decode cX6_code 77 = .ok (.getfield 19, 3) := by decide +kernel
theorem dX6_code_80 : decode cX6_code 80 = .ok (.getfield 119, 3) := by decide +kernel
theorem dX6_code_83 : decode cX6_code 83 = .ok (.iload_n 1, 1) := by decide +kernel
theorem dX6_code_84 : decode cX6_code 84 = .ok (.iaload, 1) := by decide +kernel
theorem dX6_code_85 : decode cX6_code 85 = .ok (.ireturn, 1) := by decide +kernel
theorem dX6_code_86 : decode cX6_code 86 = .ok (.aload_n 0, 1) := by decide +kernel
theorem dX6_code_87 : decode cX6_code 87 = .ok (.getfield 19, 3) := by decide +kernel
theorem dX6_code_90 : decode cX6_code 90 = .ok (.iload_n 1, 1) := by decide +kernel
theorem dX6_code_91 : decode cX6_code 91 = .ok (.invokevirtual 122, 3) := by decide +kernel
theorem dX6_code_94 : decode cX6_code 94 = .ok (.ifCond .eq 15, 3) := by decide +kernel
theorem dX6_code_97 : decode cX6_code 97 = .ok (.aload_n 0, 1) := by decide +kernel
theorem dX6_code_98 : decode cX6_code 98 = .ok (.getfield 19, 3) := by decide +kernel
theorem dX6_code_101 : decode cX6_code 101 = .ok (.getfield 125, 3) := by decide +kernel
theorem dX6_code_104 : decode cX6_code 104 = .ok (.iload_n 1, 1) := by decide +kernel
theorem dX6_code_105 : decode cX6_code 105 = .ok (.iaload, 1) := by decide +kernel
theorem dX6_code_106 : decode cX6_code 106 = .ok (.goto 5, 3) := by decide +kernel
theorem dX6_code_109 : decode cX6_code 109 = .ok (.bipush (-4), 2) := by decide +kernel
theorem dX6_code_111 : decode cX6_code 111 = .ok (.ireturn, 1) := by decide +kernel
theorem dX6_code_112 : decode cX6_code 112 = .ok (.aload_n 0, 1) := by decide +kernel
theorem dX6_code_113 : decode cX6_code 113 = .ok (.getfield 19, 3) := by decide +kernel
theorem dX6_code_116 : decode cX6_code 116 = .ok (.getfield 128, 3) := by decide +kernel
theorem dX6_code_119 : decode cX6_code 119 = .ok (.iload_n 1, 1) := by decide +kernel
theorem dX6_code_120 : decode cX6_code 120 = .ok (.iaload, 1) := by decide +kernel
theorem dX6_code_121 : decode cX6_code 121 = .ok (.ireturn, 1) := by decide +kernel
theorem dX6_code_122 : decode cX6_code 122 = .ok (.aload_n 0, 1) := by decide +kernel
theorem dX6_code_123 : decode cX6_code 123 = .ok (.invokevirtual 97, 3) := by decide +kernel
theorem dX6_code_126 : decode cX6_code 126 = .ok (.getfield 131, 3) := by decide +kernel
theorem dX6_code_129 : decode cX6_code 129 = .ok (.iload_n 1, 1) := by decide +kernel
theorem dX6_code_130 : decode cX6_code 130 = .ok (.iaload, 1) := by decide +kernel
theorem dX6_code_131 : decode cX6_code 131 = .ok (.ireturn, 1) := by decide +kernel
theorem dX6_code_132 : decode cX6_code 132 = .ok (.aload_n 0, 1) := by decide +kernel
theorem dX6_code_133 : decode cX6_code 133 = .ok (.getfield 19, 3) := by decide +kernel
theorem dX6_code_136 : decode cX6_code 136 = .ok (.iload_n 1, 1) := by decide +kernel
theorem dX6_code_137 : decode cX6_code 137 = .ok (.invokevirtual 134, 3) := by decide +kernel
theorem dX6_code_140 : decode cX6_code 140 = .ok (.ireturn, 1) := by decide +kernel
theorem dX6_code_141 : decode cX6_code 141 = .ok (.iconst (-1), 1) := by decide +kernel
theorem dX6_code_142 : decode cX6_code 142 = .ok (.ireturn, 1) := by decide +kernel
theorem dX6_guard_0 : decode cX6_guard 0 = .ok (.aload_n 0, 1) := by decide +kernel
theorem dX6_guard_1 : decode cX6_guard 1 = .ok (.getfield 19, 3) := by decide +kernel
theorem dX6_guard_4 : decode cX6_guard 4 = .ok (.iload_n 1, 1) := by decide +kernel
theorem dX6_guard_5 : decode cX6_guard 5 = .ok (.invokevirtual 138, 3) := by decide +kernel
theorem dX6_guard_8 : decode cX6_guard 8 = .ok (.ifCond .ne 5, 3) := by decide +kernel
theorem dX6_guard_11 : decode cX6_guard 11 = .ok (.iconst (-1), 1) := by decide +kernel
theorem dX6_guard_12 : decode cX6_guard 12 = .ok (.ireturn, 1) := by decide +kernel
theorem dX6_guard_13 : decode cX6_guard 13 = .ok (.iload_n 2, 1) := by decide +kernel
theorem dX6_guard_14 : decode cX6_guard 14 = .ok (.tableswitch 66 0 3 #[30, 39, 48, 57], 30) := by decide +kernel
theorem dX6_guard_44 : decode cX6_guard 44 = .ok (.aload_n 0, 1) := by decide +kernel
theorem dX6_guard_45 : decode cX6_guard 45 = .ok (.getfield 19, 3) := by decide +kernel
theorem dX6_guard_48 : decode cX6_guard 48 = .ok (.iload_n 1, 1) := by decide +kernel
theorem dX6_guard_49 : decode cX6_guard 49 = .ok (.invokevirtual 141, 3) := by decide +kernel
theorem dX6_guard_52 : decode cX6_guard 52 = .ok (.ireturn, 1) := by decide +kernel
theorem dX6_guard_53 : decode cX6_guard 53 = .ok (.aload_n 0, 1) := by decide +kernel
theorem dX6_guard_54 : decode cX6_guard 54 = .ok (.getfield 19, 3) := by decide +kernel
theorem dX6_guard_57 : decode cX6_guard 57 = .ok (.iload_n 1, 1) := by decide +kernel
theorem dX6_guard_58 : decode cX6_guard 58 = .ok (.invokevirtual 144, 3) := by decide +kernel
theorem dX6_guard_61 : decode cX6_guard 61 = .ok (.ireturn, 1) := by decide +kernel
theorem dX6_guard_62 : decode cX6_guard 62 = .ok (.aload_n 0, 1) := by decide +kernel
theorem dX6_guard_63 : decode cX6_guard 63 = .ok (.getfield 19, 3) := by decide +kernel
theorem dX6_guard_66 : decode cX6_guard 66 = .ok (.iload_n 1, 1) := by decide +kernel
theorem dX6_guard_67 : decode cX6_guard 67 = .ok (.invokevirtual 147, 3) := by decide +kernel
theorem dX6_guard_70 : decode cX6_guard 70 = .ok (.ireturn, 1) := by decide +kernel
theorem dX6_guard_71 : decode cX6_guard 71 = .ok (.aload_n 0, 1) := by decide +kernel
theorem dX6_guard_72 : decode cX6_guard 72 = .ok (.getfield 19, 3) := by decide +kernel
theorem dX6_guard_75 : decode cX6_guard 75 = .ok (.iload_n 1, 1) := by decide +kernel
theorem dX6_guard_76 : decode cX6_guard 76 = .ok (.invokevirtual 150, 3) := by decide +kernel
theorem dX6_guard_79 : decode cX6_guard 79 = .ok (.ireturn, 1) := by decide +kernel
theorem dX6_guard_80 : decode cX6_guard 80 = .ok (.iconst (-1), 1) := by decide +kernel
theorem dX6_guard_81 : decode cX6_guard 81 = .ok (.ireturn, 1) := by decide +kernel
theorem dX6_within_0 : decode cX6_within 0 = .ok (.aload_n 0, 1) := by decide +kernel
theorem dX6_within_1 : decode cX6_within 1 = .ok (.getfield 19, 3) := by decide +kernel
theorem dX6_within_4 : decode cX6_within 4 = .ok (.iload_n 1, 1) := by decide +kernel
theorem dX6_within_5 : decode cX6_within 5 = .ok (.invokevirtual 138, 3) := by decide +kernel
theorem dX6_within_8 : decode cX6_within 8 = .ok (.ifCond .eq 14, 3) := by decide +kernel
theorem dX6_within_11 : decode cX6_within 11 = .ok (.aload_n 0, 1) := by decide +kernel
theorem dX6_within_12 : decode cX6_within 12 = .ok (.getfield 19, 3) := by decide +kernel
theorem dX6_within_15 : decode cX6_within 15 = .ok (.iload_n 2, 1) := by decide +kernel
theorem dX6_within_16 : decode cX6_within 16 = .ok (.invokevirtual 138, 3) := by decide +kernel
theorem dX6_within_19 : decode cX6_within 19 = .ok (.ifCond .ne 5, 3) := by decide +kernel
theorem dX6_within_22 : decode cX6_within 22 = .ok (.iconst (-1), 1) := by decide +kernel
theorem dX6_within_23 : decode cX6_within 23 = .ok (.ireturn, 1) := by decide +kernel
theorem dX6_within_24 : decode cX6_within 24 = .ok (.aload_n 0, 1) := by decide +kernel
theorem dX6_within_25 : decode cX6_within 25 = .ok (.getfield 19, 3) := by decide +kernel
theorem dX6_within_28 : decode cX6_within 28 = .ok (.iload_n 1, 1) := by decide +kernel
theorem dX6_within_29 : decode cX6_within 29 = .ok (.iload_n 2, 1) := by decide +kernel
theorem dX6_within_30 : decode cX6_within 30 = .ok (.invokevirtual 153, 3) := by decide +kernel
theorem dX6_within_33 : decode cX6_within 33 = .ok (.invokestatic 157, 3) := by decide +kernel
theorem dX6_within_36 : decode cX6_within 36 = .ok (.ireturn, 1) := by decide +kernel
theorem dX6_apart_0 : decode cX6_apart 0 = .ok (.aload_n 0, 1) := by decide +kernel
theorem dX6_apart_1 : decode cX6_apart 1 = .ok (.getfield 19, 3) := by decide +kernel
theorem dX6_apart_4 : decode cX6_apart 4 = .ok (.iload_n 1, 1) := by decide +kernel
theorem dX6_apart_5 : decode cX6_apart 5 = .ok (.invokevirtual 138, 3) := by decide +kernel
theorem dX6_apart_8 : decode cX6_apart 8 = .ok (.ifCond .eq 14, 3) := by decide +kernel
theorem dX6_apart_11 : decode cX6_apart 11 = .ok (.aload_n 0, 1) := by decide +kernel
theorem dX6_apart_12 : decode cX6_apart 12 = .ok (.getfield 19, 3) := by decide +kernel
theorem dX6_apart_15 : decode cX6_apart 15 = .ok (.iload_n 2, 1) := by decide +kernel
theorem dX6_apart_16 : decode cX6_apart 16 = .ok (.invokevirtual 138, 3) := by decide +kernel
theorem dX6_apart_19 : decode cX6_apart 19 = .ok (.ifCond .ne 5, 3) := by decide +kernel
theorem dX6_apart_22 : decode cX6_apart 22 = .ok (.iconst (-1), 1) := by decide +kernel
theorem dX6_apart_23 : decode cX6_apart 23 = .ok (.ireturn, 1) := by decide +kernel
theorem dX6_apart_24 : decode cX6_apart 24 = .ok (.aload_n 0, 1) := by decide +kernel
theorem dX6_apart_25 : decode cX6_apart 25 = .ok (.getfield 19, 3) := by decide +kernel
theorem dX6_apart_28 : decode cX6_apart 28 = .ok (.iload_n 1, 1) := by decide +kernel
theorem dX6_apart_29 : decode cX6_apart 29 = .ok (.iload_n 2, 1) := by decide +kernel
theorem dX6_apart_30 : decode cX6_apart 30 = .ok (.invokestatic 161, 3) := by decide +kernel
theorem dX6_apart_33 : decode cX6_apart 33 = .ok (.invokestatic 157, 3) := by decide +kernel
theorem dX6_apart_36 : decode cX6_apart 36 = .ok (.ireturn, 1) := by decide +kernel
theorem dX6_cover_0 : decode cX6_cover 0 = .ok (.aload_n 0, 1) := by decide +kernel
theorem dX6_cover_1 : decode cX6_cover 1 = .ok (.getfield 19, 3) := by decide +kernel
theorem dX6_cover_4 : decode cX6_cover 4 = .ok (.iload_n 1, 1) := by decide +kernel
theorem dX6_cover_5 : decode cX6_cover 5 = .ok (.invokevirtual 138, 3) := by decide +kernel
theorem dX6_cover_8 : decode cX6_cover 8 = .ok (.ifCond .eq 20, 3) := by decide +kernel
theorem dX6_cover_11 : decode cX6_cover 11 = .ok (.iload_n 2, 1) := by decide +kernel
theorem dX6_cover_12 : decode cX6_cover 12 = .ok (.ifCond .lt 16, 3) := by decide +kernel
theorem dX6_cover_15 : decode cX6_cover 15 = .ok (.iload_n 2, 1) := by decide +kernel
theorem dX6_cover_16 : decode cX6_cover 16 = .ok (.iconst 1, 1) := by decide +kernel
theorem dX6_cover_17 : decode cX6_cover 17 = .ok (.aload_n 0, 1) := by decide +kernel
theorem dX6_cover_18 : decode cX6_cover 18 = .ok (.getfield 19, 3) := by decide +kernel
theorem dX6_cover_21 : decode cX6_cover 21 = .ok (.invokevirtual 167, 3) := by decide +kernel
theorem dX6_cover_24 : decode cX6_cover 24 = .ok (.ishl, 1) := by decide +kernel
theorem dX6_cover_25 : decode cX6_cover 25 = .ok (.if_icmp .lt 5, 3) := by decide +kernel
theorem dX6_cover_28 : decode cX6_cover 28 = .ok (.iconst (-1), 1) := by decide +kernel
theorem dX6_cover_29 : decode cX6_cover 29 = .ok (.ireturn, 1) := by decide +kernel
theorem dX6_cover_30 : decode cX6_cover 30 = .ok (.aload_n 0, 1) := by decide +kernel
theorem dX6_cover_31 : decode cX6_cover 31 = .ok (.getfield 19, 3) := by decide +kernel
theorem dX6_cover_34 : decode cX6_cover 34 = .ok (.iload_n 1, 1) := by decide +kernel
theorem dX6_cover_35 : decode cX6_cover 35 = .ok (.iload_n 2, 1) := by decide +kernel
theorem dX6_cover_36 : decode cX6_cover 36 = .ok (.invokestatic 170, 3) := by decide +kernel
theorem dX6_cover_39 : decode cX6_cover 39 = .ok (.invokestatic 157, 3) := by decide +kernel
theorem dX6_cover_42 : decode cX6_cover 42 = .ok (.ireturn, 1) := by decide +kernel
theorem dX6_run_0 : decode cX6_run 0 = .ok (.aload_n 0, 1) := by decide +kernel
theorem dX6_run_1 : decode cX6_run 1 = .ok (.getfield 41, 3) := by decide +kernel
theorem dX6_run_4 : decode cX6_run 4 = .ok (.iload_n 1, 1) := by decide +kernel
theorem dX6_run_5 : decode cX6_run 5 = .ok (.iload_n 2, 1) := by decide +kernel
theorem dX6_run_6 : decode cX6_run 6 = .ok (.iload_n 3, 1) := by decide +kernel
theorem dX6_run_7 : decode cX6_run 7 = .ok (.iload 4, 2) := by decide +kernel
theorem dX6_run_9 : decode cX6_run 9 = .ok (.invokevirtual 173, 3) := by decide +kernel
theorem dX6_run_12 : decode cX6_run 12 = .ok (.aload_n 0, 1) := by decide +kernel
theorem dX6_run_13 : decode cX6_run 13 = .ok (.getfield 41, 3) := by decide +kernel
theorem dX6_run_16 : decode cX6_run 16 = .ok (.aload_n 0, 1) := by decide +kernel
theorem dX6_run_17 : decode cX6_run 17 = .ok (.getfield 19, 3) := by decide +kernel
theorem dX6_run_20 : decode cX6_run 20 = .ok (.aload_n 0, 1) := by decide +kernel
theorem dX6_run_21 : decode cX6_run 21 = .ok (.invokevirtual 97, 3) := by decide +kernel
theorem dX6_run_24 : decode cX6_run 24 = .ok (.invokevirtual 177, 3) := by decide +kernel
theorem dX6_run_27 : decode cX6_run 27 = .ok (.aload_n 0, 1) := by decide +kernel
theorem dX6_run_28 : decode cX6_run 28 = .ok (.iconst 1, 1) := by decide +kernel
theorem dX6_run_29 : decode cX6_run 29 = .ok (.putfield 77, 3) := by decide +kernel
theorem dX6_run_32 : decode cX6_run 32 = .ok (.aload_n 0, 1) := by decide +kernel
theorem dX6_run_33 : decode cX6_run 33 = .ok (.getfield 41, 3) := by decide +kernel
theorem dX6_run_36 : decode cX6_run 36 = .ok (.getfield 181, 3) := by decide +kernel
theorem dX6_run_39 : decode cX6_run 39 = .ok (.bipush (-4), 2) := by decide +kernel
theorem dX6_run_41 : decode cX6_run 41 = .ok (.if_icmp .ne 13, 3) := by decide +kernel
theorem dX6_run_44 : decode cX6_run 44 = .ok (.aload_n 0, 1) := by decide +kernel
theorem dX6_run_45 : decode cX6_run 45 = .ok (.getfield 41, 3) := by decide +kernel
theorem dX6_run_48 : decode cX6_run 48 = .ok (.getfield 184, 3) := by decide +kernel
theorem dX6_run_51 : decode cX6_run 51 = .ok (.goto 13, 3) := by decide +kernel
theorem dX6_run_54 : decode cX6_run 54 = .ok (.bipush (-10), 2) := by decide +kernel
theorem dX6_run_56 : decode cX6_run 56 = .ok (.aload_n 0, 1) := by decide +kernel
theorem dX6_run_57 : decode cX6_run 57 = .ok (.getfield 41, 3) := by decide +kernel
theorem dX6_run_60 : decode cX6_run 60 = .ok (.getfield 181, 3) := by decide +kernel
theorem dX6_run_63 : decode cX6_run 63 = .ok (.isub, 1) := by decide +kernel
theorem dX6_run_64 : decode cX6_run 64 = .ok (.ireturn, 1) := by decide +kernel
theorem dX6_value_0 : decode cX6_value 0 = .ok (.iload_n 1, 1) := by decide +kernel
theorem dX6_value_1 : decode cX6_value 1 = .ok (.ifCond .lt 9, 3) := by decide +kernel
theorem dX6_value_4 : decode cX6_value 4 = .ok (.iload_n 1, 1) := by decide +kernel
theorem dX6_value_5 : decode cX6_value 5 = .ok (.bipush 8, 2) := by decide +kernel
theorem dX6_value_7 : decode cX6_value 7 = .ok (.if_icmp .lt 5, 3) := by decide +kernel
theorem dX6_value_10 : decode cX6_value 10 = .ok (.iconst (-1), 1) := by decide +kernel
theorem dX6_value_11 : decode cX6_value 11 = .ok (.ireturn, 1) := by decide +kernel
theorem dX6_value_12 : decode cX6_value 12 = .ok (.aload_n 0, 1) := by decide +kernel
theorem dX6_value_13 : decode cX6_value 13 = .ok (.getfield 77, 3) := by decide +kernel
theorem dX6_value_16 : decode cX6_value 16 = .ok (.ifCond .eq 15, 3) := by decide +kernel
theorem dX6_value_19 : decode cX6_value 19 = .ok (.aload_n 0, 1) := by decide +kernel
theorem dX6_value_20 : decode cX6_value 20 = .ok (.getfield 41, 3) := by decide +kernel
theorem dX6_value_23 : decode cX6_value 23 = .ok (.getfield 187, 3) := by decide +kernel
theorem dX6_value_26 : decode cX6_value 26 = .ok (.iload_n 1, 1) := by decide +kernel
theorem dX6_value_27 : decode cX6_value 27 = .ok (.iaload, 1) := by decide +kernel
theorem dX6_value_28 : decode cX6_value 28 = .ok (.goto 4, 3) := by decide +kernel
theorem dX6_value_31 : decode cX6_value 31 = .ok (.iconst 0, 1) := by decide +kernel
theorem dX6_value_32 : decode cX6_value 32 = .ok (.ireturn, 1) := by decide +kernel
theorem dX6_spent_0 : decode cX6_spent 0 = .ok (.aload_n 0, 1) := by decide +kernel
theorem dX6_spent_1 : decode cX6_spent 1 = .ok (.getfield 77, 3) := by decide +kernel
theorem dX6_spent_4 : decode cX6_spent 4 = .ok (.ifCond .eq 13, 3) := by decide +kernel
theorem dX6_spent_7 : decode cX6_spent 7 = .ok (.aload_n 0, 1) := by decide +kernel
theorem dX6_spent_8 : decode cX6_spent 8 = .ok (.getfield 41, 3) := by decide +kernel
theorem dX6_spent_11 : decode cX6_spent 11 = .ok (.getfield 190, 3) := by decide +kernel
theorem dX6_spent_14 : decode cX6_spent 14 = .ok (.goto 5, 3) := by decide +kernel
theorem dX6_spent_17 : decode cX6_spent 17 = .ok (.bipush (-4), 2) := by decide +kernel
theorem dX6_spent_19 : decode cX6_spent 19 = .ok (.ireturn, 1) := by decide +kernel
theorem dX6_runs_0 : decode cX6_runs 0 = .ok (.iload_n 2, 1) := by decide +kernel
theorem dX6_runs_1 : decode cX6_runs 1 = .ok (.iconst 1, 1) := by decide +kernel
theorem dX6_runs_2 : decode cX6_runs 2 = .ok (.if_icmp .lt 18, 3) := by decide +kernel
theorem dX6_runs_5 : decode cX6_runs 5 = .ok (.iload_n 2, 1) := by decide +kernel
theorem dX6_runs_6 : decode cX6_runs 6 = .ok (.bipush 100, 2) := by decide +kernel
theorem dX6_runs_8 : decode cX6_runs 8 = .ok (.if_icmp .gt 12, 3) := by decide +kernel
theorem dX6_runs_11 : decode cX6_runs 11 = .ok (.iload_n 3, 1) := by decide +kernel
theorem dX6_runs_12 : decode cX6_runs 12 = .ok (.ifCond .lt 8, 3) := by decide +kernel
theorem dX6_runs_15 : decode cX6_runs 15 = .ok (.iload_n 3, 1) := by decide +kernel
theorem dX6_runs_16 : decode cX6_runs 16 = .ok (.iconst 1, 1) := by decide +kernel
theorem dX6_runs_17 : decode cX6_runs 17 = .ok (.if_icmp .le 5, 3) := by decide +kernel
theorem dX6_runs_20 : decode cX6_runs 20 = .ok (.iconst (-1), 1) := by decide +kernel
theorem dX6_runs_21 : decode cX6_runs 21 = .ok (.ireturn, 1) := by decide +kernel
theorem dX6_runs_22 : decode cX6_runs 22 = .ok (.aload_n 0, 1) := by decide +kernel
theorem dX6_runs_23 : decode cX6_runs 23 = .ok (.invokevirtual 97, 3) := by decide +kernel
theorem dX6_runs_26 : decode cX6_runs 26 = .ok (.astore 4, 2) := by decide +kernel
theorem dX6_runs_28 : decode cX6_runs 28 = .ok (.iload_n 1, 1) := by decide +kernel
theorem dX6_runs_29 : decode cX6_runs 29 = .ok (.istore 5, 2) := by decide +kernel
theorem dX6_runs_31 : decode cX6_runs 31 = .ok (.iconst 0, 1) := by decide +kernel
theorem dX6_runs_32 : decode cX6_runs 32 = .ok (.istore 6, 2) := by decide +kernel
theorem dX6_runs_34 : decode cX6_runs 34 = .ok (.iconst 0, 1) := by decide +kernel
theorem dX6_runs_35 : decode cX6_runs 35 = .ok (.istore 7, 2) := by decide +kernel
theorem dX6_runs_37 : decode cX6_runs 37 = .ok (.iconst 0, 1) := by decide +kernel
theorem dX6_runs_38 : decode cX6_runs 38 = .ok (.istore 8, 2) := by decide +kernel
theorem dX6_runs_40 : decode cX6_runs 40 = .ok (.iload 8, 2) := by decide +kernel
theorem dX6_runs_42 : decode cX6_runs 42 = .ok (.iload_n 2, 1) := by decide +kernel
theorem dX6_runs_43 : decode cX6_runs 43 = .ok (.if_icmp .ge 70, 3) := by decide +kernel
theorem dX6_runs_46 : decode cX6_runs 46 = .ok (.aload_n 0, 1) := by decide +kernel
theorem dX6_runs_47 : decode cX6_runs 47 = .ok (.getfield 45, 3) := by decide +kernel
theorem dX6_runs_50 : decode cX6_runs 50 = .ok (.iload 5, 2) := by decide +kernel
theorem dX6_runs_52 : decode cX6_runs 52 = .ok (.invokevirtual 193, 3) := by decide +kernel
theorem dX6_runs_55 : decode cX6_runs 55 = .ok (.istore 5, 2) := by decide +kernel
theorem dX6_runs_57 : decode cX6_runs 57 = .ok (.aload_n 0, 1) := by decide +kernel
theorem dX6_runs_58 : decode cX6_runs 58 = .ok (.getfield 45, 3) := by decide +kernel
theorem dX6_runs_61 : decode cX6_runs 61 = .ok (.aload_n 0, 1) := by decide +kernel
theorem dX6_runs_62 : decode cX6_runs 62 = .ok (.getfield 19, 3) := by decide +kernel
theorem dX6_runs_65 : decode cX6_runs 65 = .ok (.aload 4, 2) := by decide +kernel
theorem dX6_runs_67 : decode cX6_runs 67 = .ok (.invokevirtual 177, 3) := by decide +kernel
theorem dX6_runs_70 : decode cX6_runs 70 = .ok (.iload 6, 2) := by decide +kernel
theorem dX6_runs_72 : decode cX6_runs 72 = .ok (.aload_n 0, 1) := by decide +kernel
theorem dX6_runs_73 : decode cX6_runs 73 = .ok (.getfield 45, 3) := by decide +kernel
theorem dX6_runs_76 : decode cX6_runs 76 = .ok (.getfield 181, 3) := by decide +kernel
theorem dX6_runs_79 : decode cX6_runs 79 = .ok (.bipush (-4), 2) := by decide +kernel
theorem dX6_runs_81 : decode cX6_runs 81 = .ok (.if_icmp .ne 7, 3) := by decide +kernel
theorem dX6_runs_84 : decode cX6_runs 84 = .ok (.iconst 1, 1) := by decide +kernel
theorem dX6_runs_85 : decode cX6_runs 85 = .ok (.goto 4, 3) := by decide +kernel
theorem dX6_runs_88 : decode cX6_runs 88 = .ok (.iconst 0, 1) := by decide +kernel
theorem dX6_runs_89 : decode cX6_runs 89 = .ok (.invokestatic 157, 3) := by decide +kernel
theorem dX6_runs_92 : decode cX6_runs 92 = .ok (.iadd, 1) := by decide +kernel
theorem dX6_runs_93 : decode cX6_runs 93 = .ok (.istore 6, 2) := by decide +kernel
theorem dX6_runs_95 : decode cX6_runs 95 = .ok (.iload 7, 2) := by decide +kernel
theorem dX6_runs_97 : decode cX6_runs 97 = .ok (.aload_n 0, 1) := by decide +kernel
theorem dX6_runs_98 : decode cX6_runs 98 = .ok (.getfield 45, 3) := by decide +kernel
theorem dX6_runs_101 : decode cX6_runs 101 = .ok (.getfield 190, 3) := by decide +kernel
theorem dX6_runs_104 : decode cX6_runs 104 = .ok (.iadd, 1) := by decide +kernel
theorem dX6_runs_105 : decode cX6_runs 105 = .ok (.istore 7, 2) := by decide +kernel
theorem dX6_runs_107 : decode cX6_runs 107 = .ok (.iinc 8 1, 3) := by decide +kernel
theorem dX6_runs_110 : decode cX6_runs 110 = .ok (.goto (-70), 3) := by decide +kernel
theorem dX6_runs_113 : decode cX6_runs 113 = .ok (.iload_n 3, 1) := by decide +kernel
theorem dX6_runs_114 : decode cX6_runs 114 = .ok (.ifCond .ne 8, 3) := by decide +kernel
theorem dX6_runs_117 : decode cX6_runs 117 = .ok (.iload 6, 2) := by decide +kernel
theorem dX6_runs_119 : decode cX6_runs 119 = .ok (.goto 5, 3) := by decide +kernel
theorem dX6_runs_122 : decode cX6_runs 122 = .ok (.iload 7, 2) := by decide +kernel
theorem dX6_runs_124 : decode cX6_runs 124 = .ok (.ireturn, 1) := by decide +kernel
theorem dX6_wish_0 : decode cX6_wish 0 = .ok (.aload_n 0, 1) := by decide +kernel
theorem dX6_wish_1 : decode cX6_wish 1 = .ok (.getfield 19, 3) := by decide +kernel
theorem dX6_wish_4 : decode cX6_wish 4 = .ok (.iload_n 1, 1) := by decide +kernel
theorem dX6_wish_5 : decode cX6_wish 5 = .ok (.invokevirtual 196, 3) := by decide +kernel
theorem dX6_wish_8 : decode cX6_wish 8 = .ok (.ifCond .eq 12, 3) := by decide +kernel
theorem dX6_wish_11 : decode cX6_wish 11 = .ok (.iload_n 2, 1) := by decide +kernel
theorem dX6_wish_12 : decode cX6_wish 12 = .ok (.ifCond .lt 8, 3) := by decide +kernel
theorem dX6_wish_15 : decode cX6_wish 15 = .ok (.iload_n 2, 1) := by decide +kernel
theorem dX6_wish_16 : decode cX6_wish 16 = .ok (.iconst 1, 1) := by decide +kernel
theorem dX6_wish_17 : decode cX6_wish 17 = .ok (.if_icmp .le 5, 3) := by decide +kernel
theorem dX6_wish_20 : decode cX6_wish 20 = .ok (.iconst (-1), 1) := by decide +kernel
theorem dX6_wish_21 : decode cX6_wish 21 = .ok (.ireturn, 1) := by decide +kernel
theorem dX6_wish_22 : decode cX6_wish 22 = .ok (.iload_n 2, 1) := by decide +kernel
theorem dX6_wish_23 : decode cX6_wish 23 = .ok (.ifCond .ne 15, 3) := by decide +kernel
theorem dX6_wish_26 : decode cX6_wish 26 = .ok (.aload_n 0, 1) := by decide +kernel
theorem dX6_wish_27 : decode cX6_wish 27 = .ok (.getfield 19, 3) := by decide +kernel
theorem dX6_wish_30 : decode cX6_wish 30 = .ok (.getfield 199, 3) := by decide +kernel
theorem dX6_wish_33 : decode cX6_wish 33 = .ok (.iload_n 1, 1) := by decide +kernel
theorem dX6_wish_34 : decode cX6_wish 34 = .ok (.iaload, 1) := by decide +kernel
theorem dX6_wish_35 : decode cX6_wish 35 = .ok (.goto 15, 3) := by decide +kernel
theorem dX6_wish_38 : decode cX6_wish 38 = .ok (.aload_n 0, 1) := by decide +kernel
theorem dX6_wish_39 : decode cX6_wish 39 = .ok (.invokevirtual 97, 3) := by decide +kernel
theorem dX6_wish_42 : decode cX6_wish 42 = .ok (.getfield 202, 3) := by decide +kernel
theorem dX6_wish_45 : decode cX6_wish 45 = .ok (.iload_n 1, 1) := by decide +kernel
theorem dX6_wish_46 : decode cX6_wish 46 = .ok (.baload, 1) := by decide +kernel
theorem dX6_wish_47 : decode cX6_wish 47 = .ok (.invokestatic 157, 3) := by decide +kernel
theorem dX6_wish_50 : decode cX6_wish 50 = .ok (.ireturn, 1) := by decide +kernel
theorem dX6_want_0 : decode cX6_want 0 = .ok (.aload_n 0, 1) := by decide +kernel
theorem dX6_want_1 : decode cX6_want 1 = .ok (.getfield 19, 3) := by decide +kernel
theorem dX6_want_4 : decode cX6_want 4 = .ok (.iload_n 1, 1) := by decide +kernel
theorem dX6_want_5 : decode cX6_want 5 = .ok (.invokevirtual 196, 3) := by decide +kernel
theorem dX6_want_8 : decode cX6_want 8 = .ok (.ifCond .eq 12, 3) := by decide +kernel
theorem dX6_want_11 : decode cX6_want 11 = .ok (.iload_n 2, 1) := by decide +kernel
theorem dX6_want_12 : decode cX6_want 12 = .ok (.ifCond .lt 8, 3) := by decide +kernel
theorem dX6_want_15 : decode cX6_want 15 = .ok (.iload_n 2, 1) := by decide +kernel
theorem dX6_want_16 : decode cX6_want 16 = .ok (.iconst 2, 1) := by decide +kernel
theorem dX6_want_17 : decode cX6_want 17 = .ok (.if_icmp .le 5, 3) := by decide +kernel
theorem dX6_want_20 : decode cX6_want 20 = .ok (.iconst (-1), 1) := by decide +kernel
theorem dX6_want_21 : decode cX6_want 21 = .ok (.ireturn, 1) := by decide +kernel
theorem dX6_want_22 : decode cX6_want 22 = .ok (.aload_n 0, 1) := by decide +kernel
theorem dX6_want_23 : decode cX6_want 23 = .ok (.getfield 19, 3) := by decide +kernel
theorem dX6_want_26 : decode cX6_want 26 = .ok (.getfield 199, 3) := by decide +kernel
theorem dX6_want_29 : decode cX6_want 29 = .ok (.iload_n 1, 1) := by decide +kernel
theorem dX6_want_30 : decode cX6_want 30 = .ok (.iaload, 1) := by decide +kernel
theorem dX6_want_31 : decode cX6_want 31 = .ok (.istore_n 3, 1) := by decide +kernel
theorem dX6_want_32 : decode cX6_want 32 = .ok (.aload_n 0, 1) := by decide +kernel
theorem dX6_want_33 : decode cX6_want 33 = .ok (.getfield 19, 3) := by decide +kernel
theorem dX6_want_36 : decode cX6_want 36 = .ok (.getfield 199, 3) := by decide +kernel
theorem dX6_want_39 : decode cX6_want 39 = .ok (.iload_n 1, 1) := by decide +kernel
theorem dX6_want_40 : decode cX6_want 40 = .ok (.iload_n 2, 1) := by decide +kernel
theorem dX6_want_41 : decode cX6_want 41 = .ok (.iastore, 1) := by decide +kernel
theorem dX6_want_42 : decode cX6_want 42 = .ok (.iload_n 3, 1) := by decide +kernel
theorem dX6_want_43 : decode cX6_want 43 = .ok (.ireturn, 1) := by decide +kernel
theorem dX6_mean_0 : decode cX6_mean 0 = .ok (.iload_n 1, 1) := by decide +kernel
theorem dX6_mean_1 : decode cX6_mean 1 = .ok (.ifCond .lt 8, 3) := by decide +kernel
theorem dX6_mean_4 : decode cX6_mean 4 = .ok (.iload_n 1, 1) := by decide +kernel
theorem dX6_mean_5 : decode cX6_mean 5 = .ok (.iconst 1, 1) := by decide +kernel
theorem dX6_mean_6 : decode cX6_mean 6 = .ok (.if_icmp .le 7, 3) := by decide +kernel
theorem dX6_mean_9 : decode cX6_mean 9 = .ok (.ldc2_w 205, 3) := by decide +kernel
theorem dX6_mean_12 : decode cX6_mean 12 = .ok (.lreturn, 1) := by decide +kernel
theorem dX6_mean_13 : decode cX6_mean 13 = .ok (.aload_n 0, 1) := by decide +kernel
theorem dX6_mean_14 : decode cX6_mean 14 = .ok (.invokevirtual 97, 3) := by decide +kernel
theorem dX6_mean_17 : decode cX6_mean 17 = .ok (.getfield 207, 3) := by decide +kernel
theorem dX6_mean_20 : decode cX6_mean 20 = .ok (.iconst 0, 1) := by decide +kernel
theorem dX6_mean_21 : decode cX6_mean 21 = .ok (.laload, 1) := by decide +kernel
theorem dX6_mean_22 : decode cX6_mean 22 = .ok (.ldc2_w 211, 3) := by decide +kernel
theorem dX6_mean_25 : decode cX6_mean 25 = .ok (.iload_n 1, 1) := by decide +kernel
theorem dX6_mean_26 : decode cX6_mean 26 = .ok (.invokestatic 213, 3) := by decide +kernel
theorem dX6_mean_29 : decode cX6_mean 29 = .ok (.lreturn, 1) := by decide +kernel
theorem dX6_odds_0 : decode cX6_odds 0 = .ok (.aload_n 0, 1) := by decide +kernel
theorem dX6_odds_1 : decode cX6_odds 1 = .ok (.getfield 19, 3) := by decide +kernel
theorem dX6_odds_4 : decode cX6_odds 4 = .ok (.iload_n 1, 1) := by decide +kernel
theorem dX6_odds_5 : decode cX6_odds 5 = .ok (.invokevirtual 138, 3) := by decide +kernel
theorem dX6_odds_8 : decode cX6_odds 8 = .ok (.ifCond .eq 12, 3) := by decide +kernel
theorem dX6_odds_11 : decode cX6_odds 11 = .ok (.iload_n 2, 1) := by decide +kernel
theorem dX6_odds_12 : decode cX6_odds 12 = .ok (.ifCond .lt 8, 3) := by decide +kernel
theorem dX6_odds_15 : decode cX6_odds 15 = .ok (.iload_n 2, 1) := by decide +kernel
theorem dX6_odds_16 : decode cX6_odds 16 = .ok (.iconst 1, 1) := by decide +kernel
theorem dX6_odds_17 : decode cX6_odds 17 = .ok (.if_icmp .le 7, 3) := by decide +kernel
theorem dX6_odds_20 : decode cX6_odds 20 = .ok (.ldc2_w 205, 3) := by decide +kernel
theorem dX6_odds_23 : decode cX6_odds 23 = .ok (.lreturn, 1) := by decide +kernel
theorem dX6_odds_24 : decode cX6_odds 24 = .ok (.lconst 1, 1) := by decide +kernel
theorem dX6_odds_25 : decode cX6_odds 25 = .ok (.lstore_n 3, 1) := by decide +kernel
theorem dX6_odds_26 : decode cX6_odds 26 = .ok (.lconst 1, 1) := by decide +kernel
theorem dX6_odds_27 : decode cX6_odds 27 = .ok (.lstore 5, 2) := by decide +kernel
theorem dX6_odds_29 : decode cX6_odds 29 = .ok (.iload_n 1, 1) := by decide +kernel
theorem dX6_odds_30 : decode cX6_odds 30 = .ok (.istore 7, 2) := by decide +kernel
theorem dX6_odds_32 : decode cX6_odds 32 = .ok (.iconst 0, 1) := by decide +kernel
theorem dX6_odds_33 : decode cX6_odds 33 = .ok (.istore 8, 2) := by decide +kernel
theorem dX6_odds_35 : decode cX6_odds 35 = .ok (.iload 8, 2) := by decide +kernel
theorem dX6_odds_37 : decode cX6_odds 37 = .ok (.bipush 6, 2) := by decide +kernel
theorem dX6_odds_39 : decode cX6_odds 39 = .ok (.if_icmp .ge 46, 3) := by decide +kernel
theorem dX6_odds_42 : decode cX6_odds 42 = .ok (.iload 7, 2) := by decide +kernel
theorem dX6_odds_44 : decode cX6_odds 44 = .ok (.ifCond .le 41, 3) := by decide +kernel
theorem dX6_odds_47 : decode cX6_odds 47 = .ok (.lload_n 3, 1) := by decide +kernel
theorem dX6_odds_48 : decode cX6_odds 48 = .ok (.aload_n 0, 1) := by decide +kernel
theorem dX6_odds_49 : decode cX6_odds 49 = .ok (.getfield 19, 3) := by decide +kernel
theorem dX6_odds_52 : decode cX6_odds 52 = .ok (.iload 7, 2) := by decide +kernel
theorem dX6_odds_54 : decode cX6_odds 54 = .ok (.invokevirtual 217, 3) := by decide +kernel
theorem dX6_odds_57 : decode cX6_odds 57 = .ok (.i2l, 1) := by decide +kernel
theorem dX6_odds_58 : decode cX6_odds 58 = .ok (.lmul, 1) := by decide +kernel
theorem dX6_odds_59 : decode cX6_odds 59 = .ok (.lstore_n 3, 1) := by decide +kernel
theorem dX6_odds_60 : decode cX6_odds 60 = .ok (.lload 5, 2) := by decide +kernel
theorem dX6_odds_62 : decode cX6_odds 62 = .ok (.ldc2_w 220, 3) := by decide +kernel
theorem dX6_odds_65 : decode cX6_odds 65 = .ok (.lmul, 1) := by decide +kernel
theorem dX6_odds_66 : decode cX6_odds 66 = .ok (.lstore 5, 2) := by decide +kernel
theorem dX6_odds_68 : decode cX6_odds 68 = .ok (.aload_n 0, 1) := by decide +kernel
theorem dX6_odds_69 : decode cX6_odds 69 = .ok (.getfield 19, 3) := by decide +kernel
theorem dX6_odds_72 : decode cX6_odds 72 = .ok (.iload 7, 2) := by decide +kernel
theorem dX6_odds_74 : decode cX6_odds 74 = .ok (.invokevirtual 141, 3) := by decide +kernel
theorem dX6_odds_77 : decode cX6_odds 77 = .ok (.istore 7, 2) := by decide +kernel
theorem dX6_odds_79 : decode cX6_odds 79 = .ok (.iinc 8 1, 3) := by decide +kernel
theorem dX6_odds_82 : decode cX6_odds 82 = .ok (.goto (-47), 3) := by decide +kernel
theorem dX6_odds_85 : decode cX6_odds 85 = .ok (.lload_n 3, 1) := by decide +kernel
theorem dX6_odds_86 : decode cX6_odds 86 = .ok (.lload 5, 2) := by decide +kernel
theorem dX6_odds_88 : decode cX6_odds 88 = .ok (.iload_n 2, 1) := by decide +kernel
theorem dX6_odds_89 : decode cX6_odds 89 = .ok (.invokestatic 213, 3) := by decide +kernel
theorem dX6_odds_92 : decode cX6_odds 92 = .ok (.lreturn, 1) := by decide +kernel
theorem dX6_live_0 : decode cX6_live 0 = .ok (.aload_n 0, 1) := by decide +kernel
theorem dX6_live_1 : decode cX6_live 1 = .ok (.getfield 19, 3) := by decide +kernel
theorem dX6_live_4 : decode cX6_live 4 = .ok (.iload_n 1, 1) := by decide +kernel
theorem dX6_live_5 : decode cX6_live 5 = .ok (.invokevirtual 109, 3) := by decide +kernel
theorem dX6_live_8 : decode cX6_live 8 = .ok (.ifCond .eq 16, 3) := by decide +kernel
theorem dX6_live_11 : decode cX6_live 11 = .ok (.aload_n 0, 1) := by decide +kernel
theorem dX6_live_12 : decode cX6_live 12 = .ok (.getfield 19, 3) := by decide +kernel
theorem dX6_live_15 : decode cX6_live 15 = .ok (.getfield 113, 3) := by decide +kernel
theorem dX6_live_18 : decode cX6_live 18 = .ok (.iload_n 1, 1) := by decide +kernel
theorem dX6_live_19 : decode cX6_live 19 = .ok (.iaload, 1) := by decide +kernel
theorem dX6_live_20 : decode cX6_live 20 = .ok (.iconst 5, 1) := by decide +kernel
theorem dX6_live_21 : decode cX6_live 21 = .ok (.if_icmp .ne 5, 3) := by decide +kernel
theorem dX6_live_24 : decode cX6_live 24 = .ok (.iconst (-1), 1) := by decide +kernel
theorem dX6_live_25 : decode cX6_live 25 = .ok (.ireturn, 1) := by decide +kernel
theorem dX6_live_26 : decode cX6_live 26 = .ok (.aload_n 0, 1) := by decide +kernel
theorem dX6_live_27 : decode cX6_live 27 = .ok (.getfield 19, 3) := by decide +kernel
theorem dX6_live_30 : decode cX6_live 30 = .ok (.invokestatic 222, 3) := by decide +kernel
theorem dX6_live_33 : decode cX6_live 33 = .ok (.iload_n 1, 1) := by decide +kernel
theorem dX6_live_34 : decode cX6_live 34 = .ok (.ishr, 1) := by decide +kernel
theorem dX6_live_35 : decode cX6_live 35 = .ok (.iconst 1, 1) := by decide +kernel
theorem dX6_live_36 : decode cX6_live 36 = .ok (.iand, 1) := by decide +kernel
theorem dX6_live_37 : decode cX6_live 37 = .ok (.ireturn, 1) := by decide +kernel
theorem dX6_out_0 : decode cX6_out 0 = .ok (.iload_n 1, 1) := by decide +kernel
theorem dX6_out_1 : decode cX6_out 1 = .ok (.ifCond .lt 10, 3) := by decide +kernel
theorem dX6_out_4 : decode cX6_out 4 = .ok (.iload_n 1, 1) := by decide +kernel
theorem dX6_out_5 : decode cX6_out 5 = .ok (.sipush 255, 3) := by decide +kernel
theorem dX6_out_8 : decode cX6_out 8 = .ok (.if_icmp .le 5, 3) := by decide +kernel
theorem dX6_out_11 : decode cX6_out 11 = .ok (.iconst (-1), 1) := by decide +kernel
theorem dX6_out_12 : decode cX6_out 12 = .ok (.ireturn, 1) := by decide +kernel
theorem dX6_out_13 : decode cX6_out 13 = .ok (.aload_n 0, 1) := by decide +kernel
theorem dX6_out_14 : decode cX6_out 14 = .ok (.getfield 19, 3) := by decide +kernel
theorem dX6_out_17 : decode cX6_out 17 = .ok (.getfield 94, 3) := by decide +kernel
theorem dX6_out_20 : decode cX6_out 20 = .ok (.istore_n 2, 1) := by decide +kernel
theorem dX6_out_21 : decode cX6_out 21 = .ok (.aload_n 0, 1) := by decide +kernel
theorem dX6_out_22 : decode cX6_out 22 = .ok (.getfield 19, 3) := by decide +kernel
theorem dX6_out_25 : decode cX6_out 25 = .ok (.iload_n 1, 1) := by decide +kernel
theorem dX6_out_26 : decode cX6_out 26 = .ok (.putfield 94, 3) := by decide +kernel
theorem dX6_out_29 : decode cX6_out 29 = .ok (.iload_n 2, 1) := by decide +kernel
theorem dX6_out_30 : decode cX6_out 30 = .ok (.ireturn, 1) := by decide +kernel
theorem dX6_sweep_0 : decode cX6_sweep 0 = .ok (.aload_n 0, 1) := by decide +kernel
theorem dX6_sweep_1 : decode cX6_sweep 1 = .ok (.getfield 19, 3) := by decide +kernel
theorem dX6_sweep_4 : decode cX6_sweep 4 = .ok (.getfield 81, 3) := by decide +kernel
theorem dX6_sweep_7 : decode cX6_sweep 7 = .ok (.istore_n 1, 1) := by decide +kernel
theorem dX6_sweep_8 : decode cX6_sweep 8 = .ok (.iconst 1, 1) := by decide +kernel
theorem dX6_sweep_9 : decode cX6_sweep 9 = .ok (.istore_n 2, 1) := by decide +kernel
theorem dX6_sweep_10 : decode cX6_sweep 10 = .ok (.iconst 0, 1) := by decide +kernel
theorem dX6_sweep_11 : decode cX6_sweep 11 = .ok (.istore_n 3, 1) := by decide +kernel
theorem dX6_sweep_12 : decode cX6_sweep 12 = .ok (.iload_n 3, 1) := by decide +kernel
theorem dX6_sweep_13 : decode cX6_sweep 13 = .ok (.bipush 24, 2) := by decide +kernel
theorem dX6_sweep_15 : decode cX6_sweep 15 = .ok (.if_icmp .gt 28, 3) := by decide +kernel
theorem dX6_sweep_18 : decode cX6_sweep 18 = .ok (.iload_n 2, 1) := by decide +kernel
theorem dX6_sweep_19 : decode cX6_sweep 19 = .ok (.ifCond .le 24, 3) := by decide +kernel
theorem dX6_sweep_22 : decode cX6_sweep 22 = .ok (.aload_n 0, 1) := by decide +kernel
theorem dX6_sweep_23 : decode cX6_sweep 23 = .ok (.getfield 19, 3) := by decide +kernel
theorem dX6_sweep_26 : decode cX6_sweep 26 = .ok (.aload_n 0, 1) := by decide +kernel
theorem dX6_sweep_27 : decode cX6_sweep 27 = .ok (.getfield 19, 3) := by decide +kernel
theorem dX6_sweep_30 : decode cX6_sweep 30 = .ok (.invokestatic 222, 3) := by decide +kernel
theorem dX6_sweep_33 : decode cX6_sweep 33 = .ok (.invokevirtual 225, 3) := by decide +kernel
theorem dX6_sweep_36 : decode cX6_sweep 36 = .ok (.istore_n 2, 1) := by decide +kernel
theorem dX6_sweep_37 : decode cX6_sweep 37 = .ok (.iinc 3 1, 3) := by decide +kernel
theorem dX6_sweep_40 : decode cX6_sweep 40 = .ok (.goto (-28), 3) := by decide +kernel
theorem dX6_sweep_43 : decode cX6_sweep 43 = .ok (.iload_n 1, 1) := by decide +kernel
theorem dX6_sweep_44 : decode cX6_sweep 44 = .ok (.aload_n 0, 1) := by decide +kernel
theorem dX6_sweep_45 : decode cX6_sweep 45 = .ok (.getfield 19, 3) := by decide +kernel
theorem dX6_sweep_48 : decode cX6_sweep 48 = .ok (.getfield 81, 3) := by decide +kernel
theorem dX6_sweep_51 : decode cX6_sweep 51 = .ok (.isub, 1) := by decide +kernel
theorem dX6_sweep_52 : decode cX6_sweep 52 = .ok (.ireturn, 1) := by decide +kernel
theorem dX6_merge_0 : decode cX6_merge 0 = .ok (.iconst 0, 1) := by decide +kernel
theorem dX6_merge_1 : decode cX6_merge 1 = .ok (.istore_n 1, 1) := by decide +kernel
theorem dX6_merge_2 : decode cX6_merge 2 = .ok (.aload_n 0, 1) := by decide +kernel
theorem dX6_merge_3 : decode cX6_merge 3 = .ok (.getfield 19, 3) := by decide +kernel
theorem dX6_merge_6 : decode cX6_merge 6 = .ok (.invokevirtual 228, 3) := by decide +kernel
theorem dX6_merge_9 : decode cX6_merge 9 = .ok (.istore_n 2, 1) := by decide +kernel
theorem dX6_merge_10 : decode cX6_merge 10 = .ok (.iconst 0, 1) := by decide +kernel
theorem dX6_merge_11 : decode cX6_merge 11 = .ok (.istore_n 3, 1) := by decide +kernel
theorem dX6_merge_12 : decode cX6_merge 12 = .ok (.iload_n 3, 1) := by decide +kernel
theorem dX6_merge_13 : decode cX6_merge 13 = .ok (.bipush 24, 2) := by decide +kernel
theorem dX6_merge_15 : decode cX6_merge 15 = .ok (.if_icmp .ge 34, 3) := by decide +kernel
theorem dX6_merge_18 : decode cX6_merge 18 = .ok (.iload_n 2, 1) := by decide +kernel
theorem dX6_merge_19 : decode cX6_merge 19 = .ok (.bipush (-4), 2) := by decide +kernel
theorem dX6_merge_21 : decode cX6_merge 21 = .ok (.if_icmp .eq 28, 3) := by decide +kernel
theorem dX6_merge_24 : decode cX6_merge 24 = .ok (.aload_n 0, 1) := by decide +kernel
theorem dX6_merge_25 : decode cX6_merge 25 = .ok (.getfield 19, 3) := by decide +kernel
theorem dX6_merge_28 : decode cX6_merge 28 = .ok (.iload_n 2, 1) := by decide +kernel
theorem dX6_merge_29 : decode cX6_merge 29 = .ok (.invokevirtual 231, 3) := by decide +kernel
theorem dX6_merge_32 : decode cX6_merge 32 = .ok (.iinc 1 1, 3) := by decide +kernel
theorem dX6_merge_35 : decode cX6_merge 35 = .ok (.aload_n 0, 1) := by decide +kernel
theorem dX6_merge_36 : decode cX6_merge 36 = .ok (.getfield 19, 3) := by decide +kernel
theorem dX6_merge_39 : decode cX6_merge 39 = .ok (.invokevirtual 228, 3) := by decide +kernel
theorem dX6_merge_42 : decode cX6_merge 42 = .ok (.istore_n 2, 1) := by decide +kernel
theorem dX6_merge_43 : decode cX6_merge 43 = .ok (.iinc 3 1, 3) := by decide +kernel
theorem dX6_merge_46 : decode cX6_merge 46 = .ok (.goto (-34), 3) := by decide +kernel
theorem dX6_merge_49 : decode cX6_merge 49 = .ok (.iload_n 1, 1) := by decide +kernel
theorem dX6_merge_50 : decode cX6_merge 50 = .ok (.ireturn, 1) := by decide +kernel
theorem dX6_set_0 : decode cX6_set 0 = .ok (.aload_n 0, 1) := by decide +kernel
theorem dX6_set_1 : decode cX6_set 1 = .ok (.getfield 19, 3) := by decide +kernel
theorem dX6_set_4 : decode cX6_set 4 = .ok (.iload_n 1, 1) := by decide +kernel
theorem dX6_set_5 : decode cX6_set 5 = .ok (.iload_n 2, 1) := by decide +kernel
theorem dX6_set_6 : decode cX6_set 6 = .ok (.iload_n 3, 1) := by decide +kernel
theorem dX6_set_7 : decode cX6_set 7 = .ok (.invokevirtual 235, 3) := by decide +kernel
theorem dX6_set_10 : decode cX6_set 10 = .ok (.ifCond .ne 5, 3) := by decide +kernel
theorem dX6_set_13 : decode cX6_set 13 = .ok (.iconst (-1), 1) := by decide +kernel
theorem dX6_set_14 : decode cX6_set 14 = .ok (.ireturn, 1) := by decide +kernel
theorem dX6_set_15 : decode cX6_set 15 = .ok (.aload_n 0, 1) := by decide +kernel
theorem dX6_set_16 : decode cX6_set 16 = .ok (.getfield 19, 3) := by decide +kernel
theorem dX6_set_19 : decode cX6_set 19 = .ok (.iload_n 1, 1) := by decide +kernel
theorem dX6_set_20 : decode cX6_set 20 = .ok (.iload_n 2, 1) := by decide +kernel
theorem dX6_set_21 : decode cX6_set 21 = .ok (.iload_n 3, 1) := by decide +kernel
theorem dX6_set_22 : decode cX6_set 22 = .ok (.invokevirtual 239, 3) := by decide +kernel
theorem dX6_set_25 : decode cX6_set 25 = .ok (.ireturn, 1) := by decide +kernel
theorem dX6_turn_0 : decode cX6_turn 0 = .ok (.aload_n 0, 1) := by decide +kernel
theorem dX6_turn_1 : decode cX6_turn 1 = .ok (.getfield 19, 3) := by decide +kernel
theorem dX6_turn_4 : decode cX6_turn 4 = .ok (.iload_n 1, 1) := by decide +kernel
theorem dX6_turn_5 : decode cX6_turn 5 = .ok (.invokevirtual 109, 3) := by decide +kernel
theorem dX6_turn_8 : decode cX6_turn 8 = .ok (.ifCond .eq 24, 3) := by decide +kernel
theorem dX6_turn_11 : decode cX6_turn 11 = .ok (.aload_n 0, 1) := by decide +kernel
theorem dX6_turn_12 : decode cX6_turn 12 = .ok (.getfield 19, 3) := by decide +kernel
theorem dX6_turn_15 : decode cX6_turn 15 = .ok (.iload_n 1, 1) := by decide +kernel
theorem dX6_turn_16 : decode cX6_turn 16 = .ok (.invokevirtual 122, 3) := by decide +kernel
theorem dX6_turn_19 : decode cX6_turn 19 = .ok (.ifCond .eq 13, 3) := by decide +kernel
theorem dX6_turn_22 : decode cX6_turn 22 = .ok (.iload_n 2, 1) := by decide +kernel
theorem dX6_turn_23 : decode cX6_turn 23 = .ok (.iconst 1, 1) := by decide +kernel
theorem dX6_turn_24 : decode cX6_turn 24 = .ok (.if_icmp .lt 8, 3) := by decide +kernel
theorem dX6_turn_27 : decode cX6_turn 27 = .ok (.iload_n 2, 1) := by decide +kernel
theorem dX6_turn_28 : decode cX6_turn 28 = .ok (.iconst 4, 1) := by decide +kernel
theorem dX6_turn_29 : decode cX6_turn 29 = .ok (.if_icmp .le 5, 3) := by decide +kernel
theorem dX6_turn_32 : decode cX6_turn 32 = .ok (.iconst (-1), 1) := by decide +kernel
theorem dX6_turn_33 : decode cX6_turn 33 = .ok (.ireturn, 1) := by decide +kernel
theorem dX6_turn_34 : decode cX6_turn 34 = .ok (.aload_n 0, 1) := by decide +kernel
theorem dX6_turn_35 : decode cX6_turn 35 = .ok (.getfield 19, 3) := by decide +kernel
theorem dX6_turn_38 : decode cX6_turn 38 = .ok (.getfield 113, 3) := by decide +kernel
theorem dX6_turn_41 : decode cX6_turn 41 = .ok (.iload_n 1, 1) := by decide +kernel
theorem dX6_turn_42 : decode cX6_turn 42 = .ok (.iaload, 1) := by decide +kernel
theorem dX6_turn_43 : decode cX6_turn 43 = .ok (.istore_n 3, 1) := by decide +kernel
theorem dX6_turn_44 : decode cX6_turn 44 = .ok (.aload_n 0, 1) := by decide +kernel
theorem dX6_turn_45 : decode cX6_turn 45 = .ok (.getfield 19, 3) := by decide +kernel
theorem dX6_turn_48 : decode cX6_turn 48 = .ok (.getfield 113, 3) := by decide +kernel
theorem dX6_turn_51 : decode cX6_turn 51 = .ok (.iload_n 1, 1) := by decide +kernel
theorem dX6_turn_52 : decode cX6_turn 52 = .ok (.iload_n 2, 1) := by decide +kernel
theorem dX6_turn_53 : decode cX6_turn 53 = .ok (.iastore, 1) := by decide +kernel
theorem dX6_turn_54 : decode cX6_turn 54 = .ok (.iload_n 3, 1) := by decide +kernel
theorem dX6_turn_55 : decode cX6_turn 55 = .ok (.ireturn, 1) := by decide +kernel
theorem dX6_keep_0 : decode cX6_keep 0 = .ok (.iload_n 1, 1) := by decide +kernel
theorem dX6_keep_1 : decode cX6_keep 1 = .ok (.ifCond .lt 8, 3) := by decide +kernel
theorem dX6_keep_4 : decode cX6_keep 4 = .ok (.iload_n 1, 1) := by decide +kernel
theorem dX6_keep_5 : decode cX6_keep 5 = .ok (.iconst 2, 1) := by decide +kernel
theorem dX6_keep_6 : decode cX6_keep 6 = .ok (.if_icmp .lt 5, 3) := by decide +kernel
theorem dX6_keep_9 : decode cX6_keep 9 = .ok (.iconst (-1), 1) := by decide +kernel
theorem dX6_keep_10 : decode cX6_keep 10 = .ok (.ireturn, 1) := by decide +kernel
theorem dX6_keep_11 : decode cX6_keep 11 = .ok (.aload_n 0, 1) := by decide +kernel
theorem dX6_keep_12 : decode cX6_keep 12 = .ok (.getfield 27, 3) := by decide +kernel
theorem dX6_keep_15 : decode cX6_keep 15 = .ok (.iload_n 1, 1) := by decide +kernel
theorem dX6_keep_16 : decode cX6_keep 16 = .ok (.baload, 1) := by decide +kernel
theorem dX6_keep_17 : decode cX6_keep 17 = .ok (.invokestatic 157, 3) := by decide +kernel
theorem dX6_keep_20 : decode cX6_keep 20 = .ok (.istore_n 2, 1) := by decide +kernel
theorem dX6_keep_21 : decode cX6_keep 21 = .ok (.aload_n 0, 1) := by decide +kernel
theorem dX6_keep_22 : decode cX6_keep 22 = .ok (.getfield 23, 3) := by decide +kernel
theorem dX6_keep_25 : decode cX6_keep 25 = .ok (.iload_n 1, 1) := by decide +kernel
theorem dX6_keep_26 : decode cX6_keep 26 = .ok (.aaload, 1) := by decide +kernel
theorem dX6_keep_27 : decode cX6_keep 27 = .ok (.aload_n 0, 1) := by decide +kernel
theorem dX6_keep_28 : decode cX6_keep 28 = .ok (.getfield 19, 3) := by decide +kernel
theorem dX6_keep_31 : decode cX6_keep 31 = .ok (.invokevirtual 73, 3) := by decide +kernel
theorem dX6_keep_34 : decode cX6_keep 34 = .ok (.aload_n 0, 1) := by decide +kernel
theorem dX6_keep_35 : decode cX6_keep 35 = .ok (.getfield 27, 3) := by decide +kernel
theorem dX6_keep_38 : decode cX6_keep 38 = .ok (.iload_n 1, 1) := by decide +kernel
theorem dX6_keep_39 : decode cX6_keep 39 = .ok (.iconst 1, 1) := by decide +kernel
theorem dX6_keep_40 : decode cX6_keep 40 = .ok (.bastore, 1) := by decide +kernel
theorem dX6_keep_41 : decode cX6_keep 41 = .ok (.iload_n 2, 1) := by decide +kernel
theorem dX6_keep_42 : decode cX6_keep 42 = .ok (.ireturn, 1) := by decide +kernel
theorem dX6_back_0 : decode cX6_back 0 = .ok (.iload_n 1, 1) := by decide +kernel
theorem dX6_back_1 : decode cX6_back 1 = .ok (.ifCond .lt 8, 3) := by decide +kernel
theorem dX6_back_4 : decode cX6_back 4 = .ok (.iload_n 1, 1) := by decide +kernel
theorem dX6_back_5 : decode cX6_back 5 = .ok (.iconst 2, 1) := by decide +kernel
theorem dX6_back_6 : decode cX6_back 6 = .ok (.if_icmp .lt 5, 3) := by decide +kernel
theorem dX6_back_9 : decode cX6_back 9 = .ok (.iconst (-1), 1) := by decide +kernel
theorem dX6_back_10 : decode cX6_back 10 = .ok (.ireturn, 1) := by decide +kernel
theorem dX6_back_11 : decode cX6_back 11 = .ok (.aload_n 0, 1) := by decide +kernel
theorem dX6_back_12 : decode cX6_back 12 = .ok (.getfield 27, 3) := by decide +kernel
theorem dX6_back_15 : decode cX6_back 15 = .ok (.iload_n 1, 1) := by decide +kernel
theorem dX6_back_16 : decode cX6_back 16 = .ok (.baload, 1) := by decide +kernel
theorem dX6_back_17 : decode cX6_back 17 = .ok (.ifCond .ne 6, 3) := by decide +kernel
theorem dX6_back_20 : decode cX6_back 20 = .ok (.bipush (-2), 2) := by decide +kernel
theorem dX6_back_22 : decode cX6_back 22 = .ok (.ireturn, 1) := by decide +kernel
theorem dX6_back_23 : decode cX6_back 23 = .ok (.aload_n 0, 1) := by decide +kernel
theorem dX6_back_24 : decode cX6_back 24 = .ok (.getfield 19, 3) := by decide +kernel
theorem dX6_back_27 : decode cX6_back 27 = .ok (.aload_n 0, 1) := by decide +kernel
theorem dX6_back_28 : decode cX6_back 28 = .ok (.getfield 23, 3) := by decide +kernel
theorem dX6_back_31 : decode cX6_back 31 = .ok (.iload_n 1, 1) := by decide +kernel
theorem dX6_back_32 : decode cX6_back 32 = .ok (.aaload, 1) := by decide +kernel
theorem dX6_back_33 : decode cX6_back 33 = .ok (.invokevirtual 73, 3) := by decide +kernel
theorem dX6_back_36 : decode cX6_back 36 = .ok (.aload_n 0, 1) := by decide +kernel
theorem dX6_back_37 : decode cX6_back 37 = .ok (.iconst 0, 1) := by decide +kernel
theorem dX6_back_38 : decode cX6_back 38 = .ok (.putfield 77, 3) := by decide +kernel
theorem dX6_back_41 : decode cX6_back 41 = .ok (.aload_n 0, 1) := by decide +kernel
theorem dX6_back_42 : decode cX6_back 42 = .ok (.getfield 19, 3) := by decide +kernel
theorem dX6_back_45 : decode cX6_back 45 = .ok (.getfield 81, 3) := by decide +kernel
theorem dX6_back_48 : decode cX6_back 48 = .ok (.ireturn, 1) := by decide +kernel
theorem dX6_sheet_0 : decode cX6_sheet 0 = .ok (.iload_n 1, 1) := by decide +kernel
theorem dX6_sheet_1 : decode cX6_sheet 1 = .ok (.ifCond .lt 23, 3) := by decide +kernel
theorem dX6_sheet_4 : decode cX6_sheet 4 = .ok (.iload_n 1, 1) := by decide +kernel
theorem dX6_sheet_5 : decode cX6_sheet 5 = .ok (.iconst 4, 1) := by decide +kernel
theorem dX6_sheet_6 : decode cX6_sheet 6 = .ok (.if_icmp .ge 18, 3) := by decide +kernel
theorem dX6_sheet_9 : decode cX6_sheet 9 = .ok (.iload_n 2, 1) := by decide +kernel
theorem dX6_sheet_10 : decode cX6_sheet 10 = .ok (.ifCond .lt 14, 3) := by decide +kernel
theorem dX6_sheet_13 : decode cX6_sheet 13 = .ok (.iload_n 2, 1) := by decide +kernel
theorem dX6_sheet_14 : decode cX6_sheet 14 = .ok (.iconst 2, 1) := by decide +kernel
theorem dX6_sheet_15 : decode cX6_sheet 15 = .ok (.if_icmp .gt 9, 3) := by decide +kernel
theorem dX6_sheet_18 : decode cX6_sheet 18 = .ok (.iload_n 3, 1) := by decide +kernel
theorem dX6_sheet_19 : decode cX6_sheet 19 = .ok (.bipush 40, 2) := by decide +kernel
theorem dX6_sheet_21 : decode cX6_sheet 21 = .ok (.if_icmp .le 5, 3) := by decide +kernel
theorem dX6_sheet_24 : decode cX6_sheet 24 = .ok (.iconst (-1), 1) := by decide +kernel
theorem dX6_sheet_25 : decode cX6_sheet 25 = .ok (.ireturn, 1) := by decide +kernel
theorem dX6_sheet_26 : decode cX6_sheet 26 = .ok (.iload_n 3, 1) := by decide +kernel
theorem dX6_sheet_27 : decode cX6_sheet 27 = .ok (.ifCond .ge 6, 3) := by decide +kernel
theorem dX6_sheet_30 : decode cX6_sheet 30 = .ok (.bipush (-14), 2) := by decide +kernel
theorem dX6_sheet_32 : decode cX6_sheet 32 = .ok (.ireturn, 1) := by decide +kernel
theorem dX6_sheet_33 : decode cX6_sheet 33 = .ok (.aload_n 0, 1) := by decide +kernel
theorem dX6_sheet_34 : decode cX6_sheet 34 = .ok (.getfield 50, 3) := by decide +kernel
theorem dX6_sheet_37 : decode cX6_sheet 37 = .ok (.iload_n 1, 1) := by decide +kernel
theorem dX6_sheet_38 : decode cX6_sheet 38 = .ok (.aaload, 1) := by decide +kernel
theorem dX6_sheet_39 : decode cX6_sheet 39 = .ok (.iload_n 2, 1) := by decide +kernel
theorem dX6_sheet_40 : decode cX6_sheet 40 = .ok (.iload_n 3, 1) := by decide +kernel
theorem dX6_sheet_41 : decode cX6_sheet 41 = .ok (.invokevirtual 243, 3) := by decide +kernel
theorem dX6_sheet_44 : decode cX6_sheet 44 = .ok (.iconst 1, 1) := by decide +kernel
theorem dX6_sheet_45 : decode cX6_sheet 45 = .ok (.ireturn, 1) := by decide +kernel
theorem dX6_lay_0 : decode cX6_lay 0 = .ok (.iload_n 1, 1) := by decide +kernel
theorem dX6_lay_1 : decode cX6_lay 1 = .ok (.ifCond .lt 8, 3) := by decide +kernel
theorem dX6_lay_4 : decode cX6_lay 4 = .ok (.iload_n 1, 1) := by decide +kernel
theorem dX6_lay_5 : decode cX6_lay 5 = .ok (.iconst 4, 1) := by decide +kernel
theorem dX6_lay_6 : decode cX6_lay 6 = .ok (.if_icmp .lt 5, 3) := by decide +kernel
theorem dX6_lay_9 : decode cX6_lay 9 = .ok (.iconst (-1), 1) := by decide +kernel
theorem dX6_lay_10 : decode cX6_lay 10 = .ok (.ireturn, 1) := by decide +kernel
theorem dX6_lay_11 : decode cX6_lay 11 = .ok (.aload_n 0, 1) := by decide +kernel
theorem dX6_lay_12 : decode cX6_lay 12 = .ok (.getfield 50, 3) := by decide +kernel
theorem dX6_lay_15 : decode cX6_lay 15 = .ok (.iload_n 1, 1) := by decide +kernel
theorem dX6_lay_16 : decode cX6_lay 16 = .ok (.aaload, 1) := by decide +kernel
theorem dX6_lay_17 : decode cX6_lay 17 = .ok (.astore 4, 2) := by decide +kernel
theorem dX6_lay_19 : decode cX6_lay 19 = .ok (.aload 4, 2) := by decide +kernel
theorem dX6_lay_21 : decode cX6_lay 21 = .ok (.getfield 247, 3) := by decide +kernel
theorem dX6_lay_24 : decode cX6_lay 24 = .ok (.bipush (-4), 2) := by decide +kernel
theorem dX6_lay_26 : decode cX6_lay 26 = .ok (.if_icmp .ne 6, 3) := by decide +kernel
theorem dX6_lay_29 : decode cX6_lay 29 = .ok (.bipush (-11), 2) := by decide +kernel
theorem dX6_lay_31 : decode cX6_lay 31 = .ok (.ireturn, 1) := by decide +kernel
theorem dX6_lay_32 : decode cX6_lay 32 = .ok (.iload_n 2, 1) := by decide +kernel
theorem dX6_lay_33 : decode cX6_lay 33 = .ok (.ifCond .lt 12, 3) := by decide +kernel
theorem dX6_lay_36 : decode cX6_lay 36 = .ok (.iload_n 2, 1) := by decide +kernel
theorem dX6_lay_37 : decode cX6_lay 37 = .ok (.aload 4, 2) := by decide +kernel
theorem dX6_lay_39 : decode cX6_lay 39 = .ok (.getfield 247, 3) := by decide +kernel
theorem dX6_lay_42 : decode cX6_lay 42 = .ok (.if_icmp .lt 6, 3) := by decide +kernel
theorem dX6_lay_45 : decode cX6_lay 45 = .ok (.bipush (-12), 2) := by decide +kernel
theorem dX6_lay_47 : decode cX6_lay 47 = .ok (.ireturn, 1) := by decide +kernel
theorem dX6_lay_48 : decode cX6_lay 48 = .ok (.aload 4, 2) := by decide +kernel
theorem dX6_lay_50 : decode cX6_lay 50 = .ok (.iload_n 2, 1) := by decide +kernel
theorem dX6_lay_51 : decode cX6_lay 51 = .ok (.iload_n 3, 1) := by decide +kernel
theorem dX6_lay_52 : decode cX6_lay 52 = .ok (.invokevirtual 248, 3) := by decide +kernel
theorem dX6_lay_55 : decode cX6_lay 55 = .ok (.iconst 1, 1) := by decide +kernel
theorem dX6_lay_56 : decode cX6_lay 56 = .ok (.ireturn, 1) := by decide +kernel
theorem dX6_read_0 : decode cX6_read 0 = .ok (.iload_n 1, 1) := by decide +kernel
theorem dX6_read_1 : decode cX6_read 1 = .ok (.ifCond .lt 29, 3) := by decide +kernel
theorem dX6_read_4 : decode cX6_read 4 = .ok (.iload_n 1, 1) := by decide +kernel
theorem dX6_read_5 : decode cX6_read 5 = .ok (.iconst 4, 1) := by decide +kernel
theorem dX6_read_6 : decode cX6_read 6 = .ok (.if_icmp .ge 24, 3) := by decide +kernel
theorem dX6_read_9 : decode cX6_read 9 = .ok (.iload_n 2, 1) := by decide +kernel
theorem dX6_read_10 : decode cX6_read 10 = .ok (.ifCond .lt 20, 3) := by decide +kernel
theorem dX6_read_13 : decode cX6_read 13 = .ok (.iload_n 2, 1) := by decide +kernel
theorem dX6_read_14 : decode cX6_read 14 = .ok (.iconst 2, 1) := by decide +kernel
theorem dX6_read_15 : decode cX6_read 15 = .ok (.if_icmp .gt 15, 3) := by decide +kernel
theorem dX6_read_18 : decode cX6_read 18 = .ok (.iload 4, 2) := by decide +kernel
theorem dX6_read_20 : decode cX6_read 20 = .ok (.ifCond .lt 10, 3) := by decide +kernel
theorem dX6_read_23 : decode cX6_read 23 = .ok (.iload 4, 2) := by decide +kernel
theorem dX6_read_25 : decode cX6_read 25 = .ok (.bipush 13, 2) := by decide +kernel
theorem dX6_read_27 : decode cX6_read 27 = .ok (.if_icmp .le 5, 3) := by decide +kernel
theorem dX6_read_30 : decode cX6_read 30 = .ok (.iconst (-1), 1) := by decide +kernel
theorem dX6_read_31 : decode cX6_read 31 = .ok (.ireturn, 1) := by decide +kernel
theorem dX6_read_32 : decode cX6_read 32 = .ok (.aload_n 0, 1) := by decide +kernel
theorem dX6_read_33 : decode cX6_read 33 = .ok (.getfield 50, 3) := by decide +kernel
theorem dX6_read_36 : decode cX6_read 36 = .ok (.iload_n 1, 1) := by decide +kernel
theorem dX6_read_37 : decode cX6_read 37 = .ok (.aaload, 1) := by decide +kernel
theorem dX6_read_38 : decode cX6_read 38 = .ok (.astore 5, 2) := by decide +kernel
theorem dX6_read_40 : decode cX6_read 40 = .ok (.iconst 0, 1) := by decide +kernel
theorem dX6_read_41 : decode cX6_read 41 = .ok (.istore 6, 2) := by decide +kernel
theorem dX6_read_43 : decode cX6_read 43 = .ok (.iconst 0, 1) := by decide +kernel
theorem dX6_read_44 : decode cX6_read 44 = .ok (.istore 7, 2) := by decide +kernel
theorem dX6_read_46 : decode cX6_read 46 = .ok (.iconst 0, 1) := by decide +kernel
theorem dX6_read_47 : decode cX6_read 47 = .ok (.istore 8, 2) := by decide +kernel
theorem dX6_read_49 : decode cX6_read 49 = .ok (.iload 8, 2) := by decide +kernel
theorem dX6_read_51 : decode cX6_read 51 = .ok (.iload 4, 2) := by decide +kernel
theorem dX6_read_53 : decode cX6_read 53 = .ok (.if_icmp .ge 84, 3) := by decide +kernel
theorem dX6_read_56 : decode cX6_read 56 = .ok (.iload 6, 2) := by decide +kernel
theorem dX6_read_58 : decode cX6_read 58 = .ok (.ifCond .ne 79, 3) := by decide +kernel
theorem dX6_read_61 : decode cX6_read 61 = .ok (.iload_n 3, 1) := by decide +kernel
theorem dX6_read_62 : decode cX6_read 62 = .ok (.iconst 3, 1) := by decide +kernel
theorem dX6_read_63 : decode cX6_read 63 = .ok (.iload 8, 2) := by decide +kernel
theorem dX6_read_65 : decode cX6_read 65 = .ok (.imul, 1) := by decide +kernel
theorem dX6_read_66 : decode cX6_read 66 = .ok (.iadd, 1) := by decide +kernel
theorem dX6_read_67 : decode cX6_read 67 = .ok (.istore 9, 2) := by decide +kernel
theorem dX6_read_69 : decode cX6_read 69 = .ok (.aload 5, 2) := by decide +kernel
theorem dX6_read_71 : decode cX6_read 71 = .ok (.iload_n 2, 1) := by decide +kernel
theorem dX6_read_72 : decode cX6_read 72 = .ok (.iload 9, 2) := by decide +kernel
theorem dX6_read_74 : decode cX6_read 74 = .ok (.invokevirtual 251, 3) := by decide +kernel
theorem dX6_read_77 : decode cX6_read 77 = .ok (.istore 6, 2) := by decide +kernel
theorem dX6_read_79 : decode cX6_read 79 = .ok (.iload 6, 2) := by decide +kernel
theorem dX6_read_81 : decode cX6_read 81 = .ok (.ifCond .ne 50, 3) := by decide +kernel
theorem dX6_read_84 : decode cX6_read 84 = .ok (.aload_n 0, 1) := by decide +kernel
theorem dX6_read_85 : decode cX6_read 85 = .ok (.getfield 19, 3) := by decide +kernel
theorem dX6_read_88 : decode cX6_read 88 = .ok (.aload 5, 2) := by decide +kernel
theorem dX6_read_90 : decode cX6_read 90 = .ok (.getfield 255, 3) := by decide +kernel
theorem dX6_read_93 : decode cX6_read 93 = .ok (.iload 9, 2) := by decide +kernel
theorem dX6_read_95 : decode cX6_read 95 = .ok (.iaload, 1) := by decide +kernel
theorem dX6_read_96 : decode cX6_read 96 = .ok (.aload 5, 2) := by decide +kernel
theorem dX6_read_98 : decode cX6_read 98 = .ok (.getfield 255, 3) := by decide +kernel
theorem dX6_read_101 : decode cX6_read 101 = .ok (.iload 9, 2) := by decide +kernel
theorem dX6_read_103 : decode cX6_read 103 = .ok (.iconst 1, 1) := by decide +kernel
theorem dX6_read_104 : decode cX6_read 104 = .ok (.iadd, 1) := by decide +kernel
theorem dX6_read_105 : decode cX6_read 105 = .ok (.iaload, 1) := by decide +kernel
theorem dX6_read_106 : decode cX6_read 106 = .ok (.aload 5, 2) := by decide +kernel
theorem dX6_read_108 : decode cX6_read 108 = .ok (.getfield 255, 3) := by decide +kernel
theorem dX6_read_111 : decode cX6_read 111 = .ok (.iload 9, 2) := by decide +kernel
theorem dX6_read_113 : decode cX6_read 113 = .ok (.iconst 2, 1) := by decide +kernel
theorem dX6_read_114 : decode cX6_read 114 = .ok (.iadd, 1) := by decide +kernel
theorem dX6_read_115 : decode cX6_read 115 = .ok (.iaload, 1) := by decide +kernel
theorem dX6_read_116 : decode cX6_read 116 = .ok (.invokevirtual 235, 3) := by decide +kernel
theorem dX6_read_119 : decode cX6_read 119 = .ok (.ifCond .ne 9, 3) := by decide +kernel
theorem dX6_read_122 : decode cX6_read 122 = .ok (.bipush (-20), 2) := by decide +kernel
theorem dX6_read_124 : decode cX6_read 124 = .ok (.iload 8, 2) := by decide +kernel
theorem dX6_read_126 : decode cX6_read 126 = .ok (.isub, 1) := by decide +kernel
theorem dX6_read_127 : decode cX6_read 127 = .ok (.ireturn, 1) := by decide +kernel
theorem dX6_read_128 : decode cX6_read 128 = .ok (.iinc 7 1, 3) := by decide +kernel
theorem dX6_read_131 : decode cX6_read 131 = .ok (.iinc 8 1, 3) := by decide +kernel
theorem dX6_read_134 : decode cX6_read 134 = .ok (.goto (-85), 3) := by decide +kernel
theorem dX6_read_137 : decode cX6_read 137 = .ok (.iconst 0, 1) := by decide +kernel
theorem dX6_read_138 : decode cX6_read 138 = .ok (.istore 8, 2) := by decide +kernel
theorem dX6_read_140 : decode cX6_read 140 = .ok (.iload 8, 2) := by decide +kernel
theorem dX6_read_142 : decode cX6_read 142 = .ok (.iload 7, 2) := by decide +kernel
theorem dX6_read_144 : decode cX6_read 144 = .ok (.if_icmp .ge 53, 3) := by decide +kernel
theorem dX6_read_147 : decode cX6_read 147 = .ok (.iload_n 3, 1) := by decide +kernel
theorem dX6_read_148 : decode cX6_read 148 = .ok (.iconst 3, 1) := by decide +kernel
theorem dX6_read_149 : decode cX6_read 149 = .ok (.iload 8, 2) := by decide +kernel
theorem dX6_read_151 : decode cX6_read 151 = .ok (.imul, 1) := by decide +kernel
theorem dX6_read_152 : decode cX6_read 152 = .ok (.iadd, 1) := by decide +kernel
theorem dX6_read_153 : decode cX6_read 153 = .ok (.istore 9, 2) := by decide +kernel
theorem dX6_read_155 : decode cX6_read 155 = .ok (.aload_n 0, 1) := by decide +kernel
theorem dX6_read_156 : decode cX6_read 156 = .ok (.getfield 19, 3) := by decide +kernel
theorem dX6_read_159 : decode cX6_read 159 = .ok (.aload 5, 2) := by decide +kernel
theorem dX6_read_161 : decode cX6_read 161 = .ok (.getfield 255, 3) := by decide +kernel
theorem dX6_read_164 : decode cX6_read 164 = .ok (.iload 9, 2) := by decide +kernel
theorem dX6_read_166 : decode cX6_read 166 = .ok (.iaload, 1) := by decide +kernel
theorem dX6_read_167 : decode cX6_read 167 = .ok (.aload 5, 2) := by decide +kernel
theorem dX6_read_169 : decode cX6_read 169 = .ok (.getfield 255, 3) := by decide +kernel
theorem dX6_read_172 : decode cX6_read 172 = .ok (.iload 9, 2) := by decide +kernel
theorem dX6_read_174 : decode cX6_read 174 = .ok (.iconst 1, 1) := by decide +kernel
theorem dX6_read_175 : decode cX6_read 175 = .ok (.iadd, 1) := by decide +kernel
theorem dX6_read_176 : decode cX6_read 176 = .ok (.iaload, 1) := by decide +kernel
theorem dX6_read_177 : decode cX6_read 177 = .ok (.aload 5, 2) := by decide +kernel
theorem dX6_read_179 : decode cX6_read 179 = .ok (.getfield 255, 3) := by decide +kernel
theorem dX6_read_182 : decode cX6_read 182 = .ok (.iload 9, 2) := by decide +kernel
theorem dX6_read_184 : decode cX6_read 184 = .ok (.iconst 2, 1) := by decide +kernel
theorem dX6_read_185 : decode cX6_read 185 = .ok (.iadd, 1) := by decide +kernel
theorem dX6_read_186 : decode cX6_read 186 = .ok (.iaload, 1) := by decide +kernel
theorem dX6_read_187 : decode cX6_read 187 = .ok (.invokevirtual 239, 3) := by decide +kernel
theorem dX6_read_190 : decode cX6_read 190 = .ok (.pop, 1) := by decide +kernel
theorem dX6_read_191 : decode cX6_read 191 = .ok (.iinc 8 1, 3) := by decide +kernel
theorem dX6_read_194 : decode cX6_read 194 = .ok (.goto (-54), 3) := by decide +kernel
theorem dX6_read_197 : decode cX6_read 197 = .ok (.aload_n 0, 1) := by decide +kernel
theorem dX6_read_198 : decode cX6_read 198 = .ok (.iload 6, 2) := by decide +kernel
theorem dX6_read_200 : decode cX6_read 200 = .ok (.putfield 258, 3) := by decide +kernel
theorem dX6_read_203 : decode cX6_read 203 = .ok (.iload 7, 2) := by decide +kernel
theorem dX6_read_205 : decode cX6_read 205 = .ok (.ireturn, 1) := by decide +kernel
theorem dX6_torn_0 : decode cX6_torn 0 = .ok (.aload_n 0, 1) := by decide +kernel
theorem dX6_torn_1 : decode cX6_torn 1 = .ok (.getfield 258, 3) := by decide +kernel
theorem dX6_torn_4 : decode cX6_torn 4 = .ok (.ireturn, 1) := by decide +kernel
theorem dX6_count_0 : decode cX6_count 0 = .ok (.iload_n 1, 1) := by decide +kernel
theorem dX6_count_1 : decode cX6_count 1 = .ok (.tableswitch 104 0 5 #[39, 59, 68, 76, 86, 95], 39) := by decide +kernel
theorem dX6_count_40 : decode cX6_count 40 = .ok (.aload_n 0, 1) := by decide +kernel
theorem dX6_count_41 : decode cX6_count 41 = .ok (.getfield 27, 3) := by decide +kernel
theorem dX6_count_44 : decode cX6_count 44 = .ok (.iconst 0, 1) := by decide +kernel
theorem dX6_count_45 : decode cX6_count 45 = .ok (.baload, 1) := by decide +kernel
theorem dX6_count_46 : decode cX6_count 46 = .ok (.invokestatic 157, 3) := by decide +kernel
theorem dX6_count_49 : decode cX6_count 49 = .ok (.aload_n 0, 1) := by decide +kernel
theorem dX6_count_50 : decode cX6_count 50 = .ok (.getfield 27, 3) := by decide +kernel
theorem dX6_count_53 : decode cX6_count 53 = .ok (.iconst 1, 1) := by decide +kernel
theorem dX6_count_54 : decode cX6_count 54 = .ok (.baload, 1) := by decide +kernel
theorem dX6_count_55 : decode cX6_count 55 = .ok (.invokestatic 157, 3) := by decide +kernel
theorem dX6_count_58 : decode cX6_count 58 = .ok (.iadd, 1) := by decide +kernel
theorem dX6_count_59 : decode cX6_count 59 = .ok (.ireturn, 1) := by decide +kernel
theorem dX6_count_60 : decode cX6_count 60 = .ok (.aload_n 0, 1) := by decide +kernel
theorem dX6_count_61 : decode cX6_count 61 = .ok (.getfield 19, 3) := by decide +kernel
theorem dX6_count_64 : decode cX6_count 64 = .ok (.iconst 4, 1) := by decide +kernel
theorem dX6_count_65 : decode cX6_count 65 = .ok (.invokevirtual 261, 3) := by decide +kernel
theorem dX6_count_68 : decode cX6_count 68 = .ok (.ireturn, 1) := by decide +kernel
theorem dX6_count_69 : decode cX6_count 69 = .ok (.aload_n 0, 1) := by decide +kernel
theorem dX6_count_70 : decode cX6_count 70 = .ok (.getfield 12, 3) := by decide +kernel
theorem dX6_count_73 : decode cX6_count 73 = .ok (.getfield 55, 3) := by decide +kernel
theorem dX6_count_76 : decode cX6_count 76 = .ok (.ireturn, 1) := by decide +kernel
theorem dX6_count_77 : decode cX6_count 77 = .ok (.aload_n 0, 1) := by decide +kernel
theorem dX6_count_78 : decode cX6_count 78 = .ok (.getfield 50, 3) := by decide +kernel
theorem dX6_count_81 : decode cX6_count 81 = .ok (.iconst 0, 1) := by decide +kernel
theorem dX6_count_82 : decode cX6_count 82 = .ok (.aaload, 1) := by decide +kernel
theorem dX6_count_83 : decode cX6_count 83 = .ok (.getfield 247, 3) := by decide +kernel
theorem dX6_count_86 : decode cX6_count 86 = .ok (.ireturn, 1) := by decide +kernel
theorem dX6_count_87 : decode cX6_count 87 = .ok (.aload_n 0, 1) := by decide +kernel
theorem dX6_count_88 : decode cX6_count 88 = .ok (.getfield 19, 3) := by decide +kernel
theorem dX6_count_91 : decode cX6_count 91 = .ok (.iconst 0, 1) := by decide +kernel
theorem dX6_count_92 : decode cX6_count 92 = .ok (.invokevirtual 264, 3) := by decide +kernel
theorem dX6_count_95 : decode cX6_count 95 = .ok (.ireturn, 1) := by decide +kernel
theorem dX6_count_96 : decode cX6_count 96 = .ok (.aload_n 0, 1) := by decide +kernel
theorem dX6_count_97 : decode cX6_count 97 = .ok (.getfield 19, 3) := by decide +kernel
theorem dX6_count_100 : decode cX6_count 100 = .ok (.iconst 5, 1) := by decide +kernel
theorem dX6_count_101 : decode cX6_count 101 = .ok (.invokevirtual 264, 3) := by decide +kernel
theorem dX6_count_104 : decode cX6_count 104 = .ok (.ireturn, 1) := by decide +kernel
theorem dX6_count_105 : decode cX6_count 105 = .ok (.iconst (-1), 1) := by decide +kernel
theorem dX6_count_106 : decode cX6_count 106 = .ok (.ireturn, 1) := by decide +kernel
theorem dX6_measured_0 : decode cX6_measured 0 = .ok (.aload_n 0, 1) := by decide +kernel
theorem dX6_measured_1 : decode cX6_measured 1 = .ok (.getfield 34, 3) := by decide +kernel
theorem dX6_measured_4 : decode cX6_measured 4 = .ok (.aload_n 0, 1) := by decide +kernel
theorem dX6_measured_5 : decode cX6_measured 5 = .ok (.getfield 19, 3) := by decide +kernel
theorem dX6_measured_8 : decode cX6_measured 8 = .ok (.invokevirtual 267, 3) := by decide +kernel
theorem dX6_measured_11 : decode cX6_measured 11 = .ok (.aload_n 0, 1) := by decide +kernel
theorem dX6_measured_12 : decode cX6_measured 12 = .ok (.getfield 34, 3) := by decide +kernel
theorem dX6_measured_15 : decode cX6_measured 15 = .ok (.areturn, 1) := by decide +kernel
theorem dX6_oneIf_0 : decode cX6_oneIf 0 = .ok (.iload_n 0, 1) := by decide +kernel
theorem dX6_oneIf_1 : decode cX6_oneIf 1 = .ok (.ifCond .eq 7, 3) := by decide +kernel
theorem dX6_oneIf_4 : decode cX6_oneIf 4 = .ok (.iconst 1, 1) := by decide +kernel
theorem dX6_oneIf_5 : decode cX6_oneIf 5 = .ok (.goto 4, 3) := by decide +kernel
theorem dX6_oneIf_8 : decode cX6_oneIf 8 = .ok (.iconst 0, 1) := by decide +kernel
theorem dX6_oneIf_9 : decode cX6_oneIf 9 = .ok (.ireturn, 1) := by decide +kernel
theorem dX6_partOfFraction_0 : decode cX6_partOfFraction 0 = .ok (.lload_n 0, 1) := by decide +kernel
theorem dX6_partOfFraction_1 : decode cX6_partOfFraction 1 = .ok (.lload_n 2, 1) := by decide +kernel
theorem dX6_partOfFraction_2 : decode cX6_partOfFraction 2 = .ok (.invokestatic 270, 3) := by decide +kernel
theorem dX6_partOfFraction_5 : decode cX6_partOfFraction 5 = .ok (.lstore 5, 2) := by decide +kernel
theorem dX6_partOfFraction_7 : decode cX6_partOfFraction 7 = .ok (.lload 5, 2) := by decide +kernel
theorem dX6_partOfFraction_9 : decode cX6_partOfFraction 9 = .ok (.lconst 0, 1) := by decide +kernel
theorem dX6_partOfFraction_10 : decode cX6_partOfFraction 10 = .ok (.lcmp, 1) := by decide +kernel
theorem dX6_partOfFraction_11 : decode cX6_partOfFraction 11 = .ok (.ifCond .gt 7, 3) := by decide +kernel
theorem dX6_partOfFraction_14 : decode cX6_partOfFraction 14 = .ok (.iload 4, 2) := by decide +kernel
theorem dX6_partOfFraction_16 : decode cX6_partOfFraction 16 = .ok (.i2l, 1) := by decide +kernel
theorem dX6_partOfFraction_17 : decode cX6_partOfFraction 17 = .ok (.lreturn, 1) := by decide +kernel
theorem dX6_partOfFraction_18 : decode cX6_partOfFraction 18 = .ok (.iload 4, 2) := by decide +kernel
theorem dX6_partOfFraction_20 : decode cX6_partOfFraction 20 = .ok (.ifCond .ne 10, 3) := by decide +kernel
theorem dX6_partOfFraction_23 : decode cX6_partOfFraction 23 = .ok (.lload_n 0, 1) := by decide +kernel
theorem dX6_partOfFraction_24 : decode cX6_partOfFraction 24 = .ok (.lload 5, 2) := by decide +kernel
theorem dX6_partOfFraction_26 : decode cX6_partOfFraction 26 = .ok (.ldiv, 1) := by decide +kernel
theorem dX6_partOfFraction_27 : decode cX6_partOfFraction 27 = .ok (.goto 7, 3) := by decide +kernel
theorem dX6_partOfFraction_30 : decode cX6_partOfFraction 30 = .ok (.lload_n 2, 1) := by decide +kernel
theorem dX6_partOfFraction_31 : decode cX6_partOfFraction 31 = .ok (.lload 5, 2) := by decide +kernel
theorem dX6_partOfFraction_33 : decode cX6_partOfFraction 33 = .ok (.ldiv, 1) := by decide +kernel
theorem dX6_partOfFraction_34 : decode cX6_partOfFraction 34 = .ok (.lreturn, 1) := by decide +kernel
theorem dX6_greatestCommon_0 : decode cX6_greatestCommon 0 = .ok (.lload_n 0, 1) := by decide +kernel
theorem dX6_greatestCommon_1 : decode cX6_greatestCommon 1 = .ok (.lstore 4, 2) := by decide +kernel
theorem dX6_greatestCommon_3 : decode cX6_greatestCommon 3 = .ok (.lload_n 2, 1) := by decide +kernel
theorem dX6_greatestCommon_4 : decode cX6_greatestCommon 4 = .ok (.lstore 6, 2) := by decide +kernel
theorem dX6_greatestCommon_6 : decode cX6_greatestCommon 6 = .ok (.iconst 0, 1) := by decide +kernel
theorem dX6_greatestCommon_7 : decode cX6_greatestCommon 7 = .ok (.istore 8, 2) := by decide +kernel
theorem dX6_greatestCommon_9 : decode cX6_greatestCommon 9 = .ok (.iload 8, 2) := by decide +kernel
theorem dX6_greatestCommon_11 : decode cX6_greatestCommon 11 = .ok (.bipush 100, 2) := by decide +kernel
theorem dX6_greatestCommon_13 : decode cX6_greatestCommon 13 = .ok (.if_icmp .ge 31, 3) := by decide +kernel
theorem dX6_greatestCommon_16 : decode cX6_greatestCommon 16 = .ok (.lload 6, 2) := by decide +kernel
theorem dX6_greatestCommon_18 : decode cX6_greatestCommon 18 = .ok (.lconst 0, 1) := by decide +kernel
theorem dX6_greatestCommon_19 : decode cX6_greatestCommon 19 = .ok (.lcmp, 1) := by decide +kernel
theorem dX6_greatestCommon_20 : decode cX6_greatestCommon 20 = .ok (.ifCond .eq 24, 3) := by decide +kernel
theorem dX6_greatestCommon_23 : decode cX6_greatestCommon 23 = .ok (.lload 4, 2) := by decide +kernel
theorem dX6_greatestCommon_25 : decode cX6_greatestCommon 25 = .ok (.lload 6, 2) := by decide +kernel
theorem dX6_greatestCommon_27 : decode cX6_greatestCommon 27 = .ok (.lrem, 1) := by decide +kernel
theorem dX6_greatestCommon_28 : decode cX6_greatestCommon 28 = .ok (.lstore 9, 2) := by decide +kernel
theorem dX6_greatestCommon_30 : decode cX6_greatestCommon 30 = .ok (.lload 6, 2) := by decide +kernel
theorem dX6_greatestCommon_32 : decode cX6_greatestCommon 32 = .ok (.lstore 4, 2) := by decide +kernel
theorem dX6_greatestCommon_34 : decode cX6_greatestCommon 34 = .ok (.lload 9, 2) := by decide +kernel
theorem dX6_greatestCommon_36 : decode cX6_greatestCommon 36 = .ok (.lstore 6, 2) := by decide +kernel
theorem dX6_greatestCommon_38 : decode cX6_greatestCommon 38 = .ok (.iinc 8 1, 3) := by decide +kernel
theorem dX6_greatestCommon_41 : decode cX6_greatestCommon 41 = .ok (.goto (-32), 3) := by decide +kernel
theorem dX6_greatestCommon_44 : decode cX6_greatestCommon 44 = .ok (.lload 4, 2) := by decide +kernel
theorem dX6_greatestCommon_46 : decode cX6_greatestCommon 46 = .ok (.lreturn, 1) := by decide +kernel
