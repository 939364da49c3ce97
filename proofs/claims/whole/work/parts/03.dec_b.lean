theorem dX5_init_0 : decode cX5_init 0 = .ok (.aload_n 0, 1) := by decide +kernel
theorem dX5_init_1 : decode cX5_init 1 = .ok (.invokespecial 1, 3) := by decide +kernel
theorem dX5_init_4 : decode cX5_init 4 = .ok (.aload_n 0, 1) := by decide +kernel
theorem dX5_init_5 : decode cX5_init 5 = .ok (.new 7, 3) := by decide +kernel
theorem dX5_init_8 : decode cX5_init 8 = .ok (.dup, 1) := by decide +kernel
theorem dX5_init_9 : decode cX5_init 9 = .ok (.invokespecial 9, 3) := by decide +kernel
theorem dX5_init_12 : decode cX5_init 12 = .ok (.putfield 10, 3) := by decide +kernel
theorem dX5_init_15 : decode cX5_init 15 = .ok (.aload_n 0, 1) := by decide +kernel
theorem dX5_init_16 : decode cX5_init 16 = .ok (.new 16, 3) := by decide +kernel
theorem dX5_init_19 : decode cX5_init 19 = .ok (.dup, 1) := by decide +kernel
theorem dX5_init_20 : decode cX5_init 20 = .ok (.invokespecial 18, 3) := by decide +kernel
theorem dX5_init_23 : decode cX5_init 23 = .ok (.putfield 19, 3) := by decide +kernel
theorem dX5_init_26 : decode cX5_init 26 = .ok (.aload_n 0, 1) := by decide +kernel
theorem dX5_init_27 : decode cX5_init 27 = .ok (.new 16, 3) := by decide +kernel
theorem dX5_init_30 : decode cX5_init 30 = .ok (.dup, 1) := by decide +kernel
theorem dX5_init_31 : decode cX5_init 31 = .ok (.invokespecial 18, 3) := by decide +kernel
theorem dX5_init_34 : decode cX5_init 34 = .ok (.putfield 23, 3) := by decide +kernel
theorem dX5_init_37 : decode cX5_init 37 = .ok (.aload_n 0, 1) := by decide +kernel
theorem dX5_init_38 : decode cX5_init 38 = .ok (.new 26, 3) := by decide +kernel
theorem dX5_init_41 : decode cX5_init 41 = .ok (.dup, 1) := by decide +kernel
theorem dX5_init_42 : decode cX5_init 42 = .ok (.invokespecial 28, 3) := by decide +kernel
theorem dX5_init_45 : decode cX5_init 45 = .ok (.putfield 29, 3) := by decide +kernel
theorem dX5_init_48 : decode cX5_init 48 = .ok (.aload_n 0, 1) := by decide +kernel
theorem dX5_init_49 : decode cX5_init 49 = .ok (.iconst 2, 1) := by decide +kernel
theorem dX5_init_50 : decode cX5_init 50 = .ok (.anewarray 16, 3) := by decide +kernel
theorem dX5_init_53 : decode cX5_init 53 = .ok (.putfield 33, 3) := by decide +kernel
theorem dX5_init_56 : decode cX5_init 56 = .ok (.aload_n 0, 1) := by decide +kernel
theorem dX5_init_57 : decode cX5_init 57 = .ok (.iconst 2, 1) := by decide +kernel
theorem dX5_init_58 : decode cX5_init 58 = .ok (.newarray .boolean, 2) := by decide +kernel
theorem dX5_init_60 : decode cX5_init 60 = .ok (.putfield 37, 3) := by decide +kernel
theorem dX5_init_63 : decode cX5_init 63 = .ok (.aload_n 0, 1) := by decide +kernel
theorem dX5_init_64 : decode cX5_init 64 = .ok (.iconst 4, 1) := by decide +kernel
theorem dX5_init_65 : decode cX5_init 65 = .ok (.anewarray 41, 3) := by decide +kernel
theorem dX5_init_68 : decode cX5_init 68 = .ok (.putfield 43, 3) := by decide +kernel
theorem dX5_init_71 : decode cX5_init 71 = .ok (.aload_n 0, 1) := by decide +kernel
theorem dX5_init_72 : decode cX5_init 72 = .ok (.bipush 62, 2) := by decide +kernel
theorem dX5_init_74 : decode cX5_init 74 = .ok (.newarray .int, 2) := by decide +kernel
theorem dX5_init_76 : decode cX5_init 76 = .ok (.putfield 47, 3) := by decide +kernel
theorem dX5_init_79 : decode cX5_init 79 = .ok (.aload_n 0, 1) := by decide +kernel
theorem dX5_init_80 : decode cX5_init 80 = .ok (.sipush 1271, 3) := by decide +kernel
theorem dX5_init_83 : decode cX5_init 83 = .ok (.newarray .int, 2) := by decide +kernel
theorem dX5_init_85 : decode cX5_init 85 = .ok (.putfield 51, 3) := by decide +kernel
theorem dX5_init_88 : decode cX5_init 88 = .ok (.aload_n 0, 1) := by decide +kernel
theorem dX5_init_89 : decode cX5_init 89 = .ok (.sipush 256, 3) := by decide +kernel
theorem dX5_init_92 : decode cX5_init 92 = .ok (.newarray .int, 2) := by decide +kernel
theorem dX5_init_94 : decode cX5_init 94 = .ok (.putfield 54, 3) := by decide +kernel
theorem dX5_init_97 : decode cX5_init 97 = .ok (.iconst 0, 1) := by decide +kernel
theorem dX5_init_98 : decode cX5_init 98 = .ok (.istore_n 1, 1) := by decide +kernel
theorem dX5_init_99 : decode cX5_init 99 = .ok (.iload_n 1, 1) := by decide +kernel
theorem dX5_init_100 : decode cX5_init 100 = .ok (.iconst 2, 1) := by decide +kernel
theorem dX5_init_101 : decode cX5_init 101 = .ok (.if_icmp .ge 22, 3) := by decide +kernel
theorem dX5_init_104 : decode cX5_init 104 = .ok (.aload_n 0, 1) := by decide +kernel
theorem dX5_init_105 : decode cX5_init 105 = .ok (.getfield 33, 3) := by decide +kernel
theorem dX5_init_108 : decode cX5_init 108 = .ok (.iload_n 1, 1) := by decide +kernel
theorem dX5_init_109 : decode cX5_init 109 = .ok (.new 16, 3) := by decide +kernel
theorem dX5_init_112 : decode cX5_init 112 = .ok (.dup, 1) := by decide +kernel
theorem dX5_init_113 : decode cX5_init 113 = .ok (.invokespecial 18, 3) := by decide +kernel
theorem dX5_init_116 : decode cX5_init 116 = .ok (.aastore, 1) := by decide +kernel
theorem dX5_init_117 : decode cX5_init 117 = .ok (.iinc 1 1, 3) := by decide +kernel
theorem dX5_init_120 : decode cX5_init 120 = .ok (.goto (-21), 3) := by decide +kernel
theorem dX5_init_123 : decode cX5_init 123 = .ok (.iconst 0, 1) := by decide +kernel
theorem dX5_init_124 : decode cX5_init 124 = .ok (.istore_n 1, 1) := by decide +kernel
theorem dX5_init_125 : decode cX5_init 125 = .ok (.iload_n 1, 1) := by decide +kernel
theorem dX5_init_126 : decode cX5_init 126 = .ok (.iconst 4, 1) := by decide +kernel
theorem dX5_init_127 : decode cX5_init 127 = .ok (.if_icmp .ge 22, 3) := by decide +kernel
theorem dX5_init_130 : decode cX5_init 130 = .ok (.aload_n 0, 1) := by decide +kernel
theorem dX5_init_131 : decode cX5_init 131 = .ok (.getfield 43, 3) := by decide +kernel
theorem dX5_init_134 : decode cX5_init 134 = .ok (.iload_n 1, 1) := by decide +kernel
theorem dX5_init_135 : decode cX5_init 135 = .ok (.new 41, 3) := by decide +kernel
theorem dX5_init_138 : decode cX5_init 138 = .ok (.dup, 1) := by decide +kernel
theorem dX5_init_139 : decode cX5_init 139 = .ok (.invokespecial 57, 3) := by decide +kernel
theorem dX5_init_142 : decode cX5_init 142 = .ok (.aastore, 1) := by decide +kernel
theorem dX5_init_143 : decode cX5_init 143 = .ok (.iinc 1 1, 3) := by decide +kernel
theorem dX5_init_146 : decode cX5_init 146 = .ok (.goto (-21), 3) := by decide +kernel
theorem dX5_init_149 : decode cX5_init 149 = .ok (.return_, 1) := by decide +kernel
theorem dX5_feed_0 : decode cX5_feed 0 = .ok (.iload_n 1, 1) := by decide +kernel
theorem dX5_feed_1 : decode cX5_feed 1 = .ok (.iconst 0, 1) := by decide +kernel
theorem dX5_feed_2 : decode cX5_feed 2 = .ok (.bipush 127, 2) := by decide +kernel
theorem dX5_feed_4 : decode cX5_feed 4 = .ok (.invokestatic 58, 3) := by decide +kernel
theorem dX5_feed_7 : decode cX5_feed 7 = .ok (.ifCond .eq 5, 3) := by decide +kernel
theorem dX5_feed_10 : decode cX5_feed 10 = .ok (.iconst (-1), 1) := by decide +kernel
theorem dX5_feed_11 : decode cX5_feed 11 = .ok (.ireturn, 1) := by decide +kernel
theorem dX5_feed_12 : decode cX5_feed 12 = .ok (.aload_n 0, 1) := by decide +kernel
theorem dX5_feed_13 : decode cX5_feed 13 = .ok (.getfield 10, 3) := by decide +kernel
theorem dX5_feed_16 : decode cX5_feed 16 = .ok (.getfield 62, 3) := by decide +kernel
theorem dX5_feed_19 : decode cX5_feed 19 = .ok (.sipush 160, 3) := by decide +kernel
theorem dX5_feed_22 : decode cX5_feed 22 = .ok (.if_icmp .lt 6, 3) := by decide +kernel
theorem dX5_feed_25 : decode cX5_feed 25 = .ok (.bipush (-3), 2) := by decide +kernel
theorem dX5_feed_27 : decode cX5_feed 27 = .ok (.ireturn, 1) := by decide +kernel
theorem dX5_feed_28 : decode cX5_feed 28 = .ok (.aload_n 0, 1) := by decide +kernel
theorem dX5_feed_29 : decode cX5_feed 29 = .ok (.getfield 10, 3) := by decide +kernel
theorem dX5_feed_32 : decode cX5_feed 32 = .ok (.getfield 66, 3) := by decide +kernel
theorem dX5_feed_35 : decode cX5_feed 35 = .ok (.aload_n 0, 1) := by decide +kernel
theorem dX5_feed_36 : decode cX5_feed 36 = .ok (.getfield 10, 3) := by decide +kernel
theorem dX5_feed_39 : decode cX5_feed 39 = .ok (.getfield 62, 3) := by decide +kernel
theorem dX5_feed_42 : decode cX5_feed 42 = .ok (.iload_n 1, 1) := by decide +kernel
theorem dX5_feed_43 : decode cX5_feed 43 = .ok (.i2b, 1) := by decide +kernel
theorem dX5_feed_44 : decode cX5_feed 44 = .ok (.bastore, 1) := by decide +kernel
theorem dX5_feed_45 : decode cX5_feed 45 = .ok (.aload_n 0, 1) := by decide +kernel
theorem dX5_feed_46 : decode cX5_feed 46 = .ok (.getfield 10, 3) := by decide +kernel
theorem dX5_feed_49 : decode cX5_feed 49 = .ok (.dup, 1) := by decide +kernel
theorem dX5_feed_50 : decode cX5_feed 50 = .ok (.getfield 62, 3) := by decide +kernel
theorem dX5_feed_53 : decode cX5_feed 53 = .ok (.iconst 1, 1) := by decide +kernel
theorem dX5_feed_54 : decode cX5_feed 54 = .ok (.iadd, 1) := by decide +kernel
theorem dX5_feed_55 : decode cX5_feed 55 = .ok (.putfield 62, 3) := by decide +kernel
theorem dX5_feed_58 : decode cX5_feed 58 = .ok (.aload_n 0, 1) := by decide +kernel
theorem dX5_feed_59 : decode cX5_feed 59 = .ok (.getfield 10, 3) := by decide +kernel
theorem dX5_feed_62 : decode cX5_feed 62 = .ok (.getfield 62, 3) := by decide +kernel
theorem dX5_feed_65 : decode cX5_feed 65 = .ok (.ireturn, 1) := by decide +kernel
theorem dX5_end_0 : decode cX5_end 0 = .ok (.iload_n 1, 1) := by decide +kernel
theorem dX5_end_1 : decode cX5_end 1 = .ok (.iconst 0, 1) := by decide +kernel
theorem dX5_end_2 : decode cX5_end 2 = .ok (.aload_n 0, 1) := by decide +kernel
theorem dX5_end_3 : decode cX5_end 3 = .ok (.getfield 10, 3) := by decide +kernel
theorem dX5_end_6 : decode cX5_end 6 = .ok (.getfield 62, 3) := by decide +kernel
theorem dX5_end_9 : decode cX5_end 9 = .ok (.invokestatic 58, 3) := by decide +kernel
theorem dX5_end_12 : decode cX5_end 12 = .ok (.ifCond .eq 5, 3) := by decide +kernel
theorem dX5_end_15 : decode cX5_end 15 = .ok (.iconst (-1), 1) := by decide +kernel
theorem dX5_end_16 : decode cX5_end 16 = .ok (.ireturn, 1) := by decide +kernel
theorem dX5_end_17 : decode cX5_end 17 = .ok (.aload_n 0, 1) := by decide +kernel
theorem dX5_end_18 : decode cX5_end 18 = .ok (.getfield 10, 3) := by decide +kernel
theorem dX5_end_21 : decode cX5_end 21 = .ok (.getfield 62, 3) := by decide +kernel
theorem dX5_end_24 : decode cX5_end 24 = .ok (.istore_n 2, 1) := by decide +kernel
theorem dX5_end_25 : decode cX5_end 25 = .ok (.aload_n 0, 1) := by decide +kernel
theorem dX5_end_26 : decode cX5_end 26 = .ok (.getfield 10, 3) := by decide +kernel
theorem dX5_end_29 : decode cX5_end 29 = .ok (.iload_n 1, 1) := by decide +kernel
theorem dX5_end_30 : decode cX5_end 30 = .ok (.putfield 62, 3) := by decide +kernel
theorem dX5_end_33 : decode cX5_end 33 = .ok (.iload_n 2, 1) := by decide +kernel
theorem dX5_end_34 : decode cX5_end 34 = .ok (.ireturn, 1) := by decide +kernel
theorem dX5_text_0 : decode cX5_text 0 = .ok (.aload_n 0, 1) := by decide +kernel
theorem dX5_text_1 : decode cX5_text 1 = .ok (.getfield 10, 3) := by decide +kernel
theorem dX5_text_4 : decode cX5_text 4 = .ok (.aload_n 0, 1) := by decide +kernel
theorem dX5_text_5 : decode cX5_text 5 = .ok (.getfield 23, 3) := by decide +kernel
theorem dX5_text_8 : decode cX5_text 8 = .ok (.invokevirtual 70, 3) := by decide +kernel
theorem dX5_text_11 : decode cX5_text 11 = .ok (.istore_n 1, 1) := by decide +kernel
theorem dX5_text_12 : decode cX5_text 12 = .ok (.aload_n 0, 1) := by decide +kernel
theorem dX5_text_13 : decode cX5_text 13 = .ok (.getfield 10, 3) := by decide +kernel
theorem dX5_text_16 : decode cX5_text 16 = .ok (.iconst 0, 1) := by decide +kernel
theorem dX5_text_17 : decode cX5_text 17 = .ok (.putfield 62, 3) := by decide +kernel
theorem dX5_text_20 : decode cX5_text 20 = .ok (.aload_n 0, 1) := by decide +kernel
theorem dX5_text_21 : decode cX5_text 21 = .ok (.getfield 10, 3) := by decide +kernel
theorem dX5_text_24 : decode cX5_text 24 = .ok (.getfield 74, 3) := by decide +kernel
theorem dX5_text_27 : decode cX5_text 27 = .ok (.ifCond .eq 14, 3) := by decide +kernel
theorem dX5_text_30 : decode cX5_text 30 = .ok (.bipush (-10), 2) := by decide +kernel
theorem dX5_text_32 : decode cX5_text 32 = .ok (.aload_n 0, 1) := by decide +kernel
theorem dX5_text_33 : decode cX5_text 33 = .ok (.getfield 10, 3) := by decide +kernel
theorem dX5_text_36 : decode cX5_text 36 = .ok (.getfield 77, 3) := by decide +kernel
theorem dX5_text_39 : decode cX5_text 39 = .ok (.isub, 1) := by decide +kernel
theorem dX5_text_40 : decode cX5_text 40 = .ok (.ireturn, 1) := by decide +kernel
theorem dX5_text_41 : decode cX5_text 41 = .ok (.aload_n 0, 1) := by decide +kernel
theorem dX5_text_42 : decode cX5_text 42 = .ok (.getfield 19, 3) := by decide +kernel
theorem dX5_text_45 : decode cX5_text 45 = .ok (.aload_n 0, 1) := by decide +kernel
theorem dX5_text_46 : decode cX5_text 46 = .ok (.getfield 23, 3) := by decide +kernel
theorem dX5_text_49 : decode cX5_text 49 = .ok (.invokevirtual 80, 3) := by decide +kernel
theorem dX5_text_52 : decode cX5_text 52 = .ok (.iconst 0, 1) := by decide +kernel
theorem dX5_text_53 : decode cX5_text 53 = .ok (.istore_n 2, 1) := by decide +kernel
theorem dX5_text_54 : decode cX5_text 54 = .ok (.iload_n 2, 1) := by decide +kernel
theorem dX5_text_55 : decode cX5_text 55 = .ok (.iconst 2, 1) := by decide +kernel
theorem dX5_text_56 : decode cX5_text 56 = .ok (.if_icmp .ge 16, 3) := by decide +kernel
theorem dX5_text_59 : decode cX5_text 59 = .ok (.aload_n 0, 1) := by decide +kernel
theorem dX5_text_60 : decode cX5_text 60 = .ok (.getfield 37, 3) := by decide +kernel
theorem dX5_text_63 : decode cX5_text 63 = .ok (.iload_n 2, 1) := by decide +kernel
theorem dX5_text_64 : decode cX5_text 64 = .ok (.iconst 0, 1) := by decide +kernel
theorem dX5_text_65 : decode cX5_text 65 = .ok (.bastore, 1) := by decide +kernel
theorem dX5_text_66 : decode cX5_text 66 = .ok (.iinc 2 1, 3) := by decide +kernel
theorem dX5_text_69 : decode cX5_text 69 = .ok (.goto (-15), 3) := by decide +kernel
theorem dX5_text_72 : decode cX5_text 72 = .ok (.iload_n 1, 1) := by decide +kernel
theorem dX5_text_73 : decode cX5_text 73 = .ok (.ireturn, 1) := by decide +kernel
theorem dX5_fault_0 : decode cX5_fault 0 = .ok (.aload_n 0, 1) := by decide +kernel
theorem dX5_fault_1 : decode cX5_fault 1 = .ok (.getfield 10, 3) := by decide +kernel
theorem dX5_fault_4 : decode cX5_fault 4 = .ok (.getfield 74, 3) := by decide +kernel
theorem dX5_fault_7 : decode cX5_fault 7 = .ok (.ireturn, 1) := by decide +kernel
theorem dX5_rule_0 : decode cX5_rule 0 = .ok (.iload_n 1, 1) := by decide +kernel
theorem dX5_rule_1 : decode cX5_rule 1 = .ok (.tableswitch 118 0 7 #[47, 55, 63, 71, 81, 91, 101, 109], 47) := by decide +kernel
theorem dX5_rule_48 : decode cX5_rule 48 = .ok (.aload_n 0, 1) := by decide +kernel
theorem dX5_rule_49 : decode cX5_rule 49 = .ok (.getfield 19, 3) := by decide +kernel
theorem dX5_rule_52 : decode cX5_rule 52 = .ok (.getfield 84, 3) := by decide +kernel
theorem dX5_rule_55 : decode cX5_rule 55 = .ok (.ireturn, 1) := by decide +kernel
theorem dX5_rule_56 : decode cX5_rule 56 = .ok (.aload_n 0, 1) := by decide +kernel
theorem dX5_rule_57 : decode cX5_rule 57 = .ok (.getfield 19, 3) := by decide +kernel
theorem dX5_rule_60 : decode cX5_rule 60 = .ok (.getfield 87, 3) := by decide +kernel
theorem dX5_rule_63 : decode cX5_rule 63 = .ok (.ireturn, 1) := by decide +kernel
theorem dX5_rule_64 : decode cX5_rule 64 = .ok (.aload_n 0, 1) := by decide +kernel
theorem dX5_rule_65 : decode cX5_rule 65 = .ok (.getfield 19, 3) := by decide +kernel
theorem dX5_rule_68 : decode cX5_rule 68 = .ok (.getfield 90, 3) := by decide +kernel
theorem dX5_rule_71 : decode cX5_rule 71 = .ok (.ireturn, 1) := by decide +kernel
theorem dX5_rule_72 : decode cX5_rule 72 = .ok (.aload_n 0, 1) := by decide +kernel
theorem dX5_rule_73 : decode cX5_rule 73 = .ok (.getfield 19, 3) := by decide +kernel
theorem dX5_rule_76 : decode cX5_rule 76 = .ok (.getfield 93, 3) := by decide +kernel
theorem dX5_rule_79 : decode cX5_rule 79 = .ok (.iconst 0, 1) := by decide +kernel
theorem dX5_rule_80 : decode cX5_rule 80 = .ok (.iaload, 1) := by decide +kernel
theorem dX5_rule_81 : decode cX5_rule 81 = .ok (.ireturn, 1) := by decide +kernel
theorem dX5_rule_82 : decode cX5_rule 82 = .ok (.aload_n 0, 1) := by decide +kernel
theorem dX5_rule_83 : decode cX5_rule 83 = .ok (.getfield 19, 3) := by decide +kernel
theorem dX5_rule_86 : decode cX5_rule 86 = .ok (.getfield 93, 3) := by decide +kernel
theorem dX5_rule_89 : decode cX5_rule 89 = .ok (.iconst 1, 1) := by decide +kernel
theorem dX5_rule_90 : decode cX5_rule 90 = .ok (.iaload, 1) := by decide +kernel
theorem dX5_rule_91 : decode cX5_rule 91 = .ok (.ireturn, 1) := by decide +kernel
theorem dX5_rule_92 : decode cX5_rule 92 = .ok (.aload_n 0, 1) := by decide +kernel
theorem dX5_rule_93 : decode cX5_rule 93 = .ok (.getfield 19, 3) := by decide +kernel
theorem dX5_rule_96 : decode cX5_rule 96 = .ok (.getfield 93, 3) := by decide +kernel
theorem dX5_rule_99 : decode cX5_rule 99 = .ok (.iconst 2, 1) := by decide +kernel
theorem dX5_rule_100 : decode cX5_rule 100 = .ok (.iaload, 1) := by decide +kernel
theorem dX5_rule_101 : decode cX5_rule 101 = .ok (.ireturn, 1) := by decide +kernel
theorem dX5_rule_102 : decode cX5_rule 102 = .ok (.aload_n 0, 1) := by decide +kernel
theorem dX5_rule_103 : decode cX5_rule 103 = .ok (.getfield 19, 3) := by decide +kernel
theorem dX5_rule_106 : decode cX5_rule 106 = .ok (.invokevirtual 96, 3) := by decide +kernel
theorem dX5_rule_109 : decode cX5_rule 109 = .ok (.ireturn, 1) := by decide +kernel
theorem dX5_rule_110 : decode cX5_rule 110 = .ok (.aload_n 0, 1) := by decide +kernel
theorem dX5_rule_111 : decode cX5_rule 111 = .ok (.getfield 19, 3) := by decide +kernel
theorem dX5_rule_114 : decode cX5_rule 114 = .ok (.iconst 0, 1) := by decide +kernel
theorem dX5_rule_115 : decode cX5_rule 115 = .ok (.invokevirtual 100, 3) := by decide +kernel
theorem dX5_rule_118 : decode cX5_rule 118 = .ok (.ireturn, 1) := by decide +kernel
theorem dX5_rule_119 : decode cX5_rule 119 = .ok (.iconst (-1), 1) := by decide +kernel
theorem dX5_rule_120 : decode cX5_rule 120 = .ok (.ireturn, 1) := by decide +kernel
theorem dX5_head_0 : decode cX5_head 0 = .ok (.aload_n 0, 1) := by decide +kernel
theorem dX5_head_1 : decode cX5_head 1 = .ok (.iload_n 1, 1) := by decide +kernel
theorem dX5_head_2 : decode cX5_head 2 = .ok (.invokevirtual 104, 3) := by decide +kernel
theorem dX5_head_5 : decode cX5_head 5 = .ok (.ifCond .eq 5, 3) := by decide +kernel
theorem dX5_head_8 : decode cX5_head 8 = .ok (.iconst (-1), 1) := by decide +kernel
theorem dX5_head_9 : decode cX5_head 9 = .ok (.ireturn, 1) := by decide +kernel
theorem dX5_head_10 : decode cX5_head 10 = .ok (.aload_n 0, 1) := by decide +kernel
theorem dX5_head_11 : decode cX5_head 11 = .ok (.getfield 19, 3) := by decide +kernel
theorem dX5_head_14 : decode cX5_head 14 = .ok (.getfield 108, 3) := by decide +kernel
theorem dX5_head_17 : decode cX5_head 17 = .ok (.iload_n 1, 1) := by decide +kernel
theorem dX5_head_18 : decode cX5_head 18 = .ok (.aaload, 1) := by decide +kernel
theorem dX5_head_19 : decode cX5_head 19 = .ok (.astore_n 3, 1) := by decide +kernel
theorem dX5_head_20 : decode cX5_head 20 = .ok (.iload_n 2, 1) := by decide +kernel
theorem dX5_head_21 : decode cX5_head 21 = .ok (.tableswitch 51 0 3 #[31, 36, 41, 46], 31) := by decide +kernel
theorem dX5_head_52 : decode cX5_head 52 = .ok (.aload_n 3, 1) := by decide +kernel
theorem dX5_head_53 : decode cX5_head 53 = .ok (.getfield 112, 3) := by decide +kernel
theorem dX5_head_56 : decode cX5_head 56 = .ok (.ireturn, 1) := by decide +kernel
theorem dX5_head_57 : decode cX5_head 57 = .ok (.aload_n 3, 1) := by decide +kernel
theorem dX5_head_58 : decode cX5_head 58 = .ok (.getfield 115, 3) := by decide +kernel
theorem dX5_head_61 : decode cX5_head 61 = .ok (.ireturn, 1) := by decide +kernel
theorem dX5_head_62 : decode cX5_head 62 = .ok (.aload_n 3, 1) := by decide +kernel
theorem dX5_head_63 : decode cX5_head 63 = .ok (.getfield 118, 3) := by decide +kernel
theorem dX5_head_66 : decode cX5_head 66 = .ok (.ireturn, 1) := by decide +kernel
theorem dX5_head_67 : decode cX5_head 67 = .ok (.aload_n 3, 1) := by decide +kernel
theorem dX5_head_68 : decode cX5_head 68 = .ok (.invokevirtual 121, 3) := by decide +kernel
theorem dX5_head_71 : decode cX5_head 71 = .ok (.ireturn, 1) := by decide +kernel
theorem dX5_head_72 : decode cX5_head 72 = .ok (.iconst (-1), 1) := by decide +kernel
theorem dX5_head_73 : decode cX5_head 73 = .ok (.ireturn, 1) := by decide +kernel
theorem dX5_dot_0 : decode cX5_dot 0 = .ok (.aload_n 0, 1) := by decide +kernel
theorem dX5_dot_1 : decode cX5_dot 1 = .ok (.iload_n 1, 1) := by decide +kernel
theorem dX5_dot_2 : decode cX5_dot 2 = .ok (.invokevirtual 104, 3) := by decide +kernel
theorem dX5_dot_5 : decode cX5_dot 5 = .ok (.ifCond .ne 19, 3) := by decide +kernel
theorem dX5_dot_8 : decode cX5_dot 8 = .ok (.iload_n 2, 1) := by decide +kernel
theorem dX5_dot_9 : decode cX5_dot 9 = .ok (.invokestatic 124, 3) := by decide +kernel
theorem dX5_dot_12 : decode cX5_dot 12 = .ok (.ifCond .ne 12, 3) := by decide +kernel
theorem dX5_dot_15 : decode cX5_dot 15 = .ok (.iload_n 3, 1) := by decide +kernel
theorem dX5_dot_16 : decode cX5_dot 16 = .ok (.iconst 0, 1) := by decide +kernel
theorem dX5_dot_17 : decode cX5_dot 17 = .ok (.iconst 1, 1) := by decide +kernel
theorem dX5_dot_18 : decode cX5_dot 18 = .ok (.invokestatic 58, 3) := by decide +kernel
theorem dX5_dot_21 : decode cX5_dot 21 = .ok (.ifCond .eq 5, 3) := by decide +kernel
theorem dX5_dot_24 : decode cX5_dot 24 = .ok (.iconst (-1), 1) := by decide +kernel
theorem dX5_dot_25 : decode cX5_dot 25 = .ok (.ireturn, 1) := by decide +kernel
theorem dX5_dot_26 : decode cX5_dot 26 = .ok (.aload_n 0, 1) := by decide +kernel
theorem dX5_dot_27 : decode cX5_dot 27 = .ok (.getfield 19, 3) := by decide +kernel
theorem dX5_dot_30 : decode cX5_dot 30 = .ok (.getfield 108, 3) := by decide +kernel
theorem dX5_dot_33 : decode cX5_dot 33 = .ok (.iload_n 1, 1) := by decide +kernel
theorem dX5_dot_34 : decode cX5_dot 34 = .ok (.aaload, 1) := by decide +kernel
theorem dX5_dot_35 : decode cX5_dot 35 = .ok (.astore 4, 2) := by decide +kernel
theorem dX5_dot_37 : decode cX5_dot 37 = .ok (.iload_n 3, 1) := by decide +kernel
theorem dX5_dot_38 : decode cX5_dot 38 = .ok (.ifCond .ne 13, 3) := by decide +kernel
theorem dX5_dot_41 : decode cX5_dot 41 = .ok (.aload 4, 2) := by decide +kernel
theorem dX5_dot_43 : decode cX5_dot 43 = .ok (.getfield 127, 3) := by decide +kernel
theorem dX5_dot_46 : decode cX5_dot 46 = .ok (.iload_n 2, 1) := by decide +kernel
theorem dX5_dot_47 : decode cX5_dot 47 = .ok (.iaload, 1) := by decide +kernel
theorem dX5_dot_48 : decode cX5_dot 48 = .ok (.goto 25, 3) := by decide +kernel
theorem dX5_dot_51 : decode cX5_dot 51 = .ok (.aload 4, 2) := by decide +kernel
theorem dX5_dot_53 : decode cX5_dot 53 = .ok (.iload_n 2, 1) := by decide +kernel
theorem dX5_dot_54 : decode cX5_dot 54 = .ok (.aload_n 0, 1) := by decide +kernel
theorem dX5_dot_55 : decode cX5_dot 55 = .ok (.getfield 19, 3) := by decide +kernel
theorem dX5_dot_58 : decode cX5_dot 58 = .ok (.iconst 0, 1) := by decide +kernel
theorem dX5_dot_59 : decode cX5_dot 59 = .ok (.invokevirtual 100, 3) := by decide +kernel
theorem dX5_dot_62 : decode cX5_dot 62 = .ok (.aload_n 0, 1) := by decide +kernel
theorem dX5_dot_63 : decode cX5_dot 63 = .ok (.getfield 19, 3) := by decide +kernel
theorem dX5_dot_66 : decode cX5_dot 66 = .ok (.iconst 1, 1) := by decide +kernel
theorem dX5_dot_67 : decode cX5_dot 67 = .ok (.invokevirtual 100, 3) := by decide +kernel
theorem dX5_dot_70 : decode cX5_dot 70 = .ok (.invokevirtual 130, 3) := by decide +kernel
theorem dX5_dot_73 : decode cX5_dot 73 = .ok (.ireturn, 1) := by decide +kernel
theorem dX5_line_0 : decode cX5_line 0 = .ok (.aload_n 0, 1) := by decide +kernel
theorem dX5_line_1 : decode cX5_line 1 = .ok (.iload_n 1, 1) := by decide +kernel
theorem dX5_line_2 : decode cX5_line 2 = .ok (.invokevirtual 134, 3) := by decide +kernel
theorem dX5_line_5 : decode cX5_line 5 = .ok (.ifCond .eq 7, 3) := by decide +kernel
theorem dX5_line_8 : decode cX5_line 8 = .ok (.iconst (-1), 1) := by decide +kernel
theorem dX5_line_9 : decode cX5_line 9 = .ok (.goto 12, 3) := by decide +kernel
theorem dX5_line_12 : decode cX5_line 12 = .ok (.aload_n 0, 1) := by decide +kernel
theorem dX5_line_13 : decode cX5_line 13 = .ok (.getfield 19, 3) := by decide +kernel
theorem dX5_line_16 : decode cX5_line 16 = .ok (.getfield 137, 3) := by decide +kernel
theorem dX5_line_19 : decode cX5_line 19 = .ok (.iload_n 1, 1) := by decide +kernel
theorem dX5_line_20 : decode cX5_line 20 = .ok (.iaload, 1) := by decide +kernel
theorem dX5_line_21 : decode cX5_line 21 = .ok (.ireturn, 1) := by decide +kernel
theorem dX5_alter_0 : decode cX5_alter 0 = .ok (.aload_n 0, 1) := by decide +kernel
theorem dX5_alter_1 : decode cX5_alter 1 = .ok (.iload_n 1, 1) := by decide +kernel
theorem dX5_alter_2 : decode cX5_alter 2 = .ok (.invokevirtual 104, 3) := by decide +kernel
theorem dX5_alter_5 : decode cX5_alter 5 = .ok (.ifCond .ne 24, 3) := by decide +kernel
theorem dX5_alter_8 : decode cX5_alter 8 = .ok (.iload_n 2, 1) := by decide +kernel
theorem dX5_alter_9 : decode cX5_alter 9 = .ok (.iconst 0, 1) := by decide +kernel
theorem dX5_alter_10 : decode cX5_alter 10 = .ok (.iconst 1, 1) := by decide +kernel
theorem dX5_alter_11 : decode cX5_alter 11 = .ok (.invokestatic 58, 3) := by decide +kernel
theorem dX5_alter_14 : decode cX5_alter 14 = .ok (.ifCond .ne 15, 3) := by decide +kernel
theorem dX5_alter_17 : decode cX5_alter 17 = .ok (.iload_n 3, 1) := by decide +kernel
theorem dX5_alter_18 : decode cX5_alter 18 = .ok (.iconst 0, 1) := by decide +kernel
theorem dX5_alter_19 : decode cX5_alter 19 = .ok (.iload_n 2, 1) := by decide +kernel
theorem dX5_alter_20 : decode cX5_alter 20 = .ok (.invokestatic 140, 3) := by decide +kernel
theorem dX5_alter_23 : decode cX5_alter 23 = .ok (.invokestatic 58, 3) := by decide +kernel
theorem dX5_alter_26 : decode cX5_alter 26 = .ok (.ifCond .eq 5, 3) := by decide +kernel
theorem dX5_alter_29 : decode cX5_alter 29 = .ok (.iconst (-1), 1) := by decide +kernel
theorem dX5_alter_30 : decode cX5_alter 30 = .ok (.ireturn, 1) := by decide +kernel
theorem dX5_alter_31 : decode cX5_alter 31 = .ok (.aload_n 0, 1) := by decide +kernel
theorem dX5_alter_32 : decode cX5_alter 32 = .ok (.getfield 19, 3) := by decide +kernel
theorem dX5_alter_35 : decode cX5_alter 35 = .ok (.getfield 108, 3) := by decide +kernel
theorem dX5_alter_38 : decode cX5_alter 38 = .ok (.iload_n 1, 1) := by decide +kernel
theorem dX5_alter_39 : decode cX5_alter 39 = .ok (.aaload, 1) := by decide +kernel
theorem dX5_alter_40 : decode cX5_alter 40 = .ok (.astore 4, 2) := by decide +kernel
theorem dX5_alter_42 : decode cX5_alter 42 = .ok (.iload_n 2, 1) := by decide +kernel
theorem dX5_alter_43 : decode cX5_alter 43 = .ok (.ifCond .ne 11, 3) := by decide +kernel
theorem dX5_alter_46 : decode cX5_alter 46 = .ok (.aload 4, 2) := by decide +kernel
theorem dX5_alter_48 : decode cX5_alter 48 = .ok (.getfield 112, 3) := by decide +kernel
theorem dX5_alter_51 : decode cX5_alter 51 = .ok (.goto 8, 3) := by decide +kernel
theorem dX5_alter_54 : decode cX5_alter 54 = .ok (.aload 4, 2) := by decide +kernel
theorem dX5_alter_56 : decode cX5_alter 56 = .ok (.getfield 115, 3) := by decide +kernel
theorem dX5_alter_59 : decode cX5_alter 59 = .ok (.istore 5, 2) := by decide +kernel
theorem dX5_alter_61 : decode cX5_alter 61 = .ok (.aload 4, 2) := by decide +kernel
theorem dX5_alter_63 : decode cX5_alter 63 = .ok (.iload_n 2, 1) := by decide +kernel
theorem dX5_alter_64 : decode cX5_alter 64 = .ok (.iload_n 3, 1) := by decide +kernel
theorem dX5_alter_65 : decode cX5_alter 65 = .ok (.invokevirtual 143, 3) := by decide +kernel
theorem dX5_alter_68 : decode cX5_alter 68 = .ok (.iload 5, 2) := by decide +kernel
theorem dX5_alter_70 : decode cX5_alter 70 = .ok (.ireturn, 1) := by decide +kernel
theorem dX5_tell_0 : decode cX5_tell 0 = .ok (.iload_n 1, 1) := by decide +kernel
theorem dX5_tell_1 : decode cX5_tell 1 = .ok (.iconst 0, 1) := by decide +kernel
theorem dX5_tell_2 : decode cX5_tell 2 = .ok (.iconst 2, 1) := by decide +kernel
theorem dX5_tell_3 : decode cX5_tell 3 = .ok (.invokestatic 58, 3) := by decide +kernel
theorem dX5_tell_6 : decode cX5_tell 6 = .ok (.ifCond .ne 20, 3) := by decide +kernel
theorem dX5_tell_9 : decode cX5_tell 9 = .ok (.iload_n 2, 1) := by decide +kernel
theorem dX5_tell_10 : decode cX5_tell 10 = .ok (.getstatic 147, 3) := by decide +kernel
theorem dX5_tell_13 : decode cX5_tell 13 = .ok (.iload_n 1, 1) := by decide +kernel
theorem dX5_tell_14 : decode cX5_tell 14 = .ok (.iaload, 1) := by decide +kernel
theorem dX5_tell_15 : decode cX5_tell 15 = .ok (.getstatic 150, 3) := by decide +kernel
theorem dX5_tell_18 : decode cX5_tell 18 = .ok (.iload_n 1, 1) := by decide +kernel
theorem dX5_tell_19 : decode cX5_tell 19 = .ok (.iaload, 1) := by decide +kernel
theorem dX5_tell_20 : decode cX5_tell 20 = .ok (.invokestatic 58, 3) := by decide +kernel
theorem dX5_tell_23 : decode cX5_tell 23 = .ok (.ifCond .eq 5, 3) := by decide +kernel
theorem dX5_tell_26 : decode cX5_tell 26 = .ok (.iconst (-1), 1) := by decide +kernel
theorem dX5_tell_27 : decode cX5_tell 27 = .ok (.ireturn, 1) := by decide +kernel
theorem dX5_tell_28 : decode cX5_tell 28 = .ok (.aload_n 0, 1) := by decide +kernel
theorem dX5_tell_29 : decode cX5_tell 29 = .ok (.getfield 19, 3) := by decide +kernel
theorem dX5_tell_32 : decode cX5_tell 32 = .ok (.getfield 93, 3) := by decide +kernel
theorem dX5_tell_35 : decode cX5_tell 35 = .ok (.iload_n 1, 1) := by decide +kernel
theorem dX5_tell_36 : decode cX5_tell 36 = .ok (.iaload, 1) := by decide +kernel
theorem dX5_tell_37 : decode cX5_tell 37 = .ok (.istore_n 3, 1) := by decide +kernel
theorem dX5_tell_38 : decode cX5_tell 38 = .ok (.aload_n 0, 1) := by decide +kernel
theorem dX5_tell_39 : decode cX5_tell 39 = .ok (.getfield 19, 3) := by decide +kernel
theorem dX5_tell_42 : decode cX5_tell 42 = .ok (.getfield 93, 3) := by decide +kernel
theorem dX5_tell_45 : decode cX5_tell 45 = .ok (.iload_n 1, 1) := by decide +kernel
theorem dX5_tell_46 : decode cX5_tell 46 = .ok (.iload_n 2, 1) := by decide +kernel
theorem dX5_tell_47 : decode cX5_tell 47 = .ok (.iastore, 1) := by decide +kernel
theorem dX5_tell_48 : decode cX5_tell 48 = .ok (.iload_n 3, 1) := by decide +kernel
theorem dX5_tell_49 : decode cX5_tell 49 = .ok (.ireturn, 1) := by decide +kernel
theorem dX5_warm_0 : decode cX5_warm 0 = .ok (.aload_n 0, 1) := by decide +kernel
theorem dX5_warm_1 : decode cX5_warm 1 = .ok (.iload_n 1, 1) := by decide +kernel
theorem dX5_warm_2 : decode cX5_warm 2 = .ok (.invokevirtual 104, 3) := by decide +kernel
theorem dX5_warm_5 : decode cX5_warm 5 = .ok (.ifCond .ne 20, 3) := by decide +kernel
theorem dX5_warm_8 : decode cX5_warm 8 = .ok (.iload_n 2, 1) := by decide +kernel
theorem dX5_warm_9 : decode cX5_warm 9 = .ok (.invokestatic 124, 3) := by decide +kernel
theorem dX5_warm_12 : decode cX5_warm 12 = .ok (.ifCond .ne 13, 3) := by decide +kernel
theorem dX5_warm_15 : decode cX5_warm 15 = .ok (.iload_n 3, 1) := by decide +kernel
theorem dX5_warm_16 : decode cX5_warm 16 = .ok (.iconst 0, 1) := by decide +kernel
theorem dX5_warm_17 : decode cX5_warm 17 = .ok (.bipush 99, 2) := by decide +kernel
theorem dX5_warm_19 : decode cX5_warm 19 = .ok (.invokestatic 58, 3) := by decide +kernel
theorem dX5_warm_22 : decode cX5_warm 22 = .ok (.ifCond .eq 5, 3) := by decide +kernel
theorem dX5_warm_25 : decode cX5_warm 25 = .ok (.iconst (-1), 1) := by decide +kernel
theorem dX5_warm_26 : decode cX5_warm 26 = .ok (.ireturn, 1) := by decide +kernel
theorem dX5_warm_27 : decode cX5_warm 27 = .ok (.aload_n 0, 1) := by decide +kernel
theorem dX5_warm_28 : decode cX5_warm 28 = .ok (.getfield 19, 3) := by decide +kernel
theorem dX5_warm_31 : decode cX5_warm 31 = .ok (.getfield 108, 3) := by decide +kernel
theorem dX5_warm_34 : decode cX5_warm 34 = .ok (.iload_n 1, 1) := by decide +kernel
theorem dX5_warm_35 : decode cX5_warm 35 = .ok (.aaload, 1) := by decide +kernel
theorem dX5_warm_36 : decode cX5_warm 36 = .ok (.getfield 127, 3) := by decide +kernel
theorem dX5_warm_39 : decode cX5_warm 39 = .ok (.iload_n 2, 1) := by decide +kernel
theorem dX5_warm_40 : decode cX5_warm 40 = .ok (.iaload, 1) := by decide +kernel
theorem dX5_warm_41 : decode cX5_warm 41 = .ok (.istore 4, 2) := by decide +kernel
theorem dX5_warm_43 : decode cX5_warm 43 = .ok (.aload_n 0, 1) := by decide +kernel
theorem dX5_warm_44 : decode cX5_warm 44 = .ok (.getfield 19, 3) := by decide +kernel
theorem dX5_warm_47 : decode cX5_warm 47 = .ok (.getfield 108, 3) := by decide +kernel
theorem dX5_warm_50 : decode cX5_warm 50 = .ok (.iload_n 1, 1) := by decide +kernel
theorem dX5_warm_51 : decode cX5_warm 51 = .ok (.aaload, 1) := by decide +kernel
theorem dX5_warm_52 : decode cX5_warm 52 = .ok (.getfield 127, 3) := by decide +kernel
theorem dX5_warm_55 : decode cX5_warm 55 = .ok (.iload_n 2, 1) := by decide +kernel
theorem dX5_warm_56 : decode cX5_warm 56 = .ok (.iload_n 3, 1) := by decide +kernel
theorem dX5_warm_57 : decode cX5_warm 57 = .ok (.iastore, 1) := by decide +kernel
theorem dX5_warm_58 : decode cX5_warm 58 = .ok (.iload 4, 2) := by decide +kernel
theorem dX5_warm_60 : decode cX5_warm 60 = .ok (.ireturn, 1) := by decide +kernel
theorem dX5_set_0 : decode cX5_set 0 = .ok (.aload_n 0, 1) := by decide +kernel
theorem dX5_set_1 : decode cX5_set 1 = .ok (.iload_n 1, 1) := by decide +kernel
theorem dX5_set_2 : decode cX5_set 2 = .ok (.iload_n 2, 1) := by decide +kernel
theorem dX5_set_3 : decode cX5_set 3 = .ok (.invokevirtual 153, 3) := by decide +kernel
theorem dX5_set_6 : decode cX5_set 6 = .ok (.ifCond .eq 5, 3) := by decide +kernel
theorem dX5_set_9 : decode cX5_set 9 = .ok (.iconst (-1), 1) := by decide +kernel
theorem dX5_set_10 : decode cX5_set 10 = .ok (.ireturn, 1) := by decide +kernel
theorem dX5_set_11 : decode cX5_set 11 = .ok (.aload_n 0, 1) := by decide +kernel
theorem dX5_set_12 : decode cX5_set 12 = .ok (.getfield 19, 3) := by decide +kernel
theorem dX5_set_15 : decode cX5_set 15 = .ok (.getfield 137, 3) := by decide +kernel
theorem dX5_set_18 : decode cX5_set 18 = .ok (.iload_n 1, 1) := by decide +kernel
theorem dX5_set_19 : decode cX5_set 19 = .ok (.iaload, 1) := by decide +kernel
theorem dX5_set_20 : decode cX5_set 20 = .ok (.istore_n 3, 1) := by decide +kernel
theorem dX5_set_21 : decode cX5_set 21 = .ok (.aload_n 0, 1) := by decide +kernel
theorem dX5_set_22 : decode cX5_set 22 = .ok (.getfield 19, 3) := by decide +kernel
theorem dX5_set_25 : decode cX5_set 25 = .ok (.getfield 137, 3) := by decide +kernel
theorem dX5_set_28 : decode cX5_set 28 = .ok (.iload_n 1, 1) := by decide +kernel
theorem dX5_set_29 : decode cX5_set 29 = .ok (.iload_n 2, 1) := by decide +kernel
theorem dX5_set_30 : decode cX5_set 30 = .ok (.iastore, 1) := by decide +kernel
theorem dX5_set_31 : decode cX5_set 31 = .ok (.iload_n 3, 1) := by decide +kernel
theorem dX5_set_32 : decode cX5_set 32 = .ok (.ireturn, 1) := by decide +kernel
theorem dX5_add_0 : decode cX5_add 0 = .ok (.iload_n 1, 1) := by decide +kernel
theorem dX5_add_1 : decode cX5_add 1 = .ok (.iconst 0, 1) := by decide +kernel
theorem dX5_add_2 : decode cX5_add 2 = .ok (.sipush 255, 3) := by decide +kernel
theorem dX5_add_5 : decode cX5_add 5 = .ok (.invokestatic 58, 3) := by decide +kernel
theorem dX5_add_8 : decode cX5_add 8 = .ok (.ifCond .eq 5, 3) := by decide +kernel
theorem dX5_add_11 : decode cX5_add 11 = .ok (.iconst (-1), 1) := by decide +kernel
theorem dX5_add_12 : decode cX5_add 12 = .ok (.ireturn, 1) := by decide +kernel
theorem dX5_add_13 : decode cX5_add 13 = .ok (.aload_n 0, 1) := by decide +kernel
theorem dX5_add_14 : decode cX5_add 14 = .ok (.getfield 19, 3) := by decide +kernel
theorem dX5_add_17 : decode cX5_add 17 = .ok (.getfield 87, 3) := by decide +kernel
theorem dX5_add_20 : decode cX5_add 20 = .ok (.bipush 12, 2) := by decide +kernel
theorem dX5_add_22 : decode cX5_add 22 = .ok (.if_icmp .lt 6, 3) := by decide +kernel
theorem dX5_add_25 : decode cX5_add 25 = .ok (.bipush (-3), 2) := by decide +kernel
theorem dX5_add_27 : decode cX5_add 27 = .ok (.ireturn, 1) := by decide +kernel
theorem dX5_add_28 : decode cX5_add 28 = .ok (.aload_n 0, 1) := by decide +kernel
theorem dX5_add_29 : decode cX5_add 29 = .ok (.getfield 19, 3) := by decide +kernel
theorem dX5_add_32 : decode cX5_add 32 = .ok (.getfield 137, 3) := by decide +kernel
theorem dX5_add_35 : decode cX5_add 35 = .ok (.aload_n 0, 1) := by decide +kernel
theorem dX5_add_36 : decode cX5_add 36 = .ok (.getfield 19, 3) := by decide +kernel
theorem dX5_add_39 : decode cX5_add 39 = .ok (.getfield 87, 3) := by decide +kernel
theorem dX5_add_42 : decode cX5_add 42 = .ok (.iload_n 1, 1) := by decide +kernel
theorem dX5_add_43 : decode cX5_add 43 = .ok (.iastore, 1) := by decide +kernel
theorem dX5_add_44 : decode cX5_add 44 = .ok (.aload_n 0, 1) := by decide +kernel
theorem dX5_add_45 : decode cX5_add 45 = .ok (.getfield 19, 3) := by decide +kernel
theorem dX5_add_48 : decode cX5_add 48 = .ok (.dup, 1) := by decide +kernel
theorem dX5_add_49 : decode cX5_add 49 = .ok (.getfield 87, 3) := by decide +kernel
theorem dX5_add_52 : decode cX5_add 52 = .ok (.iconst 1, 1) := by decide +kernel
theorem dX5_add_53 : decode cX5_add 53 = .ok (.iadd, 1) := by decide +kernel
theorem dX5_add_54 : decode cX5_add 54 = .ok (.putfield 87, 3) := by decide +kernel
theorem dX5_add_57 : decode cX5_add 57 = .ok (.aload_n 0, 1) := by decide +kernel
theorem dX5_add_58 : decode cX5_add 58 = .ok (.getfield 19, 3) := by decide +kernel
theorem dX5_add_61 : decode cX5_add 61 = .ok (.getfield 87, 3) := by decide +kernel
theorem dX5_add_64 : decode cX5_add 64 = .ok (.ireturn, 1) := by decide +kernel
theorem dX5_cut_0 : decode cX5_cut 0 = .ok (.iload_n 1, 1) := by decide +kernel
theorem dX5_cut_1 : decode cX5_cut 1 = .ok (.iconst 0, 1) := by decide +kernel
theorem dX5_cut_2 : decode cX5_cut 2 = .ok (.aload_n 0, 1) := by decide +kernel
theorem dX5_cut_3 : decode cX5_cut 3 = .ok (.getfield 19, 3) := by decide +kernel
theorem dX5_cut_6 : decode cX5_cut 6 = .ok (.getfield 87, 3) := by decide +kernel
theorem dX5_cut_9 : decode cX5_cut 9 = .ok (.invokestatic 58, 3) := by decide +kernel
theorem dX5_cut_12 : decode cX5_cut 12 = .ok (.ifCond .eq 5, 3) := by decide +kernel
theorem dX5_cut_15 : decode cX5_cut 15 = .ok (.iconst (-1), 1) := by decide +kernel
theorem dX5_cut_16 : decode cX5_cut 16 = .ok (.ireturn, 1) := by decide +kernel
theorem dX5_cut_17 : decode cX5_cut 17 = .ok (.aload_n 0, 1) := by decide +kernel
theorem dX5_cut_18 : decode cX5_cut 18 = .ok (.getfield 19, 3) := by decide +kernel
theorem dX5_cut_21 : decode cX5_cut 21 = .ok (.getfield 87, 3) := by decide +kernel
theorem dX5_cut_24 : decode cX5_cut 24 = .ok (.istore_n 2, 1) := by decide +kernel
theorem dX5_cut_25 : decode cX5_cut 25 = .ok (.aload_n 0, 1) := by decide +kernel
theorem dX5_cut_26 : decode cX5_cut 26 = .ok (.getfield 19, 3) := by decide +kernel
theorem dX5_cut_29 : decode cX5_cut 29 = .ok (.iload_n 1, 1) := by decide +kernel
theorem dX5_cut_30 : decode cX5_cut 30 = .ok (.putfield 87, 3) := by decide +kernel
theorem dX5_cut_33 : decode cX5_cut 33 = .ok (.iload_n 2, 1) := by decide +kernel
theorem dX5_cut_34 : decode cX5_cut 34 = .ok (.ireturn, 1) := by decide +kernel
theorem dX5_burn_0 : decode cX5_burn 0 = .ok (.iload_n 1, 1) := by decide +kernel
theorem dX5_burn_1 : decode cX5_burn 1 = .ok (.invokestatic 157, 3) := by decide +kernel
theorem dX5_burn_4 : decode cX5_burn 4 = .ok (.ifCond .eq 5, 3) := by decide +kernel
theorem dX5_burn_7 : decode cX5_burn 7 = .ok (.iconst (-1), 1) := by decide +kernel
theorem dX5_burn_8 : decode cX5_burn 8 = .ok (.ireturn, 1) := by decide +kernel
theorem dX5_burn_9 : decode cX5_burn 9 = .ok (.aload_n 0, 1) := by decide +kernel
theorem dX5_burn_10 : decode cX5_burn 10 = .ok (.getfield 19, 3) := by decide +kernel
theorem dX5_burn_13 : decode cX5_burn 13 = .ok (.getfield 90, 3) := by decide +kernel
theorem dX5_burn_16 : decode cX5_burn 16 = .ok (.iload_n 1, 1) := by decide +kernel
theorem dX5_burn_17 : decode cX5_burn 17 = .ok (.iadd, 1) := by decide +kernel
theorem dX5_burn_18 : decode cX5_burn 18 = .ok (.sipush 10000, 3) := by decide +kernel
theorem dX5_burn_21 : decode cX5_burn 21 = .ok (.if_icmp .lt 6, 3) := by decide +kernel
theorem dX5_burn_24 : decode cX5_burn 24 = .ok (.bipush (-3), 2) := by decide +kernel
theorem dX5_burn_26 : decode cX5_burn 26 = .ok (.ireturn, 1) := by decide +kernel
theorem dX5_burn_27 : decode cX5_burn 27 = .ok (.iconst 0, 1) := by decide +kernel
theorem dX5_burn_28 : decode cX5_burn 28 = .ok (.istore_n 2, 1) := by decide +kernel
theorem dX5_burn_29 : decode cX5_burn 29 = .ok (.iconst 0, 1) := by decide +kernel
theorem dX5_burn_30 : decode cX5_burn 30 = .ok (.istore_n 3, 1) := by decide +kernel
theorem dX5_burn_31 : decode cX5_burn 31 = .ok (.iload_n 3, 1) := by decide +kernel
theorem dX5_burn_32 : decode cX5_burn 32 = .ok (.iload_n 1, 1) := by decide +kernel
theorem dX5_burn_33 : decode cX5_burn 33 = .ok (.if_icmp .ge 20, 3) := by decide +kernel
theorem dX5_burn_36 : decode cX5_burn 36 = .ok (.iload_n 2, 1) := by decide +kernel
theorem dX5_burn_37 : decode cX5_burn 37 = .ok (.aload_n 0, 1) := by decide +kernel
theorem dX5_burn_38 : decode cX5_burn 38 = .ok (.getfield 19, 3) := by decide +kernel
theorem dX5_burn_41 : decode cX5_burn 41 = .ok (.iconst 1, 1) := by decide +kernel
theorem dX5_burn_42 : decode cX5_burn 42 = .ok (.invokevirtual 160, 3) := by decide +kernel
theorem dX5_burn_45 : decode cX5_burn 45 = .ok (.iadd, 1) := by decide +kernel
theorem dX5_burn_46 : decode cX5_burn 46 = .ok (.istore_n 2, 1) := by decide +kernel
theorem dX5_burn_47 : decode cX5_burn 47 = .ok (.iinc 3 1, 3) := by decide +kernel
theorem dX5_burn_50 : decode cX5_burn 50 = .ok (.goto (-19), 3) := by decide +kernel
theorem dX5_burn_53 : decode cX5_burn 53 = .ok (.iload_n 2, 1) := by decide +kernel
theorem dX5_burn_54 : decode cX5_burn 54 = .ok (.ireturn, 1) := by decide +kernel
theorem dX5_runs_0 : decode cX5_runs 0 = .ok (.iload_n 1, 1) := by decide +kernel
theorem dX5_runs_1 : decode cX5_runs 1 = .ok (.invokestatic 157, 3) := by decide +kernel
theorem dX5_runs_4 : decode cX5_runs 4 = .ok (.ifCond .ne 12, 3) := by decide +kernel
theorem dX5_runs_7 : decode cX5_runs 7 = .ok (.iload_n 2, 1) := by decide +kernel
theorem dX5_runs_8 : decode cX5_runs 8 = .ok (.iconst 0, 1) := by decide +kernel
theorem dX5_runs_9 : decode cX5_runs 9 = .ok (.iconst 3, 1) := by decide +kernel
theorem dX5_runs_10 : decode cX5_runs 10 = .ok (.invokestatic 58, 3) := by decide +kernel
theorem dX5_runs_13 : decode cX5_runs 13 = .ok (.ifCond .eq 5, 3) := by decide +kernel
theorem dX5_runs_16 : decode cX5_runs 16 = .ok (.iconst (-1), 1) := by decide +kernel
theorem dX5_runs_17 : decode cX5_runs 17 = .ok (.ireturn, 1) := by decide +kernel
theorem dX5_runs_18 : decode cX5_runs 18 = .ok (.aload_n 0, 1) := by decide +kernel
theorem dX5_runs_19 : decode cX5_runs 19 = .ok (.getfield 23, 3) := by decide +kernel
theorem dX5_runs_22 : decode cX5_runs 22 = .ok (.aload_n 0, 1) := by decide +kernel
theorem dX5_runs_23 : decode cX5_runs 23 = .ok (.getfield 19, 3) := by decide +kernel
theorem dX5_runs_26 : decode cX5_runs 26 = .ok (.invokevirtual 80, 3) := by decide +kernel
theorem dX5_runs_29 : decode cX5_runs 29 = .ok (.iconst 0, 1) := by decide +kernel
theorem dX5_runs_30 : decode cX5_runs 30 = .ok (.istore_n 3, 1) := by decide +kernel
theorem dX5_runs_31 : decode cX5_runs 31 = .ok (.iconst 0, 1) := by decide +kernel
theorem dX5_runs_32 : decode cX5_runs 32 = .ok (.istore 4, 2) := by decide +kernel
theorem dX5_runs_34 : decode cX5_runs 34 = .ok (.iconst 0, 1) := by decide +kernel
theorem dX5_runs_35 : decode cX5_runs 35 = .ok (.istore 5, 2) := by decide +kernel
theorem dX5_runs_37 : decode cX5_runs 37 = .ok (.iconst 0, 1) := by decide +kernel
theorem dX5_runs_38 : decode cX5_runs 38 = .ok (.istore 6, 2) := by decide +kernel
theorem dX5_runs_40 : decode cX5_runs 40 = .ok (.iconst 0, 1) := by decide +kernel
theorem dX5_runs_41 : decode cX5_runs 41 = .ok (.istore 7, 2) := by decide +kernel
theorem dX5_runs_43 : decode cX5_runs 43 = .ok (.iload 7, 2) := by decide +kernel
theorem dX5_runs_45 : decode cX5_runs 45 = .ok (.iload_n 1, 1) := by decide +kernel
theorem dX5_runs_46 : decode cX5_runs 46 = .ok (.if_icmp .ge 65, 3) := by decide +kernel
theorem dX5_runs_49 : decode cX5_runs 49 = .ok (.aload_n 0, 1) := by decide +kernel
theorem dX5_runs_50 : decode cX5_runs 50 = .ok (.getfield 23, 3) := by decide +kernel
theorem dX5_runs_53 : decode cX5_runs 53 = .ok (.iconst 1, 1) := by decide +kernel
theorem dX5_runs_54 : decode cX5_runs 54 = .ok (.invokevirtual 160, 3) := by decide +kernel
theorem dX5_runs_57 : decode cX5_runs 57 = .ok (.istore 8, 2) := by decide +kernel
theorem dX5_runs_59 : decode cX5_runs 59 = .ok (.iload_n 3, 1) := by decide +kernel
theorem dX5_runs_60 : decode cX5_runs 60 = .ok (.iload 8, 2) := by decide +kernel
theorem dX5_runs_62 : decode cX5_runs 62 = .ok (.iadd, 1) := by decide +kernel
theorem dX5_runs_63 : decode cX5_runs 63 = .ok (.istore_n 3, 1) := by decide +kernel
theorem dX5_runs_64 : decode cX5_runs 64 = .ok (.iload 6, 2) := by decide +kernel
theorem dX5_runs_66 : decode cX5_runs 66 = .ok (.iload 8, 2) := by decide +kernel
theorem dX5_runs_68 : decode cX5_runs 68 = .ok (.ifCond .le 7, 3) := by decide +kernel
theorem dX5_runs_71 : decode cX5_runs 71 = .ok (.iconst 1, 1) := by decide +kernel
theorem dX5_runs_72 : decode cX5_runs 72 = .ok (.goto 4, 3) := by decide +kernel
theorem dX5_runs_75 : decode cX5_runs 75 = .ok (.iconst 0, 1) := by decide +kernel
theorem dX5_runs_76 : decode cX5_runs 76 = .ok (.iadd, 1) := by decide +kernel
theorem dX5_runs_77 : decode cX5_runs 77 = .ok (.istore 6, 2) := by decide +kernel
theorem dX5_runs_79 : decode cX5_runs 79 = .ok (.iload 4, 2) := by decide +kernel
theorem dX5_runs_81 : decode cX5_runs 81 = .ok (.aload_n 0, 1) := by decide +kernel
theorem dX5_runs_82 : decode cX5_runs 82 = .ok (.getfield 23, 3) := by decide +kernel
theorem dX5_runs_85 : decode cX5_runs 85 = .ok (.getfield 164, 3) := by decide +kernel
theorem dX5_runs_88 : decode cX5_runs 88 = .ok (.iadd, 1) := by decide +kernel
theorem dX5_runs_89 : decode cX5_runs 89 = .ok (.istore 4, 2) := by decide +kernel
theorem dX5_runs_91 : decode cX5_runs 91 = .ok (.iload 5, 2) := by decide +kernel
theorem dX5_runs_93 : decode cX5_runs 93 = .ok (.aload_n 0, 1) := by decide +kernel
theorem dX5_runs_94 : decode cX5_runs 94 = .ok (.getfield 23, 3) := by decide +kernel
theorem dX5_runs_97 : decode cX5_runs 97 = .ok (.invokevirtual 167, 3) := by decide +kernel
theorem dX5_runs_100 : decode cX5_runs 100 = .ok (.invokestatic 170, 3) := by decide +kernel
theorem dX5_runs_103 : decode cX5_runs 103 = .ok (.istore 5, 2) := by decide +kernel
theorem dX5_runs_105 : decode cX5_runs 105 = .ok (.iinc 7 1, 3) := by decide +kernel
theorem dX5_runs_108 : decode cX5_runs 108 = .ok (.goto (-65), 3) := by decide +kernel
theorem dX5_runs_111 : decode cX5_runs 111 = .ok (.iload_n 2, 1) := by decide +kernel
theorem dX5_runs_112 : decode cX5_runs 112 = .ok (.tableswitch 36 0 2 #[28, 30, 33], 28) := by decide +kernel
theorem dX5_runs_140 : decode cX5_runs 140 = .ok (.iload_n 3, 1) := by decide +kernel
theorem dX5_runs_141 : decode cX5_runs 141 = .ok (.ireturn, 1) := by decide +kernel
theorem dX5_runs_142 : decode cX5_runs 142 = .ok (.iload 4, 2) := by decide +kernel
theorem dX5_runs_144 : decode cX5_runs 144 = .ok (.ireturn, 1) := by decide +kernel
theorem dX5_runs_145 : decode cX5_runs 145 = .ok (.iload 5, 2) := by decide +kernel
theorem dX5_runs_147 : decode cX5_runs 147 = .ok (.ireturn, 1) := by decide +kernel
theorem dX5_runs_148 : decode cX5_runs 148 = .ok (.iload 6, 2) := by decide +kernel
theorem dX5_runs_150 : decode cX5_runs 150 = .ok (.ireturn, 1) := by decide +kernel
theorem dX5_black_0 : decode cX5_black 0 = .ok (.aload_n 0, 1) := by decide +kernel
theorem dX5_black_1 : decode cX5_black 1 = .ok (.iload_n 1, 1) := by decide +kernel
theorem dX5_black_2 : decode cX5_black 2 = .ok (.invokevirtual 104, 3) := by decide +kernel
theorem dX5_black_5 : decode cX5_black 5 = .ok (.ifCond .ne 10, 3) := by decide +kernel
theorem dX5_black_8 : decode cX5_black 8 = .ok (.iload_n 2, 1) := by decide +kernel
theorem dX5_black_9 : decode cX5_black 9 = .ok (.invokestatic 157, 3) := by decide +kernel
theorem dX5_black_12 : decode cX5_black 12 = .ok (.ifCond .eq 5, 3) := by decide +kernel
theorem dX5_black_15 : decode cX5_black 15 = .ok (.iconst (-1), 1) := by decide +kernel
theorem dX5_black_16 : decode cX5_black 16 = .ok (.ireturn, 1) := by decide +kernel
theorem dX5_black_17 : decode cX5_black 17 = .ok (.aload_n 0, 1) := by decide +kernel
theorem dX5_black_18 : decode cX5_black 18 = .ok (.getfield 29, 3) := by decide +kernel
theorem dX5_black_21 : decode cX5_black 21 = .ok (.aload_n 0, 1) := by decide +kernel
theorem dX5_black_22 : decode cX5_black 22 = .ok (.getfield 19, 3) := by decide +kernel
theorem dX5_black_25 : decode cX5_black 25 = .ok (.getfield 108, 3) := by decide +kernel
theorem dX5_black_28 : decode cX5_black 28 = .ok (.iload_n 1, 1) := by decide +kernel
theorem dX5_black_29 : decode cX5_black 29 = .ok (.aaload, 1) := by decide +kernel
theorem dX5_black_30 : decode cX5_black 30 = .ok (.invokevirtual 176, 3) := by decide +kernel
theorem dX5_black_33 : decode cX5_black 33 = .ok (.iconst 0, 1) := by decide +kernel
theorem dX5_black_34 : decode cX5_black 34 = .ok (.istore_n 3, 1) := by decide +kernel
theorem dX5_black_35 : decode cX5_black 35 = .ok (.iconst 0, 1) := by decide +kernel
theorem dX5_black_36 : decode cX5_black 36 = .ok (.istore 4, 2) := by decide +kernel
theorem dX5_black_38 : decode cX5_black 38 = .ok (.iload 4, 2) := by decide +kernel
theorem dX5_black_40 : decode cX5_black 40 = .ok (.iload_n 2, 1) := by decide +kernel
theorem dX5_black_41 : decode cX5_black 41 = .ok (.if_icmp .gt 17, 3) := by decide +kernel
theorem dX5_black_44 : decode cX5_black 44 = .ok (.aload_n 0, 1) := by decide +kernel
theorem dX5_black_45 : decode cX5_black 45 = .ok (.iload 4, 2) := by decide +kernel
theorem dX5_black_47 : decode cX5_black 47 = .ok (.iconst 1, 1) := by decide +kernel
theorem dX5_black_48 : decode cX5_black 48 = .ok (.invokevirtual 179, 3) := by decide +kernel
theorem dX5_black_51 : decode cX5_black 51 = .ok (.istore_n 3, 1) := by decide +kernel
theorem dX5_black_52 : decode cX5_black 52 = .ok (.iinc 4 1, 3) := by decide +kernel
theorem dX5_black_55 : decode cX5_black 55 = .ok (.goto (-17), 3) := by decide +kernel
theorem dX5_black_58 : decode cX5_black 58 = .ok (.iload_n 3, 1) := by decide +kernel
theorem dX5_black_59 : decode cX5_black 59 = .ok (.ireturn, 1) := by decide +kernel
theorem dX5_ahead_0 : decode cX5_ahead 0 = .ok (.aload_n 0, 1) := by decide +kernel
theorem dX5_ahead_1 : decode cX5_ahead 1 = .ok (.iload_n 1, 1) := by decide +kernel
theorem dX5_ahead_2 : decode cX5_ahead 2 = .ok (.invokevirtual 104, 3) := by decide +kernel
theorem dX5_ahead_5 : decode cX5_ahead 5 = .ok (.ifCond .ne 17, 3) := by decide +kernel
theorem dX5_ahead_8 : decode cX5_ahead 8 = .ok (.iload_n 2, 1) := by decide +kernel
theorem dX5_ahead_9 : decode cX5_ahead 9 = .ok (.invokestatic 124, 3) := by decide +kernel
theorem dX5_ahead_12 : decode cX5_ahead 12 = .ok (.ifCond .ne 10, 3) := by decide +kernel
theorem dX5_ahead_15 : decode cX5_ahead 15 = .ok (.iload_n 3, 1) := by decide +kernel
theorem dX5_ahead_16 : decode cX5_ahead 16 = .ok (.invokestatic 157, 3) := by decide +kernel
theorem dX5_ahead_19 : decode cX5_ahead 19 = .ok (.ifCond .eq 5, 3) := by decide +kernel
theorem dX5_ahead_22 : decode cX5_ahead 22 = .ok (.iconst (-1), 1) := by decide +kernel
theorem dX5_ahead_23 : decode cX5_ahead 23 = .ok (.ireturn, 1) := by decide +kernel
theorem dX5_ahead_24 : decode cX5_ahead 24 = .ok (.aload_n 0, 1) := by decide +kernel
theorem dX5_ahead_25 : decode cX5_ahead 25 = .ok (.getfield 29, 3) := by decide +kernel
theorem dX5_ahead_28 : decode cX5_ahead 28 = .ok (.aload_n 0, 1) := by decide +kernel
theorem dX5_ahead_29 : decode cX5_ahead 29 = .ok (.getfield 19, 3) := by decide +kernel
theorem dX5_ahead_32 : decode cX5_ahead 32 = .ok (.getfield 108, 3) := by decide +kernel
theorem dX5_ahead_35 : decode cX5_ahead 35 = .ok (.iload_n 1, 1) := by decide +kernel
theorem dX5_ahead_36 : decode cX5_ahead 36 = .ok (.aaload, 1) := by decide +kernel
theorem dX5_ahead_37 : decode cX5_ahead 37 = .ok (.invokevirtual 176, 3) := by decide +kernel
theorem dX5_ahead_40 : decode cX5_ahead 40 = .ok (.iconst 0, 1) := by decide +kernel
theorem dX5_ahead_41 : decode cX5_ahead 41 = .ok (.istore 4, 2) := by decide +kernel
theorem dX5_ahead_43 : decode cX5_ahead 43 = .ok (.iload 4, 2) := by decide +kernel
theorem dX5_ahead_45 : decode cX5_ahead 45 = .ok (.iload_n 3, 1) := by decide +kernel
theorem dX5_ahead_46 : decode cX5_ahead 46 = .ok (.if_icmp .ge 17, 3) := by decide +kernel
theorem dX5_ahead_49 : decode cX5_ahead 49 = .ok (.aload_n 0, 1) := by decide +kernel
theorem dX5_ahead_50 : decode cX5_ahead 50 = .ok (.iload 4, 2) := by decide +kernel
theorem dX5_ahead_52 : decode cX5_ahead 52 = .ok (.iconst 1, 1) := by decide +kernel
theorem dX5_ahead_53 : decode cX5_ahead 53 = .ok (.invokevirtual 179, 3) := by decide +kernel
theorem dX5_ahead_56 : decode cX5_ahead 56 = .ok (.pop, 1) := by decide +kernel
theorem dX5_ahead_57 : decode cX5_ahead 57 = .ok (.iinc 4 1, 3) := by decide +kernel
theorem dX5_ahead_60 : decode cX5_ahead 60 = .ok (.goto (-17), 3) := by decide +kernel
theorem dX5_ahead_63 : decode cX5_ahead 63 = .ok (.aload_n 0, 1) := by decide +kernel
theorem dX5_ahead_64 : decode cX5_ahead 64 = .ok (.getfield 29, 3) := by decide +kernel
theorem dX5_ahead_67 : decode cX5_ahead 67 = .ok (.getfield 127, 3) := by decide +kernel
theorem dX5_ahead_70 : decode cX5_ahead 70 = .ok (.iload_n 2, 1) := by decide +kernel
theorem dX5_ahead_71 : decode cX5_ahead 71 = .ok (.iaload, 1) := by decide +kernel
theorem dX5_ahead_72 : decode cX5_ahead 72 = .ok (.ireturn, 1) := by decide +kernel
theorem dX5_when_0 : decode cX5_when 0 = .ok (.aload_n 0, 1) := by decide +kernel
theorem dX5_when_1 : decode cX5_when 1 = .ok (.iload_n 1, 1) := by decide +kernel
theorem dX5_when_2 : decode cX5_when 2 = .ok (.invokevirtual 104, 3) := by decide +kernel
theorem dX5_when_5 : decode cX5_when 5 = .ok (.ifCond .eq 5, 3) := by decide +kernel
theorem dX5_when_8 : decode cX5_when 8 = .ok (.iconst (-1), 1) := by decide +kernel
theorem dX5_when_9 : decode cX5_when 9 = .ok (.ireturn, 1) := by decide +kernel
theorem dX5_when_10 : decode cX5_when 10 = .ok (.aload_n 0, 1) := by decide +kernel
theorem dX5_when_11 : decode cX5_when 11 = .ok (.getfield 29, 3) := by decide +kernel
theorem dX5_when_14 : decode cX5_when 14 = .ok (.aload_n 0, 1) := by decide +kernel
theorem dX5_when_15 : decode cX5_when 15 = .ok (.getfield 19, 3) := by decide +kernel
theorem dX5_when_18 : decode cX5_when 18 = .ok (.getfield 108, 3) := by decide +kernel
theorem dX5_when_21 : decode cX5_when 21 = .ok (.iload_n 1, 1) := by decide +kernel
theorem dX5_when_22 : decode cX5_when 22 = .ok (.aaload, 1) := by decide +kernel
theorem dX5_when_23 : decode cX5_when 23 = .ok (.invokevirtual 176, 3) := by decide +kernel
theorem dX5_when_26 : decode cX5_when 26 = .ok (.iconst 0, 1) := by decide +kernel
theorem dX5_when_27 : decode cX5_when 27 = .ok (.istore_n 2, 1) := by decide +kernel
theorem dX5_when_28 : decode cX5_when 28 = .ok (.iload_n 2, 1) := by decide +kernel
theorem dX5_when_29 : decode cX5_when 29 = .ok (.bipush 60, 2) := by decide +kernel
theorem dX5_when_31 : decode cX5_when 31 = .ok (.if_icmp .gt 28, 3) := by decide +kernel
theorem dX5_when_34 : decode cX5_when 34 = .ok (.aload_n 0, 1) := by decide +kernel
theorem dX5_when_35 : decode cX5_when 35 = .ok (.iload_n 2, 1) := by decide +kernel
theorem dX5_when_36 : decode cX5_when 36 = .ok (.iconst 1, 1) := by decide +kernel
theorem dX5_when_37 : decode cX5_when 37 = .ok (.invokevirtual 179, 3) := by decide +kernel
theorem dX5_when_40 : decode cX5_when 40 = .ok (.aload_n 0, 1) := by decide +kernel
theorem dX5_when_41 : decode cX5_when 41 = .ok (.getfield 19, 3) := by decide +kernel
theorem dX5_when_44 : decode cX5_when 44 = .ok (.iload_n 2, 1) := by decide +kernel
theorem dX5_when_45 : decode cX5_when 45 = .ok (.invokevirtual 100, 3) := by decide +kernel
theorem dX5_when_48 : decode cX5_when 48 = .ok (.if_icmp .eq 5, 3) := by decide +kernel
theorem dX5_when_51 : decode cX5_when 51 = .ok (.iload_n 2, 1) := by decide +kernel
theorem dX5_when_52 : decode cX5_when 52 = .ok (.ireturn, 1) := by decide +kernel
theorem dX5_when_53 : decode cX5_when 53 = .ok (.iinc 2 1, 3) := by decide +kernel
theorem dX5_when_56 : decode cX5_when 56 = .ok (.goto (-28), 3) := by decide +kernel
theorem dX5_when_59 : decode cX5_when 59 = .ok (.bipush (-4), 2) := by decide +kernel
theorem dX5_when_61 : decode cX5_when 61 = .ok (.ireturn, 1) := by decide +kernel
theorem dX5_power_0 : decode cX5_power 0 = .ok (.aload_n 0, 1) := by decide +kernel
theorem dX5_power_1 : decode cX5_power 1 = .ok (.iload_n 1, 1) := by decide +kernel
theorem dX5_power_2 : decode cX5_power 2 = .ok (.iconst 1, 1) := by decide +kernel
theorem dX5_power_3 : decode cX5_power 3 = .ok (.iload_n 2, 1) := by decide +kernel
theorem dX5_power_4 : decode cX5_power 4 = .ok (.iload_n 3, 1) := by decide +kernel
theorem dX5_power_5 : decode cX5_power 5 = .ok (.invokevirtual 183, 3) := by decide +kernel
theorem dX5_power_8 : decode cX5_power 8 = .ok (.ireturn, 1) := by decide +kernel
theorem dX5_kind_0 : decode cX5_kind 0 = .ok (.aload_n 0, 1) := by decide +kernel
theorem dX5_kind_1 : decode cX5_kind 1 = .ok (.iload_n 1, 1) := by decide +kernel
theorem dX5_kind_2 : decode cX5_kind 2 = .ok (.iconst 0, 1) := by decide +kernel
theorem dX5_kind_3 : decode cX5_kind 3 = .ok (.iload_n 2, 1) := by decide +kernel
theorem dX5_kind_4 : decode cX5_kind 4 = .ok (.iload_n 3, 1) := by decide +kernel
theorem dX5_kind_5 : decode cX5_kind 5 = .ok (.invokevirtual 183, 3) := by decide +kernel
theorem dX5_kind_8 : decode cX5_kind 8 = .ok (.ireturn, 1) := by decide +kernel
theorem dX5_best_0 : decode cX5_best 0 = .ok (.iload_n 1, 1) := by decide +kernel
theorem dX5_best_1 : decode cX5_best 1 = .ok (.iconst 0, 1) := by decide +kernel
theorem dX5_best_2 : decode cX5_best 2 = .ok (.iconst 1, 1) := by decide +kernel
theorem dX5_best_3 : decode cX5_best 3 = .ok (.invokestatic 58, 3) := by decide +kernel
theorem dX5_best_6 : decode cX5_best 6 = .ok (.ifCond .ne 19, 3) := by decide +kernel
theorem dX5_best_9 : decode cX5_best 9 = .ok (.iload_n 2, 1) := by decide +kernel
theorem dX5_best_10 : decode cX5_best 10 = .ok (.invokestatic 157, 3) := by decide +kernel
theorem dX5_best_13 : decode cX5_best 13 = .ok (.ifCond .ne 12, 3) := by decide +kernel
theorem dX5_best_16 : decode cX5_best 16 = .ok (.iload_n 3, 1) := by decide +kernel
theorem dX5_best_17 : decode cX5_best 17 = .ok (.iconst 0, 1) := by decide +kernel
theorem dX5_best_18 : decode cX5_best 18 = .ok (.iconst 1, 1) := by decide +kernel
theorem dX5_best_19 : decode cX5_best 19 = .ok (.invokestatic 58, 3) := by decide +kernel
theorem dX5_best_22 : decode cX5_best 22 = .ok (.ifCond .eq 5, 3) := by decide +kernel
theorem dX5_best_25 : decode cX5_best 25 = .ok (.iconst (-1), 1) := by decide +kernel
theorem dX5_best_26 : decode cX5_best 26 = .ok (.ireturn, 1) := by decide +kernel
theorem dX5_best_27 : decode cX5_best 27 = .ok (.iload_n 1, 1) := by decide +kernel
theorem dX5_best_28 : decode cX5_best 28 = .ok (.ifCond .ne 12, 3) := by decide +kernel
theorem dX5_best_31 : decode cX5_best 31 = .ok (.aload_n 0, 1) := by decide +kernel
theorem dX5_best_32 : decode cX5_best 32 = .ok (.iload_n 2, 1) := by decide +kernel
theorem dX5_best_33 : decode cX5_best 33 = .ok (.iload_n 3, 1) := by decide +kernel
theorem dX5_best_34 : decode cX5_best 34 = .ok (.invokevirtual 187, 3) := by decide +kernel
theorem dX5_best_37 : decode cX5_best 37 = .ok (.goto 9, 3) := by decide +kernel
theorem dX5_best_40 : decode cX5_best 40 = .ok (.aload_n 0, 1) := by decide +kernel
theorem dX5_best_41 : decode cX5_best 41 = .ok (.iload_n 2, 1) := by decide +kernel
theorem dX5_best_42 : decode cX5_best 42 = .ok (.iload_n 3, 1) := by decide +kernel
theorem dX5_best_43 : decode cX5_best 43 = .ok (.invokevirtual 190, 3) := by decide +kernel
theorem dX5_best_46 : decode cX5_best 46 = .ok (.ireturn, 1) := by decide +kernel
theorem dX5_swap_0 : decode cX5_swap 0 = .ok (.iload_n 1, 1) := by decide +kernel
theorem dX5_swap_1 : decode cX5_swap 1 = .ok (.invokestatic 157, 3) := by decide +kernel
theorem dX5_swap_4 : decode cX5_swap 4 = .ok (.ifCond .ne 12, 3) := by decide +kernel
theorem dX5_swap_7 : decode cX5_swap 7 = .ok (.iload_n 2, 1) := by decide +kernel
theorem dX5_swap_8 : decode cX5_swap 8 = .ok (.iconst 0, 1) := by decide +kernel
theorem dX5_swap_9 : decode cX5_swap 9 = .ok (.iconst 1, 1) := by decide +kernel
theorem dX5_swap_10 : decode cX5_swap 10 = .ok (.invokestatic 58, 3) := by decide +kernel
theorem dX5_swap_13 : decode cX5_swap 13 = .ok (.ifCond .eq 5, 3) := by decide +kernel
theorem dX5_swap_16 : decode cX5_swap 16 = .ok (.iconst (-1), 1) := by decide +kernel
theorem dX5_swap_17 : decode cX5_swap 17 = .ok (.ireturn, 1) := by decide +kernel
theorem dX5_swap_18 : decode cX5_swap 18 = .ok (.aload_n 0, 1) := by decide +kernel
theorem dX5_swap_19 : decode cX5_swap 19 = .ok (.getfield 23, 3) := by decide +kernel
theorem dX5_swap_22 : decode cX5_swap 22 = .ok (.aload_n 0, 1) := by decide +kernel
theorem dX5_swap_23 : decode cX5_swap 23 = .ok (.getfield 19, 3) := by decide +kernel
theorem dX5_swap_26 : decode cX5_swap 26 = .ok (.invokevirtual 80, 3) := by decide +kernel
theorem dX5_swap_29 : decode cX5_swap 29 = .ok (.aload_n 0, 1) := by decide +kernel
theorem dX5_swap_30 : decode cX5_swap 30 = .ok (.iload_n 1, 1) := by decide +kernel
theorem dX5_swap_31 : decode cX5_swap 31 = .ok (.ldc 193, 2) := by decide +kernel
theorem dX5_swap_33 : decode cX5_swap 33 = .ok (.invokevirtual 194, 3) := by decide +kernel
theorem dX5_swap_36 : decode cX5_swap 36 = .ok (.istore_n 3, 1) := by decide +kernel
theorem dX5_swap_37 : decode cX5_swap 37 = .ok (.bipush (-4), 2) := by decide +kernel
theorem dX5_swap_39 : decode cX5_swap 39 = .ok (.istore 4, 2) := by decide +kernel
theorem dX5_swap_41 : decode cX5_swap 41 = .ok (.iconst 0, 1) := by decide +kernel
theorem dX5_swap_42 : decode cX5_swap 42 = .ok (.istore 5, 2) := by decide +kernel
theorem dX5_swap_44 : decode cX5_swap 44 = .ok (.iload 5, 2) := by decide +kernel
theorem dX5_swap_46 : decode cX5_swap 46 = .ok (.aload_n 0, 1) := by decide +kernel
theorem dX5_swap_47 : decode cX5_swap 47 = .ok (.getfield 19, 3) := by decide +kernel
theorem dX5_swap_50 : decode cX5_swap 50 = .ok (.getfield 87, 3) := by decide +kernel
theorem dX5_swap_53 : decode cX5_swap 53 = .ok (.if_icmp .ge 64, 3) := by decide +kernel
theorem dX5_swap_56 : decode cX5_swap 56 = .ok (.iload 5, 2) := by decide +kernel
theorem dX5_swap_58 : decode cX5_swap 58 = .ok (.iconst 1, 1) := by decide +kernel
theorem dX5_swap_59 : decode cX5_swap 59 = .ok (.iadd, 1) := by decide +kernel
theorem dX5_swap_60 : decode cX5_swap 60 = .ok (.istore 6, 2) := by decide +kernel
theorem dX5_swap_62 : decode cX5_swap 62 = .ok (.iload 6, 2) := by decide +kernel
theorem dX5_swap_64 : decode cX5_swap 64 = .ok (.aload_n 0, 1) := by decide +kernel
theorem dX5_swap_65 : decode cX5_swap 65 = .ok (.getfield 19, 3) := by decide +kernel
theorem dX5_swap_68 : decode cX5_swap 68 = .ok (.getfield 87, 3) := by decide +kernel
theorem dX5_swap_71 : decode cX5_swap 71 = .ok (.if_icmp .ge 40, 3) := by decide +kernel
theorem dX5_swap_74 : decode cX5_swap 74 = .ok (.aload_n 0, 1) := by decide +kernel
theorem dX5_swap_75 : decode cX5_swap 75 = .ok (.iload 5, 2) := by decide +kernel
theorem dX5_swap_77 : decode cX5_swap 77 = .ok (.iload 6, 2) := by decide +kernel
theorem dX5_swap_79 : decode cX5_swap 79 = .ok (.iload_n 1, 1) := by decide +kernel
theorem dX5_swap_80 : decode cX5_swap 80 = .ok (.iload_n 3, 1) := by decide +kernel
theorem dX5_swap_81 : decode cX5_swap 81 = .ok (.invokevirtual 197, 3) := by decide +kernel
theorem dX5_swap_84 : decode cX5_swap 84 = .ok (.istore 7, 2) := by decide +kernel
theorem dX5_swap_86 : decode cX5_swap 86 = .ok (.iload 7, 2) := by decide +kernel
theorem dX5_swap_88 : decode cX5_swap 88 = .ok (.iload_n 3, 1) := by decide +kernel
theorem dX5_swap_89 : decode cX5_swap 89 = .ok (.if_icmp .ge 16, 3) := by decide +kernel
theorem dX5_swap_92 : decode cX5_swap 92 = .ok (.iload 7, 2) := by decide +kernel
theorem dX5_swap_94 : decode cX5_swap 94 = .ok (.istore_n 3, 1) := by decide +kernel
theorem dX5_swap_95 : decode cX5_swap 95 = .ok (.bipush 100, 2) := by decide +kernel
theorem dX5_swap_97 : decode cX5_swap 97 = .ok (.iload 5, 2) := by decide +kernel
theorem dX5_swap_99 : decode cX5_swap 99 = .ok (.imul, 1) := by decide +kernel
theorem dX5_swap_100 : decode cX5_swap 100 = .ok (.iload 6, 2) := by decide +kernel
theorem dX5_swap_102 : decode cX5_swap 102 = .ok (.iadd, 1) := by decide +kernel
theorem dX5_swap_103 : decode cX5_swap 103 = .ok (.istore 4, 2) := by decide +kernel
theorem dX5_swap_105 : decode cX5_swap 105 = .ok (.iinc 6 1, 3) := by decide +kernel
theorem dX5_swap_108 : decode cX5_swap 108 = .ok (.goto (-46), 3) := by decide +kernel
theorem dX5_swap_111 : decode cX5_swap 111 = .ok (.iinc 5 1, 3) := by decide +kernel
theorem dX5_swap_114 : decode cX5_swap 114 = .ok (.goto (-70), 3) := by decide +kernel
theorem dX5_swap_117 : decode cX5_swap 117 = .ok (.iload_n 2, 1) := by decide +kernel
theorem dX5_swap_118 : decode cX5_swap 118 = .ok (.ifCond .eq 10, 3) := by decide +kernel
theorem dX5_swap_121 : decode cX5_swap 121 = .ok (.iload 4, 2) := by decide +kernel
theorem dX5_swap_123 : decode cX5_swap 123 = .ok (.bipush (-4), 2) := by decide +kernel
theorem dX5_swap_125 : decode cX5_swap 125 = .ok (.if_icmp .ne 8, 3) := by decide +kernel
theorem dX5_swap_128 : decode cX5_swap 128 = .ok (.iload 4, 2) := by decide +kernel
theorem dX5_swap_130 : decode cX5_swap 130 = .ok (.goto 4, 3) := by decide +kernel
theorem dX5_swap_133 : decode cX5_swap 133 = .ok (.iload_n 3, 1) := by decide +kernel
theorem dX5_swap_134 : decode cX5_swap 134 = .ok (.ireturn, 1) := by decide +kernel
theorem dX5_rest_0 : decode cX5_rest 0 = .ok (.iload_n 1, 1) := by decide +kernel
theorem dX5_rest_1 : decode cX5_rest 1 = .ok (.invokestatic 157, 3) := by decide +kernel
theorem dX5_rest_4 : decode cX5_rest 4 = .ok (.ifCond .ne 12, 3) := by decide +kernel
theorem dX5_rest_7 : decode cX5_rest 7 = .ok (.iload_n 2, 1) := by decide +kernel
theorem dX5_rest_8 : decode cX5_rest 8 = .ok (.iconst 0, 1) := by decide +kernel
theorem dX5_rest_9 : decode cX5_rest 9 = .ok (.iconst 1, 1) := by decide +kernel
theorem dX5_rest_10 : decode cX5_rest 10 = .ok (.invokestatic 58, 3) := by decide +kernel
theorem dX5_rest_13 : decode cX5_rest 13 = .ok (.ifCond .eq 5, 3) := by decide +kernel
theorem dX5_rest_16 : decode cX5_rest 16 = .ok (.iconst (-1), 1) := by decide +kernel
theorem dX5_rest_17 : decode cX5_rest 17 = .ok (.ireturn, 1) := by decide +kernel
theorem dX5_rest_18 : decode cX5_rest 18 = .ok (.aload_n 0, 1) := by decide +kernel
theorem dX5_rest_19 : decode cX5_rest 19 = .ok (.getfield 23, 3) := by decide +kernel
theorem dX5_rest_22 : decode cX5_rest 22 = .ok (.aload_n 0, 1) := by decide +kernel
theorem dX5_rest_23 : decode cX5_rest 23 = .ok (.getfield 19, 3) := by decide +kernel
theorem dX5_rest_26 : decode cX5_rest 26 = .ok (.invokevirtual 80, 3) := by decide +kernel
theorem dX5_rest_29 : decode cX5_rest 29 = .ok (.aload_n 0, 1) := by decide +kernel
theorem dX5_rest_30 : decode cX5_rest 30 = .ok (.iload_n 1, 1) := by decide +kernel
theorem dX5_rest_31 : decode cX5_rest 31 = .ok (.ldc 193, 2) := by decide +kernel
theorem dX5_rest_33 : decode cX5_rest 33 = .ok (.invokevirtual 194, 3) := by decide +kernel
theorem dX5_rest_36 : decode cX5_rest 36 = .ok (.istore_n 3, 1) := by decide +kernel
theorem dX5_rest_37 : decode cX5_rest 37 = .ok (.bipush (-4), 2) := by decide +kernel
theorem dX5_rest_39 : decode cX5_rest 39 = .ok (.istore 4, 2) := by decide +kernel
theorem dX5_rest_41 : decode cX5_rest 41 = .ok (.iconst 0, 1) := by decide +kernel
theorem dX5_rest_42 : decode cX5_rest 42 = .ok (.istore 5, 2) := by decide +kernel
theorem dX5_rest_44 : decode cX5_rest 44 = .ok (.iload 5, 2) := by decide +kernel
theorem dX5_rest_46 : decode cX5_rest 46 = .ok (.aload_n 0, 1) := by decide +kernel
theorem dX5_rest_47 : decode cX5_rest 47 = .ok (.getfield 19, 3) := by decide +kernel
theorem dX5_rest_50 : decode cX5_rest 50 = .ok (.getfield 87, 3) := by decide +kernel
theorem dX5_rest_53 : decode cX5_rest 53 = .ok (.if_icmp .ge 32, 3) := by decide +kernel
theorem dX5_rest_56 : decode cX5_rest 56 = .ok (.aload_n 0, 1) := by decide +kernel
theorem dX5_rest_57 : decode cX5_rest 57 = .ok (.iload 5, 2) := by decide +kernel
theorem dX5_rest_59 : decode cX5_rest 59 = .ok (.iload_n 1, 1) := by decide +kernel
theorem dX5_rest_60 : decode cX5_rest 60 = .ok (.iload_n 3, 1) := by decide +kernel
theorem dX5_rest_61 : decode cX5_rest 61 = .ok (.invokevirtual 200, 3) := by decide +kernel
theorem dX5_rest_64 : decode cX5_rest 64 = .ok (.istore 6, 2) := by decide +kernel
theorem dX5_rest_66 : decode cX5_rest 66 = .ok (.iload 6, 2) := by decide +kernel
theorem dX5_rest_68 : decode cX5_rest 68 = .ok (.iload_n 3, 1) := by decide +kernel
theorem dX5_rest_69 : decode cX5_rest 69 = .ok (.if_icmp .ge 10, 3) := by decide +kernel
theorem dX5_rest_72 : decode cX5_rest 72 = .ok (.iload 6, 2) := by decide +kernel
theorem dX5_rest_74 : decode cX5_rest 74 = .ok (.istore_n 3, 1) := by decide +kernel
theorem dX5_rest_75 : decode cX5_rest 75 = .ok (.iload 5, 2) := by decide +kernel
theorem dX5_rest_77 : decode cX5_rest 77 = .ok (.istore 4, 2) := by decide +kernel
theorem dX5_rest_79 : decode cX5_rest 79 = .ok (.iinc 5 1, 3) := by decide +kernel
theorem dX5_rest_82 : decode cX5_rest 82 = .ok (.goto (-38), 3) := by decide +kernel
theorem dX5_rest_85 : decode cX5_rest 85 = .ok (.iload_n 2, 1) := by decide +kernel
theorem dX5_rest_86 : decode cX5_rest 86 = .ok (.ifCond .eq 10, 3) := by decide +kernel
theorem dX5_rest_89 : decode cX5_rest 89 = .ok (.iload 4, 2) := by decide +kernel
theorem dX5_rest_91 : decode cX5_rest 91 = .ok (.bipush (-4), 2) := by decide +kernel
theorem dX5_rest_93 : decode cX5_rest 93 = .ok (.if_icmp .ne 8, 3) := by decide +kernel
theorem dX5_rest_96 : decode cX5_rest 96 = .ok (.iload 4, 2) := by decide +kernel
theorem dX5_rest_98 : decode cX5_rest 98 = .ok (.goto 4, 3) := by decide +kernel
theorem dX5_rest_101 : decode cX5_rest 101 = .ok (.iload_n 3, 1) := by decide +kernel
theorem dX5_rest_102 : decode cX5_rest 102 = .ok (.ireturn, 1) := by decide +kernel
theorem dX5_luck_0 : decode cX5_luck 0 = .ok (.iload_n 1, 1) := by decide +kernel
theorem dX5_luck_1 : decode cX5_luck 1 = .ok (.iload_n 3, 1) := by decide +kernel
theorem dX5_luck_2 : decode cX5_luck 2 = .ok (.iload 4, 2) := by decide +kernel
theorem dX5_luck_4 : decode cX5_luck 4 = .ok (.invokestatic 203, 3) := by decide +kernel
theorem dX5_luck_7 : decode cX5_luck 7 = .ok (.ifCond .ne 11, 3) := by decide +kernel
theorem dX5_luck_10 : decode cX5_luck 10 = .ok (.aload_n 0, 1) := by decide +kernel
theorem dX5_luck_11 : decode cX5_luck 11 = .ok (.iload_n 2, 1) := by decide +kernel
theorem dX5_luck_12 : decode cX5_luck 12 = .ok (.invokevirtual 104, 3) := by decide +kernel
theorem dX5_luck_15 : decode cX5_luck 15 = .ok (.ifCond .eq 7, 3) := by decide +kernel
theorem dX5_luck_18 : decode cX5_luck 18 = .ok (.ldc2_w 206, 3) := by decide +kernel
theorem dX5_luck_21 : decode cX5_luck 21 = .ok (.lreturn, 1) := by decide +kernel
theorem dX5_luck_22 : decode cX5_luck 22 = .ok (.bipush 10, 2) := by decide +kernel
theorem dX5_luck_24 : decode cX5_luck 24 = .ok (.iload_n 3, 1) := by decide +kernel
theorem dX5_luck_25 : decode cX5_luck 25 = .ok (.invokestatic 208, 3) := by decide +kernel
theorem dX5_luck_28 : decode cX5_luck 28 = .ok (.lstore 5, 2) := by decide +kernel
theorem dX5_luck_30 : decode cX5_luck 30 = .ok (.lconst 0, 1) := by decide +kernel
theorem dX5_luck_31 : decode cX5_luck 31 = .ok (.lstore 7, 2) := by decide +kernel
theorem dX5_luck_33 : decode cX5_luck 33 = .ok (.iconst 0, 1) := by decide +kernel
theorem dX5_luck_34 : decode cX5_luck 34 = .ok (.istore 9, 2) := by decide +kernel
theorem dX5_luck_36 : decode cX5_luck 36 = .ok (.iload 9, 2) := by decide +kernel
theorem dX5_luck_38 : decode cX5_luck 38 = .ok (.iconst 1, 1) := by decide +kernel
theorem dX5_luck_39 : decode cX5_luck 39 = .ok (.iload_n 3, 1) := by decide +kernel
theorem dX5_luck_40 : decode cX5_luck 40 = .ok (.ishl, 1) := by decide +kernel
theorem dX5_luck_41 : decode cX5_luck 41 = .ok (.if_icmp .ge 43, 3) := by decide +kernel
theorem dX5_luck_44 : decode cX5_luck 44 = .ok (.iload 9, 2) := by decide +kernel
theorem dX5_luck_46 : decode cX5_luck 46 = .ok (.iload_n 1, 1) := by decide +kernel
theorem dX5_luck_47 : decode cX5_luck 47 = .ok (.iload_n 3, 1) := by decide +kernel
theorem dX5_luck_48 : decode cX5_luck 48 = .ok (.invokestatic 212, 3) := by decide +kernel
theorem dX5_luck_51 : decode cX5_luck 51 = .ok (.lstore 10, 2) := by decide +kernel
theorem dX5_luck_53 : decode cX5_luck 53 = .ok (.lload 10, 2) := by decide +kernel
theorem dX5_luck_55 : decode cX5_luck 55 = .ok (.lconst 0, 1) := by decide +kernel
theorem dX5_luck_56 : decode cX5_luck 56 = .ok (.lcmp, 1) := by decide +kernel
theorem dX5_luck_57 : decode cX5_luck 57 = .ok (.ifCond .eq 21, 3) := by decide +kernel
theorem dX5_luck_60 : decode cX5_luck 60 = .ok (.aload_n 0, 1) := by decide +kernel
theorem dX5_luck_61 : decode cX5_luck 61 = .ok (.iload_n 2, 1) := by decide +kernel
theorem dX5_luck_62 : decode cX5_luck 62 = .ok (.iload_n 3, 1) := by decide +kernel
theorem dX5_luck_63 : decode cX5_luck 63 = .ok (.iload 9, 2) := by decide +kernel
theorem dX5_luck_65 : decode cX5_luck 65 = .ok (.invokevirtual 216, 3) := by decide +kernel
theorem dX5_luck_68 : decode cX5_luck 68 = .ok (.ifCond .eq 10, 3) := by decide +kernel
theorem dX5_luck_71 : decode cX5_luck 71 = .ok (.lload 7, 2) := by decide +kernel
theorem dX5_luck_73 : decode cX5_luck 73 = .ok (.lload 10, 2) := by decide +kernel
theorem dX5_luck_75 : decode cX5_luck 75 = .ok (.ladd, 1) := by decide +kernel
theorem dX5_luck_76 : decode cX5_luck 76 = .ok (.lstore 7, 2) := by decide +kernel
theorem dX5_luck_78 : decode cX5_luck 78 = .ok (.iinc 9 1, 3) := by decide +kernel
theorem dX5_luck_81 : decode cX5_luck 81 = .ok (.goto (-45), 3) := by decide +kernel
theorem dX5_luck_84 : decode cX5_luck 84 = .ok (.lload 7, 2) := by decide +kernel
theorem dX5_luck_86 : decode cX5_luck 86 = .ok (.lload 5, 2) := by decide +kernel
theorem dX5_luck_88 : decode cX5_luck 88 = .ok (.iload 4, 2) := by decide +kernel
theorem dX5_luck_90 : decode cX5_luck 90 = .ok (.invokestatic 219, 3) := by decide +kernel
theorem dX5_luck_93 : decode cX5_luck 93 = .ok (.lreturn, 1) := by decide +kernel
theorem dX5_mean_0 : decode cX5_mean 0 = .ok (.iload_n 1, 1) := by decide +kernel
theorem dX5_mean_1 : decode cX5_mean 1 = .ok (.iload_n 2, 1) := by decide +kernel
theorem dX5_mean_2 : decode cX5_mean 2 = .ok (.iload_n 3, 1) := by decide +kernel
theorem dX5_mean_3 : decode cX5_mean 3 = .ok (.invokestatic 203, 3) := by decide +kernel
theorem dX5_mean_6 : decode cX5_mean 6 = .ok (.ifCond .eq 7, 3) := by decide +kernel
theorem dX5_mean_9 : decode cX5_mean 9 = .ok (.ldc2_w 206, 3) := by decide +kernel
theorem dX5_mean_12 : decode cX5_mean 12 = .ok (.lreturn, 1) := by decide +kernel
theorem dX5_mean_13 : decode cX5_mean 13 = .ok (.bipush 10, 2) := by decide +kernel
theorem dX5_mean_15 : decode cX5_mean 15 = .ok (.iload_n 2, 1) := by decide +kernel
theorem dX5_mean_16 : decode cX5_mean 16 = .ok (.invokestatic 208, 3) := by decide +kernel
theorem dX5_mean_19 : decode cX5_mean 19 = .ok (.lstore 4, 2) := by decide +kernel
theorem dX5_mean_21 : decode cX5_mean 21 = .ok (.lconst 0, 1) := by decide +kernel
theorem dX5_mean_22 : decode cX5_mean 22 = .ok (.lstore 6, 2) := by decide +kernel
theorem dX5_mean_24 : decode cX5_mean 24 = .ok (.iconst 0, 1) := by decide +kernel
theorem dX5_mean_25 : decode cX5_mean 25 = .ok (.istore 8, 2) := by decide +kernel
theorem dX5_mean_27 : decode cX5_mean 27 = .ok (.iload 8, 2) := by decide +kernel
theorem dX5_mean_29 : decode cX5_mean 29 = .ok (.iconst 1, 1) := by decide +kernel
theorem dX5_mean_30 : decode cX5_mean 30 = .ok (.iload_n 2, 1) := by decide +kernel
theorem dX5_mean_31 : decode cX5_mean 31 = .ok (.ishl, 1) := by decide +kernel
theorem dX5_mean_32 : decode cX5_mean 32 = .ok (.if_icmp .ge 41, 3) := by decide +kernel
theorem dX5_mean_35 : decode cX5_mean 35 = .ok (.iload 8, 2) := by decide +kernel
theorem dX5_mean_37 : decode cX5_mean 37 = .ok (.iload_n 1, 1) := by decide +kernel
theorem dX5_mean_38 : decode cX5_mean 38 = .ok (.iload_n 2, 1) := by decide +kernel
theorem dX5_mean_39 : decode cX5_mean 39 = .ok (.invokestatic 212, 3) := by decide +kernel
theorem dX5_mean_42 : decode cX5_mean 42 = .ok (.lstore 9, 2) := by decide +kernel
theorem dX5_mean_44 : decode cX5_mean 44 = .ok (.lload 9, 2) := by decide +kernel
theorem dX5_mean_46 : decode cX5_mean 46 = .ok (.lconst 0, 1) := by decide +kernel
theorem dX5_mean_47 : decode cX5_mean 47 = .ok (.lcmp, 1) := by decide +kernel
theorem dX5_mean_48 : decode cX5_mean 48 = .ok (.ifCond .eq 19, 3) := by decide +kernel
theorem dX5_mean_51 : decode cX5_mean 51 = .ok (.lload 6, 2) := by decide +kernel
theorem dX5_mean_53 : decode cX5_mean 53 = .ok (.lload 9, 2) := by decide +kernel
theorem dX5_mean_55 : decode cX5_mean 55 = .ok (.aload_n 0, 1) := by decide +kernel
theorem dX5_mean_56 : decode cX5_mean 56 = .ok (.iload_n 2, 1) := by decide +kernel
theorem dX5_mean_57 : decode cX5_mean 57 = .ok (.iload 8, 2) := by decide +kernel
theorem dX5_mean_59 : decode cX5_mean 59 = .ok (.invokevirtual 223, 3) := by decide +kernel
theorem dX5_mean_62 : decode cX5_mean 62 = .ok (.i2l, 1) := by decide +kernel
theorem dX5_mean_63 : decode cX5_mean 63 = .ok (.lmul, 1) := by decide +kernel
theorem dX5_mean_64 : decode cX5_mean 64 = .ok (.ladd, 1) := by decide +kernel
theorem dX5_mean_65 : decode cX5_mean 65 = .ok (.lstore 6, 2) := by decide +kernel
theorem dX5_mean_67 : decode cX5_mean 67 = .ok (.iinc 8 1, 3) := by decide +kernel
theorem dX5_mean_70 : decode cX5_mean 70 = .ok (.goto (-43), 3) := by decide +kernel
theorem dX5_mean_73 : decode cX5_mean 73 = .ok (.lload 6, 2) := by decide +kernel
theorem dX5_mean_75 : decode cX5_mean 75 = .ok (.lload 4, 2) := by decide +kernel
theorem dX5_mean_77 : decode cX5_mean 77 = .ok (.iload_n 3, 1) := by decide +kernel
theorem dX5_mean_78 : decode cX5_mean 78 = .ok (.invokestatic 219, 3) := by decide +kernel
theorem dX5_mean_81 : decode cX5_mean 81 = .ok (.lreturn, 1) := by decide +kernel
theorem dX5_see_0 : decode cX5_see 0 = .ok (.iload_n 1, 1) := by decide +kernel
theorem dX5_see_1 : decode cX5_see 1 = .ok (.iconst 0, 1) := by decide +kernel
theorem dX5_see_2 : decode cX5_see 2 = .ok (.bipush 40, 2) := by decide +kernel
theorem dX5_see_4 : decode cX5_see 4 = .ok (.invokestatic 58, 3) := by decide +kernel
theorem dX5_see_7 : decode cX5_see 7 = .ok (.ifCond .ne 22, 3) := by decide +kernel
theorem dX5_see_10 : decode cX5_see 10 = .ok (.aload_n 0, 1) := by decide +kernel
theorem dX5_see_11 : decode cX5_see 11 = .ok (.iload_n 2, 1) := by decide +kernel
theorem dX5_see_12 : decode cX5_see 12 = .ok (.invokevirtual 104, 3) := by decide +kernel
theorem dX5_see_15 : decode cX5_see 15 = .ok (.ifCond .ne 14, 3) := by decide +kernel
theorem dX5_see_18 : decode cX5_see 18 = .ok (.iload_n 3, 1) := by decide +kernel
theorem dX5_see_19 : decode cX5_see 19 = .ok (.iconst 0, 1) := by decide +kernel
theorem dX5_see_20 : decode cX5_see 20 = .ok (.sipush 255, 3) := by decide +kernel
theorem dX5_see_23 : decode cX5_see 23 = .ok (.invokestatic 58, 3) := by decide +kernel
theorem dX5_see_26 : decode cX5_see 26 = .ok (.ifCond .eq 5, 3) := by decide +kernel
theorem dX5_see_29 : decode cX5_see 29 = .ok (.iconst (-1), 1) := by decide +kernel
theorem dX5_see_30 : decode cX5_see 30 = .ok (.ireturn, 1) := by decide +kernel
theorem dX5_see_31 : decode cX5_see 31 = .ok (.aload_n 0, 1) := by decide +kernel
theorem dX5_see_32 : decode cX5_see 32 = .ok (.getfield 19, 3) := by decide +kernel
theorem dX5_see_35 : decode cX5_see 35 = .ok (.getfield 226, 3) := by decide +kernel
theorem dX5_see_38 : decode cX5_see 38 = .ok (.getfield 230, 3) := by decide +kernel
theorem dX5_see_41 : decode cX5_see 41 = .ok (.bipush 6, 2) := by decide +kernel
theorem dX5_see_43 : decode cX5_see 43 = .ok (.if_icmp .lt 6, 3) := by decide +kernel
theorem dX5_see_46 : decode cX5_see 46 = .ok (.bipush (-3), 2) := by decide +kernel
theorem dX5_see_48 : decode cX5_see 48 = .ok (.ireturn, 1) := by decide +kernel
theorem dX5_see_49 : decode cX5_see 49 = .ok (.aload_n 0, 1) := by decide +kernel
theorem dX5_see_50 : decode cX5_see 50 = .ok (.getfield 19, 3) := by decide +kernel
theorem dX5_see_53 : decode cX5_see 53 = .ok (.getfield 226, 3) := by decide +kernel
theorem dX5_see_56 : decode cX5_see 56 = .ok (.iload_n 1, 1) := by decide +kernel
theorem dX5_see_57 : decode cX5_see 57 = .ok (.iload_n 2, 1) := by decide +kernel
theorem dX5_see_58 : decode cX5_see 58 = .ok (.iload_n 3, 1) := by decide +kernel
theorem dX5_see_59 : decode cX5_see 59 = .ok (.invokevirtual 235, 3) := by decide +kernel
theorem dX5_see_62 : decode cX5_see 62 = .ok (.aload_n 0, 1) := by decide +kernel
theorem dX5_see_63 : decode cX5_see 63 = .ok (.getfield 19, 3) := by decide +kernel
theorem dX5_see_66 : decode cX5_see 66 = .ok (.getfield 226, 3) := by decide +kernel
theorem dX5_see_69 : decode cX5_see 69 = .ok (.getfield 230, 3) := by decide +kernel
theorem dX5_see_72 : decode cX5_see 72 = .ok (.ireturn, 1) := by decide +kernel
theorem dX5_forget_0 : decode cX5_forget 0 = .ok (.iload_n 1, 1) := by decide +kernel
theorem dX5_forget_1 : decode cX5_forget 1 = .ok (.iconst 0, 1) := by decide +kernel
theorem dX5_forget_2 : decode cX5_forget 2 = .ok (.aload_n 0, 1) := by decide +kernel
theorem dX5_forget_3 : decode cX5_forget 3 = .ok (.getfield 19, 3) := by decide +kernel
theorem dX5_forget_6 : decode cX5_forget 6 = .ok (.getfield 226, 3) := by decide +kernel
theorem dX5_forget_9 : decode cX5_forget 9 = .ok (.getfield 230, 3) := by decide +kernel
theorem dX5_forget_12 : decode cX5_forget 12 = .ok (.invokestatic 58, 3) := by decide +kernel
theorem dX5_forget_15 : decode cX5_forget 15 = .ok (.ifCond .eq 5, 3) := by decide +kernel
theorem dX5_forget_18 : decode cX5_forget 18 = .ok (.iconst (-1), 1) := by decide +kernel
theorem dX5_forget_19 : decode cX5_forget 19 = .ok (.ireturn, 1) := by decide +kernel
theorem dX5_forget_20 : decode cX5_forget 20 = .ok (.aload_n 0, 1) := by decide +kernel
theorem dX5_forget_21 : decode cX5_forget 21 = .ok (.getfield 19, 3) := by decide +kernel
theorem dX5_forget_24 : decode cX5_forget 24 = .ok (.getfield 226, 3) := by decide +kernel
theorem dX5_forget_27 : decode cX5_forget 27 = .ok (.getfield 230, 3) := by decide +kernel
theorem dX5_forget_30 : decode cX5_forget 30 = .ok (.istore_n 2, 1) := by decide +kernel
theorem dX5_forget_31 : decode cX5_forget 31 = .ok (.aload_n 0, 1) := by decide +kernel
theorem dX5_forget_32 : decode cX5_forget 32 = .ok (.getfield 19, 3) := by decide +kernel
theorem dX5_forget_35 : decode cX5_forget 35 = .ok (.getfield 226, 3) := by decide +kernel
theorem dX5_forget_38 : decode cX5_forget 38 = .ok (.iload_n 1, 1) := by decide +kernel
theorem dX5_forget_39 : decode cX5_forget 39 = .ok (.putfield 230, 3) := by decide +kernel
theorem dX5_forget_42 : decode cX5_forget 42 = .ok (.iload_n 2, 1) := by decide +kernel
theorem dX5_forget_43 : decode cX5_forget 43 = .ok (.ireturn, 1) := by decide +kernel
theorem dX5_kinds_0 : decode cX5_kinds 0 = .ok (.aload_n 0, 1) := by decide +kernel
theorem dX5_kinds_1 : decode cX5_kinds 1 = .ok (.iload_n 1, 1) := by decide +kernel
theorem dX5_kinds_2 : decode cX5_kinds 2 = .ok (.invokevirtual 104, 3) := by decide +kernel
theorem dX5_kinds_5 : decode cX5_kinds 5 = .ok (.ifCond .eq 7, 3) := by decide +kernel
theorem dX5_kinds_8 : decode cX5_kinds 8 = .ok (.iconst (-1), 1) := by decide +kernel
theorem dX5_kinds_9 : decode cX5_kinds 9 = .ok (.goto 9, 3) := by decide +kernel
theorem dX5_kinds_12 : decode cX5_kinds 12 = .ok (.aload_n 0, 1) := by decide +kernel
theorem dX5_kinds_13 : decode cX5_kinds 13 = .ok (.iload_n 1, 1) := by decide +kernel
theorem dX5_kinds_14 : decode cX5_kinds 14 = .ok (.iconst 0, 1) := by decide +kernel
theorem dX5_kinds_15 : decode cX5_kinds 15 = .ok (.invokevirtual 239, 3) := by decide +kernel
theorem dX5_kinds_18 : decode cX5_kinds 18 = .ok (.ireturn, 1) := by decide +kernel
theorem dX5_powers_0 : decode cX5_powers 0 = .ok (.aload_n 0, 1) := by decide +kernel
theorem dX5_powers_1 : decode cX5_powers 1 = .ok (.iload_n 1, 1) := by decide +kernel
theorem dX5_powers_2 : decode cX5_powers 2 = .ok (.invokevirtual 104, 3) := by decide +kernel
theorem dX5_powers_5 : decode cX5_powers 5 = .ok (.ifCond .eq 7, 3) := by decide +kernel
theorem dX5_powers_8 : decode cX5_powers 8 = .ok (.iconst (-1), 1) := by decide +kernel
theorem dX5_powers_9 : decode cX5_powers 9 = .ok (.goto 9, 3) := by decide +kernel
theorem dX5_powers_12 : decode cX5_powers 12 = .ok (.aload_n 0, 1) := by decide +kernel
theorem dX5_powers_13 : decode cX5_powers 13 = .ok (.iload_n 1, 1) := by decide +kernel
theorem dX5_powers_14 : decode cX5_powers 14 = .ok (.iconst 1, 1) := by decide +kernel
theorem dX5_powers_15 : decode cX5_powers 15 = .ok (.invokevirtual 239, 3) := by decide +kernel
theorem dX5_powers_18 : decode cX5_powers 18 = .ok (.ireturn, 1) := by decide +kernel
theorem dX5_ask_0 : decode cX5_ask 0 = .ok (.aload_n 0, 1) := by decide +kernel
theorem dX5_ask_1 : decode cX5_ask 1 = .ok (.iload_n 1, 1) := by decide +kernel
theorem dX5_ask_2 : decode cX5_ask 2 = .ok (.invokevirtual 104, 3) := by decide +kernel
theorem dX5_ask_5 : decode cX5_ask 5 = .ok (.ifCond .ne 12, 3) := by decide +kernel
theorem dX5_ask_8 : decode cX5_ask 8 = .ok (.iload_n 2, 1) := by decide +kernel
theorem dX5_ask_9 : decode cX5_ask 9 = .ok (.iconst 0, 1) := by decide +kernel
theorem dX5_ask_10 : decode cX5_ask 10 = .ok (.iconst 1, 1) := by decide +kernel
theorem dX5_ask_11 : decode cX5_ask 11 = .ok (.invokestatic 58, 3) := by decide +kernel
theorem dX5_ask_14 : decode cX5_ask 14 = .ok (.ifCond .eq 5, 3) := by decide +kernel
theorem dX5_ask_17 : decode cX5_ask 17 = .ok (.iconst (-1), 1) := by decide +kernel
theorem dX5_ask_18 : decode cX5_ask 18 = .ok (.ireturn, 1) := by decide +kernel
theorem dX5_ask_19 : decode cX5_ask 19 = .ok (.aload_n 0, 1) := by decide +kernel
theorem dX5_ask_20 : decode cX5_ask 20 = .ok (.iload_n 1, 1) := by decide +kernel
theorem dX5_ask_21 : decode cX5_ask 21 = .ok (.iconst 1, 1) := by decide +kernel
theorem dX5_ask_22 : decode cX5_ask 22 = .ok (.invokevirtual 239, 3) := by decide +kernel
theorem dX5_ask_25 : decode cX5_ask 25 = .ok (.istore_n 3, 1) := by decide +kernel
theorem dX5_ask_26 : decode cX5_ask 26 = .ok (.iload_n 3, 1) := by decide +kernel
theorem dX5_ask_27 : decode cX5_ask 27 = .ok (.invokestatic 242, 3) := by decide +kernel
theorem dX5_ask_30 : decode cX5_ask 30 = .ok (.istore 4, 2) := by decide +kernel
theorem dX5_ask_32 : decode cX5_ask 32 = .ok (.bipush (-4), 2) := by decide +kernel
theorem dX5_ask_34 : decode cX5_ask 34 = .ok (.istore 5, 2) := by decide +kernel
theorem dX5_ask_36 : decode cX5_ask 36 = .ok (.iload 4, 2) := by decide +kernel
theorem dX5_ask_38 : decode cX5_ask 38 = .ok (.iconst 1, 1) := by decide +kernel
theorem dX5_ask_39 : decode cX5_ask 39 = .ok (.if_icmp .le 43, 3) := by decide +kernel
theorem dX5_ask_42 : decode cX5_ask 42 = .ok (.iconst 0, 1) := by decide +kernel
theorem dX5_ask_43 : decode cX5_ask 43 = .ok (.istore 6, 2) := by decide +kernel
theorem dX5_ask_45 : decode cX5_ask 45 = .ok (.iload 6, 2) := by decide +kernel
theorem dX5_ask_47 : decode cX5_ask 47 = .ok (.bipush 41, 2) := by decide +kernel
theorem dX5_ask_49 : decode cX5_ask 49 = .ok (.if_icmp .ge 33, 3) := by decide +kernel
theorem dX5_ask_52 : decode cX5_ask 52 = .ok (.aload_n 0, 1) := by decide +kernel
theorem dX5_ask_53 : decode cX5_ask 53 = .ok (.iload_n 3, 1) := by decide +kernel
theorem dX5_ask_54 : decode cX5_ask 54 = .ok (.iload 6, 2) := by decide +kernel
theorem dX5_ask_56 : decode cX5_ask 56 = .ok (.invokevirtual 247, 3) := by decide +kernel
theorem dX5_ask_59 : decode cX5_ask 59 = .ok (.istore 7, 2) := by decide +kernel
theorem dX5_ask_61 : decode cX5_ask 61 = .ok (.iload 7, 2) := by decide +kernel
theorem dX5_ask_63 : decode cX5_ask 63 = .ok (.iload 4, 2) := by decide +kernel
theorem dX5_ask_65 : decode cX5_ask 65 = .ok (.if_icmp .ge 11, 3) := by decide +kernel
theorem dX5_ask_68 : decode cX5_ask 68 = .ok (.iload 7, 2) := by decide +kernel
theorem dX5_ask_70 : decode cX5_ask 70 = .ok (.istore 4, 2) := by decide +kernel
theorem dX5_ask_72 : decode cX5_ask 72 = .ok (.iload 6, 2) := by decide +kernel
theorem dX5_ask_74 : decode cX5_ask 74 = .ok (.istore 5, 2) := by decide +kernel
theorem dX5_ask_76 : decode cX5_ask 76 = .ok (.iinc 6 1, 3) := by decide +kernel
theorem dX5_ask_79 : decode cX5_ask 79 = .ok (.goto (-34), 3) := by decide +kernel
theorem dX5_ask_82 : decode cX5_ask 82 = .ok (.iload_n 2, 1) := by decide +kernel
theorem dX5_ask_83 : decode cX5_ask 83 = .ok (.ifCond .eq 10, 3) := by decide +kernel
theorem dX5_ask_86 : decode cX5_ask 86 = .ok (.iload 5, 2) := by decide +kernel
theorem dX5_ask_88 : decode cX5_ask 88 = .ok (.bipush (-4), 2) := by decide +kernel
theorem dX5_ask_90 : decode cX5_ask 90 = .ok (.if_icmp .ne 8, 3) := by decide +kernel
theorem dX5_ask_93 : decode cX5_ask 93 = .ok (.iload 5, 2) := by decide +kernel
theorem dX5_ask_95 : decode cX5_ask 95 = .ok (.goto 5, 3) := by decide +kernel
theorem dX5_ask_98 : decode cX5_ask 98 = .ok (.iload 4, 2) := by decide +kernel
theorem dX5_ask_100 : decode cX5_ask 100 = .ok (.ireturn, 1) := by decide +kernel
theorem dX5_drift_0 : decode cX5_drift 0 = .ok (.iload_n 2, 1) := by decide +kernel
theorem dX5_drift_1 : decode cX5_drift 1 = .ok (.iconst 1, 1) := by decide +kernel
theorem dX5_drift_2 : decode cX5_drift 2 = .ok (.bipush 60, 2) := by decide +kernel
theorem dX5_drift_4 : decode cX5_drift 4 = .ok (.invokestatic 58, 3) := by decide +kernel
theorem dX5_drift_7 : decode cX5_drift 7 = .ok (.ifCond .ne 12, 3) := by decide +kernel
theorem dX5_drift_10 : decode cX5_drift 10 = .ok (.iload_n 3, 1) := by decide +kernel
theorem dX5_drift_11 : decode cX5_drift 11 = .ok (.iconst 0, 1) := by decide +kernel
theorem dX5_drift_12 : decode cX5_drift 12 = .ok (.iconst 1, 1) := by decide +kernel
theorem dX5_drift_13 : decode cX5_drift 13 = .ok (.invokestatic 58, 3) := by decide +kernel
theorem dX5_drift_16 : decode cX5_drift 16 = .ok (.ifCond .eq 5, 3) := by decide +kernel
theorem dX5_drift_19 : decode cX5_drift 19 = .ok (.iconst (-1), 1) := by decide +kernel
theorem dX5_drift_20 : decode cX5_drift 20 = .ok (.ireturn, 1) := by decide +kernel
theorem dX5_drift_21 : decode cX5_drift 21 = .ok (.aload_n 0, 1) := by decide +kernel
theorem dX5_drift_22 : decode cX5_drift 22 = .ok (.getfield 19, 3) := by decide +kernel
theorem dX5_drift_25 : decode cX5_drift 25 = .ok (.getfield 84, 3) := by decide +kernel
theorem dX5_drift_28 : decode cX5_drift 28 = .ok (.ifCond .ne 6, 3) := by decide +kernel
theorem dX5_drift_31 : decode cX5_drift 31 = .ok (.bipush (-2), 2) := by decide +kernel
theorem dX5_drift_33 : decode cX5_drift 33 = .ok (.ireturn, 1) := by decide +kernel
theorem dX5_drift_34 : decode cX5_drift 34 = .ok (.aload_n 0, 1) := by decide +kernel
theorem dX5_drift_35 : decode cX5_drift 35 = .ok (.getfield 23, 3) := by decide +kernel
theorem dX5_drift_38 : decode cX5_drift 38 = .ok (.aload_n 0, 1) := by decide +kernel
theorem dX5_drift_39 : decode cX5_drift 39 = .ok (.getfield 19, 3) := by decide +kernel
theorem dX5_drift_42 : decode cX5_drift 42 = .ok (.invokevirtual 80, 3) := by decide +kernel
theorem dX5_drift_45 : decode cX5_drift 45 = .ok (.iconst 0, 1) := by decide +kernel
theorem dX5_drift_46 : decode cX5_drift 46 = .ok (.istore 4, 2) := by decide +kernel
theorem dX5_drift_48 : decode cX5_drift 48 = .ok (.iload_n 1, 1) := by decide +kernel
theorem dX5_drift_49 : decode cX5_drift 49 = .ok (.istore 5, 2) := by decide +kernel
theorem dX5_drift_51 : decode cX5_drift 51 = .ok (.iconst 0, 1) := by decide +kernel
theorem dX5_drift_52 : decode cX5_drift 52 = .ok (.istore 6, 2) := by decide +kernel
theorem dX5_drift_54 : decode cX5_drift 54 = .ok (.iload 6, 2) := by decide +kernel
theorem dX5_drift_56 : decode cX5_drift 56 = .ok (.iload_n 2, 1) := by decide +kernel
theorem dX5_drift_57 : decode cX5_drift 57 = .ok (.if_icmp .ge 53, 3) := by decide +kernel
theorem dX5_drift_60 : decode cX5_drift 60 = .ok (.iload 5, 2) := by decide +kernel
theorem dX5_drift_62 : decode cX5_drift 62 = .ok (.ldc 250, 2) := by decide +kernel
theorem dX5_drift_64 : decode cX5_drift 64 = .ok (.imul, 1) := by decide +kernel
theorem dX5_drift_65 : decode cX5_drift 65 = .ok (.sipush 12345, 3) := by decide +kernel
theorem dX5_drift_68 : decode cX5_drift 68 = .ok (.iadd, 1) := by decide +kernel
theorem dX5_drift_69 : decode cX5_drift 69 = .ok (.istore 5, 2) := by decide +kernel
theorem dX5_drift_71 : decode cX5_drift 71 = .ok (.iload 5, 2) := by decide +kernel
theorem dX5_drift_73 : decode cX5_drift 73 = .ok (.bipush 16, 2) := by decide +kernel
theorem dX5_drift_75 : decode cX5_drift 75 = .ok (.iushr, 1) := by decide +kernel
theorem dX5_drift_76 : decode cX5_drift 76 = .ok (.sipush 32767, 3) := by decide +kernel
theorem dX5_drift_79 : decode cX5_drift 79 = .ok (.iand, 1) := by decide +kernel
theorem dX5_drift_80 : decode cX5_drift 80 = .ok (.istore 7, 2) := by decide +kernel
theorem dX5_drift_82 : decode cX5_drift 82 = .ok (.iload 4, 2) := by decide +kernel
theorem dX5_drift_84 : decode cX5_drift 84 = .ok (.aload_n 0, 1) := by decide +kernel
theorem dX5_drift_85 : decode cX5_drift 85 = .ok (.getfield 23, 3) := by decide +kernel
theorem dX5_drift_88 : decode cX5_drift 88 = .ok (.iload 7, 2) := by decide +kernel
theorem dX5_drift_90 : decode cX5_drift 90 = .ok (.iconst 4, 1) := by decide +kernel
theorem dX5_drift_91 : decode cX5_drift 91 = .ok (.idiv, 1) := by decide +kernel
theorem dX5_drift_92 : decode cX5_drift 92 = .ok (.sipush 256, 3) := by decide +kernel
theorem dX5_drift_95 : decode cX5_drift 95 = .ok (.irem, 1) := by decide +kernel
theorem dX5_drift_96 : decode cX5_drift 96 = .ok (.iconst 0, 1) := by decide +kernel
theorem dX5_drift_97 : decode cX5_drift 97 = .ok (.iconst 1, 1) := by decide +kernel
theorem dX5_drift_98 : decode cX5_drift 98 = .ok (.invokevirtual 251, 3) := by decide +kernel
theorem dX5_drift_101 : decode cX5_drift 101 = .ok (.iadd, 1) := by decide +kernel
theorem dX5_drift_102 : decode cX5_drift 102 = .ok (.istore 4, 2) := by decide +kernel
theorem dX5_drift_104 : decode cX5_drift 104 = .ok (.iinc 6 1, 3) := by decide +kernel
theorem dX5_drift_107 : decode cX5_drift 107 = .ok (.goto (-53), 3) := by decide +kernel
theorem dX5_drift_110 : decode cX5_drift 110 = .ok (.iload_n 3, 1) := by decide +kernel
theorem dX5_drift_111 : decode cX5_drift 111 = .ok (.ifCond .ne 8, 3) := by decide +kernel
theorem dX5_drift_114 : decode cX5_drift 114 = .ok (.iload 4, 2) := by decide +kernel
theorem dX5_drift_116 : decode cX5_drift 116 = .ok (.goto 10, 3) := by decide +kernel
theorem dX5_drift_119 : decode cX5_drift 119 = .ok (.aload_n 0, 1) := by decide +kernel
theorem dX5_drift_120 : decode cX5_drift 120 = .ok (.getfield 23, 3) := by decide +kernel
theorem dX5_drift_123 : decode cX5_drift 123 = .ok (.invokevirtual 255, 3) := by decide +kernel
theorem dX5_drift_126 : decode cX5_drift 126 = .ok (.ireturn, 1) := by decide +kernel
theorem dX5_keep_0 : decode cX5_keep 0 = .ok (.iload_n 1, 1) := by decide +kernel
theorem dX5_keep_1 : decode cX5_keep 1 = .ok (.iconst 0, 1) := by decide +kernel
theorem dX5_keep_2 : decode cX5_keep 2 = .ok (.iconst 1, 1) := by decide +kernel
theorem dX5_keep_3 : decode cX5_keep 3 = .ok (.invokestatic 58, 3) := by decide +kernel
theorem dX5_keep_6 : decode cX5_keep 6 = .ok (.ifCond .eq 5, 3) := by decide +kernel
theorem dX5_keep_9 : decode cX5_keep 9 = .ok (.iconst (-1), 1) := by decide +kernel
theorem dX5_keep_10 : decode cX5_keep 10 = .ok (.ireturn, 1) := by decide +kernel
theorem dX5_keep_11 : decode cX5_keep 11 = .ok (.aload_n 0, 1) := by decide +kernel
theorem dX5_keep_12 : decode cX5_keep 12 = .ok (.getfield 37, 3) := by decide +kernel
theorem dX5_keep_15 : decode cX5_keep 15 = .ok (.iload_n 1, 1) := by decide +kernel
theorem dX5_keep_16 : decode cX5_keep 16 = .ok (.baload, 1) := by decide +kernel
theorem dX5_keep_17 : decode cX5_keep 17 = .ok (.ifCond .eq 7, 3) := by decide +kernel
theorem dX5_keep_20 : decode cX5_keep 20 = .ok (.iconst 1, 1) := by decide +kernel
theorem dX5_keep_21 : decode cX5_keep 21 = .ok (.goto 4, 3) := by decide +kernel
theorem dX5_keep_24 : decode cX5_keep 24 = .ok (.iconst 0, 1) := by decide +kernel
theorem dX5_keep_25 : decode cX5_keep 25 = .ok (.istore_n 2, 1) := by decide +kernel
theorem dX5_keep_26 : decode cX5_keep 26 = .ok (.aload_n 0, 1) := by decide +kernel
theorem dX5_keep_27 : decode cX5_keep 27 = .ok (.getfield 33, 3) := by decide +kernel
theorem dX5_keep_30 : decode cX5_keep 30 = .ok (.iload_n 1, 1) := by decide +kernel
theorem dX5_keep_31 : decode cX5_keep 31 = .ok (.aaload, 1) := by decide +kernel
theorem dX5_keep_32 : decode cX5_keep 32 = .ok (.aload_n 0, 1) := by decide +kernel
theorem dX5_keep_33 : decode cX5_keep 33 = .ok (.getfield 19, 3) := by decide +kernel
theorem dX5_keep_36 : decode cX5_keep 36 = .ok (.invokevirtual 80, 3) := by decide +kernel
theorem dX5_keep_39 : decode cX5_keep 39 = .ok (.aload_n 0, 1) := by decide +kernel
theorem dX5_keep_40 : decode cX5_keep 40 = .ok (.getfield 37, 3) := by decide +kernel
theorem dX5_keep_43 : decode cX5_keep 43 = .ok (.iload_n 1, 1) := by decide +kernel
theorem dX5_keep_44 : decode cX5_keep 44 = .ok (.iconst 1, 1) := by decide +kernel
theorem dX5_keep_45 : decode cX5_keep 45 = .ok (.bastore, 1) := by decide +kernel
theorem dX5_keep_46 : decode cX5_keep 46 = .ok (.iload_n 2, 1) := by decide +kernel
theorem dX5_keep_47 : decode cX5_keep 47 = .ok (.ireturn, 1) := by decide +kernel
theorem dX5_back_0 : decode cX5_back 0 = .ok (.iload_n 1, 1) := by decide +kernel
theorem dX5_back_1 : decode cX5_back 1 = .ok (.iconst 0, 1) := by decide +kernel
theorem dX5_back_2 : decode cX5_back 2 = .ok (.iconst 1, 1) := by decide +kernel
theorem dX5_back_3 : decode cX5_back 3 = .ok (.invokestatic 58, 3) := by decide +kernel
theorem dX5_back_6 : decode cX5_back 6 = .ok (.ifCond .eq 5, 3) := by decide +kernel
theorem dX5_back_9 : decode cX5_back 9 = .ok (.iconst (-1), 1) := by decide +kernel
theorem dX5_back_10 : decode cX5_back 10 = .ok (.ireturn, 1) := by decide +kernel
theorem dX5_back_11 : decode cX5_back 11 = .ok (.aload_n 0, 1) := by decide +kernel
theorem dX5_back_12 : decode cX5_back 12 = .ok (.getfield 37, 3) := by decide +kernel
theorem dX5_back_15 : decode cX5_back 15 = .ok (.iload_n 1, 1) := by decide +kernel
theorem dX5_back_16 : decode cX5_back 16 = .ok (.baload, 1) := by decide +kernel
theorem dX5_back_17 : decode cX5_back 17 = .ok (.ifCond .ne 6, 3) := by decide +kernel
theorem dX5_back_20 : decode cX5_back 20 = .ok (.bipush (-2), 2) := by decide +kernel
theorem dX5_back_22 : decode cX5_back 22 = .ok (.ireturn, 1) := by decide +kernel
theorem dX5_back_23 : decode cX5_back 23 = .ok (.aload_n 0, 1) := by decide +kernel
theorem dX5_back_24 : decode cX5_back 24 = .ok (.getfield 19, 3) := by decide +kernel
theorem dX5_back_27 : decode cX5_back 27 = .ok (.aload_n 0, 1) := by decide +kernel
theorem dX5_back_28 : decode cX5_back 28 = .ok (.getfield 33, 3) := by decide +kernel
theorem dX5_back_31 : decode cX5_back 31 = .ok (.iload_n 1, 1) := by decide +kernel
theorem dX5_back_32 : decode cX5_back 32 = .ok (.aaload, 1) := by decide +kernel
theorem dX5_back_33 : decode cX5_back 33 = .ok (.invokevirtual 80, 3) := by decide +kernel
theorem dX5_back_36 : decode cX5_back 36 = .ok (.aload_n 0, 1) := by decide +kernel
theorem dX5_back_37 : decode cX5_back 37 = .ok (.getfield 19, 3) := by decide +kernel
theorem dX5_back_40 : decode cX5_back 40 = .ok (.getfield 90, 3) := by decide +kernel
theorem dX5_back_43 : decode cX5_back 43 = .ok (.ireturn, 1) := by decide +kernel
theorem dX5_sheet_0 : decode cX5_sheet 0 = .ok (.iload_n 1, 1) := by decide +kernel
theorem dX5_sheet_1 : decode cX5_sheet 1 = .ok (.invokestatic 258, 3) := by decide +kernel
theorem dX5_sheet_4 : decode cX5_sheet 4 = .ok (.ifCond .ne 18, 3) := by decide +kernel
theorem dX5_sheet_7 : decode cX5_sheet 7 = .ok (.iload_n 2, 1) := by decide +kernel
theorem dX5_sheet_8 : decode cX5_sheet 8 = .ok (.iconst 0, 1) := by decide +kernel
theorem dX5_sheet_9 : decode cX5_sheet 9 = .ok (.iconst 2, 1) := by decide +kernel
theorem dX5_sheet_10 : decode cX5_sheet 10 = .ok (.invokestatic 58, 3) := by decide +kernel
theorem dX5_sheet_13 : decode cX5_sheet 13 = .ok (.ifCond .ne 9, 3) := by decide +kernel
theorem dX5_sheet_16 : decode cX5_sheet 16 = .ok (.iload_n 3, 1) := by decide +kernel
theorem dX5_sheet_17 : decode cX5_sheet 17 = .ok (.bipush 40, 2) := by decide +kernel
theorem dX5_sheet_19 : decode cX5_sheet 19 = .ok (.if_icmp .le 5, 3) := by decide +kernel
theorem dX5_sheet_22 : decode cX5_sheet 22 = .ok (.iconst (-1), 1) := by decide +kernel
theorem dX5_sheet_23 : decode cX5_sheet 23 = .ok (.ireturn, 1) := by decide +kernel
theorem dX5_sheet_24 : decode cX5_sheet 24 = .ok (.iload_n 3, 1) := by decide +kernel
theorem dX5_sheet_25 : decode cX5_sheet 25 = .ok (.ifCond .ge 6, 3) := by decide +kernel
theorem dX5_sheet_28 : decode cX5_sheet 28 = .ok (.bipush (-14), 2) := by decide +kernel
theorem dX5_sheet_30 : decode cX5_sheet 30 = .ok (.ireturn, 1) := by decide +kernel
theorem dX5_sheet_31 : decode cX5_sheet 31 = .ok (.aload_n 0, 1) := by decide +kernel
theorem dX5_sheet_32 : decode cX5_sheet 32 = .ok (.getfield 43, 3) := by decide +kernel
theorem dX5_sheet_35 : decode cX5_sheet 35 = .ok (.iload_n 1, 1) := by decide +kernel
theorem dX5_sheet_36 : decode cX5_sheet 36 = .ok (.aaload, 1) := by decide +kernel
theorem dX5_sheet_37 : decode cX5_sheet 37 = .ok (.iload_n 2, 1) := by decide +kernel
theorem dX5_sheet_38 : decode cX5_sheet 38 = .ok (.iload_n 3, 1) := by decide +kernel
theorem dX5_sheet_39 : decode cX5_sheet 39 = .ok (.invokevirtual 261, 3) := by decide +kernel
theorem dX5_sheet_42 : decode cX5_sheet 42 = .ok (.iconst 1, 1) := by decide +kernel
theorem dX5_sheet_43 : decode cX5_sheet 43 = .ok (.ireturn, 1) := by decide +kernel
theorem dX5_lay_0 : decode cX5_lay 0 = .ok (.iload_n 1, 1) := by decide +kernel
theorem dX5_lay_1 : decode cX5_lay 1 = .ok (.invokestatic 258, 3) := by decide +kernel
theorem dX5_lay_4 : decode cX5_lay 4 = .ok (.ifCond .eq 5, 3) := by decide +kernel
theorem dX5_lay_7 : decode cX5_lay 7 = .ok (.iconst (-1), 1) := by decide +kernel
theorem dX5_lay_8 : decode cX5_lay 8 = .ok (.ireturn, 1) := by decide +kernel
theorem dX5_lay_9 : decode cX5_lay 9 = .ok (.aload_n 0, 1) := by decide +kernel
theorem dX5_lay_10 : decode cX5_lay 10 = .ok (.getfield 43, 3) := by decide +kernel
theorem dX5_lay_13 : decode cX5_lay 13 = .ok (.iload_n 1, 1) := by decide +kernel
theorem dX5_lay_14 : decode cX5_lay 14 = .ok (.aaload, 1) := by decide +kernel
theorem dX5_lay_15 : decode cX5_lay 15 = .ok (.astore 4, 2) := by decide +kernel
theorem dX5_lay_17 : decode cX5_lay 17 = .ok (.aload 4, 2) := by decide +kernel
theorem dX5_lay_19 : decode cX5_lay 19 = .ok (.aload 4, 2) := by decide +kernel
theorem dX5_lay_21 : decode cX5_lay 21 = .ok (.getfield 264, 3) := by decide +kernel
theorem dX5_lay_24 : decode cX5_lay 24 = .ok (.iload_n 2, 1) := by decide +kernel
theorem dX5_lay_25 : decode cX5_lay 25 = .ok (.invokevirtual 267, 3) := by decide +kernel
theorem dX5_lay_28 : decode cX5_lay 28 = .ok (.istore 5, 2) := by decide +kernel
theorem dX5_lay_30 : decode cX5_lay 30 = .ok (.iload 5, 2) := by decide +kernel
theorem dX5_lay_32 : decode cX5_lay 32 = .ok (.ifCond .eq 9, 3) := by decide +kernel
theorem dX5_lay_35 : decode cX5_lay 35 = .ok (.bipush (-10), 2) := by decide +kernel
theorem dX5_lay_37 : decode cX5_lay 37 = .ok (.iload 5, 2) := by decide +kernel
theorem dX5_lay_39 : decode cX5_lay 39 = .ok (.isub, 1) := by decide +kernel
theorem dX5_lay_40 : decode cX5_lay 40 = .ok (.ireturn, 1) := by decide +kernel
theorem dX5_lay_41 : decode cX5_lay 41 = .ok (.aload 4, 2) := by decide +kernel
theorem dX5_lay_43 : decode cX5_lay 43 = .ok (.iload_n 2, 1) := by decide +kernel
theorem dX5_lay_44 : decode cX5_lay 44 = .ok (.iload_n 3, 1) := by decide +kernel
theorem dX5_lay_45 : decode cX5_lay 45 = .ok (.invokevirtual 270, 3) := by decide +kernel
theorem dX5_lay_48 : decode cX5_lay 48 = .ok (.iconst 1, 1) := by decide +kernel
theorem dX5_lay_49 : decode cX5_lay 49 = .ok (.ireturn, 1) := by decide +kernel
theorem dX5_read_0 : decode cX5_read 0 = .ok (.iload_n 1, 1) := by decide +kernel
theorem dX5_read_1 : decode cX5_read 1 = .ok (.invokestatic 258, 3) := by decide +kernel
theorem dX5_read_4 : decode cX5_read 4 = .ok (.ifCond .ne 23, 3) := by decide +kernel
theorem dX5_read_7 : decode cX5_read 7 = .ok (.iload_n 2, 1) := by decide +kernel
theorem dX5_read_8 : decode cX5_read 8 = .ok (.iconst 0, 1) := by decide +kernel
theorem dX5_read_9 : decode cX5_read 9 = .ok (.iconst 2, 1) := by decide +kernel
theorem dX5_read_10 : decode cX5_read 10 = .ok (.invokestatic 58, 3) := by decide +kernel
theorem dX5_read_13 : decode cX5_read 13 = .ok (.ifCond .ne 14, 3) := by decide +kernel
theorem dX5_read_16 : decode cX5_read 16 = .ok (.iload 4, 2) := by decide +kernel
theorem dX5_read_18 : decode cX5_read 18 = .ok (.iconst 0, 1) := by decide +kernel
theorem dX5_read_19 : decode cX5_read 19 = .ok (.bipush 20, 2) := by decide +kernel
theorem dX5_read_21 : decode cX5_read 21 = .ok (.invokestatic 58, 3) := by decide +kernel
theorem dX5_read_24 : decode cX5_read 24 = .ok (.ifCond .eq 5, 3) := by decide +kernel
theorem dX5_read_27 : decode cX5_read 27 = .ok (.iconst (-1), 1) := by decide +kernel
theorem dX5_read_28 : decode cX5_read 28 = .ok (.ireturn, 1) := by decide +kernel
theorem dX5_read_29 : decode cX5_read 29 = .ok (.aload_n 0, 1) := by decide +kernel
theorem dX5_read_30 : decode cX5_read 30 = .ok (.getfield 43, 3) := by decide +kernel
theorem dX5_read_33 : decode cX5_read 33 = .ok (.iload_n 1, 1) := by decide +kernel
theorem dX5_read_34 : decode cX5_read 34 = .ok (.aaload, 1) := by decide +kernel
theorem dX5_read_35 : decode cX5_read 35 = .ok (.astore 5, 2) := by decide +kernel
theorem dX5_read_37 : decode cX5_read 37 = .ok (.iconst 0, 1) := by decide +kernel
theorem dX5_read_38 : decode cX5_read 38 = .ok (.istore 6, 2) := by decide +kernel
theorem dX5_read_40 : decode cX5_read 40 = .ok (.iconst 0, 1) := by decide +kernel
theorem dX5_read_41 : decode cX5_read 41 = .ok (.istore 7, 2) := by decide +kernel
theorem dX5_read_43 : decode cX5_read 43 = .ok (.iconst 0, 1) := by decide +kernel
theorem dX5_read_44 : decode cX5_read 44 = .ok (.istore 8, 2) := by decide +kernel
theorem dX5_read_46 : decode cX5_read 46 = .ok (.iload 8, 2) := by decide +kernel
theorem dX5_read_48 : decode cX5_read 48 = .ok (.iload 4, 2) := by decide +kernel
theorem dX5_read_50 : decode cX5_read 50 = .ok (.if_icmp .ge 72, 3) := by decide +kernel
theorem dX5_read_53 : decode cX5_read 53 = .ok (.iload 6, 2) := by decide +kernel
theorem dX5_read_55 : decode cX5_read 55 = .ok (.ifCond .ne 67, 3) := by decide +kernel
theorem dX5_read_58 : decode cX5_read 58 = .ok (.aload 5, 2) := by decide +kernel
theorem dX5_read_60 : decode cX5_read 60 = .ok (.iload_n 2, 1) := by decide +kernel
theorem dX5_read_61 : decode cX5_read 61 = .ok (.iload_n 3, 1) := by decide +kernel
theorem dX5_read_62 : decode cX5_read 62 = .ok (.iload 8, 2) := by decide +kernel
theorem dX5_read_64 : decode cX5_read 64 = .ok (.invokevirtual 273, 3) := by decide +kernel
theorem dX5_read_67 : decode cX5_read 67 = .ok (.istore 6, 2) := by decide +kernel
theorem dX5_read_69 : decode cX5_read 69 = .ok (.iload 6, 2) := by decide +kernel
theorem dX5_read_71 : decode cX5_read 71 = .ok (.ifCond .ne 45, 3) := by decide +kernel
theorem dX5_read_74 : decode cX5_read 74 = .ok (.aload_n 0, 1) := by decide +kernel
theorem dX5_read_75 : decode cX5_read 75 = .ok (.aload 5, 2) := by decide +kernel
theorem dX5_read_77 : decode cX5_read 77 = .ok (.getfield 276, 3) := by decide +kernel
theorem dX5_read_80 : decode cX5_read 80 = .ok (.iload_n 3, 1) := by decide +kernel
theorem dX5_read_81 : decode cX5_read 81 = .ok (.iconst 2, 1) := by decide +kernel
theorem dX5_read_82 : decode cX5_read 82 = .ok (.iload 8, 2) := by decide +kernel
theorem dX5_read_84 : decode cX5_read 84 = .ok (.imul, 1) := by decide +kernel
theorem dX5_read_85 : decode cX5_read 85 = .ok (.iadd, 1) := by decide +kernel
theorem dX5_read_86 : decode cX5_read 86 = .ok (.iaload, 1) := by decide +kernel
theorem dX5_read_87 : decode cX5_read 87 = .ok (.aload 5, 2) := by decide +kernel
theorem dX5_read_89 : decode cX5_read 89 = .ok (.getfield 276, 3) := by decide +kernel
theorem dX5_read_92 : decode cX5_read 92 = .ok (.iload_n 3, 1) := by decide +kernel
theorem dX5_read_93 : decode cX5_read 93 = .ok (.iconst 2, 1) := by decide +kernel
theorem dX5_read_94 : decode cX5_read 94 = .ok (.iload 8, 2) := by decide +kernel
theorem dX5_read_96 : decode cX5_read 96 = .ok (.imul, 1) := by decide +kernel
theorem dX5_read_97 : decode cX5_read 97 = .ok (.iadd, 1) := by decide +kernel
theorem dX5_read_98 : decode cX5_read 98 = .ok (.iconst 1, 1) := by decide +kernel
theorem dX5_read_99 : decode cX5_read 99 = .ok (.iadd, 1) := by decide +kernel
theorem dX5_read_100 : decode cX5_read 100 = .ok (.iaload, 1) := by decide +kernel
theorem dX5_read_101 : decode cX5_read 101 = .ok (.invokevirtual 153, 3) := by decide +kernel
theorem dX5_read_104 : decode cX5_read 104 = .ok (.ifCond .eq 9, 3) := by decide +kernel
theorem dX5_read_107 : decode cX5_read 107 = .ok (.bipush (-20), 2) := by decide +kernel
theorem dX5_read_109 : decode cX5_read 109 = .ok (.iload 8, 2) := by decide +kernel
theorem dX5_read_111 : decode cX5_read 111 = .ok (.isub, 1) := by decide +kernel
theorem dX5_read_112 : decode cX5_read 112 = .ok (.ireturn, 1) := by decide +kernel
theorem dX5_read_113 : decode cX5_read 113 = .ok (.iinc 7 1, 3) := by decide +kernel
theorem dX5_read_116 : decode cX5_read 116 = .ok (.iinc 8 1, 3) := by decide +kernel
theorem dX5_read_119 : decode cX5_read 119 = .ok (.goto (-73), 3) := by decide +kernel
theorem dX5_read_122 : decode cX5_read 122 = .ok (.iconst 0, 1) := by decide +kernel
theorem dX5_read_123 : decode cX5_read 123 = .ok (.istore 8, 2) := by decide +kernel
theorem dX5_read_125 : decode cX5_read 125 = .ok (.iload 8, 2) := by decide +kernel
theorem dX5_read_127 : decode cX5_read 127 = .ok (.iload 7, 2) := by decide +kernel
theorem dX5_read_129 : decode cX5_read 129 = .ok (.if_icmp .ge 43, 3) := by decide +kernel
theorem dX5_read_132 : decode cX5_read 132 = .ok (.aload_n 0, 1) := by decide +kernel
theorem dX5_read_133 : decode cX5_read 133 = .ok (.getfield 19, 3) := by decide +kernel
theorem dX5_read_136 : decode cX5_read 136 = .ok (.getfield 137, 3) := by decide +kernel
theorem dX5_read_139 : decode cX5_read 139 = .ok (.aload 5, 2) := by decide +kernel
theorem dX5_read_141 : decode cX5_read 141 = .ok (.getfield 276, 3) := by decide +kernel
theorem dX5_read_144 : decode cX5_read 144 = .ok (.iload_n 3, 1) := by decide +kernel
theorem dX5_read_145 : decode cX5_read 145 = .ok (.iconst 2, 1) := by decide +kernel
theorem dX5_read_146 : decode cX5_read 146 = .ok (.iload 8, 2) := by decide +kernel
theorem dX5_read_148 : decode cX5_read 148 = .ok (.imul, 1) := by decide +kernel
theorem dX5_read_149 : decode cX5_read 149 = .ok (.iadd, 1) := by decide +kernel
theorem dX5_read_150 : decode cX5_read 150 = .ok (.iaload, 1) := by decide +kernel
theorem dX5_read_151 : decode cX5_read 151 = .ok (.aload 5, 2) := by decide +kernel
theorem dX5_read_153 : decode cX5_read 153 = .ok (.getfield 276, 3) := by decide +kernel
theorem dX5_read_156 : decode cX5_read 156 = .ok (.iload_n 3, 1) := by decide +kernel
theorem dX5_read_157 : decode cX5_read 157 = .ok (.iconst 2, 1) := by decide +kernel
theorem dX5_read_158 : decode cX5_read 158 = .ok (.iload 8, 2) := by decide +kernel
theorem dX5_read_160 : decode cX5_read 160 = .ok (.imul, 1) := by decide +kernel
theorem dX5_read_161 : decode cX5_read 161 = .ok (.iadd, 1) := by decide +kernel
theorem dX5_read_162 : decode cX5_read 162 = .ok (.iconst 1, 1) := by decide +kernel
theorem dX5_read_163 : decode cX5_read 163 = .ok (.iadd, 1) := by decide +kernel
theorem dX5_read_164 : decode cX5_read 164 = .ok (.iaload, 1) := by decide +kernel
theorem dX5_read_165 : decode cX5_read 165 = .ok (.iastore, 1) := by decide +kernel
theorem dX5_read_166 : decode cX5_read 166 = .ok (.iinc 8 1, 3) := by decide +kernel
theorem dX5_read_169 : decode cX5_read 169 = .ok (.goto (-44), 3) := by decide +kernel
theorem dX5_read_172 : decode cX5_read 172 = .ok (.aload_n 0, 1) := by decide +kernel
theorem dX5_read_173 : decode cX5_read 173 = .ok (.iload 6, 2) := by decide +kernel
theorem dX5_read_175 : decode cX5_read 175 = .ok (.putfield 279, 3) := by decide +kernel
theorem dX5_read_178 : decode cX5_read 178 = .ok (.iload 7, 2) := by decide +kernel
theorem dX5_read_180 : decode cX5_read 180 = .ok (.ireturn, 1) := by decide +kernel
theorem dX5_torn_0 : decode cX5_torn 0 = .ok (.aload_n 0, 1) := by decide +kernel
theorem dX5_torn_1 : decode cX5_torn 1 = .ok (.getfield 279, 3) := by decide +kernel
theorem dX5_torn_4 : decode cX5_torn 4 = .ok (.ireturn, 1) := by decide +kernel
theorem dX5_count_0 : decode cX5_count 0 = .ok (.iload_n 1, 1) := by decide +kernel
theorem dX5_count_1 : decode cX5_count 1 = .ok (.tableswitch 131 0 5 #[39, 50, 80, 88, 115, 123], 39) := by decide +kernel
theorem dX5_count_40 : decode cX5_count 40 = .ok (.aload_n 0, 1) := by decide +kernel
theorem dX5_count_41 : decode cX5_count 41 = .ok (.getfield 19, 3) := by decide +kernel
theorem dX5_count_44 : decode cX5_count 44 = .ok (.getfield 226, 3) := by decide +kernel
theorem dX5_count_47 : decode cX5_count 47 = .ok (.getfield 230, 3) := by decide +kernel
theorem dX5_count_50 : decode cX5_count 50 = .ok (.ireturn, 1) := by decide +kernel
theorem dX5_count_51 : decode cX5_count 51 = .ok (.aload_n 0, 1) := by decide +kernel
theorem dX5_count_52 : decode cX5_count 52 = .ok (.getfield 37, 3) := by decide +kernel
theorem dX5_count_55 : decode cX5_count 55 = .ok (.iconst 0, 1) := by decide +kernel
theorem dX5_count_56 : decode cX5_count 56 = .ok (.baload, 1) := by decide +kernel
theorem dX5_count_57 : decode cX5_count 57 = .ok (.ifCond .eq 7, 3) := by decide +kernel
theorem dX5_count_60 : decode cX5_count 60 = .ok (.iconst 1, 1) := by decide +kernel
theorem dX5_count_61 : decode cX5_count 61 = .ok (.goto 4, 3) := by decide +kernel
theorem dX5_count_64 : decode cX5_count 64 = .ok (.iconst 0, 1) := by decide +kernel
theorem dX5_count_65 : decode cX5_count 65 = .ok (.aload_n 0, 1) := by decide +kernel
theorem dX5_count_66 : decode cX5_count 66 = .ok (.getfield 37, 3) := by decide +kernel
theorem dX5_count_69 : decode cX5_count 69 = .ok (.iconst 1, 1) := by decide +kernel
theorem dX5_count_70 : decode cX5_count 70 = .ok (.baload, 1) := by decide +kernel
theorem dX5_count_71 : decode cX5_count 71 = .ok (.ifCond .eq 7, 3) := by decide +kernel
theorem dX5_count_74 : decode cX5_count 74 = .ok (.iconst 1, 1) := by decide +kernel
theorem dX5_count_75 : decode cX5_count 75 = .ok (.goto 4, 3) := by decide +kernel
theorem dX5_count_78 : decode cX5_count 78 = .ok (.iconst 0, 1) := by decide +kernel
theorem dX5_count_79 : decode cX5_count 79 = .ok (.iadd, 1) := by decide +kernel
theorem dX5_count_80 : decode cX5_count 80 = .ok (.ireturn, 1) := by decide +kernel
theorem dX5_count_81 : decode cX5_count 81 = .ok (.aload_n 0, 1) := by decide +kernel
theorem dX5_count_82 : decode cX5_count 82 = .ok (.getfield 10, 3) := by decide +kernel
theorem dX5_count_85 : decode cX5_count 85 = .ok (.getfield 62, 3) := by decide +kernel
theorem dX5_count_88 : decode cX5_count 88 = .ok (.ireturn, 1) := by decide +kernel
theorem dX5_count_89 : decode cX5_count 89 = .ok (.aload_n 0, 1) := by decide +kernel
theorem dX5_count_90 : decode cX5_count 90 = .ok (.getfield 43, 3) := by decide +kernel
theorem dX5_count_93 : decode cX5_count 93 = .ok (.iconst 0, 1) := by decide +kernel
theorem dX5_count_94 : decode cX5_count 94 = .ok (.aaload, 1) := by decide +kernel
theorem dX5_count_95 : decode cX5_count 95 = .ok (.getfield 282, 3) := by decide +kernel
theorem dX5_count_98 : decode cX5_count 98 = .ok (.ifCond .eq 15, 3) := by decide +kernel
theorem dX5_count_101 : decode cX5_count 101 = .ok (.aload_n 0, 1) := by decide +kernel
theorem dX5_count_102 : decode cX5_count 102 = .ok (.getfield 43, 3) := by decide +kernel
theorem dX5_count_105 : decode cX5_count 105 = .ok (.iconst 0, 1) := by decide +kernel
theorem dX5_count_106 : decode cX5_count 106 = .ok (.aaload, 1) := by decide +kernel
theorem dX5_count_107 : decode cX5_count 107 = .ok (.getfield 286, 3) := by decide +kernel
theorem dX5_count_110 : decode cX5_count 110 = .ok (.goto 5, 3) := by decide +kernel
theorem dX5_count_113 : decode cX5_count 113 = .ok (.bipush (-4), 2) := by decide +kernel
theorem dX5_count_115 : decode cX5_count 115 = .ok (.ireturn, 1) := by decide +kernel
theorem dX5_count_116 : decode cX5_count 116 = .ok (.aload_n 0, 1) := by decide +kernel
theorem dX5_count_117 : decode cX5_count 117 = .ok (.getfield 19, 3) := by decide +kernel
theorem dX5_count_120 : decode cX5_count 120 = .ok (.invokevirtual 287, 3) := by decide +kernel
theorem dX5_count_123 : decode cX5_count 123 = .ok (.ireturn, 1) := by decide +kernel
theorem dX5_count_124 : decode cX5_count 124 = .ok (.aload_n 0, 1) := by decide +kernel
theorem dX5_count_125 : decode cX5_count 125 = .ok (.getfield 19, 3) := by decide +kernel
theorem dX5_count_128 : decode cX5_count 128 = .ok (.invokevirtual 290, 3) := by decide +kernel
theorem dX5_count_131 : decode cX5_count 131 = .ok (.ireturn, 1) := by decide +kernel
theorem dX5_count_132 : decode cX5_count 132 = .ok (.iconst (-1), 1) := by decide +kernel
theorem dX5_count_133 : decode cX5_count 133 = .ok (.ireturn, 1) := by decide +kernel
theorem dX5_outside_0 : decode cX5_outside 0 = .ok (.iload_n 0, 1) := by decide +kernel
theorem dX5_outside_1 : decode cX5_outside 1 = .ok (.iload_n 1, 1) := by decide +kernel
theorem dX5_outside_2 : decode cX5_outside 2 = .ok (.if_icmp .lt 8, 3) := by decide +kernel
theorem dX5_outside_5 : decode cX5_outside 5 = .ok (.iload_n 0, 1) := by decide +kernel
theorem dX5_outside_6 : decode cX5_outside 6 = .ok (.iload_n 2, 1) := by decide +kernel
theorem dX5_outside_7 : decode cX5_outside 7 = .ok (.if_icmp .le 7, 3) := by decide +kernel
theorem dX5_outside_10 : decode cX5_outside 10 = .ok (.iconst 1, 1) := by decide +kernel
theorem dX5_outside_11 : decode cX5_outside 11 = .ok (.goto 4, 3) := by decide +kernel
theorem dX5_outside_14 : decode cX5_outside 14 = .ok (.iconst 0, 1) := by decide +kernel
theorem dX5_outside_15 : decode cX5_outside 15 = .ok (.ireturn, 1) := by decide +kernel
theorem dX5_noHead_0 : decode cX5_noHead 0 = .ok (.iload_n 1, 1) := by decide +kernel
theorem dX5_noHead_1 : decode cX5_noHead 1 = .ok (.iconst 0, 1) := by decide +kernel
theorem dX5_noHead_2 : decode cX5_noHead 2 = .ok (.aload_n 0, 1) := by decide +kernel
theorem dX5_noHead_3 : decode cX5_noHead 3 = .ok (.getfield 19, 3) := by decide +kernel
theorem dX5_noHead_6 : decode cX5_noHead 6 = .ok (.getfield 84, 3) := by decide +kernel
theorem dX5_noHead_9 : decode cX5_noHead 9 = .ok (.iconst 1, 1) := by decide +kernel
theorem dX5_noHead_10 : decode cX5_noHead 10 = .ok (.isub, 1) := by decide +kernel
theorem dX5_noHead_11 : decode cX5_noHead 11 = .ok (.invokestatic 58, 3) := by decide +kernel
theorem dX5_noHead_14 : decode cX5_noHead 14 = .ok (.ireturn, 1) := by decide +kernel
theorem dX5_noDot_0 : decode cX5_noDot 0 = .ok (.iload_n 0, 1) := by decide +kernel
theorem dX5_noDot_1 : decode cX5_noDot 1 = .ok (.iconst 0, 1) := by decide +kernel
theorem dX5_noDot_2 : decode cX5_noDot 2 = .ok (.bipush 7, 2) := by decide +kernel
theorem dX5_noDot_4 : decode cX5_noDot 4 = .ok (.invokestatic 58, 3) := by decide +kernel
theorem dX5_noDot_7 : decode cX5_noDot 7 = .ok (.ireturn, 1) := by decide +kernel
theorem dX5_noLine_0 : decode cX5_noLine 0 = .ok (.iload_n 1, 1) := by decide +kernel
theorem dX5_noLine_1 : decode cX5_noLine 1 = .ok (.iconst 0, 1) := by decide +kernel
theorem dX5_noLine_2 : decode cX5_noLine 2 = .ok (.aload_n 0, 1) := by decide +kernel
theorem dX5_noLine_3 : decode cX5_noLine 3 = .ok (.getfield 19, 3) := by decide +kernel
theorem dX5_noLine_6 : decode cX5_noLine 6 = .ok (.getfield 87, 3) := by decide +kernel
theorem dX5_noLine_9 : decode cX5_noLine 9 = .ok (.iconst 1, 1) := by decide +kernel
theorem dX5_noLine_10 : decode cX5_noLine 10 = .ok (.isub, 1) := by decide +kernel
theorem dX5_noLine_11 : decode cX5_noLine 11 = .ok (.invokestatic 58, 3) := by decide +kernel
theorem dX5_noLine_14 : decode cX5_noLine 14 = .ok (.ireturn, 1) := by decide +kernel
theorem dX5_noSheet_0 : decode cX5_noSheet 0 = .ok (.iload_n 0, 1) := by decide +kernel
theorem dX5_noSheet_1 : decode cX5_noSheet 1 = .ok (.iconst 0, 1) := by decide +kernel
theorem dX5_noSheet_2 : decode cX5_noSheet 2 = .ok (.iconst 3, 1) := by decide +kernel
theorem dX5_noSheet_3 : decode cX5_noSheet 3 = .ok (.invokestatic 58, 3) := by decide +kernel
theorem dX5_noSheet_6 : decode cX5_noSheet 6 = .ok (.ireturn, 1) := by decide +kernel
theorem dX5_lineRefused_0 : decode cX5_lineRefused 0 = .ok (.aload_n 0, 1) := by decide +kernel
theorem dX5_lineRefused_1 : decode cX5_lineRefused 1 = .ok (.iload_n 1, 1) := by decide +kernel
theorem dX5_lineRefused_2 : decode cX5_lineRefused 2 = .ok (.invokevirtual 134, 3) := by decide +kernel
theorem dX5_lineRefused_5 : decode cX5_lineRefused 5 = .ok (.ifCond .ne 14, 3) := by decide +kernel
theorem dX5_lineRefused_8 : decode cX5_lineRefused 8 = .ok (.iload_n 2, 1) := by decide +kernel
theorem dX5_lineRefused_9 : decode cX5_lineRefused 9 = .ok (.iconst 0, 1) := by decide +kernel
theorem dX5_lineRefused_10 : decode cX5_lineRefused 10 = .ok (.sipush 255, 3) := by decide +kernel
theorem dX5_lineRefused_13 : decode cX5_lineRefused 13 = .ok (.invokestatic 58, 3) := by decide +kernel
theorem dX5_lineRefused_16 : decode cX5_lineRefused 16 = .ok (.ifCond .eq 7, 3) := by decide +kernel
theorem dX5_lineRefused_19 : decode cX5_lineRefused 19 = .ok (.iconst 1, 1) := by decide +kernel
theorem dX5_lineRefused_20 : decode cX5_lineRefused 20 = .ok (.goto 4, 3) := by decide +kernel
theorem dX5_lineRefused_23 : decode cX5_lineRefused 23 = .ok (.iconst 0, 1) := by decide +kernel
theorem dX5_lineRefused_24 : decode cX5_lineRefused 24 = .ok (.ireturn, 1) := by decide +kernel
theorem dX5_badRows_0 : decode cX5_badRows 0 = .ok (.iload_n 0, 1) := by decide +kernel
theorem dX5_badRows_1 : decode cX5_badRows 1 = .ok (.iconst 0, 1) := by decide +kernel
theorem dX5_badRows_2 : decode cX5_badRows 2 = .ok (.bipush 60, 2) := by decide +kernel
theorem dX5_badRows_4 : decode cX5_badRows 4 = .ok (.invokestatic 58, 3) := by decide +kernel
theorem dX5_badRows_7 : decode cX5_badRows 7 = .ok (.ireturn, 1) := by decide +kernel
theorem dX5_badOdds_0 : decode cX5_badOdds 0 = .ok (.iload_n 0, 1) := by decide +kernel
theorem dX5_badOdds_1 : decode cX5_badOdds 1 = .ok (.iconst 0, 1) := by decide +kernel
theorem dX5_badOdds_2 : decode cX5_badOdds 2 = .ok (.bipush 10, 2) := by decide +kernel
theorem dX5_badOdds_4 : decode cX5_badOdds 4 = .ok (.invokestatic 58, 3) := by decide +kernel
theorem dX5_badOdds_7 : decode cX5_badOdds 7 = .ok (.ifCond .ne 22, 3) := by decide +kernel
theorem dX5_badOdds_10 : decode cX5_badOdds 10 = .ok (.iload_n 1, 1) := by decide +kernel
theorem dX5_badOdds_11 : decode cX5_badOdds 11 = .ok (.iconst 0, 1) := by decide +kernel
theorem dX5_badOdds_12 : decode cX5_badOdds 12 = .ok (.bipush 6, 2) := by decide +kernel
theorem dX5_badOdds_14 : decode cX5_badOdds 14 = .ok (.invokestatic 58, 3) := by decide +kernel
theorem dX5_badOdds_17 : decode cX5_badOdds 17 = .ok (.ifCond .ne 12, 3) := by decide +kernel
theorem dX5_badOdds_20 : decode cX5_badOdds 20 = .ok (.iload_n 2, 1) := by decide +kernel
theorem dX5_badOdds_21 : decode cX5_badOdds 21 = .ok (.iconst 0, 1) := by decide +kernel
theorem dX5_badOdds_22 : decode cX5_badOdds 22 = .ok (.iconst 1, 1) := by decide +kernel
theorem dX5_badOdds_23 : decode cX5_badOdds 23 = .ok (.invokestatic 58, 3) := by decide +kernel
theorem dX5_badOdds_26 : decode cX5_badOdds 26 = .ok (.ifCond .eq 7, 3) := by decide +kernel
theorem dX5_badOdds_29 : decode cX5_badOdds 29 = .ok (.iconst 1, 1) := by decide +kernel
theorem dX5_badOdds_30 : decode cX5_badOdds 30 = .ok (.goto 4, 3) := by decide +kernel
theorem dX5_badOdds_33 : decode cX5_badOdds 33 = .ok (.iconst 0, 1) := by decide +kernel
theorem dX5_badOdds_34 : decode cX5_badOdds 34 = .ok (.ireturn, 1) := by decide +kernel
theorem dX5_mostOf_0 : decode cX5_mostOf 0 = .ok (.iload_n 0, 1) := by decide +kernel
theorem dX5_mostOf_1 : decode cX5_mostOf 1 = .ok (.ifCond .ne 7, 3) := by decide +kernel
theorem dX5_mostOf_4 : decode cX5_mostOf 4 = .ok (.iconst 3, 1) := by decide +kernel
theorem dX5_mostOf_5 : decode cX5_mostOf 5 = .ok (.goto 5, 3) := by decide +kernel
theorem dX5_mostOf_8 : decode cX5_mostOf 8 = .ok (.bipush 30, 2) := by decide +kernel
theorem dX5_mostOf_10 : decode cX5_mostOf 10 = .ok (.ireturn, 1) := by decide +kernel
theorem dX5_burnLone_0 : decode cX5_burnLone 0 = .ok (.aload_n 0, 1) := by decide +kernel
theorem dX5_burnLone_1 : decode cX5_burnLone 1 = .ok (.getfield 29, 3) := by decide +kernel
theorem dX5_burnLone_4 : decode cX5_burnLone 4 = .ok (.aload_n 0, 1) := by decide +kernel
theorem dX5_burnLone_5 : decode cX5_burnLone 5 = .ok (.getfield 19, 3) := by decide +kernel
theorem dX5_burnLone_8 : decode cX5_burnLone 8 = .ok (.aload_n 0, 1) := by decide +kernel
theorem dX5_burnLone_9 : decode cX5_burnLone 9 = .ok (.getfield 19, 3) := by decide +kernel
theorem dX5_burnLone_12 : decode cX5_burnLone 12 = .ok (.iload_n 1, 1) := by decide +kernel
theorem dX5_burnLone_13 : decode cX5_burnLone 13 = .ok (.invokevirtual 100, 3) := by decide +kernel
theorem dX5_burnLone_16 : decode cX5_burnLone 16 = .ok (.aload_n 0, 1) := by decide +kernel
theorem dX5_burnLone_17 : decode cX5_burnLone 17 = .ok (.getfield 19, 3) := by decide +kernel
theorem dX5_burnLone_20 : decode cX5_burnLone 20 = .ok (.iload_n 1, 1) := by decide +kernel
theorem dX5_burnLone_21 : decode cX5_burnLone 21 = .ok (.iconst 1, 1) := by decide +kernel
theorem dX5_burnLone_22 : decode cX5_burnLone 22 = .ok (.iadd, 1) := by decide +kernel
theorem dX5_burnLone_23 : decode cX5_burnLone 23 = .ok (.invokevirtual 100, 3) := by decide +kernel
theorem dX5_burnLone_26 : decode cX5_burnLone 26 = .ok (.iload_n 2, 1) := by decide +kernel
theorem dX5_burnLone_27 : decode cX5_burnLone 27 = .ok (.invokevirtual 293, 3) := by decide +kernel
theorem dX5_burnLone_30 : decode cX5_burnLone 30 = .ok (.ireturn, 1) := by decide +kernel
theorem dX5_wrongOfLone_0 : decode cX5_wrongOfLone 0 = .ok (.iconst 0, 1) := by decide +kernel
theorem dX5_wrongOfLone_1 : decode cX5_wrongOfLone 1 = .ok (.istore_n 3, 1) := by decide +kernel
theorem dX5_wrongOfLone_2 : decode cX5_wrongOfLone 2 = .ok (.iconst 0, 1) := by decide +kernel
theorem dX5_wrongOfLone_3 : decode cX5_wrongOfLone 3 = .ok (.istore 4, 2) := by decide +kernel
theorem dX5_wrongOfLone_5 : decode cX5_wrongOfLone 5 = .ok (.iload 4, 2) := by decide +kernel
theorem dX5_wrongOfLone_7 : decode cX5_wrongOfLone 7 = .ok (.iload_n 1, 1) := by decide +kernel
theorem dX5_wrongOfLone_8 : decode cX5_wrongOfLone 8 = .ok (.if_icmp .ge 37, 3) := by decide +kernel
theorem dX5_wrongOfLone_11 : decode cX5_wrongOfLone 11 = .ok (.iload_n 3, 1) := by decide +kernel
theorem dX5_wrongOfLone_12 : decode cX5_wrongOfLone 12 = .ok (.iload_n 2, 1) := by decide +kernel
theorem dX5_wrongOfLone_13 : decode cX5_wrongOfLone 13 = .ok (.if_icmp .ge 32, 3) := by decide +kernel
theorem dX5_wrongOfLone_16 : decode cX5_wrongOfLone 16 = .ok (.iload_n 3, 1) := by decide +kernel
theorem dX5_wrongOfLone_17 : decode cX5_wrongOfLone 17 = .ok (.aload_n 0, 1) := by decide +kernel
theorem dX5_wrongOfLone_18 : decode cX5_wrongOfLone 18 = .ok (.iload 4, 2) := by decide +kernel
theorem dX5_wrongOfLone_20 : decode cX5_wrongOfLone 20 = .ok (.iconst 1, 1) := by decide +kernel
theorem dX5_wrongOfLone_21 : decode cX5_wrongOfLone 21 = .ok (.invokevirtual 179, 3) := by decide +kernel
theorem dX5_wrongOfLone_24 : decode cX5_wrongOfLone 24 = .ok (.aload_n 0, 1) := by decide +kernel
theorem dX5_wrongOfLone_25 : decode cX5_wrongOfLone 25 = .ok (.getfield 19, 3) := by decide +kernel
theorem dX5_wrongOfLone_28 : decode cX5_wrongOfLone 28 = .ok (.iload 4, 2) := by decide +kernel
theorem dX5_wrongOfLone_30 : decode cX5_wrongOfLone 30 = .ok (.invokevirtual 100, 3) := by decide +kernel
theorem dX5_wrongOfLone_33 : decode cX5_wrongOfLone 33 = .ok (.ixor, 1) := by decide +kernel
theorem dX5_wrongOfLone_34 : decode cX5_wrongOfLone 34 = .ok (.invokestatic 242, 3) := by decide +kernel
theorem dX5_wrongOfLone_37 : decode cX5_wrongOfLone 37 = .ok (.iadd, 1) := by decide +kernel
theorem dX5_wrongOfLone_38 : decode cX5_wrongOfLone 38 = .ok (.istore_n 3, 1) := by decide +kernel
theorem dX5_wrongOfLone_39 : decode cX5_wrongOfLone 39 = .ok (.iinc 4 1, 3) := by decide +kernel
theorem dX5_wrongOfLone_42 : decode cX5_wrongOfLone 42 = .ok (.goto (-37), 3) := by decide +kernel
theorem dX5_wrongOfLone_45 : decode cX5_wrongOfLone 45 = .ok (.iload_n 3, 1) := by decide +kernel
theorem dX5_wrongOfLone_46 : decode cX5_wrongOfLone 46 = .ok (.ireturn, 1) := by decide +kernel
theorem dX5_bestDrive_0 : decode cX5_bestDrive 0 = .ok (.aload_n 0, 1) := by decide +kernel
theorem dX5_bestDrive_1 : decode cX5_bestDrive 1 = .ok (.iload_n 1, 1) := by decide +kernel
theorem dX5_bestDrive_2 : decode cX5_bestDrive 2 = .ok (.invokevirtual 104, 3) := by decide +kernel
theorem dX5_bestDrive_5 : decode cX5_bestDrive 5 = .ok (.ifCond .ne 20, 3) := by decide +kernel
theorem dX5_bestDrive_8 : decode cX5_bestDrive 8 = .ok (.iload_n 3, 1) := by decide +kernel
theorem dX5_bestDrive_9 : decode cX5_bestDrive 9 = .ok (.invokestatic 157, 3) := by decide +kernel
theorem dX5_bestDrive_12 : decode cX5_bestDrive 12 = .ok (.ifCond .ne 13, 3) := by decide +kernel
theorem dX5_bestDrive_15 : decode cX5_bestDrive 15 = .ok (.iload 4, 2) := by decide +kernel
theorem dX5_bestDrive_17 : decode cX5_bestDrive 17 = .ok (.iconst 0, 1) := by decide +kernel
theorem dX5_bestDrive_18 : decode cX5_bestDrive 18 = .ok (.iconst 1, 1) := by decide +kernel
theorem dX5_bestDrive_19 : decode cX5_bestDrive 19 = .ok (.invokestatic 58, 3) := by decide +kernel
theorem dX5_bestDrive_22 : decode cX5_bestDrive 22 = .ok (.ifCond .eq 5, 3) := by decide +kernel
theorem dX5_bestDrive_25 : decode cX5_bestDrive 25 = .ok (.iconst (-1), 1) := by decide +kernel
theorem dX5_bestDrive_26 : decode cX5_bestDrive 26 = .ok (.ireturn, 1) := by decide +kernel
theorem dX5_bestDrive_27 : decode cX5_bestDrive 27 = .ok (.ldc 193, 2) := by decide +kernel
theorem dX5_bestDrive_29 : decode cX5_bestDrive 29 = .ok (.istore 5, 2) := by decide +kernel
theorem dX5_bestDrive_31 : decode cX5_bestDrive 31 = .ok (.iconst 0, 1) := by decide +kernel
theorem dX5_bestDrive_32 : decode cX5_bestDrive 32 = .ok (.istore 6, 2) := by decide +kernel
theorem dX5_bestDrive_34 : decode cX5_bestDrive 34 = .ok (.iconst 0, 1) := by decide +kernel
theorem dX5_bestDrive_35 : decode cX5_bestDrive 35 = .ok (.istore 7, 2) := by decide +kernel
theorem dX5_bestDrive_37 : decode cX5_bestDrive 37 = .ok (.iload 7, 2) := by decide +kernel
theorem dX5_bestDrive_39 : decode cX5_bestDrive 39 = .ok (.iload_n 2, 1) := by decide +kernel
theorem dX5_bestDrive_40 : decode cX5_bestDrive 40 = .ok (.invokestatic 140, 3) := by decide +kernel
theorem dX5_bestDrive_43 : decode cX5_bestDrive 43 = .ok (.if_icmp .gt 59, 3) := by decide +kernel
theorem dX5_bestDrive_46 : decode cX5_bestDrive 46 = .ok (.aload_n 0, 1) := by decide +kernel
theorem dX5_bestDrive_47 : decode cX5_bestDrive 47 = .ok (.getfield 29, 3) := by decide +kernel
theorem dX5_bestDrive_50 : decode cX5_bestDrive 50 = .ok (.aload_n 0, 1) := by decide +kernel
theorem dX5_bestDrive_51 : decode cX5_bestDrive 51 = .ok (.getfield 19, 3) := by decide +kernel
theorem dX5_bestDrive_54 : decode cX5_bestDrive 54 = .ok (.getfield 108, 3) := by decide +kernel
theorem dX5_bestDrive_57 : decode cX5_bestDrive 57 = .ok (.iload_n 1, 1) := by decide +kernel
theorem dX5_bestDrive_58 : decode cX5_bestDrive 58 = .ok (.aaload, 1) := by decide +kernel
theorem dX5_bestDrive_59 : decode cX5_bestDrive 59 = .ok (.invokevirtual 176, 3) := by decide +kernel
theorem dX5_bestDrive_62 : decode cX5_bestDrive 62 = .ok (.aload_n 0, 1) := by decide +kernel
theorem dX5_bestDrive_63 : decode cX5_bestDrive 63 = .ok (.getfield 29, 3) := by decide +kernel
theorem dX5_bestDrive_66 : decode cX5_bestDrive 66 = .ok (.iload_n 2, 1) := by decide +kernel
theorem dX5_bestDrive_67 : decode cX5_bestDrive 67 = .ok (.iload 7, 2) := by decide +kernel
theorem dX5_bestDrive_69 : decode cX5_bestDrive 69 = .ok (.invokevirtual 143, 3) := by decide +kernel
theorem dX5_bestDrive_72 : decode cX5_bestDrive 72 = .ok (.aload_n 0, 1) := by decide +kernel
theorem dX5_bestDrive_73 : decode cX5_bestDrive 73 = .ok (.iload_n 3, 1) := by decide +kernel
theorem dX5_bestDrive_74 : decode cX5_bestDrive 74 = .ok (.iload 5, 2) := by decide +kernel
theorem dX5_bestDrive_76 : decode cX5_bestDrive 76 = .ok (.invokevirtual 296, 3) := by decide +kernel
theorem dX5_bestDrive_79 : decode cX5_bestDrive 79 = .ok (.istore 8, 2) := by decide +kernel
theorem dX5_bestDrive_81 : decode cX5_bestDrive 81 = .ok (.iload 8, 2) := by decide +kernel
theorem dX5_bestDrive_83 : decode cX5_bestDrive 83 = .ok (.iload 5, 2) := by decide +kernel
theorem dX5_bestDrive_85 : decode cX5_bestDrive 85 = .ok (.if_icmp .ge 11, 3) := by decide +kernel
theorem dX5_bestDrive_88 : decode cX5_bestDrive 88 = .ok (.iload 8, 2) := by decide +kernel
theorem dX5_bestDrive_90 : decode cX5_bestDrive 90 = .ok (.istore 5, 2) := by decide +kernel
theorem dX5_bestDrive_92 : decode cX5_bestDrive 92 = .ok (.iload 7, 2) := by decide +kernel
theorem dX5_bestDrive_94 : decode cX5_bestDrive 94 = .ok (.istore 6, 2) := by decide +kernel
theorem dX5_bestDrive_96 : decode cX5_bestDrive 96 = .ok (.iinc 7 1, 3) := by decide +kernel
theorem dX5_bestDrive_99 : decode cX5_bestDrive 99 = .ok (.goto (-62), 3) := by decide +kernel
theorem dX5_bestDrive_102 : decode cX5_bestDrive 102 = .ok (.iload 4, 2) := by decide +kernel
theorem dX5_bestDrive_104 : decode cX5_bestDrive 104 = .ok (.ifCond .ne 8, 3) := by decide +kernel
theorem dX5_bestDrive_107 : decode cX5_bestDrive 107 = .ok (.iload 6, 2) := by decide +kernel
theorem dX5_bestDrive_109 : decode cX5_bestDrive 109 = .ok (.goto 5, 3) := by decide +kernel
theorem dX5_bestDrive_112 : decode cX5_bestDrive 112 = .ok (.iload 5, 2) := by decide +kernel
theorem dX5_bestDrive_114 : decode cX5_bestDrive 114 = .ok (.ireturn, 1) := by decide +kernel
theorem dX5_wrongInTrial_0 : decode cX5_wrongInTrial 0 = .ok (.iconst 0, 1) := by decide +kernel
theorem dX5_wrongInTrial_1 : decode cX5_wrongInTrial 1 = .ok (.istore_n 3, 1) := by decide +kernel
theorem dX5_wrongInTrial_2 : decode cX5_wrongInTrial 2 = .ok (.iconst 0, 1) := by decide +kernel
theorem dX5_wrongInTrial_3 : decode cX5_wrongInTrial 3 = .ok (.istore 4, 2) := by decide +kernel
theorem dX5_wrongInTrial_5 : decode cX5_wrongInTrial 5 = .ok (.iload 4, 2) := by decide +kernel
theorem dX5_wrongInTrial_7 : decode cX5_wrongInTrial 7 = .ok (.iload_n 1, 1) := by decide +kernel
theorem dX5_wrongInTrial_8 : decode cX5_wrongInTrial 8 = .ok (.if_icmp .ge 25, 3) := by decide +kernel
theorem dX5_wrongInTrial_11 : decode cX5_wrongInTrial 11 = .ok (.iload_n 3, 1) := by decide +kernel
theorem dX5_wrongInTrial_12 : decode cX5_wrongInTrial 12 = .ok (.iload_n 2, 1) := by decide +kernel
theorem dX5_wrongInTrial_13 : decode cX5_wrongInTrial 13 = .ok (.if_icmp .ge 20, 3) := by decide +kernel
theorem dX5_wrongInTrial_16 : decode cX5_wrongInTrial 16 = .ok (.iload_n 3, 1) := by decide +kernel
theorem dX5_wrongInTrial_17 : decode cX5_wrongInTrial 17 = .ok (.aload_n 0, 1) := by decide +kernel
theorem dX5_wrongInTrial_18 : decode cX5_wrongInTrial 18 = .ok (.getfield 23, 3) := by decide +kernel
theorem dX5_wrongInTrial_21 : decode cX5_wrongInTrial 21 = .ok (.iconst 1, 1) := by decide +kernel
theorem dX5_wrongInTrial_22 : decode cX5_wrongInTrial 22 = .ok (.invokevirtual 160, 3) := by decide +kernel
theorem dX5_wrongInTrial_25 : decode cX5_wrongInTrial 25 = .ok (.iadd, 1) := by decide +kernel
theorem dX5_wrongInTrial_26 : decode cX5_wrongInTrial 26 = .ok (.istore_n 3, 1) := by decide +kernel
theorem dX5_wrongInTrial_27 : decode cX5_wrongInTrial 27 = .ok (.iinc 4 1, 3) := by decide +kernel
theorem dX5_wrongInTrial_30 : decode cX5_wrongInTrial 30 = .ok (.goto (-25), 3) := by decide +kernel
theorem dX5_wrongInTrial_33 : decode cX5_wrongInTrial 33 = .ok (.iload_n 3, 1) := by decide +kernel
theorem dX5_wrongInTrial_34 : decode cX5_wrongInTrial 34 = .ok (.ireturn, 1) := by decide +kernel
theorem dX5_bestMark_0 : decode cX5_bestMark 0 = .ok (.aload_n 0, 1) := by decide +kernel
theorem dX5_bestMark_1 : decode cX5_bestMark 1 = .ok (.getfield 47, 3) := by decide +kernel
theorem dX5_bestMark_4 : decode cX5_bestMark 4 = .ok (.iconst 0, 1) := by decide +kernel
theorem dX5_bestMark_5 : decode cX5_bestMark 5 = .ok (.invokestatic 299, 3) := by decide +kernel
theorem dX5_bestMark_8 : decode cX5_bestMark 8 = .ok (.aload_n 0, 1) := by decide +kernel
theorem dX5_bestMark_9 : decode cX5_bestMark 9 = .ok (.getfield 23, 3) := by decide +kernel
theorem dX5_bestMark_12 : decode cX5_bestMark 12 = .ok (.aload_n 0, 1) := by decide +kernel
theorem dX5_bestMark_13 : decode cX5_bestMark 13 = .ok (.getfield 19, 3) := by decide +kernel
theorem dX5_bestMark_16 : decode cX5_bestMark 16 = .ok (.invokevirtual 80, 3) := by decide +kernel
theorem dX5_bestMark_19 : decode cX5_bestMark 19 = .ok (.iconst 0, 1) := by decide +kernel
theorem dX5_bestMark_20 : decode cX5_bestMark 20 = .ok (.istore_n 3, 1) := by decide +kernel
theorem dX5_bestMark_21 : decode cX5_bestMark 21 = .ok (.iload_n 3, 1) := by decide +kernel
theorem dX5_bestMark_22 : decode cX5_bestMark 22 = .ok (.iload_n 1, 1) := by decide +kernel
theorem dX5_bestMark_23 : decode cX5_bestMark 23 = .ok (.if_icmp .ge 61, 3) := by decide +kernel
theorem dX5_bestMark_26 : decode cX5_bestMark 26 = .ok (.aload_n 0, 1) := by decide +kernel
theorem dX5_bestMark_27 : decode cX5_bestMark 27 = .ok (.getfield 23, 3) := by decide +kernel
theorem dX5_bestMark_30 : decode cX5_bestMark 30 = .ok (.iconst 1, 1) := by decide +kernel
theorem dX5_bestMark_31 : decode cX5_bestMark 31 = .ok (.invokevirtual 160, 3) := by decide +kernel
theorem dX5_bestMark_34 : decode cX5_bestMark 34 = .ok (.pop, 1) := by decide +kernel
theorem dX5_bestMark_35 : decode cX5_bestMark 35 = .ok (.iconst 0, 1) := by decide +kernel
theorem dX5_bestMark_36 : decode cX5_bestMark 36 = .ok (.istore 4, 2) := by decide +kernel
theorem dX5_bestMark_38 : decode cX5_bestMark 38 = .ok (.iload 4, 2) := by decide +kernel
theorem dX5_bestMark_40 : decode cX5_bestMark 40 = .ok (.aload_n 0, 1) := by decide +kernel
theorem dX5_bestMark_41 : decode cX5_bestMark 41 = .ok (.getfield 23, 3) := by decide +kernel
theorem dX5_bestMark_44 : decode cX5_bestMark 44 = .ok (.getfield 84, 3) := by decide +kernel
theorem dX5_bestMark_47 : decode cX5_bestMark 47 = .ok (.if_icmp .ge 31, 3) := by decide +kernel
theorem dX5_bestMark_50 : decode cX5_bestMark 50 = .ok (.aload_n 0, 1) := by decide +kernel
theorem dX5_bestMark_51 : decode cX5_bestMark 51 = .ok (.aload_n 0, 1) := by decide +kernel
theorem dX5_bestMark_52 : decode cX5_bestMark 52 = .ok (.getfield 23, 3) := by decide +kernel
theorem dX5_bestMark_55 : decode cX5_bestMark 55 = .ok (.getfield 108, 3) := by decide +kernel
theorem dX5_bestMark_58 : decode cX5_bestMark 58 = .ok (.iload 4, 2) := by decide +kernel
theorem dX5_bestMark_60 : decode cX5_bestMark 60 = .ok (.aaload, 1) := by decide +kernel
theorem dX5_bestMark_61 : decode cX5_bestMark 61 = .ok (.aload_n 0, 1) := by decide +kernel
theorem dX5_bestMark_62 : decode cX5_bestMark 62 = .ok (.getfield 19, 3) := by decide +kernel
theorem dX5_bestMark_65 : decode cX5_bestMark 65 = .ok (.iload_n 3, 1) := by decide +kernel
theorem dX5_bestMark_66 : decode cX5_bestMark 66 = .ok (.invokevirtual 100, 3) := by decide +kernel
theorem dX5_bestMark_69 : decode cX5_bestMark 69 = .ok (.invokevirtual 305, 3) := by decide +kernel
theorem dX5_bestMark_72 : decode cX5_bestMark 72 = .ok (.iinc 4 1, 3) := by decide +kernel
theorem dX5_bestMark_75 : decode cX5_bestMark 75 = .ok (.goto (-37), 3) := by decide +kernel
theorem dX5_bestMark_78 : decode cX5_bestMark 78 = .ok (.iinc 3 1, 3) := by decide +kernel
theorem dX5_bestMark_81 : decode cX5_bestMark 81 = .ok (.goto (-60), 3) := by decide +kernel
theorem dX5_bestMark_84 : decode cX5_bestMark 84 = .ok (.ldc 193, 2) := by decide +kernel
theorem dX5_bestMark_86 : decode cX5_bestMark 86 = .ok (.istore_n 3, 1) := by decide +kernel
theorem dX5_bestMark_87 : decode cX5_bestMark 87 = .ok (.iconst 0, 1) := by decide +kernel
theorem dX5_bestMark_88 : decode cX5_bestMark 88 = .ok (.istore 4, 2) := by decide +kernel
theorem dX5_bestMark_90 : decode cX5_bestMark 90 = .ok (.iconst 0, 1) := by decide +kernel
theorem dX5_bestMark_91 : decode cX5_bestMark 91 = .ok (.istore 5, 2) := by decide +kernel
theorem dX5_bestMark_93 : decode cX5_bestMark 93 = .ok (.iconst 1, 1) := by decide +kernel
theorem dX5_bestMark_94 : decode cX5_bestMark 94 = .ok (.istore 6, 2) := by decide +kernel
theorem dX5_bestMark_96 : decode cX5_bestMark 96 = .ok (.iload 6, 2) := by decide +kernel
theorem dX5_bestMark_98 : decode cX5_bestMark 98 = .ok (.bipush 60, 2) := by decide +kernel
theorem dX5_bestMark_100 : decode cX5_bestMark 100 = .ok (.if_icmp .gt 34, 3) := by decide +kernel
theorem dX5_bestMark_103 : decode cX5_bestMark 103 = .ok (.iload 5, 2) := by decide +kernel
theorem dX5_bestMark_105 : decode cX5_bestMark 105 = .ok (.aload_n 0, 1) := by decide +kernel
theorem dX5_bestMark_106 : decode cX5_bestMark 106 = .ok (.getfield 47, 3) := by decide +kernel
theorem dX5_bestMark_109 : decode cX5_bestMark 109 = .ok (.iload 6, 2) := by decide +kernel
theorem dX5_bestMark_111 : decode cX5_bestMark 111 = .ok (.iaload, 1) := by decide +kernel
theorem dX5_bestMark_112 : decode cX5_bestMark 112 = .ok (.iadd, 1) := by decide +kernel
theorem dX5_bestMark_113 : decode cX5_bestMark 113 = .ok (.istore 5, 2) := by decide +kernel
theorem dX5_bestMark_115 : decode cX5_bestMark 115 = .ok (.iload 5, 2) := by decide +kernel
theorem dX5_bestMark_117 : decode cX5_bestMark 117 = .ok (.iload_n 3, 1) := by decide +kernel
theorem dX5_bestMark_118 : decode cX5_bestMark 118 = .ok (.if_icmp .ge 10, 3) := by decide +kernel
theorem dX5_bestMark_121 : decode cX5_bestMark 121 = .ok (.iload 5, 2) := by decide +kernel
theorem dX5_bestMark_123 : decode cX5_bestMark 123 = .ok (.istore_n 3, 1) := by decide +kernel
theorem dX5_bestMark_124 : decode cX5_bestMark 124 = .ok (.iload 6, 2) := by decide +kernel
theorem dX5_bestMark_126 : decode cX5_bestMark 126 = .ok (.istore 4, 2) := by decide +kernel
theorem dX5_bestMark_128 : decode cX5_bestMark 128 = .ok (.iinc 6 1, 3) := by decide +kernel
theorem dX5_bestMark_131 : decode cX5_bestMark 131 = .ok (.goto (-35), 3) := by decide +kernel
theorem dX5_bestMark_134 : decode cX5_bestMark 134 = .ok (.iload_n 2, 1) := by decide +kernel
theorem dX5_bestMark_135 : decode cX5_bestMark 135 = .ok (.ifCond .ne 8, 3) := by decide +kernel
theorem dX5_bestMark_138 : decode cX5_bestMark 138 = .ok (.iload 4, 2) := by decide +kernel
theorem dX5_bestMark_140 : decode cX5_bestMark 140 = .ok (.goto 4, 3) := by decide +kernel
theorem dX5_bestMark_143 : decode cX5_bestMark 143 = .ok (.iload_n 3, 1) := by decide +kernel
theorem dX5_bestMark_144 : decode cX5_bestMark 144 = .ok (.ireturn, 1) := by decide +kernel
theorem dX5_stepMarks_0 : decode cX5_stepMarks 0 = .ok (.iconst 0, 1) := by decide +kernel
theorem dX5_stepMarks_1 : decode cX5_stepMarks 1 = .ok (.istore_n 3, 1) := by decide +kernel
theorem dX5_stepMarks_2 : decode cX5_stepMarks 2 = .ok (.iload_n 3, 1) := by decide +kernel
theorem dX5_stepMarks_3 : decode cX5_stepMarks 3 = .ok (.bipush 8, 2) := by decide +kernel
theorem dX5_stepMarks_5 : decode cX5_stepMarks 5 = .ok (.if_icmp .ge 68, 3) := by decide +kernel
theorem dX5_stepMarks_8 : decode cX5_stepMarks 8 = .ok (.aload_n 1, 1) := by decide +kernel
theorem dX5_stepMarks_9 : decode cX5_stepMarks 9 = .ok (.getfield 309, 3) := by decide +kernel
theorem dX5_stepMarks_12 : decode cX5_stepMarks 12 = .ok (.iload_n 3, 1) := by decide +kernel
theorem dX5_stepMarks_13 : decode cX5_stepMarks 13 = .ok (.iaload, 1) := by decide +kernel
theorem dX5_stepMarks_14 : decode cX5_stepMarks 14 = .ok (.bipush 60, 2) := by decide +kernel
theorem dX5_stepMarks_16 : decode cX5_stepMarks 16 = .ok (.invokestatic 312, 3) := by decide +kernel
theorem dX5_stepMarks_19 : decode cX5_stepMarks 19 = .ok (.iconst 1, 1) := by decide +kernel
theorem dX5_stepMarks_20 : decode cX5_stepMarks 20 = .ok (.iadd, 1) := by decide +kernel
theorem dX5_stepMarks_21 : decode cX5_stepMarks 21 = .ok (.istore 4, 2) := by decide +kernel
theorem dX5_stepMarks_23 : decode cX5_stepMarks 23 = .ok (.iload_n 2, 1) := by decide +kernel
theorem dX5_stepMarks_24 : decode cX5_stepMarks 24 = .ok (.iload_n 3, 1) := by decide +kernel
theorem dX5_stepMarks_25 : decode cX5_stepMarks 25 = .ok (.ishr, 1) := by decide +kernel
theorem dX5_stepMarks_26 : decode cX5_stepMarks 26 = .ok (.iconst 1, 1) := by decide +kernel
theorem dX5_stepMarks_27 : decode cX5_stepMarks 27 = .ok (.iand, 1) := by decide +kernel
theorem dX5_stepMarks_28 : decode cX5_stepMarks 28 = .ok (.iconst 1, 1) := by decide +kernel
theorem dX5_stepMarks_29 : decode cX5_stepMarks 29 = .ok (.if_icmp .ne 17, 3) := by decide +kernel
theorem dX5_stepMarks_32 : decode cX5_stepMarks 32 = .ok (.aload_n 0, 1) := by decide +kernel
theorem dX5_stepMarks_33 : decode cX5_stepMarks 33 = .ok (.getfield 47, 3) := by decide +kernel
theorem dX5_stepMarks_36 : decode cX5_stepMarks 36 = .ok (.iload 4, 2) := by decide +kernel
theorem dX5_stepMarks_38 : decode cX5_stepMarks 38 = .ok (.dup2, 1) := by decide +kernel
theorem dX5_stepMarks_39 : decode cX5_stepMarks 39 = .ok (.iaload, 1) := by decide +kernel
theorem dX5_stepMarks_40 : decode cX5_stepMarks 40 = .ok (.iconst 1, 1) := by decide +kernel
theorem dX5_stepMarks_41 : decode cX5_stepMarks 41 = .ok (.iadd, 1) := by decide +kernel
theorem dX5_stepMarks_42 : decode cX5_stepMarks 42 = .ok (.iastore, 1) := by decide +kernel
theorem dX5_stepMarks_43 : decode cX5_stepMarks 43 = .ok (.goto 24, 3) := by decide +kernel
theorem dX5_stepMarks_46 : decode cX5_stepMarks 46 = .ok (.aload_n 0, 1) := by decide +kernel
theorem dX5_stepMarks_47 : decode cX5_stepMarks 47 = .ok (.getfield 47, 3) := by decide +kernel
theorem dX5_stepMarks_50 : decode cX5_stepMarks 50 = .ok (.iconst 1, 1) := by decide +kernel
theorem dX5_stepMarks_51 : decode cX5_stepMarks 51 = .ok (.dup2, 1) := by decide +kernel
theorem dX5_stepMarks_52 : decode cX5_stepMarks 52 = .ok (.iaload, 1) := by decide +kernel
theorem dX5_stepMarks_53 : decode cX5_stepMarks 53 = .ok (.iconst 1, 1) := by decide +kernel
theorem dX5_stepMarks_54 : decode cX5_stepMarks 54 = .ok (.iadd, 1) := by decide +kernel
theorem dX5_stepMarks_55 : decode cX5_stepMarks 55 = .ok (.iastore, 1) := by decide +kernel
theorem dX5_stepMarks_56 : decode cX5_stepMarks 56 = .ok (.aload_n 0, 1) := by decide +kernel
theorem dX5_stepMarks_57 : decode cX5_stepMarks 57 = .ok (.getfield 47, 3) := by decide +kernel
theorem dX5_stepMarks_60 : decode cX5_stepMarks 60 = .ok (.iload 4, 2) := by decide +kernel
theorem dX5_stepMarks_62 : decode cX5_stepMarks 62 = .ok (.dup2, 1) := by decide +kernel
theorem dX5_stepMarks_63 : decode cX5_stepMarks 63 = .ok (.iaload, 1) := by decide +kernel
theorem dX5_stepMarks_64 : decode cX5_stepMarks 64 = .ok (.iconst 1, 1) := by decide +kernel
theorem dX5_stepMarks_65 : decode cX5_stepMarks 65 = .ok (.isub, 1) := by decide +kernel
theorem dX5_stepMarks_66 : decode cX5_stepMarks 66 = .ok (.iastore, 1) := by decide +kernel
theorem dX5_stepMarks_67 : decode cX5_stepMarks 67 = .ok (.iinc 3 1, 3) := by decide +kernel
theorem dX5_stepMarks_70 : decode cX5_stepMarks 70 = .ok (.goto (-68), 3) := by decide +kernel
theorem dX5_stepMarks_73 : decode cX5_stepMarks 73 = .ok (.return_, 1) := by decide +kernel
theorem dX5_bestCool_0 : decode cX5_bestCool 0 = .ok (.ldc 193, 2) := by decide +kernel
theorem dX5_bestCool_2 : decode cX5_bestCool 2 = .ok (.istore_n 3, 1) := by decide +kernel
theorem dX5_bestCool_3 : decode cX5_bestCool 3 = .ok (.iconst 0, 1) := by decide +kernel
theorem dX5_bestCool_4 : decode cX5_bestCool 4 = .ok (.istore 4, 2) := by decide +kernel
theorem dX5_bestCool_6 : decode cX5_bestCool 6 = .ok (.iconst 0, 1) := by decide +kernel
theorem dX5_bestCool_7 : decode cX5_bestCool 7 = .ok (.istore 5, 2) := by decide +kernel
theorem dX5_bestCool_9 : decode cX5_bestCool 9 = .ok (.iload 5, 2) := by decide +kernel
theorem dX5_bestCool_11 : decode cX5_bestCool 11 = .ok (.bipush 9, 2) := by decide +kernel
theorem dX5_bestCool_13 : decode cX5_bestCool 13 = .ok (.if_icmp .gt 52, 3) := by decide +kernel
theorem dX5_bestCool_16 : decode cX5_bestCool 16 = .ok (.aload_n 0, 1) := by decide +kernel
theorem dX5_bestCool_17 : decode cX5_bestCool 17 = .ok (.getfield 23, 3) := by decide +kernel
theorem dX5_bestCool_20 : decode cX5_bestCool 20 = .ok (.aload_n 0, 1) := by decide +kernel
theorem dX5_bestCool_21 : decode cX5_bestCool 21 = .ok (.getfield 19, 3) := by decide +kernel
theorem dX5_bestCool_24 : decode cX5_bestCool 24 = .ok (.invokevirtual 80, 3) := by decide +kernel
theorem dX5_bestCool_27 : decode cX5_bestCool 27 = .ok (.aload_n 0, 1) := by decide +kernel
theorem dX5_bestCool_28 : decode cX5_bestCool 28 = .ok (.getfield 23, 3) := by decide +kernel
theorem dX5_bestCool_31 : decode cX5_bestCool 31 = .ok (.getfield 93, 3) := by decide +kernel
theorem dX5_bestCool_34 : decode cX5_bestCool 34 = .ok (.iconst 1, 1) := by decide +kernel
theorem dX5_bestCool_35 : decode cX5_bestCool 35 = .ok (.iload 5, 2) := by decide +kernel
theorem dX5_bestCool_37 : decode cX5_bestCool 37 = .ok (.iastore, 1) := by decide +kernel
theorem dX5_bestCool_38 : decode cX5_bestCool 38 = .ok (.aload_n 0, 1) := by decide +kernel
theorem dX5_bestCool_39 : decode cX5_bestCool 39 = .ok (.iload_n 1, 1) := by decide +kernel
theorem dX5_bestCool_40 : decode cX5_bestCool 40 = .ok (.iload_n 3, 1) := by decide +kernel
theorem dX5_bestCool_41 : decode cX5_bestCool 41 = .ok (.invokevirtual 194, 3) := by decide +kernel
theorem dX5_bestCool_44 : decode cX5_bestCool 44 = .ok (.istore 6, 2) := by decide +kernel
theorem dX5_bestCool_46 : decode cX5_bestCool 46 = .ok (.iload 6, 2) := by decide +kernel
theorem dX5_bestCool_48 : decode cX5_bestCool 48 = .ok (.iload_n 3, 1) := by decide +kernel
theorem dX5_bestCool_49 : decode cX5_bestCool 49 = .ok (.if_icmp .ge 10, 3) := by decide +kernel
theorem dX5_bestCool_52 : decode cX5_bestCool 52 = .ok (.iload 6, 2) := by decide +kernel
theorem dX5_bestCool_54 : decode cX5_bestCool 54 = .ok (.istore_n 3, 1) := by decide +kernel
theorem dX5_bestCool_55 : decode cX5_bestCool 55 = .ok (.iload 5, 2) := by decide +kernel
theorem dX5_bestCool_57 : decode cX5_bestCool 57 = .ok (.istore 4, 2) := by decide +kernel
theorem dX5_bestCool_59 : decode cX5_bestCool 59 = .ok (.iinc 5 1, 3) := by decide +kernel
theorem dX5_bestCool_62 : decode cX5_bestCool 62 = .ok (.goto (-53), 3) := by decide +kernel
theorem dX5_bestCool_65 : decode cX5_bestCool 65 = .ok (.iload_n 2, 1) := by decide +kernel
theorem dX5_bestCool_66 : decode cX5_bestCool 66 = .ok (.ifCond .ne 8, 3) := by decide +kernel
theorem dX5_bestCool_69 : decode cX5_bestCool 69 = .ok (.iload 4, 2) := by decide +kernel
theorem dX5_bestCool_71 : decode cX5_bestCool 71 = .ok (.goto 4, 3) := by decide +kernel
theorem dX5_bestCool_74 : decode cX5_bestCool 74 = .ok (.iload_n 3, 1) := by decide +kernel
theorem dX5_bestCool_75 : decode cX5_bestCool 75 = .ok (.ireturn, 1) := by decide +kernel
theorem dX5_wrongIfSwapped_0 : decode cX5_wrongIfSwapped 0 = .ok (.aload_n 0, 1) := by decide +kernel
theorem dX5_wrongIfSwapped_1 : decode cX5_wrongIfSwapped 1 = .ok (.getfield 19, 3) := by decide +kernel
theorem dX5_wrongIfSwapped_4 : decode cX5_wrongIfSwapped 4 = .ok (.getfield 137, 3) := by decide +kernel
theorem dX5_wrongIfSwapped_7 : decode cX5_wrongIfSwapped 7 = .ok (.iload_n 1, 1) := by decide +kernel
theorem dX5_wrongIfSwapped_8 : decode cX5_wrongIfSwapped 8 = .ok (.iaload, 1) := by decide +kernel
theorem dX5_wrongIfSwapped_9 : decode cX5_wrongIfSwapped 9 = .ok (.aload_n 0, 1) := by decide +kernel
theorem dX5_wrongIfSwapped_10 : decode cX5_wrongIfSwapped 10 = .ok (.getfield 19, 3) := by decide +kernel
theorem dX5_wrongIfSwapped_13 : decode cX5_wrongIfSwapped 13 = .ok (.getfield 137, 3) := by decide +kernel
theorem dX5_wrongIfSwapped_16 : decode cX5_wrongIfSwapped 16 = .ok (.iload_n 2, 1) := by decide +kernel
theorem dX5_wrongIfSwapped_17 : decode cX5_wrongIfSwapped 17 = .ok (.iaload, 1) := by decide +kernel
theorem dX5_wrongIfSwapped_18 : decode cX5_wrongIfSwapped 18 = .ok (.if_icmp .ne 6, 3) := by decide +kernel
theorem dX5_wrongIfSwapped_21 : decode cX5_wrongIfSwapped 21 = .ok (.iload 4, 2) := by decide +kernel
theorem dX5_wrongIfSwapped_23 : decode cX5_wrongIfSwapped 23 = .ok (.ireturn, 1) := by decide +kernel
theorem dX5_wrongIfSwapped_24 : decode cX5_wrongIfSwapped 24 = .ok (.aload_n 0, 1) := by decide +kernel
theorem dX5_wrongIfSwapped_25 : decode cX5_wrongIfSwapped 25 = .ok (.getfield 23, 3) := by decide +kernel
theorem dX5_wrongIfSwapped_28 : decode cX5_wrongIfSwapped 28 = .ok (.aload_n 0, 1) := by decide +kernel
theorem dX5_wrongIfSwapped_29 : decode cX5_wrongIfSwapped 29 = .ok (.getfield 19, 3) := by decide +kernel
theorem dX5_wrongIfSwapped_32 : decode cX5_wrongIfSwapped 32 = .ok (.invokevirtual 80, 3) := by decide +kernel
theorem dX5_wrongIfSwapped_35 : decode cX5_wrongIfSwapped 35 = .ok (.aload_n 0, 1) := by decide +kernel
theorem dX5_wrongIfSwapped_36 : decode cX5_wrongIfSwapped 36 = .ok (.getfield 23, 3) := by decide +kernel
theorem dX5_wrongIfSwapped_39 : decode cX5_wrongIfSwapped 39 = .ok (.getfield 137, 3) := by decide +kernel
theorem dX5_wrongIfSwapped_42 : decode cX5_wrongIfSwapped 42 = .ok (.iload_n 1, 1) := by decide +kernel
theorem dX5_wrongIfSwapped_43 : decode cX5_wrongIfSwapped 43 = .ok (.aload_n 0, 1) := by decide +kernel
theorem dX5_wrongIfSwapped_44 : decode cX5_wrongIfSwapped 44 = .ok (.getfield 19, 3) := by decide +kernel
theorem dX5_wrongIfSwapped_47 : decode cX5_wrongIfSwapped 47 = .ok (.getfield 137, 3) := by decide +kernel
theorem dX5_wrongIfSwapped_50 : decode cX5_wrongIfSwapped 50 = .ok (.iload_n 2, 1) := by decide +kernel
theorem dX5_wrongIfSwapped_51 : decode cX5_wrongIfSwapped 51 = .ok (.iaload, 1) := by decide +kernel
theorem dX5_wrongIfSwapped_52 : decode cX5_wrongIfSwapped 52 = .ok (.iastore, 1) := by decide +kernel
theorem dX5_wrongIfSwapped_53 : decode cX5_wrongIfSwapped 53 = .ok (.aload_n 0, 1) := by decide +kernel
theorem dX5_wrongIfSwapped_54 : decode cX5_wrongIfSwapped 54 = .ok (.getfield 23, 3) := by decide +kernel
theorem dX5_wrongIfSwapped_57 : decode cX5_wrongIfSwapped 57 = .ok (.getfield 137, 3) := by decide +kernel
theorem dX5_wrongIfSwapped_60 : decode cX5_wrongIfSwapped 60 = .ok (.iload_n 2, 1) := by decide +kernel
theorem dX5_wrongIfSwapped_61 : decode cX5_wrongIfSwapped 61 = .ok (.aload_n 0, 1) := by decide +kernel
theorem dX5_wrongIfSwapped_62 : decode cX5_wrongIfSwapped 62 = .ok (.getfield 19, 3) := by decide +kernel
theorem dX5_wrongIfSwapped_65 : decode cX5_wrongIfSwapped 65 = .ok (.getfield 137, 3) := by decide +kernel
theorem dX5_wrongIfSwapped_68 : decode cX5_wrongIfSwapped 68 = .ok (.iload_n 1, 1) := by decide +kernel
theorem dX5_wrongIfSwapped_69 : decode cX5_wrongIfSwapped 69 = .ok (.iaload, 1) := by decide +kernel
theorem dX5_wrongIfSwapped_70 : decode cX5_wrongIfSwapped 70 = .ok (.iastore, 1) := by decide +kernel
theorem dX5_wrongIfSwapped_71 : decode cX5_wrongIfSwapped 71 = .ok (.aload_n 0, 1) := by decide +kernel
theorem dX5_wrongIfSwapped_72 : decode cX5_wrongIfSwapped 72 = .ok (.iload_n 3, 1) := by decide +kernel
theorem dX5_wrongIfSwapped_73 : decode cX5_wrongIfSwapped 73 = .ok (.iload 4, 2) := by decide +kernel
theorem dX5_wrongIfSwapped_75 : decode cX5_wrongIfSwapped 75 = .ok (.invokevirtual 194, 3) := by decide +kernel
theorem dX5_wrongIfSwapped_78 : decode cX5_wrongIfSwapped 78 = .ok (.ireturn, 1) := by decide +kernel
theorem dX5_wrongIfResting_0 : decode cX5_wrongIfResting 0 = .ok (.aload_n 0, 1) := by decide +kernel
theorem dX5_wrongIfResting_1 : decode cX5_wrongIfResting 1 = .ok (.getfield 23, 3) := by decide +kernel
theorem dX5_wrongIfResting_4 : decode cX5_wrongIfResting 4 = .ok (.aload_n 0, 1) := by decide +kernel
theorem dX5_wrongIfResting_5 : decode cX5_wrongIfResting 5 = .ok (.getfield 19, 3) := by decide +kernel
theorem dX5_wrongIfResting_8 : decode cX5_wrongIfResting 8 = .ok (.invokevirtual 80, 3) := by decide +kernel
theorem dX5_wrongIfResting_11 : decode cX5_wrongIfResting 11 = .ok (.iconst 0, 1) := by decide +kernel
theorem dX5_wrongIfResting_12 : decode cX5_wrongIfResting 12 = .ok (.istore 4, 2) := by decide +kernel
theorem dX5_wrongIfResting_14 : decode cX5_wrongIfResting 14 = .ok (.iconst 0, 1) := by decide +kernel
theorem dX5_wrongIfResting_15 : decode cX5_wrongIfResting 15 = .ok (.istore 5, 2) := by decide +kernel
theorem dX5_wrongIfResting_17 : decode cX5_wrongIfResting 17 = .ok (.iload 5, 2) := by decide +kernel
theorem dX5_wrongIfResting_19 : decode cX5_wrongIfResting 19 = .ok (.iload_n 2, 1) := by decide +kernel
theorem dX5_wrongIfResting_20 : decode cX5_wrongIfResting 20 = .ok (.if_icmp .ge 59, 3) := by decide +kernel
theorem dX5_wrongIfResting_23 : decode cX5_wrongIfResting 23 = .ok (.iload 4, 2) := by decide +kernel
theorem dX5_wrongIfResting_25 : decode cX5_wrongIfResting 25 = .ok (.iload_n 3, 1) := by decide +kernel
theorem dX5_wrongIfResting_26 : decode cX5_wrongIfResting 26 = .ok (.if_icmp .ge 53, 3) := by decide +kernel
theorem dX5_wrongIfResting_29 : decode cX5_wrongIfResting 29 = .ok (.aload_n 0, 1) := by decide +kernel
theorem dX5_wrongIfResting_30 : decode cX5_wrongIfResting 30 = .ok (.getfield 23, 3) := by decide +kernel
theorem dX5_wrongIfResting_33 : decode cX5_wrongIfResting 33 = .ok (.iconst 0, 1) := by decide +kernel
theorem dX5_wrongIfResting_34 : decode cX5_wrongIfResting 34 = .ok (.invokevirtual 315, 3) := by decide +kernel
theorem dX5_wrongIfResting_37 : decode cX5_wrongIfResting 37 = .ok (.iload_n 1, 1) := by decide +kernel
theorem dX5_wrongIfResting_38 : decode cX5_wrongIfResting 38 = .ok (.if_icmp .ne 7, 3) := by decide +kernel
theorem dX5_wrongIfResting_41 : decode cX5_wrongIfResting 41 = .ok (.iconst 1, 1) := by decide +kernel
theorem dX5_wrongIfResting_42 : decode cX5_wrongIfResting 42 = .ok (.goto 4, 3) := by decide +kernel
theorem dX5_wrongIfResting_45 : decode cX5_wrongIfResting 45 = .ok (.iconst 0, 1) := by decide +kernel
theorem dX5_wrongIfResting_46 : decode cX5_wrongIfResting 46 = .ok (.istore 6, 2) := by decide +kernel
theorem dX5_wrongIfResting_48 : decode cX5_wrongIfResting 48 = .ok (.iload 4, 2) := by decide +kernel
theorem dX5_wrongIfResting_50 : decode cX5_wrongIfResting 50 = .ok (.aload_n 0, 1) := by decide +kernel
theorem dX5_wrongIfResting_51 : decode cX5_wrongIfResting 51 = .ok (.getfield 23, 3) := by decide +kernel
theorem dX5_wrongIfResting_54 : decode cX5_wrongIfResting 54 = .ok (.iconst 1, 1) := by decide +kernel
theorem dX5_wrongIfResting_55 : decode cX5_wrongIfResting 55 = .ok (.invokevirtual 160, 3) := by decide +kernel
theorem dX5_wrongIfResting_58 : decode cX5_wrongIfResting 58 = .ok (.iadd, 1) := by decide +kernel
theorem dX5_wrongIfResting_59 : decode cX5_wrongIfResting 59 = .ok (.istore 4, 2) := by decide +kernel
theorem dX5_wrongIfResting_61 : decode cX5_wrongIfResting 61 = .ok (.iload 6, 2) := by decide +kernel
theorem dX5_wrongIfResting_63 : decode cX5_wrongIfResting 63 = .ok (.ifCond .eq 10, 3) := by decide +kernel
theorem dX5_wrongIfResting_66 : decode cX5_wrongIfResting 66 = .ok (.aload_n 0, 1) := by decide +kernel
theorem dX5_wrongIfResting_67 : decode cX5_wrongIfResting 67 = .ok (.getfield 23, 3) := by decide +kernel
theorem dX5_wrongIfResting_70 : decode cX5_wrongIfResting 70 = .ok (.invokevirtual 318, 3) := by decide +kernel
theorem dX5_wrongIfResting_73 : decode cX5_wrongIfResting 73 = .ok (.iinc 5 1, 3) := by decide +kernel
theorem dX5_wrongIfResting_76 : decode cX5_wrongIfResting 76 = .ok (.goto (-59), 3) := by decide +kernel
theorem dX5_wrongIfResting_79 : decode cX5_wrongIfResting 79 = .ok (.iload 4, 2) := by decide +kernel
theorem dX5_wrongIfResting_81 : decode cX5_wrongIfResting 81 = .ok (.ireturn, 1) := by decide +kernel
theorem dX5_raised_0 : decode cX5_raised 0 = .ok (.lconst 1, 1) := by decide +kernel
theorem dX5_raised_1 : decode cX5_raised 1 = .ok (.lstore_n 2, 1) := by decide +kernel
theorem dX5_raised_2 : decode cX5_raised 2 = .ok (.iconst 0, 1) := by decide +kernel
theorem dX5_raised_3 : decode cX5_raised 3 = .ok (.istore 4, 2) := by decide +kernel
theorem dX5_raised_5 : decode cX5_raised 5 = .ok (.iload 4, 2) := by decide +kernel
theorem dX5_raised_7 : decode cX5_raised 7 = .ok (.iload_n 1, 1) := by decide +kernel
theorem dX5_raised_8 : decode cX5_raised 8 = .ok (.if_icmp .ge 14, 3) := by decide +kernel
theorem dX5_raised_11 : decode cX5_raised 11 = .ok (.lload_n 2, 1) := by decide +kernel
theorem dX5_raised_12 : decode cX5_raised 12 = .ok (.iload_n 0, 1) := by decide +kernel
theorem dX5_raised_13 : decode cX5_raised 13 = .ok (.i2l, 1) := by decide +kernel
theorem dX5_raised_14 : decode cX5_raised 14 = .ok (.lmul, 1) := by decide +kernel
theorem dX5_raised_15 : decode cX5_raised 15 = .ok (.lstore_n 2, 1) := by decide +kernel
theorem dX5_raised_16 : decode cX5_raised 16 = .ok (.iinc 4 1, 3) := by decide +kernel
theorem dX5_raised_19 : decode cX5_raised 19 = .ok (.goto (-14), 3) := by decide +kernel
theorem dX5_raised_22 : decode cX5_raised 22 = .ok (.lload_n 2, 1) := by decide +kernel
theorem dX5_raised_23 : decode cX5_raised 23 = .ok (.lreturn, 1) := by decide +kernel
theorem dX5_weightOf_0 : decode cX5_weightOf 0 = .ok (.iload_n 0, 1) := by decide +kernel
theorem dX5_weightOf_1 : decode cX5_weightOf 1 = .ok (.invokestatic 242, 3) := by decide +kernel
theorem dX5_weightOf_4 : decode cX5_weightOf 4 = .ok (.istore_n 3, 1) := by decide +kernel
theorem dX5_weightOf_5 : decode cX5_weightOf 5 = .ok (.iload_n 1, 1) := by decide +kernel
theorem dX5_weightOf_6 : decode cX5_weightOf 6 = .ok (.iload_n 3, 1) := by decide +kernel
theorem dX5_weightOf_7 : decode cX5_weightOf 7 = .ok (.invokestatic 208, 3) := by decide +kernel
theorem dX5_weightOf_10 : decode cX5_weightOf 10 = .ok (.bipush 10, 2) := by decide +kernel
theorem dX5_weightOf_12 : decode cX5_weightOf 12 = .ok (.iload_n 1, 1) := by decide +kernel
theorem dX5_weightOf_13 : decode cX5_weightOf 13 = .ok (.isub, 1) := by decide +kernel
theorem dX5_weightOf_14 : decode cX5_weightOf 14 = .ok (.iload_n 2, 1) := by decide +kernel
theorem dX5_weightOf_15 : decode cX5_weightOf 15 = .ok (.iload_n 3, 1) := by decide +kernel
theorem dX5_weightOf_16 : decode cX5_weightOf 16 = .ok (.isub, 1) := by decide +kernel
theorem dX5_weightOf_17 : decode cX5_weightOf 17 = .ok (.invokestatic 208, 3) := by decide +kernel
theorem dX5_weightOf_20 : decode cX5_weightOf 20 = .ok (.lmul, 1) := by decide +kernel
theorem dX5_weightOf_21 : decode cX5_weightOf 21 = .ok (.lreturn, 1) := by decide +kernel
theorem dX5_loneIsRight_0 : decode cX5_loneIsRight 0 = .ok (.aload_n 0, 1) := by decide +kernel
theorem dX5_loneIsRight_1 : decode cX5_loneIsRight 1 = .ok (.getfield 29, 3) := by decide +kernel
theorem dX5_loneIsRight_4 : decode cX5_loneIsRight 4 = .ok (.aload_n 0, 1) := by decide +kernel
theorem dX5_loneIsRight_5 : decode cX5_loneIsRight 5 = .ok (.getfield 19, 3) := by decide +kernel
theorem dX5_loneIsRight_8 : decode cX5_loneIsRight 8 = .ok (.getfield 108, 3) := by decide +kernel
theorem dX5_loneIsRight_11 : decode cX5_loneIsRight 11 = .ok (.iload_n 1, 1) := by decide +kernel
theorem dX5_loneIsRight_12 : decode cX5_loneIsRight 12 = .ok (.aaload, 1) := by decide +kernel
theorem dX5_loneIsRight_13 : decode cX5_loneIsRight 13 = .ok (.invokevirtual 176, 3) := by decide +kernel
theorem dX5_loneIsRight_16 : decode cX5_loneIsRight 16 = .ok (.iconst 0, 1) := by decide +kernel
theorem dX5_loneIsRight_17 : decode cX5_loneIsRight 17 = .ok (.istore 4, 2) := by decide +kernel
theorem dX5_loneIsRight_19 : decode cX5_loneIsRight 19 = .ok (.iload 4, 2) := by decide +kernel
theorem dX5_loneIsRight_21 : decode cX5_loneIsRight 21 = .ok (.iload_n 2, 1) := by decide +kernel
theorem dX5_loneIsRight_22 : decode cX5_loneIsRight 22 = .ok (.if_icmp .ge 43, 3) := by decide +kernel
theorem dX5_loneIsRight_25 : decode cX5_loneIsRight 25 = .ok (.aload_n 0, 1) := by decide +kernel
theorem dX5_loneIsRight_26 : decode cX5_loneIsRight 26 = .ok (.iload 4, 2) := by decide +kernel
theorem dX5_loneIsRight_28 : decode cX5_loneIsRight 28 = .ok (.iload_n 3, 1) := by decide +kernel
theorem dX5_loneIsRight_29 : decode cX5_loneIsRight 29 = .ok (.iload 4, 2) := by decide +kernel
theorem dX5_loneIsRight_31 : decode cX5_loneIsRight 31 = .ok (.ishr, 1) := by decide +kernel
theorem dX5_loneIsRight_32 : decode cX5_loneIsRight 32 = .ok (.iconst 1, 1) := by decide +kernel
theorem dX5_loneIsRight_33 : decode cX5_loneIsRight 33 = .ok (.iand, 1) := by decide +kernel
theorem dX5_loneIsRight_34 : decode cX5_loneIsRight 34 = .ok (.ifCond .ne 7, 3) := by decide +kernel
theorem dX5_loneIsRight_37 : decode cX5_loneIsRight 37 = .ok (.iconst 1, 1) := by decide +kernel
theorem dX5_loneIsRight_38 : decode cX5_loneIsRight 38 = .ok (.goto 4, 3) := by decide +kernel
theorem dX5_loneIsRight_41 : decode cX5_loneIsRight 41 = .ok (.iconst 0, 1) := by decide +kernel
theorem dX5_loneIsRight_42 : decode cX5_loneIsRight 42 = .ok (.invokevirtual 179, 3) := by decide +kernel
theorem dX5_loneIsRight_45 : decode cX5_loneIsRight 45 = .ok (.aload_n 0, 1) := by decide +kernel
theorem dX5_loneIsRight_46 : decode cX5_loneIsRight 46 = .ok (.getfield 19, 3) := by decide +kernel
theorem dX5_loneIsRight_49 : decode cX5_loneIsRight 49 = .ok (.iload 4, 2) := by decide +kernel
theorem dX5_loneIsRight_51 : decode cX5_loneIsRight 51 = .ok (.invokevirtual 100, 3) := by decide +kernel
theorem dX5_loneIsRight_54 : decode cX5_loneIsRight 54 = .ok (.if_icmp .eq 5, 3) := by decide +kernel
theorem dX5_loneIsRight_57 : decode cX5_loneIsRight 57 = .ok (.iconst 0, 1) := by decide +kernel
theorem dX5_loneIsRight_58 : decode cX5_loneIsRight 58 = .ok (.ireturn, 1) := by decide +kernel
theorem dX5_loneIsRight_59 : decode cX5_loneIsRight 59 = .ok (.iinc 4 1, 3) := by decide +kernel
theorem dX5_loneIsRight_62 : decode cX5_loneIsRight 62 = .ok (.goto (-43), 3) := by decide +kernel
theorem dX5_loneIsRight_65 : decode cX5_loneIsRight 65 = .ok (.iconst 1, 1) := by decide +kernel
theorem dX5_loneIsRight_66 : decode cX5_loneIsRight 66 = .ok (.ireturn, 1) := by decide +kernel
theorem dX5_wrongWithout_0 : decode cX5_wrongWithout 0 = .ok (.aload_n 0, 1) := by decide +kernel
theorem dX5_wrongWithout_1 : decode cX5_wrongWithout 1 = .ok (.getfield 23, 3) := by decide +kernel
theorem dX5_wrongWithout_4 : decode cX5_wrongWithout 4 = .ok (.aload_n 0, 1) := by decide +kernel
theorem dX5_wrongWithout_5 : decode cX5_wrongWithout 5 = .ok (.getfield 19, 3) := by decide +kernel
theorem dX5_wrongWithout_8 : decode cX5_wrongWithout 8 = .ok (.invokevirtual 80, 3) := by decide +kernel
theorem dX5_wrongWithout_11 : decode cX5_wrongWithout 11 = .ok (.iconst 0, 1) := by decide +kernel
theorem dX5_wrongWithout_12 : decode cX5_wrongWithout 12 = .ok (.istore_n 3, 1) := by decide +kernel
theorem dX5_wrongWithout_13 : decode cX5_wrongWithout 13 = .ok (.iconst 0, 1) := by decide +kernel
theorem dX5_wrongWithout_14 : decode cX5_wrongWithout 14 = .ok (.istore 4, 2) := by decide +kernel
theorem dX5_wrongWithout_16 : decode cX5_wrongWithout 16 = .ok (.iload 4, 2) := by decide +kernel
theorem dX5_wrongWithout_18 : decode cX5_wrongWithout 18 = .ok (.iload_n 1, 1) := by decide +kernel
theorem dX5_wrongWithout_19 : decode cX5_wrongWithout 19 = .ok (.if_icmp .ge 33, 3) := by decide +kernel
theorem dX5_wrongWithout_22 : decode cX5_wrongWithout 22 = .ok (.iload_n 3, 1) := by decide +kernel
theorem dX5_wrongWithout_23 : decode cX5_wrongWithout 23 = .ok (.aload_n 0, 1) := by decide +kernel
theorem dX5_wrongWithout_24 : decode cX5_wrongWithout 24 = .ok (.getfield 23, 3) := by decide +kernel
theorem dX5_wrongWithout_27 : decode cX5_wrongWithout 27 = .ok (.iload_n 2, 1) := by decide +kernel
theorem dX5_wrongWithout_28 : decode cX5_wrongWithout 28 = .ok (.iload 4, 2) := by decide +kernel
theorem dX5_wrongWithout_30 : decode cX5_wrongWithout 30 = .ok (.ishr, 1) := by decide +kernel
theorem dX5_wrongWithout_31 : decode cX5_wrongWithout 31 = .ok (.iconst 1, 1) := by decide +kernel
theorem dX5_wrongWithout_32 : decode cX5_wrongWithout 32 = .ok (.iand, 1) := by decide +kernel
theorem dX5_wrongWithout_33 : decode cX5_wrongWithout 33 = .ok (.ifCond .ne 7, 3) := by decide +kernel
theorem dX5_wrongWithout_36 : decode cX5_wrongWithout 36 = .ok (.iconst 1, 1) := by decide +kernel
theorem dX5_wrongWithout_37 : decode cX5_wrongWithout 37 = .ok (.goto 4, 3) := by decide +kernel
theorem dX5_wrongWithout_40 : decode cX5_wrongWithout 40 = .ok (.iconst 0, 1) := by decide +kernel
theorem dX5_wrongWithout_41 : decode cX5_wrongWithout 41 = .ok (.invokevirtual 160, 3) := by decide +kernel
theorem dX5_wrongWithout_44 : decode cX5_wrongWithout 44 = .ok (.iadd, 1) := by decide +kernel
theorem dX5_wrongWithout_45 : decode cX5_wrongWithout 45 = .ok (.istore_n 3, 1) := by decide +kernel
theorem dX5_wrongWithout_46 : decode cX5_wrongWithout 46 = .ok (.iinc 4 1, 3) := by decide +kernel
theorem dX5_wrongWithout_49 : decode cX5_wrongWithout 49 = .ok (.goto (-33), 3) := by decide +kernel
theorem dX5_wrongWithout_52 : decode cX5_wrongWithout 52 = .ok (.iload_n 3, 1) := by decide +kernel
theorem dX5_wrongWithout_53 : decode cX5_wrongWithout 53 = .ok (.ireturn, 1) := by decide +kernel
theorem dX5_part_0 : decode cX5_part 0 = .ok (.lload_n 2, 1) := by decide +kernel
theorem dX5_part_1 : decode cX5_part 1 = .ok (.lstore 5, 2) := by decide +kernel
theorem dX5_part_3 : decode cX5_part 3 = .ok (.lload_n 0, 1) := by decide +kernel
theorem dX5_part_4 : decode cX5_part 4 = .ok (.lstore 7, 2) := by decide +kernel
theorem dX5_part_6 : decode cX5_part 6 = .ok (.iconst 0, 1) := by decide +kernel
theorem dX5_part_7 : decode cX5_part 7 = .ok (.istore 9, 2) := by decide +kernel
theorem dX5_part_9 : decode cX5_part 9 = .ok (.iload 9, 2) := by decide +kernel
theorem dX5_part_11 : decode cX5_part 11 = .ok (.sipush 200, 3) := by decide +kernel
theorem dX5_part_14 : decode cX5_part 14 = .ok (.if_icmp .ge 31, 3) := by decide +kernel
theorem dX5_part_17 : decode cX5_part 17 = .ok (.lload 7, 2) := by decide +kernel
theorem dX5_part_19 : decode cX5_part 19 = .ok (.lconst 0, 1) := by decide +kernel
theorem dX5_part_20 : decode cX5_part 20 = .ok (.lcmp, 1) := by decide +kernel
theorem dX5_part_21 : decode cX5_part 21 = .ok (.ifCond .eq 24, 3) := by decide +kernel
theorem dX5_part_24 : decode cX5_part 24 = .ok (.lload 5, 2) := by decide +kernel
theorem dX5_part_26 : decode cX5_part 26 = .ok (.lload 7, 2) := by decide +kernel
theorem dX5_part_28 : decode cX5_part 28 = .ok (.lrem, 1) := by decide +kernel
theorem dX5_part_29 : decode cX5_part 29 = .ok (.lstore 10, 2) := by decide +kernel
theorem dX5_part_31 : decode cX5_part 31 = .ok (.lload 7, 2) := by decide +kernel
theorem dX5_part_33 : decode cX5_part 33 = .ok (.lstore 5, 2) := by decide +kernel
theorem dX5_part_35 : decode cX5_part 35 = .ok (.lload 10, 2) := by decide +kernel
theorem dX5_part_37 : decode cX5_part 37 = .ok (.lstore 7, 2) := by decide +kernel
theorem dX5_part_39 : decode cX5_part 39 = .ok (.iinc 9 1, 3) := by decide +kernel
theorem dX5_part_42 : decode cX5_part 42 = .ok (.goto (-33), 3) := by decide +kernel
theorem dX5_part_45 : decode cX5_part 45 = .ok (.iload 4, 2) := by decide +kernel
theorem dX5_part_47 : decode cX5_part 47 = .ok (.ifCond .ne 7, 3) := by decide +kernel
theorem dX5_part_50 : decode cX5_part 50 = .ok (.lload_n 0, 1) := by decide +kernel
theorem dX5_part_51 : decode cX5_part 51 = .ok (.goto 4, 3) := by decide +kernel
theorem dX5_part_54 : decode cX5_part 54 = .ok (.lload_n 2, 1) := by decide +kernel
theorem dX5_part_55 : decode cX5_part 55 = .ok (.lload 5, 2) := by decide +kernel
theorem dX5_part_57 : decode cX5_part 57 = .ok (.ldiv, 1) := by decide +kernel
theorem dX5_part_58 : decode cX5_part 58 = .ok (.lreturn, 1) := by decide +kernel
theorem dX5_asSeenBy_0 : decode cX5_asSeenBy 0 = .ok (.aload_n 0, 1) := by decide +kernel
theorem dX5_asSeenBy_1 : decode cX5_asSeenBy 1 = .ok (.iload_n 1, 1) := by decide +kernel
theorem dX5_asSeenBy_2 : decode cX5_asSeenBy 2 = .ok (.invokevirtual 321, 3) := by decide +kernel
theorem dX5_asSeenBy_5 : decode cX5_asSeenBy 5 = .ok (.ifCond .ne 5, 3) := by decide +kernel
theorem dX5_asSeenBy_8 : decode cX5_asSeenBy 8 = .ok (.iconst 0, 1) := by decide +kernel
theorem dX5_asSeenBy_9 : decode cX5_asSeenBy 9 = .ok (.ireturn, 1) := by decide +kernel
theorem dX5_asSeenBy_10 : decode cX5_asSeenBy 10 = .ok (.iconst 0, 1) := by decide +kernel
theorem dX5_asSeenBy_11 : decode cX5_asSeenBy 11 = .ok (.istore_n 3, 1) := by decide +kernel
theorem dX5_asSeenBy_12 : decode cX5_asSeenBy 12 = .ok (.iconst 0, 1) := by decide +kernel
theorem dX5_asSeenBy_13 : decode cX5_asSeenBy 13 = .ok (.istore 4, 2) := by decide +kernel
theorem dX5_asSeenBy_15 : decode cX5_asSeenBy 15 = .ok (.iload 4, 2) := by decide +kernel
theorem dX5_asSeenBy_17 : decode cX5_asSeenBy 17 = .ok (.iload_n 2, 1) := by decide +kernel
theorem dX5_asSeenBy_18 : decode cX5_asSeenBy 18 = .ok (.invokestatic 140, 3) := by decide +kernel
theorem dX5_asSeenBy_21 : decode cX5_asSeenBy 21 = .ok (.if_icmp .gt 71, 3) := by decide +kernel
theorem dX5_asSeenBy_24 : decode cX5_asSeenBy 24 = .ok (.aload_n 0, 1) := by decide +kernel
theorem dX5_asSeenBy_25 : decode cX5_asSeenBy 25 = .ok (.getfield 29, 3) := by decide +kernel
theorem dX5_asSeenBy_28 : decode cX5_asSeenBy 28 = .ok (.aload_n 0, 1) := by decide +kernel
theorem dX5_asSeenBy_29 : decode cX5_asSeenBy 29 = .ok (.getfield 19, 3) := by decide +kernel
theorem dX5_asSeenBy_32 : decode cX5_asSeenBy 32 = .ok (.getfield 108, 3) := by decide +kernel
theorem dX5_asSeenBy_35 : decode cX5_asSeenBy 35 = .ok (.iload_n 1, 1) := by decide +kernel
theorem dX5_asSeenBy_36 : decode cX5_asSeenBy 36 = .ok (.aaload, 1) := by decide +kernel
theorem dX5_asSeenBy_37 : decode cX5_asSeenBy 37 = .ok (.invokevirtual 176, 3) := by decide +kernel
theorem dX5_asSeenBy_40 : decode cX5_asSeenBy 40 = .ok (.aload_n 0, 1) := by decide +kernel
theorem dX5_asSeenBy_41 : decode cX5_asSeenBy 41 = .ok (.getfield 29, 3) := by decide +kernel
theorem dX5_asSeenBy_44 : decode cX5_asSeenBy 44 = .ok (.iload_n 2, 1) := by decide +kernel
theorem dX5_asSeenBy_45 : decode cX5_asSeenBy 45 = .ok (.iload 4, 2) := by decide +kernel
theorem dX5_asSeenBy_47 : decode cX5_asSeenBy 47 = .ok (.invokevirtual 143, 3) := by decide +kernel
theorem dX5_asSeenBy_50 : decode cX5_asSeenBy 50 = .ok (.aload_n 0, 1) := by decide +kernel
theorem dX5_asSeenBy_51 : decode cX5_asSeenBy 51 = .ok (.iload 4, 2) := by decide +kernel
theorem dX5_asSeenBy_53 : decode cX5_asSeenBy 53 = .ok (.invokevirtual 324, 3) := by decide +kernel
theorem dX5_asSeenBy_56 : decode cX5_asSeenBy 56 = .ok (.aload_n 0, 1) := by decide +kernel
theorem dX5_asSeenBy_57 : decode cX5_asSeenBy 57 = .ok (.getfield 19, 3) := by decide +kernel
theorem dX5_asSeenBy_60 : decode cX5_asSeenBy 60 = .ok (.getfield 226, 3) := by decide +kernel
theorem dX5_asSeenBy_63 : decode cX5_asSeenBy 63 = .ok (.iload_n 1, 1) := by decide +kernel
theorem dX5_asSeenBy_64 : decode cX5_asSeenBy 64 = .ok (.aload_n 0, 1) := by decide +kernel
theorem dX5_asSeenBy_65 : decode cX5_asSeenBy 65 = .ok (.getfield 51, 3) := by decide +kernel
theorem dX5_asSeenBy_68 : decode cX5_asSeenBy 68 = .ok (.iload 4, 2) := by decide +kernel
theorem dX5_asSeenBy_70 : decode cX5_asSeenBy 70 = .ok (.bipush 41, 2) := by decide +kernel
theorem dX5_asSeenBy_72 : decode cX5_asSeenBy 72 = .ok (.imul, 1) := by decide +kernel
theorem dX5_asSeenBy_73 : decode cX5_asSeenBy 73 = .ok (.invokevirtual 328, 3) := by decide +kernel
theorem dX5_asSeenBy_76 : decode cX5_asSeenBy 76 = .ok (.ifCond .eq 10, 3) := by decide +kernel
theorem dX5_asSeenBy_79 : decode cX5_asSeenBy 79 = .ok (.iload_n 3, 1) := by decide +kernel
theorem dX5_asSeenBy_80 : decode cX5_asSeenBy 80 = .ok (.iconst 1, 1) := by decide +kernel
theorem dX5_asSeenBy_81 : decode cX5_asSeenBy 81 = .ok (.iload 4, 2) := by decide +kernel
theorem dX5_asSeenBy_83 : decode cX5_asSeenBy 83 = .ok (.ishl, 1) := by decide +kernel
theorem dX5_asSeenBy_84 : decode cX5_asSeenBy 84 = .ok (.ior, 1) := by decide +kernel
theorem dX5_asSeenBy_85 : decode cX5_asSeenBy 85 = .ok (.istore_n 3, 1) := by decide +kernel
theorem dX5_asSeenBy_86 : decode cX5_asSeenBy 86 = .ok (.iinc 4 1, 3) := by decide +kernel
theorem dX5_asSeenBy_89 : decode cX5_asSeenBy 89 = .ok (.goto (-74), 3) := by decide +kernel
theorem dX5_asSeenBy_92 : decode cX5_asSeenBy 92 = .ok (.iload_n 3, 1) := by decide +kernel
theorem dX5_asSeenBy_93 : decode cX5_asSeenBy 93 = .ok (.ireturn, 1) := by decide +kernel
theorem dX5_othersAsSeen_0 : decode cX5_othersAsSeen 0 = .ok (.iconst 0, 1) := by decide +kernel
theorem dX5_othersAsSeen_1 : decode cX5_othersAsSeen 1 = .ok (.istore_n 2, 1) := by decide +kernel
theorem dX5_othersAsSeen_2 : decode cX5_othersAsSeen 2 = .ok (.iload_n 2, 1) := by decide +kernel
theorem dX5_othersAsSeen_3 : decode cX5_othersAsSeen 3 = .ok (.aload_n 0, 1) := by decide +kernel
theorem dX5_othersAsSeen_4 : decode cX5_othersAsSeen 4 = .ok (.getfield 19, 3) := by decide +kernel
theorem dX5_othersAsSeen_7 : decode cX5_othersAsSeen 7 = .ok (.getfield 84, 3) := by decide +kernel
theorem dX5_othersAsSeen_10 : decode cX5_othersAsSeen 10 = .ok (.if_icmp .ge 70, 3) := by decide +kernel
theorem dX5_othersAsSeen_13 : decode cX5_othersAsSeen 13 = .ok (.iload_n 2, 1) := by decide +kernel
theorem dX5_othersAsSeen_14 : decode cX5_othersAsSeen 14 = .ok (.iload_n 1, 1) := by decide +kernel
theorem dX5_othersAsSeen_15 : decode cX5_othersAsSeen 15 = .ok (.if_icmp .eq 59, 3) := by decide +kernel
theorem dX5_othersAsSeen_18 : decode cX5_othersAsSeen 18 = .ok (.aload_n 0, 1) := by decide +kernel
theorem dX5_othersAsSeen_19 : decode cX5_othersAsSeen 19 = .ok (.getfield 19, 3) := by decide +kernel
theorem dX5_othersAsSeen_22 : decode cX5_othersAsSeen 22 = .ok (.getfield 226, 3) := by decide +kernel
theorem dX5_othersAsSeen_25 : decode cX5_othersAsSeen 25 = .ok (.iload_n 2, 1) := by decide +kernel
theorem dX5_othersAsSeen_26 : decode cX5_othersAsSeen 26 = .ok (.invokevirtual 332, 3) := by decide +kernel
theorem dX5_othersAsSeen_29 : decode cX5_othersAsSeen 29 = .ok (.ifCond .eq 45, 3) := by decide +kernel
theorem dX5_othersAsSeen_32 : decode cX5_othersAsSeen 32 = .ok (.aload_n 0, 1) := by decide +kernel
theorem dX5_othersAsSeen_33 : decode cX5_othersAsSeen 33 = .ok (.getfield 29, 3) := by decide +kernel
theorem dX5_othersAsSeen_36 : decode cX5_othersAsSeen 36 = .ok (.aload_n 0, 1) := by decide +kernel
theorem dX5_othersAsSeen_37 : decode cX5_othersAsSeen 37 = .ok (.getfield 19, 3) := by decide +kernel
theorem dX5_othersAsSeen_40 : decode cX5_othersAsSeen 40 = .ok (.getfield 108, 3) := by decide +kernel
theorem dX5_othersAsSeen_43 : decode cX5_othersAsSeen 43 = .ok (.iload_n 2, 1) := by decide +kernel
theorem dX5_othersAsSeen_44 : decode cX5_othersAsSeen 44 = .ok (.aaload, 1) := by decide +kernel
theorem dX5_othersAsSeen_45 : decode cX5_othersAsSeen 45 = .ok (.invokevirtual 176, 3) := by decide +kernel
theorem dX5_othersAsSeen_48 : decode cX5_othersAsSeen 48 = .ok (.aload_n 0, 1) := by decide +kernel
theorem dX5_othersAsSeen_49 : decode cX5_othersAsSeen 49 = .ok (.iconst 0, 1) := by decide +kernel
theorem dX5_othersAsSeen_50 : decode cX5_othersAsSeen 50 = .ok (.invokevirtual 324, 3) := by decide +kernel
theorem dX5_othersAsSeen_53 : decode cX5_othersAsSeen 53 = .ok (.aload_n 0, 1) := by decide +kernel
theorem dX5_othersAsSeen_54 : decode cX5_othersAsSeen 54 = .ok (.getfield 19, 3) := by decide +kernel
theorem dX5_othersAsSeen_57 : decode cX5_othersAsSeen 57 = .ok (.getfield 226, 3) := by decide +kernel
theorem dX5_othersAsSeen_60 : decode cX5_othersAsSeen 60 = .ok (.iload_n 2, 1) := by decide +kernel
theorem dX5_othersAsSeen_61 : decode cX5_othersAsSeen 61 = .ok (.aload_n 0, 1) := by decide +kernel
theorem dX5_othersAsSeen_62 : decode cX5_othersAsSeen 62 = .ok (.getfield 51, 3) := by decide +kernel
theorem dX5_othersAsSeen_65 : decode cX5_othersAsSeen 65 = .ok (.iconst 0, 1) := by decide +kernel
theorem dX5_othersAsSeen_66 : decode cX5_othersAsSeen 66 = .ok (.invokevirtual 328, 3) := by decide +kernel
theorem dX5_othersAsSeen_69 : decode cX5_othersAsSeen 69 = .ok (.ifCond .ne 5, 3) := by decide +kernel
theorem dX5_othersAsSeen_72 : decode cX5_othersAsSeen 72 = .ok (.iconst 0, 1) := by decide +kernel
theorem dX5_othersAsSeen_73 : decode cX5_othersAsSeen 73 = .ok (.ireturn, 1) := by decide +kernel
theorem dX5_othersAsSeen_74 : decode cX5_othersAsSeen 74 = .ok (.iinc 2 1, 3) := by decide +kernel
theorem dX5_othersAsSeen_77 : decode cX5_othersAsSeen 77 = .ok (.goto (-75), 3) := by decide +kernel
theorem dX5_othersAsSeen_80 : decode cX5_othersAsSeen 80 = .ok (.iconst 1, 1) := by decide +kernel
theorem dX5_othersAsSeen_81 : decode cX5_othersAsSeen 81 = .ok (.ireturn, 1) := by decide +kernel
theorem dX5_noteLooks_0 : decode cX5_noteLooks 0 = .ok (.iconst 0, 1) := by decide +kernel
theorem dX5_noteLooks_1 : decode cX5_noteLooks 1 = .ok (.istore_n 2, 1) := by decide +kernel
theorem dX5_noteLooks_2 : decode cX5_noteLooks 2 = .ok (.iload_n 2, 1) := by decide +kernel
theorem dX5_noteLooks_3 : decode cX5_noteLooks 3 = .ok (.bipush 41, 2) := by decide +kernel
theorem dX5_noteLooks_5 : decode cX5_noteLooks 5 = .ok (.if_icmp .ge 50, 3) := by decide +kernel
theorem dX5_noteLooks_8 : decode cX5_noteLooks 8 = .ok (.aload_n 0, 1) := by decide +kernel
theorem dX5_noteLooks_9 : decode cX5_noteLooks 9 = .ok (.getfield 51, 3) := by decide +kernel
theorem dX5_noteLooks_12 : decode cX5_noteLooks 12 = .ok (.iload_n 1, 1) := by decide +kernel
theorem dX5_noteLooks_13 : decode cX5_noteLooks 13 = .ok (.bipush 41, 2) := by decide +kernel
theorem dX5_noteLooks_15 : decode cX5_noteLooks 15 = .ok (.imul, 1) := by decide +kernel
theorem dX5_noteLooks_16 : decode cX5_noteLooks 16 = .ok (.iload_n 2, 1) := by decide +kernel
theorem dX5_noteLooks_17 : decode cX5_noteLooks 17 = .ok (.iadd, 1) := by decide +kernel
theorem dX5_noteLooks_18 : decode cX5_noteLooks 18 = .ok (.aload_n 0, 1) := by decide +kernel
theorem dX5_noteLooks_19 : decode cX5_noteLooks 19 = .ok (.getfield 29, 3) := by decide +kernel
theorem dX5_noteLooks_22 : decode cX5_noteLooks 22 = .ok (.aload_n 0, 1) := by decide +kernel
theorem dX5_noteLooks_23 : decode cX5_noteLooks 23 = .ok (.getfield 19, 3) := by decide +kernel
theorem dX5_noteLooks_26 : decode cX5_noteLooks 26 = .ok (.aload_n 0, 1) := by decide +kernel
theorem dX5_noteLooks_27 : decode cX5_noteLooks 27 = .ok (.getfield 19, 3) := by decide +kernel
theorem dX5_noteLooks_30 : decode cX5_noteLooks 30 = .ok (.iload_n 2, 1) := by decide +kernel
theorem dX5_noteLooks_31 : decode cX5_noteLooks 31 = .ok (.invokevirtual 100, 3) := by decide +kernel
theorem dX5_noteLooks_34 : decode cX5_noteLooks 34 = .ok (.aload_n 0, 1) := by decide +kernel
theorem dX5_noteLooks_35 : decode cX5_noteLooks 35 = .ok (.getfield 19, 3) := by decide +kernel
theorem dX5_noteLooks_38 : decode cX5_noteLooks 38 = .ok (.iload_n 2, 1) := by decide +kernel
theorem dX5_noteLooks_39 : decode cX5_noteLooks 39 = .ok (.iconst 1, 1) := by decide +kernel
theorem dX5_noteLooks_40 : decode cX5_noteLooks 40 = .ok (.iadd, 1) := by decide +kernel
theorem dX5_noteLooks_41 : decode cX5_noteLooks 41 = .ok (.invokevirtual 100, 3) := by decide +kernel
theorem dX5_noteLooks_44 : decode cX5_noteLooks 44 = .ok (.iconst 1, 1) := by decide +kernel
theorem dX5_noteLooks_45 : decode cX5_noteLooks 45 = .ok (.invokevirtual 293, 3) := by decide +kernel
theorem dX5_noteLooks_48 : decode cX5_noteLooks 48 = .ok (.iastore, 1) := by decide +kernel
theorem dX5_noteLooks_49 : decode cX5_noteLooks 49 = .ok (.iinc 2 1, 3) := by decide +kernel
theorem dX5_noteLooks_52 : decode cX5_noteLooks 52 = .ok (.goto (-50), 3) := by decide +kernel
theorem dX5_noteLooks_55 : decode cX5_noteLooks 55 = .ok (.return_, 1) := by decide +kernel
theorem dX5_leftAtWorst_0 : decode cX5_leftAtWorst 0 = .ok (.aload_n 0, 1) := by decide +kernel
theorem dX5_leftAtWorst_1 : decode cX5_leftAtWorst 1 = .ok (.getfield 54, 3) := by decide +kernel
theorem dX5_leftAtWorst_4 : decode cX5_leftAtWorst 4 = .ok (.iconst 0, 1) := by decide +kernel
theorem dX5_leftAtWorst_5 : decode cX5_leftAtWorst 5 = .ok (.invokestatic 299, 3) := by decide +kernel
theorem dX5_leftAtWorst_8 : decode cX5_leftAtWorst 8 = .ok (.iconst 0, 1) := by decide +kernel
theorem dX5_leftAtWorst_9 : decode cX5_leftAtWorst 9 = .ok (.istore_n 3, 1) := by decide +kernel
theorem dX5_leftAtWorst_10 : decode cX5_leftAtWorst 10 = .ok (.iconst 0, 1) := by decide +kernel
theorem dX5_leftAtWorst_11 : decode cX5_leftAtWorst 11 = .ok (.istore 4, 2) := by decide +kernel
theorem dX5_leftAtWorst_13 : decode cX5_leftAtWorst 13 = .ok (.iload 4, 2) := by decide +kernel
theorem dX5_leftAtWorst_15 : decode cX5_leftAtWorst 15 = .ok (.bipush 30, 2) := by decide +kernel
theorem dX5_leftAtWorst_17 : decode cX5_leftAtWorst 17 = .ok (.if_icmp .gt 56, 3) := by decide +kernel
theorem dX5_leftAtWorst_20 : decode cX5_leftAtWorst 20 = .ok (.iload_n 1, 1) := by decide +kernel
theorem dX5_leftAtWorst_21 : decode cX5_leftAtWorst 21 = .ok (.iload 4, 2) := by decide +kernel
theorem dX5_leftAtWorst_23 : decode cX5_leftAtWorst 23 = .ok (.ishr, 1) := by decide +kernel
theorem dX5_leftAtWorst_24 : decode cX5_leftAtWorst 24 = .ok (.iconst 1, 1) := by decide +kernel
theorem dX5_leftAtWorst_25 : decode cX5_leftAtWorst 25 = .ok (.iand, 1) := by decide +kernel
theorem dX5_leftAtWorst_26 : decode cX5_leftAtWorst 26 = .ok (.iconst 1, 1) := by decide +kernel
theorem dX5_leftAtWorst_27 : decode cX5_leftAtWorst 27 = .ok (.if_icmp .ne 40, 3) := by decide +kernel
theorem dX5_leftAtWorst_30 : decode cX5_leftAtWorst 30 = .ok (.aload_n 0, 1) := by decide +kernel
theorem dX5_leftAtWorst_31 : decode cX5_leftAtWorst 31 = .ok (.getfield 51, 3) := by decide +kernel
theorem dX5_leftAtWorst_34 : decode cX5_leftAtWorst 34 = .ok (.iload 4, 2) := by decide +kernel
theorem dX5_leftAtWorst_36 : decode cX5_leftAtWorst 36 = .ok (.bipush 41, 2) := by decide +kernel
theorem dX5_leftAtWorst_38 : decode cX5_leftAtWorst 38 = .ok (.imul, 1) := by decide +kernel
theorem dX5_leftAtWorst_39 : decode cX5_leftAtWorst 39 = .ok (.iload_n 2, 1) := by decide +kernel
theorem dX5_leftAtWorst_40 : decode cX5_leftAtWorst 40 = .ok (.iadd, 1) := by decide +kernel
theorem dX5_leftAtWorst_41 : decode cX5_leftAtWorst 41 = .ok (.iaload, 1) := by decide +kernel
theorem dX5_leftAtWorst_42 : decode cX5_leftAtWorst 42 = .ok (.istore 5, 2) := by decide +kernel
theorem dX5_leftAtWorst_44 : decode cX5_leftAtWorst 44 = .ok (.aload_n 0, 1) := by decide +kernel
theorem dX5_leftAtWorst_45 : decode cX5_leftAtWorst 45 = .ok (.getfield 54, 3) := by decide +kernel
theorem dX5_leftAtWorst_48 : decode cX5_leftAtWorst 48 = .ok (.iload 5, 2) := by decide +kernel
theorem dX5_leftAtWorst_50 : decode cX5_leftAtWorst 50 = .ok (.dup2, 1) := by decide +kernel
theorem dX5_leftAtWorst_51 : decode cX5_leftAtWorst 51 = .ok (.iaload, 1) := by decide +kernel
theorem dX5_leftAtWorst_52 : decode cX5_leftAtWorst 52 = .ok (.iconst 1, 1) := by decide +kernel
theorem dX5_leftAtWorst_53 : decode cX5_leftAtWorst 53 = .ok (.iadd, 1) := by decide +kernel
theorem dX5_leftAtWorst_54 : decode cX5_leftAtWorst 54 = .ok (.iastore, 1) := by decide +kernel
theorem dX5_leftAtWorst_55 : decode cX5_leftAtWorst 55 = .ok (.iload_n 3, 1) := by decide +kernel
theorem dX5_leftAtWorst_56 : decode cX5_leftAtWorst 56 = .ok (.aload_n 0, 1) := by decide +kernel
theorem dX5_leftAtWorst_57 : decode cX5_leftAtWorst 57 = .ok (.getfield 54, 3) := by decide +kernel
theorem dX5_leftAtWorst_60 : decode cX5_leftAtWorst 60 = .ok (.iload 5, 2) := by decide +kernel
theorem dX5_leftAtWorst_62 : decode cX5_leftAtWorst 62 = .ok (.iaload, 1) := by decide +kernel
theorem dX5_leftAtWorst_63 : decode cX5_leftAtWorst 63 = .ok (.invokestatic 170, 3) := by decide +kernel
theorem dX5_leftAtWorst_66 : decode cX5_leftAtWorst 66 = .ok (.istore_n 3, 1) := by decide +kernel
theorem dX5_leftAtWorst_67 : decode cX5_leftAtWorst 67 = .ok (.iinc 4 1, 3) := by decide +kernel
theorem dX5_leftAtWorst_70 : decode cX5_leftAtWorst 70 = .ok (.goto (-57), 3) := by decide +kernel
theorem dX5_leftAtWorst_73 : decode cX5_leftAtWorst 73 = .ok (.iload_n 3, 1) := by decide +kernel
theorem dX5_leftAtWorst_74 : decode cX5_leftAtWorst 74 = .ok (.ireturn, 1) := by decide +kernel
