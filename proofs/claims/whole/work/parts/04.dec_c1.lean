theorem dX6_init_0 : decode cX6_init 0 = .ok (.aload_n 0, 1) := by decide +kernel
theorem dX6_init_1 : decode cX6_init 1 = .ok (.invokespecial 1, 3) := by decide +kernel
theorem dX6_init_4 : decode cX6_init 4 = .ok (.aload_n 0, 1) := by decide +kernel
theorem dX6_init_5 : decode cX6_init 5 = .ok (.sipush 210, 3) := by decide +kernel
theorem dX6_init_8 : decode cX6_init 8 = .ok (.newarray .int, 2) := by decide +kernel
theorem dX6_init_10 : decode cX6_init 10 = .ok (.putfield 7, 3) := by decide +kernel
theorem dX6_init_13 : decode cX6_init 13 = .ok (.aload_n 0, 1) := by decide +kernel
theorem dX6_init_14 : decode cX6_init 14 = .ok (.bipush 70, 2) := by decide +kernel
theorem dX6_init_16 : decode cX6_init 16 = .ok (.newarray .int, 2) := by decide +kernel
theorem dX6_init_18 : decode cX6_init 18 = .ok (.putfield 13, 3) := by decide +kernel
theorem dX6_init_21 : decode cX6_init 21 = .ok (.aload_n 0, 1) := by decide +kernel
theorem dX6_init_22 : decode cX6_init 22 = .ok (.iconst 2, 1) := by decide +kernel
theorem dX6_init_23 : decode cX6_init 23 = .ok (.newarray .boolean, 2) := by decide +kernel
theorem dX6_init_25 : decode cX6_init 25 = .ok (.putfield 16, 3) := by decide +kernel
theorem dX6_init_28 : decode cX6_init 28 = .ok (.aload_n 0, 1) := by decide +kernel
theorem dX6_init_29 : decode cX6_init 29 = .ok (.bipush 70, 2) := by decide +kernel
theorem dX6_init_31 : decode cX6_init 31 = .ok (.newarray .int, 2) := by decide +kernel
theorem dX6_init_33 : decode cX6_init 33 = .ok (.putfield 20, 3) := by decide +kernel
theorem dX6_init_36 : decode cX6_init 36 = .ok (.aload_n 0, 1) := by decide +kernel
theorem dX6_init_37 : decode cX6_init 37 = .ok (.iconst 4, 1) := by decide +kernel
theorem dX6_init_38 : decode cX6_init 38 = .ok (.newarray .boolean, 2) := by decide +kernel
theorem dX6_init_40 : decode cX6_init 40 = .ok (.putfield 23, 3) := by decide +kernel
theorem dX6_init_43 : decode cX6_init 43 = .ok (.aload_n 0, 1) := by decide +kernel
theorem dX6_init_44 : decode cX6_init 44 = .ok (.sipush 160, 3) := by decide +kernel
theorem dX6_init_47 : decode cX6_init 47 = .ok (.newarray .int, 2) := by decide +kernel
theorem dX6_init_49 : decode cX6_init 49 = .ok (.putfield 26, 3) := by decide +kernel
theorem dX6_init_52 : decode cX6_init 52 = .ok (.aload_n 0, 1) := by decide +kernel
theorem dX6_init_53 : decode cX6_init 53 = .ok (.iconst 3, 1) := by decide +kernel
theorem dX6_init_54 : decode cX6_init 54 = .ok (.newarray .int, 2) := by decide +kernel
theorem dX6_init_56 : decode cX6_init 56 = .ok (.putfield 29, 3) := by decide +kernel
theorem dX6_init_59 : decode cX6_init 59 = .ok (.aload_n 0, 1) := by decide +kernel
theorem dX6_init_60 : decode cX6_init 60 = .ok (.iconst 3, 1) := by decide +kernel
theorem dX6_init_61 : decode cX6_init 61 = .ok (.newarray .int, 2) := by decide +kernel
theorem dX6_init_63 : decode cX6_init 63 = .ok (.putfield 32, 3) := by decide +kernel
theorem dX6_init_66 : decode cX6_init 66 = .ok (.aload_n 0, 1) := by decide +kernel
theorem dX6_init_67 : decode cX6_init 67 = .ok (.bipush 8, 2) := by decide +kernel
theorem dX6_init_69 : decode cX6_init 69 = .ok (.newarray .int, 2) := by decide +kernel
theorem dX6_init_71 : decode cX6_init 71 = .ok (.putfield 35, 3) := by decide +kernel
theorem dX6_init_74 : decode cX6_init 74 = .ok (.aload_n 0, 1) := by decide +kernel
theorem dX6_init_75 : decode cX6_init 75 = .ok (.bipush 8, 2) := by decide +kernel
theorem dX6_init_77 : decode cX6_init 77 = .ok (.newarray .int, 2) := by decide +kernel
theorem dX6_init_79 : decode cX6_init 79 = .ok (.putfield 38, 3) := by decide +kernel
theorem dX6_init_82 : decode cX6_init 82 = .ok (.aload_n 0, 1) := by decide +kernel
theorem dX6_init_83 : decode cX6_init 83 = .ok (.bipush 123, 2) := by decide +kernel
theorem dX6_init_85 : decode cX6_init 85 = .ok (.newarray .int, 2) := by decide +kernel
theorem dX6_init_87 : decode cX6_init 87 = .ok (.putfield 41, 3) := by decide +kernel
theorem dX6_init_90 : decode cX6_init 90 = .ok (.aload_n 0, 1) := by decide +kernel
theorem dX6_init_91 : decode cX6_init 91 = .ok (.sipush 1271, 3) := by decide +kernel
theorem dX6_init_94 : decode cX6_init 94 = .ok (.newarray .int, 2) := by decide +kernel
theorem dX6_init_96 : decode cX6_init 96 = .ok (.putfield 44, 3) := by decide +kernel
theorem dX6_init_99 : decode cX6_init 99 = .ok (.aload_n 0, 1) := by decide +kernel
theorem dX6_init_100 : decode cX6_init 100 = .ok (.iconst 4, 1) := by decide +kernel
theorem dX6_init_101 : decode cX6_init 101 = .ok (.newarray .int, 2) := by decide +kernel
theorem dX6_init_103 : decode cX6_init 103 = .ok (.putfield 47, 3) := by decide +kernel
theorem dX6_init_106 : decode cX6_init 106 = .ok (.aload_n 0, 1) := by decide +kernel
theorem dX6_init_107 : decode cX6_init 107 = .ok (.iconst 4, 1) := by decide +kernel
theorem dX6_init_108 : decode cX6_init 108 = .ok (.newarray .int, 2) := by decide +kernel
theorem dX6_init_110 : decode cX6_init 110 = .ok (.putfield 50, 3) := by decide +kernel
theorem dX6_init_113 : decode cX6_init 113 = .ok (.aload_n 0, 1) := by decide +kernel
theorem dX6_init_114 : decode cX6_init 114 = .ok (.sipush 160, 3) := by decide +kernel
theorem dX6_init_117 : decode cX6_init 117 = .ok (.newarray .int, 2) := by decide +kernel
theorem dX6_init_119 : decode cX6_init 119 = .ok (.putfield 53, 3) := by decide +kernel
theorem dX6_init_122 : decode cX6_init 122 = .ok (.aload_n 0, 1) := by decide +kernel
theorem dX6_init_123 : decode cX6_init 123 = .ok (.bipush 70, 2) := by decide +kernel
theorem dX6_init_125 : decode cX6_init 125 = .ok (.newarray .int, 2) := by decide +kernel
theorem dX6_init_127 : decode cX6_init 127 = .ok (.putfield 56, 3) := by decide +kernel
theorem dX6_init_130 : decode cX6_init 130 = .ok (.iconst 0, 1) := by decide +kernel
theorem dX6_init_131 : decode cX6_init 131 = .ok (.istore_n 1, 1) := by decide +kernel
theorem dX6_init_132 : decode cX6_init 132 = .ok (.iload_n 1, 1) := by decide +kernel
theorem dX6_init_133 : decode cX6_init 133 = .ok (.iconst 4, 1) := by decide +kernel
theorem dX6_init_134 : decode cX6_init 134 = .ok (.if_icmp .ge 17, 3) := by decide +kernel
theorem dX6_init_137 : decode cX6_init 137 = .ok (.aload_n 0, 1) := by decide +kernel
theorem dX6_init_138 : decode cX6_init 138 = .ok (.getfield 47, 3) := by decide +kernel
theorem dX6_init_141 : decode cX6_init 141 = .ok (.iload_n 1, 1) := by decide +kernel
theorem dX6_init_142 : decode cX6_init 142 = .ok (.bipush (-4), 2) := by decide +kernel
theorem dX6_init_144 : decode cX6_init 144 = .ok (.iastore, 1) := by decide +kernel
theorem dX6_init_145 : decode cX6_init 145 = .ok (.iinc 1 1, 3) := by decide +kernel
theorem dX6_init_148 : decode cX6_init 148 = .ok (.goto (-16), 3) := by decide +kernel
theorem dX6_init_151 : decode cX6_init 151 = .ok (.aload_n 0, 1) := by decide +kernel
theorem dX6_init_152 : decode cX6_init 152 = .ok (.invokevirtual 59, 3) := by decide +kernel
theorem dX6_init_155 : decode cX6_init 155 = .ok (.aload_n 0, 1) := by decide +kernel
theorem dX6_init_156 : decode cX6_init 156 = .ok (.invokevirtual 62, 3) := by decide +kernel
theorem dX6_init_159 : decode cX6_init 159 = .ok (.return_, 1) := by decide +kernel
theorem dX6_in_0 : decode cX6_in 0 = .ok (.lload_n 0, 1) := by decide +kernel
theorem dX6_in_1 : decode cX6_in 1 = .ok (.lload_n 2, 1) := by decide +kernel
theorem dX6_in_2 : decode cX6_in 2 = .ok (.lcmp, 1) := by decide +kernel
theorem dX6_in_3 : decode cX6_in 3 = .ok (.ifCond .lt 14, 3) := by decide +kernel
theorem dX6_in_6 : decode cX6_in 6 = .ok (.lload_n 0, 1) := by decide +kernel
theorem dX6_in_7 : decode cX6_in 7 = .ok (.lload 4, 2) := by decide +kernel
theorem dX6_in_9 : decode cX6_in 9 = .ok (.lcmp, 1) := by decide +kernel
theorem dX6_in_10 : decode cX6_in 10 = .ok (.ifCond .gt 7, 3) := by decide +kernel
theorem dX6_in_13 : decode cX6_in 13 = .ok (.iconst 1, 1) := by decide +kernel
theorem dX6_in_14 : decode cX6_in 14 = .ok (.goto 4, 3) := by decide +kernel
theorem dX6_in_17 : decode cX6_in 17 = .ok (.iconst 0, 1) := by decide +kernel
theorem dX6_in_18 : decode cX6_in 18 = .ok (.ireturn, 1) := by decide +kernel
theorem dX6_flag_0 : decode cX6_flag 0 = .ok (.iload_n 0, 1) := by decide +kernel
theorem dX6_flag_1 : decode cX6_flag 1 = .ok (.ifCond .eq 7, 3) := by decide +kernel
theorem dX6_flag_4 : decode cX6_flag 4 = .ok (.iconst 1, 1) := by decide +kernel
theorem dX6_flag_5 : decode cX6_flag 5 = .ok (.goto 4, 3) := by decide +kernel
theorem dX6_flag_8 : decode cX6_flag 8 = .ok (.iconst 0, 1) := by decide +kernel
theorem dX6_flag_9 : decode cX6_flag 9 = .ok (.ireturn, 1) := by decide +kernel
theorem dX6_within_0 : decode cX6_within 0 = .ok (.iload_n 0, 1) := by decide +kernel
theorem dX6_within_1 : decode cX6_within 1 = .ok (.ifCond .ge 7, 3) := by decide +kernel
theorem dX6_within_4 : decode cX6_within 4 = .ok (.iconst 0, 1) := by decide +kernel
theorem dX6_within_5 : decode cX6_within 5 = .ok (.goto 13, 3) := by decide +kernel
theorem dX6_within_8 : decode cX6_within 8 = .ok (.iload_n 0, 1) := by decide +kernel
theorem dX6_within_9 : decode cX6_within 9 = .ok (.iload_n 1, 1) := by decide +kernel
theorem dX6_within_10 : decode cX6_within 10 = .ok (.if_icmp .le 7, 3) := by decide +kernel
theorem dX6_within_13 : decode cX6_within 13 = .ok (.iload_n 1, 1) := by decide +kernel
theorem dX6_within_14 : decode cX6_within 14 = .ok (.goto 4, 3) := by decide +kernel
theorem dX6_within_17 : decode cX6_within 17 = .ok (.iload_n 0, 1) := by decide +kernel
theorem dX6_within_18 : decode cX6_within 18 = .ok (.ireturn, 1) := by decide +kernel
theorem dX6_bitsOf_0 : decode cX6_bitsOf 0 = .ok (.iconst 0, 1) := by decide +kernel
theorem dX6_bitsOf_1 : decode cX6_bitsOf 1 = .ok (.istore_n 1, 1) := by decide +kernel
theorem dX6_bitsOf_2 : decode cX6_bitsOf 2 = .ok (.iconst 0, 1) := by decide +kernel
theorem dX6_bitsOf_3 : decode cX6_bitsOf 3 = .ok (.istore_n 2, 1) := by decide +kernel
theorem dX6_bitsOf_4 : decode cX6_bitsOf 4 = .ok (.iload_n 2, 1) := by decide +kernel
theorem dX6_bitsOf_5 : decode cX6_bitsOf 5 = .ok (.bipush 8, 2) := by decide +kernel
theorem dX6_bitsOf_7 : decode cX6_bitsOf 7 = .ok (.if_icmp .ge 17, 3) := by decide +kernel
theorem dX6_bitsOf_10 : decode cX6_bitsOf 10 = .ok (.iload_n 1, 1) := by decide +kernel
theorem dX6_bitsOf_11 : decode cX6_bitsOf 11 = .ok (.iload_n 0, 1) := by decide +kernel
theorem dX6_bitsOf_12 : decode cX6_bitsOf 12 = .ok (.iload_n 2, 1) := by decide +kernel
theorem dX6_bitsOf_13 : decode cX6_bitsOf 13 = .ok (.ishr, 1) := by decide +kernel
theorem dX6_bitsOf_14 : decode cX6_bitsOf 14 = .ok (.iconst 1, 1) := by decide +kernel
theorem dX6_bitsOf_15 : decode cX6_bitsOf 15 = .ok (.iand, 1) := by decide +kernel
theorem dX6_bitsOf_16 : decode cX6_bitsOf 16 = .ok (.iadd, 1) := by decide +kernel
theorem dX6_bitsOf_17 : decode cX6_bitsOf 17 = .ok (.istore_n 1, 1) := by decide +kernel
theorem dX6_bitsOf_18 : decode cX6_bitsOf 18 = .ok (.iinc 2 1, 3) := by decide +kernel
theorem dX6_bitsOf_21 : decode cX6_bitsOf 21 = .ok (.goto (-17), 3) := by decide +kernel
theorem dX6_bitsOf_24 : decode cX6_bitsOf 24 = .ok (.iload_n 1, 1) := by decide +kernel
theorem dX6_bitsOf_25 : decode cX6_bitsOf 25 = .ok (.ireturn, 1) := by decide +kernel
theorem dX6_firstDraft_0 : decode cX6_firstDraft 0 = .ok (.iconst 0, 1) := by decide +kernel
theorem dX6_firstDraft_1 : decode cX6_firstDraft 1 = .ok (.istore_n 1, 1) := by decide +kernel
theorem dX6_firstDraft_2 : decode cX6_firstDraft 2 = .ok (.iload_n 1, 1) := by decide +kernel
theorem dX6_firstDraft_3 : decode cX6_firstDraft 3 = .ok (.bipush 70, 2) := by decide +kernel
theorem dX6_firstDraft_5 : decode cX6_firstDraft 5 = .ok (.if_icmp .ge 16, 3) := by decide +kernel
theorem dX6_firstDraft_8 : decode cX6_firstDraft 8 = .ok (.aload_n 0, 1) := by decide +kernel
theorem dX6_firstDraft_9 : decode cX6_firstDraft 9 = .ok (.getfield 20, 3) := by decide +kernel
theorem dX6_firstDraft_12 : decode cX6_firstDraft 12 = .ok (.iload_n 1, 1) := by decide +kernel
theorem dX6_firstDraft_13 : decode cX6_firstDraft 13 = .ok (.iconst 0, 1) := by decide +kernel
theorem dX6_firstDraft_14 : decode cX6_firstDraft 14 = .ok (.iastore, 1) := by decide +kernel
theorem dX6_firstDraft_15 : decode cX6_firstDraft 15 = .ok (.iinc 1 1, 3) := by decide +kernel
theorem dX6_firstDraft_18 : decode cX6_firstDraft 18 = .ok (.goto (-16), 3) := by decide +kernel
theorem dX6_firstDraft_21 : decode cX6_firstDraft 21 = .ok (.iconst 0, 1) := by decide +kernel
theorem dX6_firstDraft_22 : decode cX6_firstDraft 22 = .ok (.istore_n 1, 1) := by decide +kernel
theorem dX6_firstDraft_23 : decode cX6_firstDraft 23 = .ok (.iload_n 1, 1) := by decide +kernel
theorem dX6_firstDraft_24 : decode cX6_firstDraft 24 = .ok (.iconst 4, 1) := by decide +kernel
theorem dX6_firstDraft_25 : decode cX6_firstDraft 25 = .ok (.if_icmp .ge 16, 3) := by decide +kernel
theorem dX6_firstDraft_28 : decode cX6_firstDraft 28 = .ok (.aload_n 0, 1) := by decide +kernel
theorem dX6_firstDraft_29 : decode cX6_firstDraft 29 = .ok (.getfield 23, 3) := by decide +kernel
theorem dX6_firstDraft_32 : decode cX6_firstDraft 32 = .ok (.iload_n 1, 1) := by decide +kernel
theorem dX6_firstDraft_33 : decode cX6_firstDraft 33 = .ok (.iconst 0, 1) := by decide +kernel
theorem dX6_firstDraft_34 : decode cX6_firstDraft 34 = .ok (.bastore, 1) := by decide +kernel
theorem dX6_firstDraft_35 : decode cX6_firstDraft 35 = .ok (.iinc 1 1, 3) := by decide +kernel
theorem dX6_firstDraft_38 : decode cX6_firstDraft 38 = .ok (.goto (-15), 3) := by decide +kernel
theorem dX6_firstDraft_41 : decode cX6_firstDraft 41 = .ok (.aload_n 0, 1) := by decide +kernel
theorem dX6_firstDraft_42 : decode cX6_firstDraft 42 = .ok (.getfield 20, 3) := by decide +kernel
theorem dX6_firstDraft_45 : decode cX6_firstDraft 45 = .ok (.bipush 34, 2) := by decide +kernel
theorem dX6_firstDraft_47 : decode cX6_firstDraft 47 = .ok (.bipush 20, 2) := by decide +kernel
theorem dX6_firstDraft_49 : decode cX6_firstDraft 49 = .ok (.iastore, 1) := by decide +kernel
theorem dX6_firstDraft_50 : decode cX6_firstDraft 50 = .ok (.aload_n 0, 1) := by decide +kernel
theorem dX6_firstDraft_51 : decode cX6_firstDraft 51 = .ok (.getfield 20, 3) := by decide +kernel
theorem dX6_firstDraft_54 : decode cX6_firstDraft 54 = .ok (.bipush 35, 2) := by decide +kernel
theorem dX6_firstDraft_56 : decode cX6_firstDraft 56 = .ok (.iconst 3, 1) := by decide +kernel
theorem dX6_firstDraft_57 : decode cX6_firstDraft 57 = .ok (.iastore, 1) := by decide +kernel
theorem dX6_firstDraft_58 : decode cX6_firstDraft 58 = .ok (.return_, 1) := by decide +kernel
theorem dX6_keepDraft_0 : decode cX6_keepDraft 0 = .ok (.iconst 0, 1) := by decide +kernel
theorem dX6_keepDraft_1 : decode cX6_keepDraft 1 = .ok (.istore_n 1, 1) := by decide +kernel
theorem dX6_keepDraft_2 : decode cX6_keepDraft 2 = .ok (.iload_n 1, 1) := by decide +kernel
theorem dX6_keepDraft_3 : decode cX6_keepDraft 3 = .ok (.bipush 70, 2) := by decide +kernel
theorem dX6_keepDraft_5 : decode cX6_keepDraft 5 = .ok (.if_icmp .ge 21, 3) := by decide +kernel
theorem dX6_keepDraft_8 : decode cX6_keepDraft 8 = .ok (.aload_n 0, 1) := by decide +kernel
theorem dX6_keepDraft_9 : decode cX6_keepDraft 9 = .ok (.getfield 7, 3) := by decide +kernel
theorem dX6_keepDraft_12 : decode cX6_keepDraft 12 = .ok (.iload_n 1, 1) := by decide +kernel
theorem dX6_keepDraft_13 : decode cX6_keepDraft 13 = .ok (.aload_n 0, 1) := by decide +kernel
theorem dX6_keepDraft_14 : decode cX6_keepDraft 14 = .ok (.getfield 20, 3) := by decide +kernel
theorem dX6_keepDraft_17 : decode cX6_keepDraft 17 = .ok (.iload_n 1, 1) := by decide +kernel
theorem dX6_keepDraft_18 : decode cX6_keepDraft 18 = .ok (.iaload, 1) := by decide +kernel
theorem dX6_keepDraft_19 : decode cX6_keepDraft 19 = .ok (.iastore, 1) := by decide +kernel
theorem dX6_keepDraft_20 : decode cX6_keepDraft 20 = .ok (.iinc 1 1, 3) := by decide +kernel
theorem dX6_keepDraft_23 : decode cX6_keepDraft 23 = .ok (.goto (-21), 3) := by decide +kernel
theorem dX6_keepDraft_26 : decode cX6_keepDraft 26 = .ok (.aload_n 0, 1) := by decide +kernel
theorem dX6_keepDraft_27 : decode cX6_keepDraft 27 = .ok (.getfield 16, 3) := by decide +kernel
theorem dX6_keepDraft_30 : decode cX6_keepDraft 30 = .ok (.iconst 0, 1) := by decide +kernel
theorem dX6_keepDraft_31 : decode cX6_keepDraft 31 = .ok (.iconst 0, 1) := by decide +kernel
theorem dX6_keepDraft_32 : decode cX6_keepDraft 32 = .ok (.bastore, 1) := by decide +kernel
theorem dX6_keepDraft_33 : decode cX6_keepDraft 33 = .ok (.aload_n 0, 1) := by decide +kernel
theorem dX6_keepDraft_34 : decode cX6_keepDraft 34 = .ok (.getfield 16, 3) := by decide +kernel
theorem dX6_keepDraft_37 : decode cX6_keepDraft 37 = .ok (.iconst 1, 1) := by decide +kernel
theorem dX6_keepDraft_38 : decode cX6_keepDraft 38 = .ok (.iconst 0, 1) := by decide +kernel
theorem dX6_keepDraft_39 : decode cX6_keepDraft 39 = .ok (.bastore, 1) := by decide +kernel
theorem dX6_keepDraft_40 : decode cX6_keepDraft 40 = .ok (.return_, 1) := by decide +kernel
theorem dX6_feed_0 : decode cX6_feed 0 = .ok (.iload_n 1, 1) := by decide +kernel
theorem dX6_feed_1 : decode cX6_feed 1 = .ok (.i2l, 1) := by decide +kernel
theorem dX6_feed_2 : decode cX6_feed 2 = .ok (.lconst 0, 1) := by decide +kernel
theorem dX6_feed_3 : decode cX6_feed 3 = .ok (.ldc2_w 65, 3) := by decide +kernel
theorem dX6_feed_6 : decode cX6_feed 6 = .ok (.invokestatic 67, 3) := by decide +kernel
theorem dX6_feed_9 : decode cX6_feed 9 = .ok (.ifCond .ne 5, 3) := by decide +kernel
theorem dX6_feed_12 : decode cX6_feed 12 = .ok (.iconst (-1), 1) := by decide +kernel
theorem dX6_feed_13 : decode cX6_feed 13 = .ok (.ireturn, 1) := by decide +kernel
theorem dX6_feed_14 : decode cX6_feed 14 = .ok (.aload_n 0, 1) := by decide +kernel
theorem dX6_feed_15 : decode cX6_feed 15 = .ok (.getfield 71, 3) := by decide +kernel
theorem dX6_feed_18 : decode cX6_feed 18 = .ok (.sipush 160, 3) := by decide +kernel
theorem dX6_feed_21 : decode cX6_feed 21 = .ok (.if_icmp .ne 6, 3) := by decide +kernel
theorem dX6_feed_24 : decode cX6_feed 24 = .ok (.bipush (-3), 2) := by decide +kernel
theorem dX6_feed_26 : decode cX6_feed 26 = .ok (.ireturn, 1) := by decide +kernel
theorem dX6_feed_27 : decode cX6_feed 27 = .ok (.aload_n 0, 1) := by decide +kernel
theorem dX6_feed_28 : decode cX6_feed 28 = .ok (.getfield 26, 3) := by decide +kernel
theorem dX6_feed_31 : decode cX6_feed 31 = .ok (.aload_n 0, 1) := by decide +kernel
theorem dX6_feed_32 : decode cX6_feed 32 = .ok (.getfield 71, 3) := by decide +kernel
theorem dX6_feed_35 : decode cX6_feed 35 = .ok (.iload_n 1, 1) := by decide +kernel
theorem dX6_feed_36 : decode cX6_feed 36 = .ok (.iastore, 1) := by decide +kernel
theorem dX6_feed_37 : decode cX6_feed 37 = .ok (.aload_n 0, 1) := by decide +kernel
theorem dX6_feed_38 : decode cX6_feed 38 = .ok (.dup, 1) := by decide +kernel
theorem dX6_feed_39 : decode cX6_feed 39 = .ok (.getfield 71, 3) := by decide +kernel
theorem dX6_feed_42 : decode cX6_feed 42 = .ok (.iconst 1, 1) := by decide +kernel
theorem dX6_feed_43 : decode cX6_feed 43 = .ok (.iadd, 1) := by decide +kernel
theorem dX6_feed_44 : decode cX6_feed 44 = .ok (.putfield 71, 3) := by decide +kernel
theorem dX6_feed_47 : decode cX6_feed 47 = .ok (.aload_n 0, 1) := by decide +kernel
theorem dX6_feed_48 : decode cX6_feed 48 = .ok (.getfield 71, 3) := by decide +kernel
theorem dX6_feed_51 : decode cX6_feed 51 = .ok (.ireturn, 1) := by decide +kernel
theorem dX6_end_0 : decode cX6_end 0 = .ok (.iload_n 1, 1) := by decide +kernel
theorem dX6_end_1 : decode cX6_end 1 = .ok (.i2l, 1) := by decide +kernel
theorem dX6_end_2 : decode cX6_end 2 = .ok (.lconst 0, 1) := by decide +kernel
theorem dX6_end_3 : decode cX6_end 3 = .ok (.aload_n 0, 1) := by decide +kernel
theorem dX6_end_4 : decode cX6_end 4 = .ok (.getfield 71, 3) := by decide +kernel
theorem dX6_end_7 : decode cX6_end 7 = .ok (.i2l, 1) := by decide +kernel
theorem dX6_end_8 : decode cX6_end 8 = .ok (.invokestatic 67, 3) := by decide +kernel
theorem dX6_end_11 : decode cX6_end 11 = .ok (.ifCond .ne 5, 3) := by decide +kernel
theorem dX6_end_14 : decode cX6_end 14 = .ok (.iconst (-1), 1) := by decide +kernel
theorem dX6_end_15 : decode cX6_end 15 = .ok (.ireturn, 1) := by decide +kernel
theorem dX6_end_16 : decode cX6_end 16 = .ok (.aload_n 0, 1) := by decide +kernel
theorem dX6_end_17 : decode cX6_end 17 = .ok (.getfield 71, 3) := by decide +kernel
theorem dX6_end_20 : decode cX6_end 20 = .ok (.istore_n 2, 1) := by decide +kernel
theorem dX6_end_21 : decode cX6_end 21 = .ok (.aload_n 0, 1) := by decide +kernel
theorem dX6_end_22 : decode cX6_end 22 = .ok (.iload_n 1, 1) := by decide +kernel
theorem dX6_end_23 : decode cX6_end 23 = .ok (.putfield 71, 3) := by decide +kernel
theorem dX6_end_26 : decode cX6_end 26 = .ok (.iload_n 2, 1) := by decide +kernel
theorem dX6_end_27 : decode cX6_end 27 = .ok (.ireturn, 1) := by decide +kernel
theorem dX6_requires_0 : decode cX6_requires 0 = .ok (.iload_n 1, 1) := by decide +kernel
theorem dX6_requires_1 : decode cX6_requires 1 = .ok (.ifCond .ne 23, 3) := by decide +kernel
theorem dX6_requires_4 : decode cX6_requires 4 = .ok (.aload_n 0, 1) := by decide +kernel
theorem dX6_requires_5 : decode cX6_requires 5 = .ok (.getfield 75, 3) := by decide +kernel
theorem dX6_requires_8 : decode cX6_requires 8 = .ok (.ifCond .ne 16, 3) := by decide +kernel
theorem dX6_requires_11 : decode cX6_requires 11 = .ok (.aload_n 0, 1) := by decide +kernel
theorem dX6_requires_12 : decode cX6_requires 12 = .ok (.iload_n 2, 1) := by decide +kernel
theorem dX6_requires_13 : decode cX6_requires 13 = .ok (.putfield 75, 3) := by decide +kernel
theorem dX6_requires_16 : decode cX6_requires 16 = .ok (.aload_n 0, 1) := by decide +kernel
theorem dX6_requires_17 : decode cX6_requires 17 = .ok (.aload_n 0, 1) := by decide +kernel
theorem dX6_requires_18 : decode cX6_requires 18 = .ok (.getfield 78, 3) := by decide +kernel
theorem dX6_requires_21 : decode cX6_requires 21 = .ok (.putfield 81, 3) := by decide +kernel
theorem dX6_requires_24 : decode cX6_requires 24 = .ok (.return_, 1) := by decide +kernel
theorem dX6_byteAt_0 : decode cX6_byteAt 0 = .ok (.iload_n 1, 1) := by decide +kernel
theorem dX6_byteAt_1 : decode cX6_byteAt 1 = .ok (.aload_n 0, 1) := by decide +kernel
theorem dX6_byteAt_2 : decode cX6_byteAt 2 = .ok (.getfield 71, 3) := by decide +kernel
theorem dX6_byteAt_5 : decode cX6_byteAt 5 = .ok (.if_icmp .ge 12, 3) := by decide +kernel
theorem dX6_byteAt_8 : decode cX6_byteAt 8 = .ok (.aload_n 0, 1) := by decide +kernel
theorem dX6_byteAt_9 : decode cX6_byteAt 9 = .ok (.getfield 26, 3) := by decide +kernel
theorem dX6_byteAt_12 : decode cX6_byteAt 12 = .ok (.iload_n 1, 1) := by decide +kernel
theorem dX6_byteAt_13 : decode cX6_byteAt 13 = .ok (.iaload, 1) := by decide +kernel
theorem dX6_byteAt_14 : decode cX6_byteAt 14 = .ok (.goto 4, 3) := by decide +kernel
theorem dX6_byteAt_17 : decode cX6_byteAt 17 = .ok (.iconst (-1), 1) := by decide +kernel
theorem dX6_byteAt_18 : decode cX6_byteAt 18 = .ok (.ireturn, 1) := by decide +kernel
theorem dX6_is_0 : decode cX6_is 0 = .ok (.aload_n 0, 1) := by decide +kernel
theorem dX6_is_1 : decode cX6_is 1 = .ok (.getfield 84, 3) := by decide +kernel
theorem dX6_is_4 : decode cX6_is 4 = .ok (.aload_n 0, 1) := by decide +kernel
theorem dX6_is_5 : decode cX6_is 5 = .ok (.getfield 78, 3) := by decide +kernel
theorem dX6_is_8 : decode cX6_is 8 = .ok (.isub, 1) := by decide +kernel
theorem dX6_is_9 : decode cX6_is 9 = .ok (.iload_n 1, 1) := by decide +kernel
theorem dX6_is_10 : decode cX6_is 10 = .ok (.if_icmp .ne 63, 3) := by decide +kernel
theorem dX6_is_13 : decode cX6_is 13 = .ok (.aload_n 0, 1) := by decide +kernel
theorem dX6_is_14 : decode cX6_is 14 = .ok (.aload_n 0, 1) := by decide +kernel
theorem dX6_is_15 : decode cX6_is 15 = .ok (.getfield 78, 3) := by decide +kernel
theorem dX6_is_18 : decode cX6_is 18 = .ok (.invokevirtual 87, 3) := by decide +kernel
theorem dX6_is_21 : decode cX6_is 21 = .ok (.iload_n 2, 1) := by decide +kernel
theorem dX6_is_22 : decode cX6_is 22 = .ok (.if_icmp .ne 51, 3) := by decide +kernel
theorem dX6_is_25 : decode cX6_is 25 = .ok (.aload_n 0, 1) := by decide +kernel
theorem dX6_is_26 : decode cX6_is 26 = .ok (.aload_n 0, 1) := by decide +kernel
theorem dX6_is_27 : decode cX6_is 27 = .ok (.getfield 78, 3) := by decide +kernel
theorem dX6_is_30 : decode cX6_is 30 = .ok (.iconst 1, 1) := by decide +kernel
theorem dX6_is_31 : decode cX6_is 31 = .ok (.iadd, 1) := by decide +kernel
theorem dX6_is_32 : decode cX6_is 32 = .ok (.invokevirtual 87, 3) := by decide +kernel
theorem dX6_is_35 : decode cX6_is 35 = .ok (.iload_n 3, 1) := by decide +kernel
theorem dX6_is_36 : decode cX6_is 36 = .ok (.if_icmp .ne 37, 3) := by decide +kernel
theorem dX6_is_39 : decode cX6_is 39 = .ok (.aload_n 0, 1) := by decide +kernel
theorem dX6_is_40 : decode cX6_is 40 = .ok (.aload_n 0, 1) := by decide +kernel
theorem dX6_is_41 : decode cX6_is 41 = .ok (.getfield 78, 3) := by decide +kernel
theorem dX6_is_44 : decode cX6_is 44 = .ok (.iconst 2, 1) := by decide +kernel
theorem dX6_is_45 : decode cX6_is 45 = .ok (.iadd, 1) := by decide +kernel
theorem dX6_is_46 : decode cX6_is 46 = .ok (.invokevirtual 87, 3) := by decide +kernel
theorem dX6_is_49 : decode cX6_is 49 = .ok (.iload 4, 2) := by decide +kernel
theorem dX6_is_51 : decode cX6_is 51 = .ok (.if_icmp .ne 22, 3) := by decide +kernel
theorem dX6_is_54 : decode cX6_is 54 = .ok (.aload_n 0, 1) := by decide +kernel
theorem dX6_is_55 : decode cX6_is 55 = .ok (.aload_n 0, 1) := by decide +kernel
theorem dX6_is_56 : decode cX6_is 56 = .ok (.getfield 78, 3) := by decide +kernel
theorem dX6_is_59 : decode cX6_is 59 = .ok (.iconst 3, 1) := by decide +kernel
theorem dX6_is_60 : decode cX6_is 60 = .ok (.iadd, 1) := by decide +kernel
theorem dX6_is_61 : decode cX6_is 61 = .ok (.invokevirtual 87, 3) := by decide +kernel
theorem dX6_is_64 : decode cX6_is 64 = .ok (.iload 5, 2) := by decide +kernel
theorem dX6_is_66 : decode cX6_is 66 = .ok (.if_icmp .ne 7, 3) := by decide +kernel
theorem dX6_is_69 : decode cX6_is 69 = .ok (.iconst 1, 1) := by decide +kernel
theorem dX6_is_70 : decode cX6_is 70 = .ok (.goto 4, 3) := by decide +kernel
theorem dX6_is_73 : decode cX6_is 73 = .ok (.iconst 0, 1) := by decide +kernel
theorem dX6_is_74 : decode cX6_is 74 = .ok (.ireturn, 1) := by decide +kernel
theorem dX6_endsIn_0 : decode cX6_endsIn 0 = .ok (.aload_n 0, 1) := by decide +kernel
theorem dX6_endsIn_1 : decode cX6_endsIn 1 = .ok (.aload_n 0, 1) := by decide +kernel
theorem dX6_endsIn_2 : decode cX6_endsIn 2 = .ok (.getfield 78, 3) := by decide +kernel
theorem dX6_endsIn_5 : decode cX6_endsIn 5 = .ok (.iconst 4, 1) := by decide +kernel
theorem dX6_endsIn_6 : decode cX6_endsIn 6 = .ok (.iadd, 1) := by decide +kernel
theorem dX6_endsIn_7 : decode cX6_endsIn 7 = .ok (.invokevirtual 87, 3) := by decide +kernel
theorem dX6_endsIn_10 : decode cX6_endsIn 10 = .ok (.iload_n 1, 1) := by decide +kernel
theorem dX6_endsIn_11 : decode cX6_endsIn 11 = .ok (.if_icmp .ne 25, 3) := by decide +kernel
theorem dX6_endsIn_14 : decode cX6_endsIn 14 = .ok (.iload_n 2, 1) := by decide +kernel
theorem dX6_endsIn_15 : decode cX6_endsIn 15 = .ok (.ifCond .eq 17, 3) := by decide +kernel
theorem dX6_endsIn_18 : decode cX6_endsIn 18 = .ok (.aload_n 0, 1) := by decide +kernel
theorem dX6_endsIn_19 : decode cX6_endsIn 19 = .ok (.aload_n 0, 1) := by decide +kernel
theorem dX6_endsIn_20 : decode cX6_endsIn 20 = .ok (.getfield 78, 3) := by decide +kernel
theorem dX6_endsIn_23 : decode cX6_endsIn 23 = .ok (.iconst 5, 1) := by decide +kernel
theorem dX6_endsIn_24 : decode cX6_endsIn 24 = .ok (.iadd, 1) := by decide +kernel
theorem dX6_endsIn_25 : decode cX6_endsIn 25 = .ok (.invokevirtual 87, 3) := by decide +kernel
theorem dX6_endsIn_28 : decode cX6_endsIn 28 = .ok (.iload_n 2, 1) := by decide +kernel
theorem dX6_endsIn_29 : decode cX6_endsIn 29 = .ok (.if_icmp .ne 7, 3) := by decide +kernel
theorem dX6_endsIn_32 : decode cX6_endsIn 32 = .ok (.iconst 1, 1) := by decide +kernel
theorem dX6_endsIn_33 : decode cX6_endsIn 33 = .ok (.goto 4, 3) := by decide +kernel
theorem dX6_endsIn_36 : decode cX6_endsIn 36 = .ok (.iconst 0, 1) := by decide +kernel
theorem dX6_endsIn_37 : decode cX6_endsIn 37 = .ok (.ireturn, 1) := by decide +kernel
theorem dX6_lineNow_0 : decode cX6_lineNow 0 = .ok (.aload_n 0, 1) := by decide +kernel
theorem dX6_lineNow_1 : decode cX6_lineNow 1 = .ok (.iconst 5, 1) := by decide +kernel
theorem dX6_lineNow_2 : decode cX6_lineNow 2 = .ok (.bipush 112, 2) := by decide +kernel
theorem dX6_lineNow_4 : decode cX6_lineNow 4 = .ok (.bipush 108, 2) := by decide +kernel
theorem dX6_lineNow_6 : decode cX6_lineNow 6 = .ok (.bipush 97, 2) := by decide +kernel
theorem dX6_lineNow_8 : decode cX6_lineNow 8 = .ok (.bipush 105, 2) := by decide +kernel
theorem dX6_lineNow_10 : decode cX6_lineNow 10 = .ok (.invokevirtual 91, 3) := by decide +kernel
theorem dX6_lineNow_13 : decode cX6_lineNow 13 = .ok (.ifCond .eq 15, 3) := by decide +kernel
theorem dX6_lineNow_16 : decode cX6_lineNow 16 = .ok (.aload_n 0, 1) := by decide +kernel
theorem dX6_lineNow_17 : decode cX6_lineNow 17 = .ok (.bipush 110, 2) := by decide +kernel
theorem dX6_lineNow_19 : decode cX6_lineNow 19 = .ok (.iconst 0, 1) := by decide +kernel
theorem dX6_lineNow_20 : decode cX6_lineNow 20 = .ok (.invokevirtual 95, 3) := by decide +kernel
theorem dX6_lineNow_23 : decode cX6_lineNow 23 = .ok (.ifCond .eq 5, 3) := by decide +kernel
theorem dX6_lineNow_26 : decode cX6_lineNow 26 = .ok (.iconst 0, 1) := by decide +kernel
theorem dX6_lineNow_27 : decode cX6_lineNow 27 = .ok (.ireturn, 1) := by decide +kernel
theorem dX6_lineNow_28 : decode cX6_lineNow 28 = .ok (.aload_n 0, 1) := by decide +kernel
theorem dX6_lineNow_29 : decode cX6_lineNow 29 = .ok (.iconst 5, 1) := by decide +kernel
theorem dX6_lineNow_30 : decode cX6_lineNow 30 = .ok (.bipush 115, 2) := by decide +kernel
theorem dX6_lineNow_32 : decode cX6_lineNow 32 = .ok (.bipush 97, 2) := by decide +kernel
theorem dX6_lineNow_34 : decode cX6_lineNow 34 = .ok (.bipush 118, 2) := by decide +kernel
theorem dX6_lineNow_36 : decode cX6_lineNow 36 = .ok (.bipush 101, 2) := by decide +kernel
theorem dX6_lineNow_38 : decode cX6_lineNow 38 = .ok (.invokevirtual 91, 3) := by decide +kernel
theorem dX6_lineNow_41 : decode cX6_lineNow 41 = .ok (.ifCond .eq 15, 3) := by decide +kernel
theorem dX6_lineNow_44 : decode cX6_lineNow 44 = .ok (.aload_n 0, 1) := by decide +kernel
theorem dX6_lineNow_45 : decode cX6_lineNow 45 = .ok (.bipush 114, 2) := by decide +kernel
theorem dX6_lineNow_47 : decode cX6_lineNow 47 = .ok (.iconst 0, 1) := by decide +kernel
theorem dX6_lineNow_48 : decode cX6_lineNow 48 = .ok (.invokevirtual 95, 3) := by decide +kernel
theorem dX6_lineNow_51 : decode cX6_lineNow 51 = .ok (.ifCond .eq 5, 3) := by decide +kernel
theorem dX6_lineNow_54 : decode cX6_lineNow 54 = .ok (.iconst 1, 1) := by decide +kernel
theorem dX6_lineNow_55 : decode cX6_lineNow 55 = .ok (.ireturn, 1) := by decide +kernel
theorem dX6_lineNow_56 : decode cX6_lineNow 56 = .ok (.aload_n 0, 1) := by decide +kernel
theorem dX6_lineNow_57 : decode cX6_lineNow 57 = .ok (.iconst 4, 1) := by decide +kernel
theorem dX6_lineNow_58 : decode cX6_lineNow 58 = .ok (.bipush 119, 2) := by decide +kernel
theorem dX6_lineNow_60 : decode cX6_lineNow 60 = .ok (.bipush 97, 2) := by decide +kernel
theorem dX6_lineNow_62 : decode cX6_lineNow 62 = .ok (.bipush 114, 2) := by decide +kernel
theorem dX6_lineNow_64 : decode cX6_lineNow 64 = .ok (.bipush 121, 2) := by decide +kernel
theorem dX6_lineNow_66 : decode cX6_lineNow 66 = .ok (.invokevirtual 91, 3) := by decide +kernel
theorem dX6_lineNow_69 : decode cX6_lineNow 69 = .ok (.ifCond .eq 5, 3) := by decide +kernel
theorem dX6_lineNow_72 : decode cX6_lineNow 72 = .ok (.iconst 2, 1) := by decide +kernel
theorem dX6_lineNow_73 : decode cX6_lineNow 73 = .ok (.ireturn, 1) := by decide +kernel
theorem dX6_lineNow_74 : decode cX6_lineNow 74 = .ok (.aload_n 0, 1) := by decide +kernel
theorem dX6_lineNow_75 : decode cX6_lineNow 75 = .ok (.iconst 5, 1) := by decide +kernel
theorem dX6_lineNow_76 : decode cX6_lineNow 76 = .ok (.bipush 101, 2) := by decide +kernel
theorem dX6_lineNow_78 : decode cX6_lineNow 78 = .ok (.bipush 97, 2) := by decide +kernel
theorem dX6_lineNow_80 : decode cX6_lineNow 80 = .ok (.bipush 114, 2) := by decide +kernel
theorem dX6_lineNow_82 : decode cX6_lineNow 82 = .ok (.bipush 108, 2) := by decide +kernel
theorem dX6_lineNow_84 : decode cX6_lineNow 84 = .ok (.invokevirtual 91, 3) := by decide +kernel
theorem dX6_lineNow_87 : decode cX6_lineNow 87 = .ok (.ifCond .eq 15, 3) := by decide +kernel
theorem dX6_lineNow_90 : decode cX6_lineNow 90 = .ok (.aload_n 0, 1) := by decide +kernel
theorem dX6_lineNow_91 : decode cX6_lineNow 91 = .ok (.bipush 121, 2) := by decide +kernel
theorem dX6_lineNow_93 : decode cX6_lineNow 93 = .ok (.iconst 0, 1) := by decide +kernel
theorem dX6_lineNow_94 : decode cX6_lineNow 94 = .ok (.invokevirtual 95, 3) := by decide +kernel
theorem dX6_lineNow_97 : decode cX6_lineNow 97 = .ok (.ifCond .eq 5, 3) := by decide +kernel
theorem dX6_lineNow_100 : decode cX6_lineNow 100 = .ok (.iconst 3, 1) := by decide +kernel
theorem dX6_lineNow_101 : decode cX6_lineNow 101 = .ok (.ireturn, 1) := by decide +kernel
theorem dX6_lineNow_102 : decode cX6_lineNow 102 = .ok (.aload_n 0, 1) := by decide +kernel
theorem dX6_lineNow_103 : decode cX6_lineNow 103 = .ok (.iconst 4, 1) := by decide +kernel
theorem dX6_lineNow_104 : decode cX6_lineNow 104 = .ok (.bipush 109, 2) := by decide +kernel
theorem dX6_lineNow_106 : decode cX6_lineNow 106 = .ok (.bipush 97, 2) := by decide +kernel
theorem dX6_lineNow_108 : decode cX6_lineNow 108 = .ok (.bipush 114, 2) := by decide +kernel
theorem dX6_lineNow_110 : decode cX6_lineNow 110 = .ok (.bipush 107, 2) := by decide +kernel
theorem dX6_lineNow_112 : decode cX6_lineNow 112 = .ok (.invokevirtual 91, 3) := by decide +kernel
theorem dX6_lineNow_115 : decode cX6_lineNow 115 = .ok (.ifCond .eq 5, 3) := by decide +kernel
theorem dX6_lineNow_118 : decode cX6_lineNow 118 = .ok (.iconst 4, 1) := by decide +kernel
theorem dX6_lineNow_119 : decode cX6_lineNow 119 = .ok (.ireturn, 1) := by decide +kernel
theorem dX6_lineNow_120 : decode cX6_lineNow 120 = .ok (.aload_n 0, 1) := by decide +kernel
theorem dX6_lineNow_121 : decode cX6_lineNow 121 = .ok (.iconst 4, 1) := by decide +kernel
theorem dX6_lineNow_122 : decode cX6_lineNow 122 = .ok (.bipush 99, 2) := by decide +kernel
theorem dX6_lineNow_124 : decode cX6_lineNow 124 = .ok (.bipush 111, 2) := by decide +kernel
theorem dX6_lineNow_126 : decode cX6_lineNow 126 = .ok (.bipush 111, 2) := by decide +kernel
theorem dX6_lineNow_128 : decode cX6_lineNow 128 = .ok (.bipush 108, 2) := by decide +kernel
theorem dX6_lineNow_130 : decode cX6_lineNow 130 = .ok (.invokevirtual 91, 3) := by decide +kernel
theorem dX6_lineNow_133 : decode cX6_lineNow 133 = .ok (.ifCond .eq 5, 3) := by decide +kernel
theorem dX6_lineNow_136 : decode cX6_lineNow 136 = .ok (.iconst 5, 1) := by decide +kernel
theorem dX6_lineNow_137 : decode cX6_lineNow 137 = .ok (.ireturn, 1) := by decide +kernel
theorem dX6_lineNow_138 : decode cX6_lineNow 138 = .ok (.aload_n 0, 1) := by decide +kernel
theorem dX6_lineNow_139 : decode cX6_lineNow 139 = .ok (.bipush 6, 2) := by decide +kernel
theorem dX6_lineNow_141 : decode cX6_lineNow 141 = .ok (.bipush 115, 2) := by decide +kernel
theorem dX6_lineNow_143 : decode cX6_lineNow 143 = .ok (.bipush 112, 2) := by decide +kernel
theorem dX6_lineNow_145 : decode cX6_lineNow 145 = .ok (.bipush 114, 2) := by decide +kernel
theorem dX6_lineNow_147 : decode cX6_lineNow 147 = .ok (.bipush 101, 2) := by decide +kernel
theorem dX6_lineNow_149 : decode cX6_lineNow 149 = .ok (.invokevirtual 91, 3) := by decide +kernel
theorem dX6_lineNow_152 : decode cX6_lineNow 152 = .ok (.ifCond .eq 17, 3) := by decide +kernel
theorem dX6_lineNow_155 : decode cX6_lineNow 155 = .ok (.aload_n 0, 1) := by decide +kernel
theorem dX6_lineNow_156 : decode cX6_lineNow 156 = .ok (.bipush 97, 2) := by decide +kernel
theorem dX6_lineNow_158 : decode cX6_lineNow 158 = .ok (.bipush 100, 2) := by decide +kernel
theorem dX6_lineNow_160 : decode cX6_lineNow 160 = .ok (.invokevirtual 95, 3) := by decide +kernel
theorem dX6_lineNow_163 : decode cX6_lineNow 163 = .ok (.ifCond .eq 6, 3) := by decide +kernel
theorem dX6_lineNow_166 : decode cX6_lineNow 166 = .ok (.bipush 6, 2) := by decide +kernel
theorem dX6_lineNow_168 : decode cX6_lineNow 168 = .ok (.ireturn, 1) := by decide +kernel
theorem dX6_lineNow_169 : decode cX6_lineNow 169 = .ok (.aload_n 0, 1) := by decide +kernel
theorem dX6_lineNow_170 : decode cX6_lineNow 170 = .ok (.iconst 5, 1) := by decide +kernel
theorem dX6_lineNow_171 : decode cX6_lineNow 171 = .ok (.bipush 108, 2) := by decide +kernel
theorem dX6_lineNow_173 : decode cX6_lineNow 173 = .ok (.bipush 105, 2) := by decide +kernel
theorem dX6_lineNow_175 : decode cX6_lineNow 175 = .ok (.bipush 110, 2) := by decide +kernel
theorem dX6_lineNow_177 : decode cX6_lineNow 177 = .ok (.bipush 101, 2) := by decide +kernel
theorem dX6_lineNow_179 : decode cX6_lineNow 179 = .ok (.invokevirtual 91, 3) := by decide +kernel
theorem dX6_lineNow_182 : decode cX6_lineNow 182 = .ok (.ifCond .eq 18, 3) := by decide +kernel
theorem dX6_lineNow_185 : decode cX6_lineNow 185 = .ok (.aload_n 0, 1) := by decide +kernel
theorem dX6_lineNow_186 : decode cX6_lineNow 186 = .ok (.bipush 115, 2) := by decide +kernel
theorem dX6_lineNow_188 : decode cX6_lineNow 188 = .ok (.iconst 0, 1) := by decide +kernel
theorem dX6_lineNow_189 : decode cX6_lineNow 189 = .ok (.invokevirtual 95, 3) := by decide +kernel
theorem dX6_lineNow_192 : decode cX6_lineNow 192 = .ok (.ifCond .eq 8, 3) := by decide +kernel
theorem dX6_lineNow_195 : decode cX6_lineNow 195 = .ok (.bipush 7, 2) := by decide +kernel
theorem dX6_lineNow_197 : decode cX6_lineNow 197 = .ok (.goto 5, 3) := by decide +kernel
theorem dX6_lineNow_200 : decode cX6_lineNow 200 = .ok (.bipush (-4), 2) := by decide +kernel
theorem dX6_lineNow_202 : decode cX6_lineNow 202 = .ok (.ireturn, 1) := by decide +kernel
theorem dX6_reads_0 : decode cX6_reads 0 = .ok (.aload_n 0, 1) := by decide +kernel
theorem dX6_reads_1 : decode cX6_reads 1 = .ok (.getfield 75, 3) := by decide +kernel
theorem dX6_reads_4 : decode cX6_reads 4 = .ok (.ifCond .le 4, 3) := by decide +kernel
theorem dX6_reads_7 : decode cX6_reads 7 = .ok (.return_, 1) := by decide +kernel
theorem dX6_reads_8 : decode cX6_reads 8 = .ok (.aload_n 0, 1) := by decide +kernel
theorem dX6_reads_9 : decode cX6_reads 9 = .ok (.aload_n 0, 1) := by decide +kernel
theorem dX6_reads_10 : decode cX6_reads 10 = .ok (.getfield 84, 3) := by decide +kernel
theorem dX6_reads_13 : decode cX6_reads 13 = .ok (.invokevirtual 87, 3) := by decide +kernel
theorem dX6_reads_16 : decode cX6_reads 16 = .ok (.bipush 32, 2) := by decide +kernel
theorem dX6_reads_18 : decode cX6_reads 18 = .ok (.if_icmp .ne 16, 3) := by decide +kernel
theorem dX6_reads_21 : decode cX6_reads 21 = .ok (.aload_n 0, 1) := by decide +kernel
theorem dX6_reads_22 : decode cX6_reads 22 = .ok (.dup, 1) := by decide +kernel
theorem dX6_reads_23 : decode cX6_reads 23 = .ok (.getfield 84, 3) := by decide +kernel
theorem dX6_reads_26 : decode cX6_reads 26 = .ok (.iconst 1, 1) := by decide +kernel
theorem dX6_reads_27 : decode cX6_reads 27 = .ok (.iadd, 1) := by decide +kernel
theorem dX6_reads_28 : decode cX6_reads 28 = .ok (.putfield 84, 3) := by decide +kernel
theorem dX6_reads_31 : decode cX6_reads 31 = .ok (.goto (-23), 3) := by decide +kernel
theorem dX6_reads_34 : decode cX6_reads 34 = .ok (.aload_n 0, 1) := by decide +kernel
theorem dX6_reads_35 : decode cX6_reads 35 = .ok (.aload_n 0, 1) := by decide +kernel
theorem dX6_reads_36 : decode cX6_reads 36 = .ok (.getfield 84, 3) := by decide +kernel
theorem dX6_reads_39 : decode cX6_reads 39 = .ok (.putfield 78, 3) := by decide +kernel
theorem dX6_reads_42 : decode cX6_reads 42 = .ok (.aload_n 0, 1) := by decide +kernel
theorem dX6_reads_43 : decode cX6_reads 43 = .ok (.aload_n 0, 1) := by decide +kernel
theorem dX6_reads_44 : decode cX6_reads 44 = .ok (.getfield 84, 3) := by decide +kernel
theorem dX6_reads_47 : decode cX6_reads 47 = .ok (.invokevirtual 87, 3) := by decide +kernel
theorem dX6_reads_50 : decode cX6_reads 50 = .ok (.istore_n 1, 1) := by decide +kernel
theorem dX6_reads_51 : decode cX6_reads 51 = .ok (.iload_n 1, 1) := by decide +kernel
theorem dX6_reads_52 : decode cX6_reads 52 = .ok (.ifCond .ge 11, 3) := by decide +kernel
theorem dX6_reads_55 : decode cX6_reads 55 = .ok (.aload_n 0, 1) := by decide +kernel
theorem dX6_reads_56 : decode cX6_reads 56 = .ok (.iconst 0, 1) := by decide +kernel
theorem dX6_reads_57 : decode cX6_reads 57 = .ok (.putfield 99, 3) := by decide +kernel
theorem dX6_reads_60 : decode cX6_reads 60 = .ok (.goto 214, 3) := by decide +kernel
theorem dX6_reads_63 : decode cX6_reads 63 = .ok (.iload_n 1, 1) := by decide +kernel
theorem dX6_reads_64 : decode cX6_reads 64 = .ok (.i2l, 1) := by decide +kernel
theorem dX6_reads_65 : decode cX6_reads 65 = .ok (.ldc2_w 102, 3) := by decide +kernel
theorem dX6_reads_68 : decode cX6_reads 68 = .ok (.ldc2_w 104, 3) := by decide +kernel
theorem dX6_reads_71 : decode cX6_reads 71 = .ok (.invokestatic 67, 3) := by decide +kernel
theorem dX6_reads_74 : decode cX6_reads 74 = .ok (.ifCond .eq 42, 3) := by decide +kernel
theorem dX6_reads_77 : decode cX6_reads 77 = .ok (.aload_n 0, 1) := by decide +kernel
theorem dX6_reads_78 : decode cX6_reads 78 = .ok (.iconst 1, 1) := by decide +kernel
theorem dX6_reads_79 : decode cX6_reads 79 = .ok (.putfield 99, 3) := by decide +kernel
theorem dX6_reads_82 : decode cX6_reads 82 = .ok (.aload_n 0, 1) := by decide +kernel
theorem dX6_reads_83 : decode cX6_reads 83 = .ok (.aload_n 0, 1) := by decide +kernel
theorem dX6_reads_84 : decode cX6_reads 84 = .ok (.getfield 84, 3) := by decide +kernel
theorem dX6_reads_87 : decode cX6_reads 87 = .ok (.invokevirtual 87, 3) := by decide +kernel
theorem dX6_reads_90 : decode cX6_reads 90 = .ok (.i2l, 1) := by decide +kernel
theorem dX6_reads_91 : decode cX6_reads 91 = .ok (.ldc2_w 102, 3) := by decide +kernel
theorem dX6_reads_94 : decode cX6_reads 94 = .ok (.ldc2_w 104, 3) := by decide +kernel
theorem dX6_reads_97 : decode cX6_reads 97 = .ok (.invokestatic 67, 3) := by decide +kernel
theorem dX6_reads_100 : decode cX6_reads 100 = .ok (.ifCond .eq 174, 3) := by decide +kernel
theorem dX6_reads_103 : decode cX6_reads 103 = .ok (.aload_n 0, 1) := by decide +kernel
theorem dX6_reads_104 : decode cX6_reads 104 = .ok (.dup, 1) := by decide +kernel
theorem dX6_reads_105 : decode cX6_reads 105 = .ok (.getfield 84, 3) := by decide +kernel
theorem dX6_reads_108 : decode cX6_reads 108 = .ok (.iconst 1, 1) := by decide +kernel
theorem dX6_reads_109 : decode cX6_reads 109 = .ok (.iadd, 1) := by decide +kernel
theorem dX6_reads_110 : decode cX6_reads 110 = .ok (.putfield 84, 3) := by decide +kernel
theorem dX6_reads_113 : decode cX6_reads 113 = .ok (.goto (-31), 3) := by decide +kernel
theorem dX6_reads_116 : decode cX6_reads 116 = .ok (.iload_n 1, 1) := by decide +kernel
theorem dX6_reads_117 : decode cX6_reads 117 = .ok (.i2l, 1) := by decide +kernel
theorem dX6_reads_118 : decode cX6_reads 118 = .ok (.ldc2_w 106, 3) := by decide +kernel
theorem dX6_reads_121 : decode cX6_reads 121 = .ok (.ldc2_w 108, 3) := by decide +kernel
theorem dX6_reads_124 : decode cX6_reads 124 = .ok (.invokestatic 67, 3) := by decide +kernel
theorem dX6_reads_127 : decode cX6_reads 127 = .ok (.ifCond .eq 116, 3) := by decide +kernel
theorem dX6_reads_130 : decode cX6_reads 130 = .ok (.aload_n 0, 1) := by decide +kernel
theorem dX6_reads_131 : decode cX6_reads 131 = .ok (.iconst 2, 1) := by decide +kernel
theorem dX6_reads_132 : decode cX6_reads 132 = .ok (.putfield 99, 3) := by decide +kernel
theorem dX6_reads_135 : decode cX6_reads 135 = .ok (.aload_n 0, 1) := by decide +kernel
theorem dX6_reads_136 : decode cX6_reads 136 = .ok (.iconst 0, 1) := by decide +kernel
theorem dX6_reads_137 : decode cX6_reads 137 = .ok (.putfield 110, 3) := by decide +kernel
theorem dX6_reads_140 : decode cX6_reads 140 = .ok (.aload_n 0, 1) := by decide +kernel
theorem dX6_reads_141 : decode cX6_reads 141 = .ok (.aload_n 0, 1) := by decide +kernel
theorem dX6_reads_142 : decode cX6_reads 142 = .ok (.getfield 84, 3) := by decide +kernel
theorem dX6_reads_145 : decode cX6_reads 145 = .ok (.invokevirtual 87, 3) := by decide +kernel
theorem dX6_reads_148 : decode cX6_reads 148 = .ok (.i2l, 1) := by decide +kernel
theorem dX6_reads_149 : decode cX6_reads 149 = .ok (.ldc2_w 106, 3) := by decide +kernel
theorem dX6_reads_152 : decode cX6_reads 152 = .ok (.ldc2_w 108, 3) := by decide +kernel
theorem dX6_reads_155 : decode cX6_reads 155 = .ok (.invokestatic 67, 3) := by decide +kernel
theorem dX6_reads_158 : decode cX6_reads 158 = .ok (.ifCond .eq 59, 3) := by decide +kernel
theorem dX6_reads_161 : decode cX6_reads 161 = .ok (.aload_n 0, 1) := by decide +kernel
theorem dX6_reads_162 : decode cX6_reads 162 = .ok (.aload_n 0, 1) := by decide +kernel
theorem dX6_reads_163 : decode cX6_reads 163 = .ok (.getfield 84, 3) := by decide +kernel
theorem dX6_reads_166 : decode cX6_reads 166 = .ok (.aload_n 0, 1) := by decide +kernel
theorem dX6_reads_167 : decode cX6_reads 167 = .ok (.getfield 78, 3) := by decide +kernel
theorem dX6_reads_170 : decode cX6_reads 170 = .ok (.isub, 1) := by decide +kernel
theorem dX6_reads_171 : decode cX6_reads 171 = .ok (.iconst 3, 1) := by decide +kernel
theorem dX6_reads_172 : decode cX6_reads 172 = .ok (.if_icmp .ge 25, 3) := by decide +kernel
theorem dX6_reads_175 : decode cX6_reads 175 = .ok (.bipush 10, 2) := by decide +kernel
theorem dX6_reads_177 : decode cX6_reads 177 = .ok (.aload_n 0, 1) := by decide +kernel
theorem dX6_reads_178 : decode cX6_reads 178 = .ok (.getfield 110, 3) := by decide +kernel
theorem dX6_reads_181 : decode cX6_reads 181 = .ok (.imul, 1) := by decide +kernel
theorem dX6_reads_182 : decode cX6_reads 182 = .ok (.aload_n 0, 1) := by decide +kernel
theorem dX6_reads_183 : decode cX6_reads 183 = .ok (.aload_n 0, 1) := by decide +kernel
theorem dX6_reads_184 : decode cX6_reads 184 = .ok (.getfield 84, 3) := by decide +kernel
theorem dX6_reads_187 : decode cX6_reads 187 = .ok (.invokevirtual 87, 3) := by decide +kernel
theorem dX6_reads_190 : decode cX6_reads 190 = .ok (.iadd, 1) := by decide +kernel
theorem dX6_reads_191 : decode cX6_reads 191 = .ok (.bipush 48, 2) := by decide +kernel
theorem dX6_reads_193 : decode cX6_reads 193 = .ok (.isub, 1) := by decide +kernel
theorem dX6_reads_194 : decode cX6_reads 194 = .ok (.goto 7, 3) := by decide +kernel
theorem dX6_reads_197 : decode cX6_reads 197 = .ok (.aload_n 0, 1) := by decide +kernel
theorem dX6_reads_198 : decode cX6_reads 198 = .ok (.getfield 110, 3) := by decide +kernel
theorem dX6_reads_201 : decode cX6_reads 201 = .ok (.putfield 110, 3) := by decide +kernel
theorem dX6_reads_204 : decode cX6_reads 204 = .ok (.aload_n 0, 1) := by decide +kernel
theorem dX6_reads_205 : decode cX6_reads 205 = .ok (.dup, 1) := by decide +kernel
theorem dX6_reads_206 : decode cX6_reads 206 = .ok (.getfield 84, 3) := by decide +kernel
theorem dX6_reads_209 : decode cX6_reads 209 = .ok (.iconst 1, 1) := by decide +kernel
theorem dX6_reads_210 : decode cX6_reads 210 = .ok (.iadd, 1) := by decide +kernel
theorem dX6_reads_211 : decode cX6_reads 211 = .ok (.putfield 84, 3) := by decide +kernel
theorem dX6_reads_214 : decode cX6_reads 214 = .ok (.goto (-74), 3) := by decide +kernel
theorem dX6_reads_217 : decode cX6_reads 217 = .ok (.aload_n 0, 1) := by decide +kernel
theorem dX6_reads_218 : decode cX6_reads 218 = .ok (.aload_n 0, 1) := by decide +kernel
theorem dX6_reads_219 : decode cX6_reads 219 = .ok (.getfield 84, 3) := by decide +kernel
theorem dX6_reads_222 : decode cX6_reads 222 = .ok (.aload_n 0, 1) := by decide +kernel
theorem dX6_reads_223 : decode cX6_reads 223 = .ok (.getfield 78, 3) := by decide +kernel
theorem dX6_reads_226 : decode cX6_reads 226 = .ok (.isub, 1) := by decide +kernel
theorem dX6_reads_227 : decode cX6_reads 227 = .ok (.iconst 3, 1) := by decide +kernel
theorem dX6_reads_228 : decode cX6_reads 228 = .ok (.if_icmp .gt 7, 3) := by decide +kernel
theorem dX6_reads_231 : decode cX6_reads 231 = .ok (.iconst 1, 1) := by decide +kernel
theorem dX6_reads_232 : decode cX6_reads 232 = .ok (.goto 4, 3) := by decide +kernel
theorem dX6_reads_235 : decode cX6_reads 235 = .ok (.iconst 0, 1) := by decide +kernel
theorem dX6_reads_236 : decode cX6_reads 236 = .ok (.iconst 1, 1) := by decide +kernel
theorem dX6_reads_237 : decode cX6_reads 237 = .ok (.invokevirtual 113, 3) := by decide +kernel
theorem dX6_reads_240 : decode cX6_reads 240 = .ok (.goto 34, 3) := by decide +kernel
theorem dX6_reads_243 : decode cX6_reads 243 = .ok (.aload_n 0, 1) := by decide +kernel
theorem dX6_reads_244 : decode cX6_reads 244 = .ok (.iconst 3, 1) := by decide +kernel
theorem dX6_reads_245 : decode cX6_reads 245 = .ok (.putfield 99, 3) := by decide +kernel
theorem dX6_reads_248 : decode cX6_reads 248 = .ok (.aload_n 0, 1) := by decide +kernel
theorem dX6_reads_249 : decode cX6_reads 249 = .ok (.iload_n 1, 1) := by decide +kernel
theorem dX6_reads_250 : decode cX6_reads 250 = .ok (.bipush 59, 2) := by decide +kernel
theorem dX6_reads_252 : decode cX6_reads 252 = .ok (.if_icmp .ne 7, 3) := by decide +kernel
theorem dX6_reads_255 : decode cX6_reads 255 = .ok (.iconst 1, 1) := by decide +kernel
theorem dX6_reads_256 : decode cX6_reads 256 = .ok (.goto 4, 3) := by decide +kernel
theorem dX6_reads_259 : decode cX6_reads 259 = .ok (.iconst 0, 1) := by decide +kernel
theorem dX6_reads_260 : decode cX6_reads 260 = .ok (.iconst 1, 1) := by decide +kernel
theorem dX6_reads_261 : decode cX6_reads 261 = .ok (.invokevirtual 113, 3) := by decide +kernel
theorem dX6_reads_264 : decode cX6_reads 264 = .ok (.aload_n 0, 1) := by decide +kernel
theorem dX6_reads_265 : decode cX6_reads 265 = .ok (.dup, 1) := by decide +kernel
theorem dX6_reads_266 : decode cX6_reads 266 = .ok (.getfield 84, 3) := by decide +kernel
theorem dX6_reads_269 : decode cX6_reads 269 = .ok (.iconst 1, 1) := by decide +kernel
theorem dX6_reads_270 : decode cX6_reads 270 = .ok (.iadd, 1) := by decide +kernel
theorem dX6_reads_271 : decode cX6_reads 271 = .ok (.putfield 84, 3) := by decide +kernel
theorem dX6_reads_274 : decode cX6_reads 274 = .ok (.return_, 1) := by decide +kernel
theorem dX6_readNumber_0 : decode cX6_readNumber 0 = .ok (.aload_n 0, 1) := by decide +kernel
theorem dX6_readNumber_1 : decode cX6_readNumber 1 = .ok (.getfield 75, 3) := by decide +kernel
theorem dX6_readNumber_4 : decode cX6_readNumber 4 = .ok (.ifCond .ne 21, 3) := by decide +kernel
theorem dX6_readNumber_7 : decode cX6_readNumber 7 = .ok (.aload_n 0, 1) := by decide +kernel
theorem dX6_readNumber_8 : decode cX6_readNumber 8 = .ok (.aload_n 0, 1) := by decide +kernel
theorem dX6_readNumber_9 : decode cX6_readNumber 9 = .ok (.getfield 99, 3) := by decide +kernel
theorem dX6_readNumber_12 : decode cX6_readNumber 12 = .ok (.iconst 2, 1) := by decide +kernel
theorem dX6_readNumber_13 : decode cX6_readNumber 13 = .ok (.if_icmp .ne 7, 3) := by decide +kernel
theorem dX6_readNumber_16 : decode cX6_readNumber 16 = .ok (.iconst 1, 1) := by decide +kernel
theorem dX6_readNumber_17 : decode cX6_readNumber 17 = .ok (.goto 4, 3) := by decide +kernel
theorem dX6_readNumber_20 : decode cX6_readNumber 20 = .ok (.iconst 0, 1) := by decide +kernel
theorem dX6_readNumber_21 : decode cX6_readNumber 21 = .ok (.iconst 2, 1) := by decide +kernel
theorem dX6_readNumber_22 : decode cX6_readNumber 22 = .ok (.invokevirtual 113, 3) := by decide +kernel
theorem dX6_readNumber_25 : decode cX6_readNumber 25 = .ok (.aload_n 0, 1) := by decide +kernel
theorem dX6_readNumber_26 : decode cX6_readNumber 26 = .ok (.getfield 75, 3) := by decide +kernel
theorem dX6_readNumber_29 : decode cX6_readNumber 29 = .ok (.ifCond .ne 20, 3) := by decide +kernel
theorem dX6_readNumber_32 : decode cX6_readNumber 32 = .ok (.aload_n 0, 1) := by decide +kernel
theorem dX6_readNumber_33 : decode cX6_readNumber 33 = .ok (.aload_n 0, 1) := by decide +kernel
theorem dX6_readNumber_34 : decode cX6_readNumber 34 = .ok (.getfield 110, 3) := by decide +kernel
theorem dX6_readNumber_37 : decode cX6_readNumber 37 = .ok (.i2l, 1) := by decide +kernel
theorem dX6_readNumber_38 : decode cX6_readNumber 38 = .ok (.iload_n 1, 1) := by decide +kernel
theorem dX6_readNumber_39 : decode cX6_readNumber 39 = .ok (.i2l, 1) := by decide +kernel
theorem dX6_readNumber_40 : decode cX6_readNumber 40 = .ok (.iload_n 2, 1) := by decide +kernel
theorem dX6_readNumber_41 : decode cX6_readNumber 41 = .ok (.i2l, 1) := by decide +kernel
theorem dX6_readNumber_42 : decode cX6_readNumber 42 = .ok (.invokestatic 67, 3) := by decide +kernel
theorem dX6_readNumber_45 : decode cX6_readNumber 45 = .ok (.iconst 3, 1) := by decide +kernel
theorem dX6_readNumber_46 : decode cX6_readNumber 46 = .ok (.invokevirtual 113, 3) := by decide +kernel
theorem dX6_readNumber_49 : decode cX6_readNumber 49 = .ok (.aload_n 0, 1) := by decide +kernel
theorem dX6_readNumber_50 : decode cX6_readNumber 50 = .ok (.getfield 75, 3) := by decide +kernel
theorem dX6_readNumber_53 : decode cX6_readNumber 53 = .ok (.ifCond .ne 10, 3) := by decide +kernel
theorem dX6_readNumber_56 : decode cX6_readNumber 56 = .ok (.aload_n 0, 1) := by decide +kernel
theorem dX6_readNumber_57 : decode cX6_readNumber 57 = .ok (.getfield 110, 3) := by decide +kernel
theorem dX6_readNumber_60 : decode cX6_readNumber 60 = .ok (.goto 4, 3) := by decide +kernel
theorem dX6_readNumber_63 : decode cX6_readNumber 63 = .ok (.iconst 0, 1) := by decide +kernel
theorem dX6_readNumber_64 : decode cX6_readNumber 64 = .ok (.istore_n 3, 1) := by decide +kernel
theorem dX6_readNumber_65 : decode cX6_readNumber 65 = .ok (.aload_n 0, 1) := by decide +kernel
theorem dX6_readNumber_66 : decode cX6_readNumber 66 = .ok (.invokevirtual 117, 3) := by decide +kernel
theorem dX6_readNumber_69 : decode cX6_readNumber 69 = .ok (.iload_n 3, 1) := by decide +kernel
theorem dX6_readNumber_70 : decode cX6_readNumber 70 = .ok (.ireturn, 1) := by decide +kernel
theorem dX6_readLines_0 : decode cX6_readLines 0 = .ok (.aload_n 0, 1) := by decide +kernel
theorem dX6_readLines_1 : decode cX6_readLines 1 = .ok (.getfield 20, 3) := by decide +kernel
theorem dX6_readLines_4 : decode cX6_readLines 4 = .ok (.bipush 37, 2) := by decide +kernel
theorem dX6_readLines_6 : decode cX6_readLines 6 = .ok (.aload_n 0, 1) := by decide +kernel
theorem dX6_readLines_7 : decode cX6_readLines 7 = .ok (.iconst 0, 1) := by decide +kernel
theorem dX6_readLines_8 : decode cX6_readLines 8 = .ok (.sipush 255, 3) := by decide +kernel
theorem dX6_readLines_11 : decode cX6_readLines 11 = .ok (.invokevirtual 120, 3) := by decide +kernel
theorem dX6_readLines_14 : decode cX6_readLines 14 = .ok (.iastore, 1) := by decide +kernel
theorem dX6_readLines_15 : decode cX6_readLines 15 = .ok (.aload_n 0, 1) := by decide +kernel
theorem dX6_readLines_16 : decode cX6_readLines 16 = .ok (.getfield 20, 3) := by decide +kernel
theorem dX6_readLines_19 : decode cX6_readLines 19 = .ok (.bipush 49, 2) := by decide +kernel
theorem dX6_readLines_21 : decode cX6_readLines 21 = .ok (.iconst 1, 1) := by decide +kernel
theorem dX6_readLines_22 : decode cX6_readLines 22 = .ok (.iastore, 1) := by decide +kernel
theorem dX6_readLines_23 : decode cX6_readLines 23 = .ok (.aload_n 0, 1) := by decide +kernel
theorem dX6_readLines_24 : decode cX6_readLines 24 = .ok (.getfield 75, 3) := by decide +kernel
theorem dX6_readLines_27 : decode cX6_readLines 27 = .ok (.ifCond .ne 77, 3) := by decide +kernel
theorem dX6_readLines_30 : decode cX6_readLines 30 = .ok (.aload_n 0, 1) := by decide +kernel
theorem dX6_readLines_31 : decode cX6_readLines 31 = .ok (.getfield 99, 3) := by decide +kernel
theorem dX6_readLines_34 : decode cX6_readLines 34 = .ok (.iconst 2, 1) := by decide +kernel
theorem dX6_readLines_35 : decode cX6_readLines 35 = .ok (.if_icmp .ne 69, 3) := by decide +kernel
theorem dX6_readLines_38 : decode cX6_readLines 38 = .ok (.aload_n 0, 1) := by decide +kernel
theorem dX6_readLines_39 : decode cX6_readLines 39 = .ok (.aload_n 0, 1) := by decide +kernel
theorem dX6_readLines_40 : decode cX6_readLines 40 = .ok (.getfield 20, 3) := by decide +kernel
theorem dX6_readLines_43 : decode cX6_readLines 43 = .ok (.bipush 49, 2) := by decide +kernel
theorem dX6_readLines_45 : decode cX6_readLines 45 = .ok (.iaload, 1) := by decide +kernel
theorem dX6_readLines_46 : decode cX6_readLines 46 = .ok (.bipush 12, 2) := by decide +kernel
theorem dX6_readLines_48 : decode cX6_readLines 48 = .ok (.if_icmp .ge 7, 3) := by decide +kernel
theorem dX6_readLines_51 : decode cX6_readLines 51 = .ok (.iconst 1, 1) := by decide +kernel
theorem dX6_readLines_52 : decode cX6_readLines 52 = .ok (.goto 4, 3) := by decide +kernel
theorem dX6_readLines_55 : decode cX6_readLines 55 = .ok (.iconst 0, 1) := by decide +kernel
theorem dX6_readLines_56 : decode cX6_readLines 56 = .ok (.iconst 5, 1) := by decide +kernel
theorem dX6_readLines_57 : decode cX6_readLines 57 = .ok (.invokevirtual 113, 3) := by decide +kernel
theorem dX6_readLines_60 : decode cX6_readLines 60 = .ok (.aload_n 0, 1) := by decide +kernel
theorem dX6_readLines_61 : decode cX6_readLines 61 = .ok (.getfield 75, 3) := by decide +kernel
theorem dX6_readLines_64 : decode cX6_readLines 64 = .ok (.ifCond .ne (-41), 3) := by decide +kernel
theorem dX6_readLines_67 : decode cX6_readLines 67 = .ok (.aload_n 0, 1) := by decide +kernel
theorem dX6_readLines_68 : decode cX6_readLines 68 = .ok (.getfield 20, 3) := by decide +kernel
theorem dX6_readLines_71 : decode cX6_readLines 71 = .ok (.bipush 37, 2) := by decide +kernel
theorem dX6_readLines_73 : decode cX6_readLines 73 = .ok (.aload_n 0, 1) := by decide +kernel
theorem dX6_readLines_74 : decode cX6_readLines 74 = .ok (.getfield 20, 3) := by decide +kernel
theorem dX6_readLines_77 : decode cX6_readLines 77 = .ok (.bipush 49, 2) := by decide +kernel
theorem dX6_readLines_79 : decode cX6_readLines 79 = .ok (.iaload, 1) := by decide +kernel
theorem dX6_readLines_80 : decode cX6_readLines 80 = .ok (.iadd, 1) := by decide +kernel
theorem dX6_readLines_81 : decode cX6_readLines 81 = .ok (.aload_n 0, 1) := by decide +kernel
theorem dX6_readLines_82 : decode cX6_readLines 82 = .ok (.iconst 0, 1) := by decide +kernel
theorem dX6_readLines_83 : decode cX6_readLines 83 = .ok (.sipush 255, 3) := by decide +kernel
theorem dX6_readLines_86 : decode cX6_readLines 86 = .ok (.invokevirtual 120, 3) := by decide +kernel
theorem dX6_readLines_89 : decode cX6_readLines 89 = .ok (.iastore, 1) := by decide +kernel
theorem dX6_readLines_90 : decode cX6_readLines 90 = .ok (.aload_n 0, 1) := by decide +kernel
theorem dX6_readLines_91 : decode cX6_readLines 91 = .ok (.getfield 20, 3) := by decide +kernel
theorem dX6_readLines_94 : decode cX6_readLines 94 = .ok (.bipush 49, 2) := by decide +kernel
theorem dX6_readLines_96 : decode cX6_readLines 96 = .ok (.dup2, 1) := by decide +kernel
theorem dX6_readLines_97 : decode cX6_readLines 97 = .ok (.iaload, 1) := by decide +kernel
theorem dX6_readLines_98 : decode cX6_readLines 98 = .ok (.iconst 1, 1) := by decide +kernel
theorem dX6_readLines_99 : decode cX6_readLines 99 = .ok (.iadd, 1) := by decide +kernel
theorem dX6_readLines_100 : decode cX6_readLines 100 = .ok (.iastore, 1) := by decide +kernel
theorem dX6_readLines_101 : decode cX6_readLines 101 = .ok (.goto (-78), 3) := by decide +kernel
theorem dX6_readLines_104 : decode cX6_readLines 104 = .ok (.return_, 1) := by decide +kernel
theorem dX6_mostOf_0 : decode cX6_mostOf 0 = .ok (.iload_n 0, 1) := by decide +kernel
theorem dX6_mostOf_1 : decode cX6_mostOf 1 = .ok (.ifCond .ne 8, 3) := by decide +kernel
theorem dX6_mostOf_4 : decode cX6_mostOf 4 = .ok (.bipush 60, 2) := by decide +kernel
theorem dX6_mostOf_6 : decode cX6_mostOf 6 = .ok (.goto 14, 3) := by decide +kernel
theorem dX6_mostOf_9 : decode cX6_mostOf 9 = .ok (.iload_n 0, 1) := by decide +kernel
theorem dX6_mostOf_10 : decode cX6_mostOf 10 = .ok (.iconst 1, 1) := by decide +kernel
theorem dX6_mostOf_11 : decode cX6_mostOf 11 = .ok (.if_icmp .ne 8, 3) := by decide +kernel
theorem dX6_mostOf_14 : decode cX6_mostOf 14 = .ok (.bipush 9, 2) := by decide +kernel
theorem dX6_mostOf_16 : decode cX6_mostOf 16 = .ok (.goto 4, 3) := by decide +kernel
theorem dX6_mostOf_19 : decode cX6_mostOf 19 = .ok (.iconst 3, 1) := by decide +kernel
theorem dX6_mostOf_20 : decode cX6_mostOf 20 = .ok (.ireturn, 1) := by decide +kernel
theorem dX6_lowOf_0 : decode cX6_lowOf 0 = .ok (.iload_n 0, 1) := by decide +kernel
theorem dX6_lowOf_1 : decode cX6_lowOf 1 = .ok (.ifCond .ne 7, 3) := by decide +kernel
theorem dX6_lowOf_4 : decode cX6_lowOf 4 = .ok (.iconst 1, 1) := by decide +kernel
theorem dX6_lowOf_5 : decode cX6_lowOf 5 = .ok (.goto 4, 3) := by decide +kernel
theorem dX6_lowOf_8 : decode cX6_lowOf 8 = .ok (.iconst 0, 1) := by decide +kernel
theorem dX6_lowOf_9 : decode cX6_lowOf 9 = .ok (.ireturn, 1) := by decide +kernel
theorem dX6_readLineOf_0 : decode cX6_readLineOf 0 = .ok (.iload_n 1, 1) := by decide +kernel
theorem dX6_readLineOf_1 : decode cX6_readLineOf 1 = .ok (.bipush 7, 2) := by decide +kernel
theorem dX6_readLineOf_3 : decode cX6_readLineOf 3 = .ok (.if_icmp .ne 10, 3) := by decide +kernel
theorem dX6_readLineOf_6 : decode cX6_readLineOf 6 = .ok (.aload_n 0, 1) := by decide +kernel
theorem dX6_readLineOf_7 : decode cX6_readLineOf 7 = .ok (.invokevirtual 124, 3) := by decide +kernel
theorem dX6_readLineOf_10 : decode cX6_readLineOf 10 = .ok (.goto 91, 3) := by decide +kernel
theorem dX6_readLineOf_13 : decode cX6_readLineOf 13 = .ok (.iload_n 1, 1) := by decide +kernel
theorem dX6_readLineOf_14 : decode cX6_readLineOf 14 = .ok (.iconst 4, 1) := by decide +kernel
theorem dX6_readLineOf_15 : decode cX6_readLineOf 15 = .ok (.if_icmp .lt 33, 3) := by decide +kernel
theorem dX6_readLineOf_18 : decode cX6_readLineOf 18 = .ok (.aload_n 0, 1) := by decide +kernel
theorem dX6_readLineOf_19 : decode cX6_readLineOf 19 = .ok (.getfield 20, 3) := by decide +kernel
theorem dX6_readLineOf_22 : decode cX6_readLineOf 22 = .ok (.bipush 34, 2) := by decide +kernel
theorem dX6_readLineOf_24 : decode cX6_readLineOf 24 = .ok (.iload_n 1, 1) := by decide +kernel
theorem dX6_readLineOf_25 : decode cX6_readLineOf 25 = .ok (.iadd, 1) := by decide +kernel
theorem dX6_readLineOf_26 : decode cX6_readLineOf 26 = .ok (.iconst 4, 1) := by decide +kernel
theorem dX6_readLineOf_27 : decode cX6_readLineOf 27 = .ok (.isub, 1) := by decide +kernel
theorem dX6_readLineOf_28 : decode cX6_readLineOf 28 = .ok (.aload_n 0, 1) := by decide +kernel
theorem dX6_readLineOf_29 : decode cX6_readLineOf 29 = .ok (.iload_n 1, 1) := by decide +kernel
theorem dX6_readLineOf_30 : decode cX6_readLineOf 30 = .ok (.iconst 4, 1) := by decide +kernel
theorem dX6_readLineOf_31 : decode cX6_readLineOf 31 = .ok (.isub, 1) := by decide +kernel
theorem dX6_readLineOf_32 : decode cX6_readLineOf 32 = .ok (.invokestatic 127, 3) := by decide +kernel
theorem dX6_readLineOf_35 : decode cX6_readLineOf 35 = .ok (.iload_n 1, 1) := by decide +kernel
theorem dX6_readLineOf_36 : decode cX6_readLineOf 36 = .ok (.iconst 4, 1) := by decide +kernel
theorem dX6_readLineOf_37 : decode cX6_readLineOf 37 = .ok (.isub, 1) := by decide +kernel
theorem dX6_readLineOf_38 : decode cX6_readLineOf 38 = .ok (.invokestatic 130, 3) := by decide +kernel
theorem dX6_readLineOf_41 : decode cX6_readLineOf 41 = .ok (.invokevirtual 120, 3) := by decide +kernel
theorem dX6_readLineOf_44 : decode cX6_readLineOf 44 = .ok (.iastore, 1) := by decide +kernel
theorem dX6_readLineOf_45 : decode cX6_readLineOf 45 = .ok (.goto 56, 3) := by decide +kernel
theorem dX6_readLineOf_48 : decode cX6_readLineOf 48 = .ok (.aload_n 0, 1) := by decide +kernel
theorem dX6_readLineOf_49 : decode cX6_readLineOf 49 = .ok (.getfield 20, 3) := by decide +kernel
theorem dX6_readLineOf_52 : decode cX6_readLineOf 52 = .ok (.bipush 11, 2) := by decide +kernel
theorem dX6_readLineOf_54 : decode cX6_readLineOf 54 = .ok (.aload_n 0, 1) := by decide +kernel
theorem dX6_readLineOf_55 : decode cX6_readLineOf 55 = .ok (.getfield 20, 3) := by decide +kernel
theorem dX6_readLineOf_58 : decode cX6_readLineOf 58 = .ok (.bipush 33, 2) := by decide +kernel
theorem dX6_readLineOf_60 : decode cX6_readLineOf 60 = .ok (.iaload, 1) := by decide +kernel
theorem dX6_readLineOf_61 : decode cX6_readLineOf 61 = .ok (.imul, 1) := by decide +kernel
theorem dX6_readLineOf_62 : decode cX6_readLineOf 62 = .ok (.iconst 0, 1) := by decide +kernel
theorem dX6_readLineOf_63 : decode cX6_readLineOf 63 = .ok (.iadd, 1) := by decide +kernel
theorem dX6_readLineOf_64 : decode cX6_readLineOf 64 = .ok (.iload_n 1, 1) := by decide +kernel
theorem dX6_readLineOf_65 : decode cX6_readLineOf 65 = .ok (.iastore, 1) := by decide +kernel
theorem dX6_readLineOf_66 : decode cX6_readLineOf 66 = .ok (.aload_n 0, 1) := by decide +kernel
theorem dX6_readLineOf_67 : decode cX6_readLineOf 67 = .ok (.getfield 20, 3) := by decide +kernel
theorem dX6_readLineOf_70 : decode cX6_readLineOf 70 = .ok (.bipush 11, 2) := by decide +kernel
theorem dX6_readLineOf_72 : decode cX6_readLineOf 72 = .ok (.aload_n 0, 1) := by decide +kernel
theorem dX6_readLineOf_73 : decode cX6_readLineOf 73 = .ok (.getfield 20, 3) := by decide +kernel
theorem dX6_readLineOf_76 : decode cX6_readLineOf 76 = .ok (.bipush 33, 2) := by decide +kernel
theorem dX6_readLineOf_78 : decode cX6_readLineOf 78 = .ok (.iaload, 1) := by decide +kernel
theorem dX6_readLineOf_79 : decode cX6_readLineOf 79 = .ok (.imul, 1) := by decide +kernel
theorem dX6_readLineOf_80 : decode cX6_readLineOf 80 = .ok (.iconst 1, 1) := by decide +kernel
theorem dX6_readLineOf_81 : decode cX6_readLineOf 81 = .ok (.iadd, 1) := by decide +kernel
theorem dX6_readLineOf_82 : decode cX6_readLineOf 82 = .ok (.aload_n 0, 1) := by decide +kernel
theorem dX6_readLineOf_83 : decode cX6_readLineOf 83 = .ok (.iconst 0, 1) := by decide +kernel
theorem dX6_readLineOf_84 : decode cX6_readLineOf 84 = .ok (.bipush 30, 2) := by decide +kernel
theorem dX6_readLineOf_86 : decode cX6_readLineOf 86 = .ok (.invokevirtual 120, 3) := by decide +kernel
theorem dX6_readLineOf_89 : decode cX6_readLineOf 89 = .ok (.iastore, 1) := by decide +kernel
theorem dX6_readLineOf_90 : decode cX6_readLineOf 90 = .ok (.aload_n 0, 1) := by decide +kernel
theorem dX6_readLineOf_91 : decode cX6_readLineOf 91 = .ok (.getfield 20, 3) := by decide +kernel
theorem dX6_readLineOf_94 : decode cX6_readLineOf 94 = .ok (.bipush 33, 2) := by decide +kernel
theorem dX6_readLineOf_96 : decode cX6_readLineOf 96 = .ok (.dup2, 1) := by decide +kernel
theorem dX6_readLineOf_97 : decode cX6_readLineOf 97 = .ok (.iaload, 1) := by decide +kernel
theorem dX6_readLineOf_98 : decode cX6_readLineOf 98 = .ok (.iconst 1, 1) := by decide +kernel
theorem dX6_readLineOf_99 : decode cX6_readLineOf 99 = .ok (.iadd, 1) := by decide +kernel
theorem dX6_readLineOf_100 : decode cX6_readLineOf 100 = .ok (.iastore, 1) := by decide +kernel
theorem dX6_readLineOf_101 : decode cX6_readLineOf 101 = .ok (.return_, 1) := by decide +kernel
theorem dX6_readLine_0 : decode cX6_readLine 0 = .ok (.aload_n 0, 1) := by decide +kernel
theorem dX6_readLine_1 : decode cX6_readLine 1 = .ok (.getfield 99, 3) := by decide +kernel
theorem dX6_readLine_4 : decode cX6_readLine 4 = .ok (.iconst 1, 1) := by decide +kernel
theorem dX6_readLine_5 : decode cX6_readLine 5 = .ok (.if_icmp .ne 10, 3) := by decide +kernel
theorem dX6_readLine_8 : decode cX6_readLine 8 = .ok (.aload_n 0, 1) := by decide +kernel
theorem dX6_readLine_9 : decode cX6_readLine 9 = .ok (.invokevirtual 133, 3) := by decide +kernel
theorem dX6_readLine_12 : decode cX6_readLine 12 = .ok (.goto 5, 3) := by decide +kernel
theorem dX6_readLine_15 : decode cX6_readLine 15 = .ok (.bipush (-4), 2) := by decide +kernel
theorem dX6_readLine_17 : decode cX6_readLine 17 = .ok (.istore_n 1, 1) := by decide +kernel
theorem dX6_readLine_18 : decode cX6_readLine 18 = .ok (.aload_n 0, 1) := by decide +kernel
theorem dX6_readLine_19 : decode cX6_readLine 19 = .ok (.iload_n 1, 1) := by decide +kernel
theorem dX6_readLine_20 : decode cX6_readLine 20 = .ok (.bipush (-4), 2) := by decide +kernel
theorem dX6_readLine_22 : decode cX6_readLine 22 = .ok (.if_icmp .eq 7, 3) := by decide +kernel
theorem dX6_readLine_25 : decode cX6_readLine 25 = .ok (.iconst 1, 1) := by decide +kernel
theorem dX6_readLine_26 : decode cX6_readLine 26 = .ok (.goto 4, 3) := by decide +kernel
theorem dX6_readLine_29 : decode cX6_readLine 29 = .ok (.iconst 0, 1) := by decide +kernel
theorem dX6_readLine_30 : decode cX6_readLine 30 = .ok (.iconst 2, 1) := by decide +kernel
theorem dX6_readLine_31 : decode cX6_readLine 31 = .ok (.invokevirtual 113, 3) := by decide +kernel
theorem dX6_readLine_34 : decode cX6_readLine 34 = .ok (.aload_n 0, 1) := by decide +kernel
theorem dX6_readLine_35 : decode cX6_readLine 35 = .ok (.iload_n 1, 1) := by decide +kernel
theorem dX6_readLine_36 : decode cX6_readLine 36 = .ok (.iconst 4, 1) := by decide +kernel
theorem dX6_readLine_37 : decode cX6_readLine 37 = .ok (.if_icmp .ge 14, 3) := by decide +kernel
theorem dX6_readLine_40 : decode cX6_readLine 40 = .ok (.aload_n 0, 1) := by decide +kernel
theorem dX6_readLine_41 : decode cX6_readLine 41 = .ok (.getfield 20, 3) := by decide +kernel
theorem dX6_readLine_44 : decode cX6_readLine 44 = .ok (.bipush 33, 2) := by decide +kernel
theorem dX6_readLine_46 : decode cX6_readLine 46 = .ok (.iaload, 1) := by decide +kernel
theorem dX6_readLine_47 : decode cX6_readLine 47 = .ok (.iconst 3, 1) := by decide +kernel
theorem dX6_readLine_48 : decode cX6_readLine 48 = .ok (.if_icmp .ge 7, 3) := by decide +kernel
theorem dX6_readLine_51 : decode cX6_readLine 51 = .ok (.iconst 1, 1) := by decide +kernel
theorem dX6_readLine_52 : decode cX6_readLine 52 = .ok (.goto 4, 3) := by decide +kernel
theorem dX6_readLine_55 : decode cX6_readLine 55 = .ok (.iconst 0, 1) := by decide +kernel
theorem dX6_readLine_56 : decode cX6_readLine 56 = .ok (.iconst 5, 1) := by decide +kernel
theorem dX6_readLine_57 : decode cX6_readLine 57 = .ok (.invokevirtual 113, 3) := by decide +kernel
theorem dX6_readLine_60 : decode cX6_readLine 60 = .ok (.iload_n 1, 1) := by decide +kernel
theorem dX6_readLine_61 : decode cX6_readLine 61 = .ok (.iconst 4, 1) := by decide +kernel
theorem dX6_readLine_62 : decode cX6_readLine 62 = .ok (.if_icmp .lt 33, 3) := by decide +kernel
theorem dX6_readLine_65 : decode cX6_readLine 65 = .ok (.aload_n 0, 1) := by decide +kernel
theorem dX6_readLine_66 : decode cX6_readLine 66 = .ok (.aload_n 0, 1) := by decide +kernel
theorem dX6_readLine_67 : decode cX6_readLine 67 = .ok (.getfield 23, 3) := by decide +kernel
theorem dX6_readLine_70 : decode cX6_readLine 70 = .ok (.iload_n 1, 1) := by decide +kernel
theorem dX6_readLine_71 : decode cX6_readLine 71 = .ok (.iconst 4, 1) := by decide +kernel
theorem dX6_readLine_72 : decode cX6_readLine 72 = .ok (.isub, 1) := by decide +kernel
theorem dX6_readLine_73 : decode cX6_readLine 73 = .ok (.baload, 1) := by decide +kernel
theorem dX6_readLine_74 : decode cX6_readLine 74 = .ok (.ifCond .ne 7, 3) := by decide +kernel
theorem dX6_readLine_77 : decode cX6_readLine 77 = .ok (.iconst 1, 1) := by decide +kernel
theorem dX6_readLine_78 : decode cX6_readLine 78 = .ok (.goto 4, 3) := by decide +kernel
theorem dX6_readLine_81 : decode cX6_readLine 81 = .ok (.iconst 0, 1) := by decide +kernel
theorem dX6_readLine_82 : decode cX6_readLine 82 = .ok (.iconst 4, 1) := by decide +kernel
theorem dX6_readLine_83 : decode cX6_readLine 83 = .ok (.invokevirtual 113, 3) := by decide +kernel
theorem dX6_readLine_86 : decode cX6_readLine 86 = .ok (.aload_n 0, 1) := by decide +kernel
theorem dX6_readLine_87 : decode cX6_readLine 87 = .ok (.getfield 23, 3) := by decide +kernel
theorem dX6_readLine_90 : decode cX6_readLine 90 = .ok (.iload_n 1, 1) := by decide +kernel
theorem dX6_readLine_91 : decode cX6_readLine 91 = .ok (.iconst 4, 1) := by decide +kernel
theorem dX6_readLine_92 : decode cX6_readLine 92 = .ok (.isub, 1) := by decide +kernel
theorem dX6_readLine_93 : decode cX6_readLine 93 = .ok (.iconst 1, 1) := by decide +kernel
theorem dX6_readLine_94 : decode cX6_readLine 94 = .ok (.bastore, 1) := by decide +kernel
theorem dX6_readLine_95 : decode cX6_readLine 95 = .ok (.aload_n 0, 1) := by decide +kernel
theorem dX6_readLine_96 : decode cX6_readLine 96 = .ok (.invokevirtual 117, 3) := by decide +kernel
theorem dX6_readLine_99 : decode cX6_readLine 99 = .ok (.aload_n 0, 1) := by decide +kernel
theorem dX6_readLine_100 : decode cX6_readLine 100 = .ok (.getfield 75, 3) := by decide +kernel
theorem dX6_readLine_103 : decode cX6_readLine 103 = .ok (.ifCond .le 4, 3) := by decide +kernel
theorem dX6_readLine_106 : decode cX6_readLine 106 = .ok (.return_, 1) := by decide +kernel
theorem dX6_readLine_107 : decode cX6_readLine 107 = .ok (.aload_n 0, 1) := by decide +kernel
theorem dX6_readLine_108 : decode cX6_readLine 108 = .ok (.iload_n 1, 1) := by decide +kernel
theorem dX6_readLine_109 : decode cX6_readLine 109 = .ok (.invokevirtual 137, 3) := by decide +kernel
theorem dX6_readLine_112 : decode cX6_readLine 112 = .ok (.aload_n 0, 1) := by decide +kernel
theorem dX6_readLine_113 : decode cX6_readLine 113 = .ok (.getfield 75, 3) := by decide +kernel
theorem dX6_readLine_116 : decode cX6_readLine 116 = .ok (.ifCond .ne 21, 3) := by decide +kernel
theorem dX6_readLine_119 : decode cX6_readLine 119 = .ok (.aload_n 0, 1) := by decide +kernel
theorem dX6_readLine_120 : decode cX6_readLine 120 = .ok (.aload_n 0, 1) := by decide +kernel
theorem dX6_readLine_121 : decode cX6_readLine 121 = .ok (.getfield 99, 3) := by decide +kernel
theorem dX6_readLine_124 : decode cX6_readLine 124 = .ok (.iconst 3, 1) := by decide +kernel
theorem dX6_readLine_125 : decode cX6_readLine 125 = .ok (.if_icmp .ne 7, 3) := by decide +kernel
theorem dX6_readLine_128 : decode cX6_readLine 128 = .ok (.iconst 1, 1) := by decide +kernel
theorem dX6_readLine_129 : decode cX6_readLine 129 = .ok (.goto 4, 3) := by decide +kernel
theorem dX6_readLine_132 : decode cX6_readLine 132 = .ok (.iconst 0, 1) := by decide +kernel
theorem dX6_readLine_133 : decode cX6_readLine 133 = .ok (.iconst 2, 1) := by decide +kernel
theorem dX6_readLine_134 : decode cX6_readLine 134 = .ok (.invokevirtual 113, 3) := by decide +kernel
theorem dX6_readLine_137 : decode cX6_readLine 137 = .ok (.aload_n 0, 1) := by decide +kernel
theorem dX6_readLine_138 : decode cX6_readLine 138 = .ok (.invokevirtual 117, 3) := by decide +kernel
theorem dX6_readLine_141 : decode cX6_readLine 141 = .ok (.return_, 1) := by decide +kernel
theorem dX6_text_0 : decode cX6_text 0 = .ok (.iconst 0, 1) := by decide +kernel
theorem dX6_text_1 : decode cX6_text 1 = .ok (.istore_n 1, 1) := by decide +kernel
theorem dX6_text_2 : decode cX6_text 2 = .ok (.aload_n 0, 1) := by decide +kernel
theorem dX6_text_3 : decode cX6_text 3 = .ok (.iconst 0, 1) := by decide +kernel
theorem dX6_text_4 : decode cX6_text 4 = .ok (.putfield 75, 3) := by decide +kernel
theorem dX6_text_7 : decode cX6_text 7 = .ok (.aload_n 0, 1) := by decide +kernel
theorem dX6_text_8 : decode cX6_text 8 = .ok (.iconst 0, 1) := by decide +kernel
theorem dX6_text_9 : decode cX6_text 9 = .ok (.putfield 84, 3) := by decide +kernel
theorem dX6_text_12 : decode cX6_text 12 = .ok (.aload_n 0, 1) := by decide +kernel
theorem dX6_text_13 : decode cX6_text 13 = .ok (.invokevirtual 59, 3) := by decide +kernel
theorem dX6_text_16 : decode cX6_text 16 = .ok (.aload_n 0, 1) := by decide +kernel
theorem dX6_text_17 : decode cX6_text 17 = .ok (.invokevirtual 117, 3) := by decide +kernel
theorem dX6_text_20 : decode cX6_text 20 = .ok (.aload_n 0, 1) := by decide +kernel
theorem dX6_text_21 : decode cX6_text 21 = .ok (.getfield 75, 3) := by decide +kernel
theorem dX6_text_24 : decode cX6_text 24 = .ok (.ifCond .ne 20, 3) := by decide +kernel
theorem dX6_text_27 : decode cX6_text 27 = .ok (.aload_n 0, 1) := by decide +kernel
theorem dX6_text_28 : decode cX6_text 28 = .ok (.getfield 99, 3) := by decide +kernel
theorem dX6_text_31 : decode cX6_text 31 = .ok (.ifCond .eq 13, 3) := by decide +kernel
theorem dX6_text_34 : decode cX6_text 34 = .ok (.aload_n 0, 1) := by decide +kernel
theorem dX6_text_35 : decode cX6_text 35 = .ok (.invokevirtual 141, 3) := by decide +kernel
theorem dX6_text_38 : decode cX6_text 38 = .ok (.iinc 1 1, 3) := by decide +kernel
theorem dX6_text_41 : decode cX6_text 41 = .ok (.goto (-21), 3) := by decide +kernel
theorem dX6_text_44 : decode cX6_text 44 = .ok (.aload_n 0, 1) := by decide +kernel
theorem dX6_text_45 : decode cX6_text 45 = .ok (.iconst 0, 1) := by decide +kernel
theorem dX6_text_46 : decode cX6_text 46 = .ok (.putfield 71, 3) := by decide +kernel
theorem dX6_text_49 : decode cX6_text 49 = .ok (.aload_n 0, 1) := by decide +kernel
theorem dX6_text_50 : decode cX6_text 50 = .ok (.getfield 75, 3) := by decide +kernel
theorem dX6_text_53 : decode cX6_text 53 = .ok (.ifCond .le 11, 3) := by decide +kernel
theorem dX6_text_56 : decode cX6_text 56 = .ok (.bipush (-10), 2) := by decide +kernel
theorem dX6_text_58 : decode cX6_text 58 = .ok (.aload_n 0, 1) := by decide +kernel
theorem dX6_text_59 : decode cX6_text 59 = .ok (.getfield 81, 3) := by decide +kernel
theorem dX6_text_62 : decode cX6_text 62 = .ok (.isub, 1) := by decide +kernel
theorem dX6_text_63 : decode cX6_text 63 = .ok (.ireturn, 1) := by decide +kernel
theorem dX6_text_64 : decode cX6_text 64 = .ok (.aload_n 0, 1) := by decide +kernel
theorem dX6_text_65 : decode cX6_text 65 = .ok (.invokevirtual 62, 3) := by decide +kernel
theorem dX6_text_68 : decode cX6_text 68 = .ok (.iload_n 1, 1) := by decide +kernel
theorem dX6_text_69 : decode cX6_text 69 = .ok (.ireturn, 1) := by decide +kernel
theorem dX6_fault_0 : decode cX6_fault 0 = .ok (.aload_n 0, 1) := by decide +kernel
theorem dX6_fault_1 : decode cX6_fault 1 = .ok (.getfield 75, 3) := by decide +kernel
theorem dX6_fault_4 : decode cX6_fault 4 = .ok (.ireturn, 1) := by decide +kernel
theorem dX6_isHead_0 : decode cX6_isHead 0 = .ok (.iload_n 1, 1) := by decide +kernel
theorem dX6_isHead_1 : decode cX6_isHead 1 = .ok (.i2l, 1) := by decide +kernel
theorem dX6_isHead_2 : decode cX6_isHead 2 = .ok (.lconst 0, 1) := by decide +kernel
theorem dX6_isHead_3 : decode cX6_isHead 3 = .ok (.aload_n 0, 1) := by decide +kernel
theorem dX6_isHead_4 : decode cX6_isHead 4 = .ok (.getfield 7, 3) := by decide +kernel
theorem dX6_isHead_7 : decode cX6_isHead 7 = .ok (.bipush 33, 2) := by decide +kernel
theorem dX6_isHead_9 : decode cX6_isHead 9 = .ok (.iaload, 1) := by decide +kernel
theorem dX6_isHead_10 : decode cX6_isHead 10 = .ok (.iconst 1, 1) := by decide +kernel
theorem dX6_isHead_11 : decode cX6_isHead 11 = .ok (.isub, 1) := by decide +kernel
theorem dX6_isHead_12 : decode cX6_isHead 12 = .ok (.i2l, 1) := by decide +kernel
theorem dX6_isHead_13 : decode cX6_isHead 13 = .ok (.invokestatic 67, 3) := by decide +kernel
theorem dX6_isHead_16 : decode cX6_isHead 16 = .ok (.ireturn, 1) := by decide +kernel
theorem dX6_isDot_0 : decode cX6_isDot 0 = .ok (.iload_n 0, 1) := by decide +kernel
theorem dX6_isDot_1 : decode cX6_isDot 1 = .ok (.i2l, 1) := by decide +kernel
theorem dX6_isDot_2 : decode cX6_isDot 2 = .ok (.lconst 0, 1) := by decide +kernel
theorem dX6_isDot_3 : decode cX6_isDot 3 = .ok (.ldc2_w 144, 3) := by decide +kernel
theorem dX6_isDot_6 : decode cX6_isDot 6 = .ok (.invokestatic 67, 3) := by decide +kernel
theorem dX6_isDot_9 : decode cX6_isDot 9 = .ok (.ireturn, 1) := by decide +kernel
theorem dX6_isLine_0 : decode cX6_isLine 0 = .ok (.iload_n 1, 1) := by decide +kernel
theorem dX6_isLine_1 : decode cX6_isLine 1 = .ok (.i2l, 1) := by decide +kernel
theorem dX6_isLine_2 : decode cX6_isLine 2 = .ok (.lconst 0, 1) := by decide +kernel
theorem dX6_isLine_3 : decode cX6_isLine 3 = .ok (.aload_n 0, 1) := by decide +kernel
theorem dX6_isLine_4 : decode cX6_isLine 4 = .ok (.getfield 7, 3) := by decide +kernel
theorem dX6_isLine_7 : decode cX6_isLine 7 = .ok (.bipush 49, 2) := by decide +kernel
theorem dX6_isLine_9 : decode cX6_isLine 9 = .ok (.iaload, 1) := by decide +kernel
theorem dX6_isLine_10 : decode cX6_isLine 10 = .ok (.iconst 1, 1) := by decide +kernel
theorem dX6_isLine_11 : decode cX6_isLine 11 = .ok (.isub, 1) := by decide +kernel
theorem dX6_isLine_12 : decode cX6_isLine 12 = .ok (.i2l, 1) := by decide +kernel
theorem dX6_isLine_13 : decode cX6_isLine 13 = .ok (.invokestatic 67, 3) := by decide +kernel
theorem dX6_isLine_16 : decode cX6_isLine 16 = .ok (.ireturn, 1) := by decide +kernel
theorem dX6_isPart_0 : decode cX6_isPart 0 = .ok (.iload_n 0, 1) := by decide +kernel
theorem dX6_isPart_1 : decode cX6_isPart 1 = .ok (.i2l, 1) := by decide +kernel
theorem dX6_isPart_2 : decode cX6_isPart 2 = .ok (.lconst 0, 1) := by decide +kernel
theorem dX6_isPart_3 : decode cX6_isPart 3 = .ok (.lconst 1, 1) := by decide +kernel
theorem dX6_isPart_4 : decode cX6_isPart 4 = .ok (.invokestatic 67, 3) := by decide +kernel
theorem dX6_isPart_7 : decode cX6_isPart 7 = .ok (.ireturn, 1) := by decide +kernel
theorem dX6_starts_0 : decode cX6_starts 0 = .ok (.iconst 0, 1) := by decide +kernel
theorem dX6_starts_1 : decode cX6_starts 1 = .ok (.istore_n 1, 1) := by decide +kernel
theorem dX6_starts_2 : decode cX6_starts 2 = .ok (.iload_n 1, 1) := by decide +kernel
theorem dX6_starts_3 : decode cX6_starts 3 = .ok (.bipush 70, 2) := by decide +kernel
theorem dX6_starts_5 : decode cX6_starts 5 = .ok (.if_icmp .ge 21, 3) := by decide +kernel
theorem dX6_starts_8 : decode cX6_starts 8 = .ok (.aload_n 0, 1) := by decide +kernel
theorem dX6_starts_9 : decode cX6_starts 9 = .ok (.getfield 13, 3) := by decide +kernel
theorem dX6_starts_12 : decode cX6_starts 12 = .ok (.iload_n 1, 1) := by decide +kernel
theorem dX6_starts_13 : decode cX6_starts 13 = .ok (.aload_n 0, 1) := by decide +kernel
theorem dX6_starts_14 : decode cX6_starts 14 = .ok (.getfield 7, 3) := by decide +kernel
theorem dX6_starts_17 : decode cX6_starts 17 = .ok (.iload_n 1, 1) := by decide +kernel
theorem dX6_starts_18 : decode cX6_starts 18 = .ok (.iaload, 1) := by decide +kernel
theorem dX6_starts_19 : decode cX6_starts 19 = .ok (.iastore, 1) := by decide +kernel
theorem dX6_starts_20 : decode cX6_starts 20 = .ok (.iinc 1 1, 3) := by decide +kernel
theorem dX6_starts_23 : decode cX6_starts 23 = .ok (.goto (-21), 3) := by decide +kernel
theorem dX6_starts_26 : decode cX6_starts 26 = .ok (.iconst 0, 1) := by decide +kernel
theorem dX6_starts_27 : decode cX6_starts 27 = .ok (.istore_n 1, 1) := by decide +kernel
theorem dX6_starts_28 : decode cX6_starts 28 = .ok (.iload_n 1, 1) := by decide +kernel
theorem dX6_starts_29 : decode cX6_starts 29 = .ok (.iconst 3, 1) := by decide +kernel
theorem dX6_starts_30 : decode cX6_starts 30 = .ok (.if_icmp .ge 16, 3) := by decide +kernel
theorem dX6_starts_33 : decode cX6_starts 33 = .ok (.aload_n 0, 1) := by decide +kernel
theorem dX6_starts_34 : decode cX6_starts 34 = .ok (.getfield 29, 3) := by decide +kernel
theorem dX6_starts_37 : decode cX6_starts 37 = .ok (.iload_n 1, 1) := by decide +kernel
theorem dX6_starts_38 : decode cX6_starts 38 = .ok (.iconst 0, 1) := by decide +kernel
theorem dX6_starts_39 : decode cX6_starts 39 = .ok (.iastore, 1) := by decide +kernel
theorem dX6_starts_40 : decode cX6_starts 40 = .ok (.iinc 1 1, 3) := by decide +kernel
theorem dX6_starts_43 : decode cX6_starts 43 = .ok (.goto (-15), 3) := by decide +kernel
theorem dX6_starts_46 : decode cX6_starts 46 = .ok (.aload_n 0, 1) := by decide +kernel
theorem dX6_starts_47 : decode cX6_starts 47 = .ok (.bipush (-4), 2) := by decide +kernel
theorem dX6_starts_49 : decode cX6_starts 49 = .ok (.putfield 146, 3) := by decide +kernel
theorem dX6_starts_52 : decode cX6_starts 52 = .ok (.aload_n 0, 1) := by decide +kernel
theorem dX6_starts_53 : decode cX6_starts 53 = .ok (.iconst 0, 1) := by decide +kernel
theorem dX6_starts_54 : decode cX6_starts 54 = .ok (.putfield 149, 3) := by decide +kernel
theorem dX6_starts_57 : decode cX6_starts 57 = .ok (.aload_n 0, 1) := by decide +kernel
theorem dX6_starts_58 : decode cX6_starts 58 = .ok (.iconst 0, 1) := by decide +kernel
theorem dX6_starts_59 : decode cX6_starts 59 = .ok (.putfield 152, 3) := by decide +kernel
theorem dX6_starts_62 : decode cX6_starts 62 = .ok (.aload_n 0, 1) := by decide +kernel
theorem dX6_starts_63 : decode cX6_starts 63 = .ok (.iconst 0, 1) := by decide +kernel
theorem dX6_starts_64 : decode cX6_starts 64 = .ok (.putfield 155, 3) := by decide +kernel
theorem dX6_starts_67 : decode cX6_starts 67 = .ok (.aload_n 0, 1) := by decide +kernel
theorem dX6_starts_68 : decode cX6_starts 68 = .ok (.iconst 0, 1) := by decide +kernel
theorem dX6_starts_69 : decode cX6_starts 69 = .ok (.putfield 158, 3) := by decide +kernel
theorem dX6_starts_72 : decode cX6_starts 72 = .ok (.return_, 1) := by decide +kernel
theorem dX6_settles_0 : decode cX6_settles 0 = .ok (.iconst 0, 1) := by decide +kernel
theorem dX6_settles_1 : decode cX6_settles 1 = .ok (.istore_n 1, 1) := by decide +kernel
theorem dX6_settles_2 : decode cX6_settles 2 = .ok (.iload_n 1, 1) := by decide +kernel
theorem dX6_settles_3 : decode cX6_settles 3 = .ok (.bipush 70, 2) := by decide +kernel
theorem dX6_settles_5 : decode cX6_settles 5 = .ok (.if_icmp .ge 21, 3) := by decide +kernel
theorem dX6_settles_8 : decode cX6_settles 8 = .ok (.aload_n 0, 1) := by decide +kernel
theorem dX6_settles_9 : decode cX6_settles 9 = .ok (.getfield 7, 3) := by decide +kernel
theorem dX6_settles_12 : decode cX6_settles 12 = .ok (.iload_n 1, 1) := by decide +kernel
theorem dX6_settles_13 : decode cX6_settles 13 = .ok (.aload_n 0, 1) := by decide +kernel
theorem dX6_settles_14 : decode cX6_settles 14 = .ok (.getfield 13, 3) := by decide +kernel
theorem dX6_settles_17 : decode cX6_settles 17 = .ok (.iload_n 1, 1) := by decide +kernel
theorem dX6_settles_18 : decode cX6_settles 18 = .ok (.iaload, 1) := by decide +kernel
theorem dX6_settles_19 : decode cX6_settles 19 = .ok (.iastore, 1) := by decide +kernel
theorem dX6_settles_20 : decode cX6_settles 20 = .ok (.iinc 1 1, 3) := by decide +kernel
theorem dX6_settles_23 : decode cX6_settles 23 = .ok (.goto (-21), 3) := by decide +kernel
theorem dX6_settles_26 : decode cX6_settles 26 = .ok (.return_, 1) := by decide +kernel
theorem dX6_of_0 : decode cX6_of 0 = .ok (.aload_n 0, 1) := by decide +kernel
theorem dX6_of_1 : decode cX6_of 1 = .ok (.getfield 13, 3) := by decide +kernel
theorem dX6_of_4 : decode cX6_of 4 = .ok (.bipush 11, 2) := by decide +kernel
theorem dX6_of_6 : decode cX6_of 6 = .ok (.iload_n 1, 1) := by decide +kernel
theorem dX6_of_7 : decode cX6_of 7 = .ok (.imul, 1) := by decide +kernel
theorem dX6_of_8 : decode cX6_of 8 = .ok (.iload_n 2, 1) := by decide +kernel
theorem dX6_of_9 : decode cX6_of 9 = .ok (.iadd, 1) := by decide +kernel
theorem dX6_of_10 : decode cX6_of 10 = .ok (.iaload, 1) := by decide +kernel
theorem dX6_of_11 : decode cX6_of 11 = .ok (.ireturn, 1) := by decide +kernel
theorem dX6_heat_0 : decode cX6_heat 0 = .ok (.aload_n 0, 1) := by decide +kernel
theorem dX6_heat_1 : decode cX6_heat 1 = .ok (.getfield 13, 3) := by decide +kernel
theorem dX6_heat_4 : decode cX6_heat 4 = .ok (.bipush 11, 2) := by decide +kernel
theorem dX6_heat_6 : decode cX6_heat 6 = .ok (.iload_n 1, 1) := by decide +kernel
theorem dX6_heat_7 : decode cX6_heat 7 = .ok (.imul, 1) := by decide +kernel
theorem dX6_heat_8 : decode cX6_heat 8 = .ok (.iconst 3, 1) := by decide +kernel
theorem dX6_heat_9 : decode cX6_heat 9 = .ok (.iadd, 1) := by decide +kernel
theorem dX6_heat_10 : decode cX6_heat 10 = .ok (.iload_n 2, 1) := by decide +kernel
theorem dX6_heat_11 : decode cX6_heat 11 = .ok (.iadd, 1) := by decide +kernel
theorem dX6_heat_12 : decode cX6_heat 12 = .ok (.iaload, 1) := by decide +kernel
theorem dX6_heat_13 : decode cX6_heat 13 = .ok (.ireturn, 1) := by decide +kernel
theorem dX6_heatBecomes_0 : decode cX6_heatBecomes 0 = .ok (.aload_n 0, 1) := by decide +kernel
theorem dX6_heatBecomes_1 : decode cX6_heatBecomes 1 = .ok (.getfield 13, 3) := by decide +kernel
theorem dX6_heatBecomes_4 : decode cX6_heatBecomes 4 = .ok (.bipush 11, 2) := by decide +kernel
theorem dX6_heatBecomes_6 : decode cX6_heatBecomes 6 = .ok (.iload_n 1, 1) := by decide +kernel
theorem dX6_heatBecomes_7 : decode cX6_heatBecomes 7 = .ok (.imul, 1) := by decide +kernel
theorem dX6_heatBecomes_8 : decode cX6_heatBecomes 8 = .ok (.iconst 3, 1) := by decide +kernel
theorem dX6_heatBecomes_9 : decode cX6_heatBecomes 9 = .ok (.iadd, 1) := by decide +kernel
theorem dX6_heatBecomes_10 : decode cX6_heatBecomes 10 = .ok (.iload_n 2, 1) := by decide +kernel
theorem dX6_heatBecomes_11 : decode cX6_heatBecomes 11 = .ok (.iadd, 1) := by decide +kernel
theorem dX6_heatBecomes_12 : decode cX6_heatBecomes 12 = .ok (.iload_n 3, 1) := by decide +kernel
theorem dX6_heatBecomes_13 : decode cX6_heatBecomes 13 = .ok (.iastore, 1) := by decide +kernel
theorem dX6_heatBecomes_14 : decode cX6_heatBecomes 14 = .ok (.return_, 1) := by decide +kernel
theorem dX6_lineAt_0 : decode cX6_lineAt 0 = .ok (.aload_n 0, 1) := by decide +kernel
theorem dX6_lineAt_1 : decode cX6_lineAt 1 = .ok (.getfield 13, 3) := by decide +kernel
theorem dX6_lineAt_4 : decode cX6_lineAt 4 = .ok (.bipush 49, 2) := by decide +kernel
theorem dX6_lineAt_6 : decode cX6_lineAt 6 = .ok (.iaload, 1) := by decide +kernel
theorem dX6_lineAt_7 : decode cX6_lineAt 7 = .ok (.ifCond .ne 7, 3) := by decide +kernel
theorem dX6_lineAt_10 : decode cX6_lineAt 10 = .ok (.iconst 0, 1) := by decide +kernel
theorem dX6_lineAt_11 : decode cX6_lineAt 11 = .ok (.goto 20, 3) := by decide +kernel
theorem dX6_lineAt_14 : decode cX6_lineAt 14 = .ok (.aload_n 0, 1) := by decide +kernel
theorem dX6_lineAt_15 : decode cX6_lineAt 15 = .ok (.getfield 13, 3) := by decide +kernel
theorem dX6_lineAt_18 : decode cX6_lineAt 18 = .ok (.bipush 37, 2) := by decide +kernel
theorem dX6_lineAt_20 : decode cX6_lineAt 20 = .ok (.iload_n 1, 1) := by decide +kernel
theorem dX6_lineAt_21 : decode cX6_lineAt 21 = .ok (.aload_n 0, 1) := by decide +kernel
theorem dX6_lineAt_22 : decode cX6_lineAt 22 = .ok (.getfield 13, 3) := by decide +kernel
theorem dX6_lineAt_25 : decode cX6_lineAt 25 = .ok (.bipush 49, 2) := by decide +kernel
theorem dX6_lineAt_27 : decode cX6_lineAt 27 = .ok (.iaload, 1) := by decide +kernel
theorem dX6_lineAt_28 : decode cX6_lineAt 28 = .ok (.irem, 1) := by decide +kernel
theorem dX6_lineAt_29 : decode cX6_lineAt 29 = .ok (.iadd, 1) := by decide +kernel
theorem dX6_lineAt_30 : decode cX6_lineAt 30 = .ok (.iaload, 1) := by decide +kernel
theorem dX6_lineAt_31 : decode cX6_lineAt 31 = .ok (.ireturn, 1) := by decide +kernel
theorem dX6_isIn_0 : decode cX6_isIn 0 = .ok (.iload_n 0, 1) := by decide +kernel
theorem dX6_isIn_1 : decode cX6_isIn 1 = .ok (.iload_n 1, 1) := by decide +kernel
theorem dX6_isIn_2 : decode cX6_isIn 2 = .ok (.ishr, 1) := by decide +kernel
theorem dX6_isIn_3 : decode cX6_isIn 3 = .ok (.iconst 1, 1) := by decide +kernel
theorem dX6_isIn_4 : decode cX6_isIn 4 = .ok (.iand, 1) := by decide +kernel
theorem dX6_isIn_5 : decode cX6_isIn 5 = .ok (.iconst 1, 1) := by decide +kernel
theorem dX6_isIn_6 : decode cX6_isIn 6 = .ok (.if_icmp .ne 7, 3) := by decide +kernel
theorem dX6_isIn_9 : decode cX6_isIn 9 = .ok (.iconst 1, 1) := by decide +kernel
theorem dX6_isIn_10 : decode cX6_isIn 10 = .ok (.goto 4, 3) := by decide +kernel
theorem dX6_isIn_13 : decode cX6_isIn 13 = .ok (.iconst 0, 1) := by decide +kernel
theorem dX6_isIn_14 : decode cX6_isIn 14 = .ok (.ireturn, 1) := by decide +kernel
theorem dX6_gets_0 : decode cX6_gets 0 = .ok (.aload_n 0, 1) := by decide +kernel
theorem dX6_gets_1 : decode cX6_gets 1 = .ok (.iload_n 1, 1) := by decide +kernel
theorem dX6_gets_2 : decode cX6_gets 2 = .ok (.iconst 1, 1) := by decide +kernel
theorem dX6_gets_3 : decode cX6_gets 3 = .ok (.invokevirtual 161, 3) := by decide +kernel
theorem dX6_gets_6 : decode cX6_gets 6 = .ok (.istore 5, 2) := by decide +kernel
theorem dX6_gets_8 : decode cX6_gets 8 = .ok (.iload_n 3, 1) := by decide +kernel
theorem dX6_gets_9 : decode cX6_gets 9 = .ok (.iload_n 2, 1) := by decide +kernel
theorem dX6_gets_10 : decode cX6_gets 10 = .ok (.invokestatic 164, 3) := by decide +kernel
theorem dX6_gets_13 : decode cX6_gets 13 = .ok (.ifCond .eq 8, 3) := by decide +kernel
theorem dX6_gets_16 : decode cX6_gets 16 = .ok (.iload 5, 2) := by decide +kernel
theorem dX6_gets_18 : decode cX6_gets 18 = .ok (.goto 4, 3) := by decide +kernel
theorem dX6_gets_21 : decode cX6_gets 21 = .ok (.iconst 0, 1) := by decide +kernel
theorem dX6_gets_22 : decode cX6_gets 22 = .ok (.istore 6, 2) := by decide +kernel
theorem dX6_gets_24 : decode cX6_gets 24 = .ok (.aload_n 0, 1) := by decide +kernel
theorem dX6_gets_25 : decode cX6_gets 25 = .ok (.iload_n 1, 1) := by decide +kernel
theorem dX6_gets_26 : decode cX6_gets 26 = .ok (.iconst 0, 1) := by decide +kernel
theorem dX6_gets_27 : decode cX6_gets 27 = .ok (.invokevirtual 161, 3) := by decide +kernel
theorem dX6_gets_30 : decode cX6_gets 30 = .ok (.tableswitch 148 1 3 #[26, 43, 118], 26) := by decide +kernel
theorem dX6_gets_56 : decode cX6_gets 56 = .ok (.iload 6, 2) := by decide +kernel
theorem dX6_gets_58 : decode cX6_gets 58 = .ok (.aload_n 0, 1) := by decide +kernel
theorem dX6_gets_59 : decode cX6_gets 59 = .ok (.iload_n 1, 1) := by decide +kernel
theorem dX6_gets_60 : decode cX6_gets 60 = .ok (.iload_n 2, 1) := by decide +kernel
theorem dX6_gets_61 : decode cX6_gets 61 = .ok (.invokevirtual 167, 3) := by decide +kernel
theorem dX6_gets_64 : decode cX6_gets 64 = .ok (.iconst 4, 1) := by decide +kernel
theorem dX6_gets_65 : decode cX6_gets 65 = .ok (.idiv, 1) := by decide +kernel
theorem dX6_gets_66 : decode cX6_gets 66 = .ok (.isub, 1) := by decide +kernel
theorem dX6_gets_67 : decode cX6_gets 67 = .ok (.ldc 170, 2) := by decide +kernel
theorem dX6_gets_69 : decode cX6_gets 69 = .ok (.invokestatic 171, 3) := by decide +kernel
theorem dX6_gets_72 : decode cX6_gets 72 = .ok (.ireturn, 1) := by decide +kernel
theorem dX6_gets_73 : decode cX6_gets 73 = .ok (.iload_n 2, 1) := by decide +kernel
theorem dX6_gets_74 : decode cX6_gets 74 = .ok (.ifCond .le 33, 3) := by decide +kernel
theorem dX6_gets_77 : decode cX6_gets 77 = .ok (.iload_n 2, 1) := by decide +kernel
theorem dX6_gets_78 : decode cX6_gets 78 = .ok (.bipush 7, 2) := by decide +kernel
theorem dX6_gets_80 : decode cX6_gets 80 = .ok (.if_icmp .ge 27, 3) := by decide +kernel
theorem dX6_gets_83 : decode cX6_gets 83 = .ok (.iload_n 3, 1) := by decide +kernel
theorem dX6_gets_84 : decode cX6_gets 84 = .ok (.iload_n 2, 1) := by decide +kernel
theorem dX6_gets_85 : decode cX6_gets 85 = .ok (.iconst 1, 1) := by decide +kernel
theorem dX6_gets_86 : decode cX6_gets 86 = .ok (.isub, 1) := by decide +kernel
theorem dX6_gets_87 : decode cX6_gets 87 = .ok (.invokestatic 164, 3) := by decide +kernel
theorem dX6_gets_90 : decode cX6_gets 90 = .ok (.ifCond .eq 17, 3) := by decide +kernel
theorem dX6_gets_93 : decode cX6_gets 93 = .ok (.iload_n 3, 1) := by decide +kernel
theorem dX6_gets_94 : decode cX6_gets 94 = .ok (.iload_n 2, 1) := by decide +kernel
theorem dX6_gets_95 : decode cX6_gets 95 = .ok (.iconst 1, 1) := by decide +kernel
theorem dX6_gets_96 : decode cX6_gets 96 = .ok (.iadd, 1) := by decide +kernel
theorem dX6_gets_97 : decode cX6_gets 97 = .ok (.invokestatic 164, 3) := by decide +kernel
theorem dX6_gets_100 : decode cX6_gets 100 = .ok (.ifCond .eq 7, 3) := by decide +kernel
theorem dX6_gets_103 : decode cX6_gets 103 = .ok (.iconst 1, 1) := by decide +kernel
theorem dX6_gets_104 : decode cX6_gets 104 = .ok (.goto 4, 3) := by decide +kernel
theorem dX6_gets_107 : decode cX6_gets 107 = .ok (.iconst 0, 1) := by decide +kernel
theorem dX6_gets_108 : decode cX6_gets 108 = .ok (.istore 7, 2) := by decide +kernel
theorem dX6_gets_110 : decode cX6_gets 110 = .ok (.iload 6, 2) := by decide +kernel
theorem dX6_gets_112 : decode cX6_gets 112 = .ok (.aload_n 0, 1) := by decide +kernel
theorem dX6_gets_113 : decode cX6_gets 113 = .ok (.iload_n 1, 1) := by decide +kernel
theorem dX6_gets_114 : decode cX6_gets 114 = .ok (.iload_n 2, 1) := by decide +kernel
theorem dX6_gets_115 : decode cX6_gets 115 = .ok (.invokevirtual 167, 3) := by decide +kernel
theorem dX6_gets_118 : decode cX6_gets 118 = .ok (.iconst 4, 1) := by decide +kernel
theorem dX6_gets_119 : decode cX6_gets 119 = .ok (.idiv, 1) := by decide +kernel
theorem dX6_gets_120 : decode cX6_gets 120 = .ok (.isub, 1) := by decide +kernel
theorem dX6_gets_121 : decode cX6_gets 121 = .ok (.ldc 170, 2) := by decide +kernel
theorem dX6_gets_123 : decode cX6_gets 123 = .ok (.invokestatic 171, 3) := by decide +kernel
theorem dX6_gets_126 : decode cX6_gets 126 = .ok (.istore 8, 2) := by decide +kernel
theorem dX6_gets_128 : decode cX6_gets 128 = .ok (.iload 7, 2) := by decide +kernel
theorem dX6_gets_130 : decode cX6_gets 130 = .ok (.ifCond .eq 15, 3) := by decide +kernel
theorem dX6_gets_133 : decode cX6_gets 133 = .ok (.iload 8, 2) := by decide +kernel
theorem dX6_gets_135 : decode cX6_gets 135 = .ok (.iconst 2, 1) := by decide +kernel
theorem dX6_gets_136 : decode cX6_gets 136 = .ok (.isub, 1) := by decide +kernel
theorem dX6_gets_137 : decode cX6_gets 137 = .ok (.ldc 170, 2) := by decide +kernel
theorem dX6_gets_139 : decode cX6_gets 139 = .ok (.invokestatic 171, 3) := by decide +kernel
theorem dX6_gets_142 : decode cX6_gets 142 = .ok (.goto 5, 3) := by decide +kernel
theorem dX6_gets_145 : decode cX6_gets 145 = .ok (.iload 8, 2) := by decide +kernel
theorem dX6_gets_147 : decode cX6_gets 147 = .ok (.ireturn, 1) := by decide +kernel
theorem dX6_gets_148 : decode cX6_gets 148 = .ok (.iload_n 3, 1) := by decide +kernel
theorem dX6_gets_149 : decode cX6_gets 149 = .ok (.iload_n 2, 1) := by decide +kernel
theorem dX6_gets_150 : decode cX6_gets 150 = .ok (.invokestatic 164, 3) := by decide +kernel
theorem dX6_gets_153 : decode cX6_gets 153 = .ok (.ifCond .ne 22, 3) := by decide +kernel
theorem dX6_gets_156 : decode cX6_gets 156 = .ok (.iload 4, 2) := by decide +kernel
theorem dX6_gets_158 : decode cX6_gets 158 = .ok (.iload_n 2, 1) := by decide +kernel
theorem dX6_gets_159 : decode cX6_gets 159 = .ok (.invokestatic 164, 3) := by decide +kernel
theorem dX6_gets_162 : decode cX6_gets 162 = .ok (.ifCond .eq 13, 3) := by decide +kernel
theorem dX6_gets_165 : decode cX6_gets 165 = .ok (.iload 6, 2) := by decide +kernel
theorem dX6_gets_167 : decode cX6_gets 167 = .ok (.iload 5, 2) := by decide +kernel
theorem dX6_gets_169 : decode cX6_gets 169 = .ok (.iconst 3, 1) := by decide +kernel
theorem dX6_gets_170 : decode cX6_gets 170 = .ok (.idiv, 1) := by decide +kernel
theorem dX6_gets_171 : decode cX6_gets 171 = .ok (.iadd, 1) := by decide +kernel
theorem dX6_gets_172 : decode cX6_gets 172 = .ok (.goto 5, 3) := by decide +kernel
theorem dX6_gets_175 : decode cX6_gets 175 = .ok (.iload 6, 2) := by decide +kernel
theorem dX6_gets_177 : decode cX6_gets 177 = .ok (.ireturn, 1) := by decide +kernel
theorem dX6_gets_178 : decode cX6_gets 178 = .ok (.iload 6, 2) := by decide +kernel
theorem dX6_gets_180 : decode cX6_gets 180 = .ok (.ireturn, 1) := by decide +kernel
theorem dX6_blackOf_0 : decode cX6_blackOf 0 = .ok (.iconst 0, 1) := by decide +kernel
theorem dX6_blackOf_1 : decode cX6_blackOf 1 = .ok (.istore_n 2, 1) := by decide +kernel
theorem dX6_blackOf_2 : decode cX6_blackOf 2 = .ok (.iconst 0, 1) := by decide +kernel
theorem dX6_blackOf_3 : decode cX6_blackOf 3 = .ok (.istore_n 3, 1) := by decide +kernel
theorem dX6_blackOf_4 : decode cX6_blackOf 4 = .ok (.iload_n 3, 1) := by decide +kernel
theorem dX6_blackOf_5 : decode cX6_blackOf 5 = .ok (.bipush 8, 2) := by decide +kernel
theorem dX6_blackOf_7 : decode cX6_blackOf 7 = .ok (.if_icmp .ge 38, 3) := by decide +kernel
theorem dX6_blackOf_10 : decode cX6_blackOf 10 = .ok (.iload_n 2, 1) := by decide +kernel
theorem dX6_blackOf_11 : decode cX6_blackOf 11 = .ok (.aload_n 0, 1) := by decide +kernel
theorem dX6_blackOf_12 : decode cX6_blackOf 12 = .ok (.iload_n 1, 1) := by decide +kernel
theorem dX6_blackOf_13 : decode cX6_blackOf 13 = .ok (.iload_n 3, 1) := by decide +kernel
theorem dX6_blackOf_14 : decode cX6_blackOf 14 = .ok (.invokevirtual 167, 3) := by decide +kernel
theorem dX6_blackOf_17 : decode cX6_blackOf 17 = .ok (.aload_n 0, 1) := by decide +kernel
theorem dX6_blackOf_18 : decode cX6_blackOf 18 = .ok (.getfield 13, 3) := by decide +kernel
theorem dX6_blackOf_21 : decode cX6_blackOf 21 = .ok (.bipush 34, 2) := by decide +kernel
theorem dX6_blackOf_23 : decode cX6_blackOf 23 = .ok (.iaload, 1) := by decide +kernel
theorem dX6_blackOf_24 : decode cX6_blackOf 24 = .ok (.if_icmp .lt 7, 3) := by decide +kernel
theorem dX6_blackOf_27 : decode cX6_blackOf 27 = .ok (.iconst 1, 1) := by decide +kernel
theorem dX6_blackOf_28 : decode cX6_blackOf 28 = .ok (.goto 4, 3) := by decide +kernel
theorem dX6_blackOf_31 : decode cX6_blackOf 31 = .ok (.iconst 0, 1) := by decide +kernel
theorem dX6_blackOf_32 : decode cX6_blackOf 32 = .ok (.invokestatic 174, 3) := by decide +kernel
theorem dX6_blackOf_35 : decode cX6_blackOf 35 = .ok (.iload_n 3, 1) := by decide +kernel
theorem dX6_blackOf_36 : decode cX6_blackOf 36 = .ok (.ishl, 1) := by decide +kernel
theorem dX6_blackOf_37 : decode cX6_blackOf 37 = .ok (.ior, 1) := by decide +kernel
theorem dX6_blackOf_38 : decode cX6_blackOf 38 = .ok (.istore_n 2, 1) := by decide +kernel
theorem dX6_blackOf_39 : decode cX6_blackOf 39 = .ok (.iinc 3 1, 3) := by decide +kernel
theorem dX6_blackOf_42 : decode cX6_blackOf 42 = .ok (.goto (-38), 3) := by decide +kernel
theorem dX6_blackOf_45 : decode cX6_blackOf 45 = .ok (.iload_n 2, 1) := by decide +kernel
theorem dX6_blackOf_46 : decode cX6_blackOf 46 = .ok (.ireturn, 1) := by decide +kernel
theorem dX6_cools_0 : decode cX6_cools 0 = .ok (.iconst 0, 1) := by decide +kernel
theorem dX6_cools_1 : decode cX6_cools 1 = .ok (.istore_n 2, 1) := by decide +kernel
theorem dX6_cools_2 : decode cX6_cools 2 = .ok (.iload_n 2, 1) := by decide +kernel
theorem dX6_cools_3 : decode cX6_cools 3 = .ok (.bipush 8, 2) := by decide +kernel
theorem dX6_cools_5 : decode cX6_cools 5 = .ok (.if_icmp .ge 29, 3) := by decide +kernel
theorem dX6_cools_8 : decode cX6_cools 8 = .ok (.aload_n 0, 1) := by decide +kernel
theorem dX6_cools_9 : decode cX6_cools 9 = .ok (.getfield 38, 3) := by decide +kernel
theorem dX6_cools_12 : decode cX6_cools 12 = .ok (.iload_n 2, 1) := by decide +kernel
theorem dX6_cools_13 : decode cX6_cools 13 = .ok (.aload_n 0, 1) := by decide +kernel
theorem dX6_cools_14 : decode cX6_cools 14 = .ok (.iload_n 1, 1) := by decide +kernel
theorem dX6_cools_15 : decode cX6_cools 15 = .ok (.iload_n 2, 1) := by decide +kernel
theorem dX6_cools_16 : decode cX6_cools 16 = .ok (.invokevirtual 167, 3) := by decide +kernel
theorem dX6_cools_19 : decode cX6_cools 19 = .ok (.aload_n 0, 1) := by decide +kernel
theorem dX6_cools_20 : decode cX6_cools 20 = .ok (.getfield 13, 3) := by decide +kernel
theorem dX6_cools_23 : decode cX6_cools 23 = .ok (.bipush 35, 2) := by decide +kernel
theorem dX6_cools_25 : decode cX6_cools 25 = .ok (.iaload, 1) := by decide +kernel
theorem dX6_cools_26 : decode cX6_cools 26 = .ok (.isub, 1) := by decide +kernel
theorem dX6_cools_27 : decode cX6_cools 27 = .ok (.iastore, 1) := by decide +kernel
theorem dX6_cools_28 : decode cX6_cools 28 = .ok (.iinc 2 1, 3) := by decide +kernel
theorem dX6_cools_31 : decode cX6_cools 31 = .ok (.goto (-29), 3) := by decide +kernel
theorem dX6_cools_34 : decode cX6_cools 34 = .ok (.iconst 0, 1) := by decide +kernel
theorem dX6_cools_35 : decode cX6_cools 35 = .ok (.istore_n 2, 1) := by decide +kernel
theorem dX6_cools_36 : decode cX6_cools 36 = .ok (.iload_n 2, 1) := by decide +kernel
theorem dX6_cools_37 : decode cX6_cools 37 = .ok (.iconst 1, 1) := by decide +kernel
theorem dX6_cools_38 : decode cX6_cools 38 = .ok (.iadd, 1) := by decide +kernel
theorem dX6_cools_39 : decode cX6_cools 39 = .ok (.bipush 8, 2) := by decide +kernel
theorem dX6_cools_41 : decode cX6_cools 41 = .ok (.if_icmp .ge 58, 3) := by decide +kernel
theorem dX6_cools_44 : decode cX6_cools 44 = .ok (.aload_n 0, 1) := by decide +kernel
theorem dX6_cools_45 : decode cX6_cools 45 = .ok (.iload_n 1, 1) := by decide +kernel
theorem dX6_cools_46 : decode cX6_cools 46 = .ok (.iload_n 2, 1) := by decide +kernel
theorem dX6_cools_47 : decode cX6_cools 47 = .ok (.invokevirtual 167, 3) := by decide +kernel
theorem dX6_cools_50 : decode cX6_cools 50 = .ok (.aload_n 0, 1) := by decide +kernel
theorem dX6_cools_51 : decode cX6_cools 51 = .ok (.iload_n 1, 1) := by decide +kernel
theorem dX6_cools_52 : decode cX6_cools 52 = .ok (.iload_n 2, 1) := by decide +kernel
theorem dX6_cools_53 : decode cX6_cools 53 = .ok (.iconst 1, 1) := by decide +kernel
theorem dX6_cools_54 : decode cX6_cools 54 = .ok (.iadd, 1) := by decide +kernel
theorem dX6_cools_55 : decode cX6_cools 55 = .ok (.invokevirtual 167, 3) := by decide +kernel
theorem dX6_cools_58 : decode cX6_cools 58 = .ok (.isub, 1) := by decide +kernel
theorem dX6_cools_59 : decode cX6_cools 59 = .ok (.aload_n 0, 1) := by decide +kernel
theorem dX6_cools_60 : decode cX6_cools 60 = .ok (.getfield 13, 3) := by decide +kernel
theorem dX6_cools_63 : decode cX6_cools 63 = .ok (.bipush 36, 2) := by decide +kernel
theorem dX6_cools_65 : decode cX6_cools 65 = .ok (.iaload, 1) := by decide +kernel
theorem dX6_cools_66 : decode cX6_cools 66 = .ok (.imul, 1) := by decide +kernel
theorem dX6_cools_67 : decode cX6_cools 67 = .ok (.bipush 8, 2) := by decide +kernel
theorem dX6_cools_69 : decode cX6_cools 69 = .ok (.idiv, 1) := by decide +kernel
theorem dX6_cools_70 : decode cX6_cools 70 = .ok (.istore_n 3, 1) := by decide +kernel
theorem dX6_cools_71 : decode cX6_cools 71 = .ok (.aload_n 0, 1) := by decide +kernel
theorem dX6_cools_72 : decode cX6_cools 72 = .ok (.getfield 38, 3) := by decide +kernel
theorem dX6_cools_75 : decode cX6_cools 75 = .ok (.iload_n 2, 1) := by decide +kernel
theorem dX6_cools_76 : decode cX6_cools 76 = .ok (.dup2, 1) := by decide +kernel
theorem dX6_cools_77 : decode cX6_cools 77 = .ok (.iaload, 1) := by decide +kernel
theorem dX6_cools_78 : decode cX6_cools 78 = .ok (.iload_n 3, 1) := by decide +kernel
theorem dX6_cools_79 : decode cX6_cools 79 = .ok (.isub, 1) := by decide +kernel
theorem dX6_cools_80 : decode cX6_cools 80 = .ok (.iastore, 1) := by decide +kernel
theorem dX6_cools_81 : decode cX6_cools 81 = .ok (.aload_n 0, 1) := by decide +kernel
theorem dX6_cools_82 : decode cX6_cools 82 = .ok (.getfield 38, 3) := by decide +kernel
theorem dX6_cools_85 : decode cX6_cools 85 = .ok (.iload_n 2, 1) := by decide +kernel
theorem dX6_cools_86 : decode cX6_cools 86 = .ok (.iconst 1, 1) := by decide +kernel
theorem dX6_cools_87 : decode cX6_cools 87 = .ok (.iadd, 1) := by decide +kernel
theorem dX6_cools_88 : decode cX6_cools 88 = .ok (.dup2, 1) := by decide +kernel
theorem dX6_cools_89 : decode cX6_cools 89 = .ok (.iaload, 1) := by decide +kernel
theorem dX6_cools_90 : decode cX6_cools 90 = .ok (.iload_n 3, 1) := by decide +kernel
theorem dX6_cools_91 : decode cX6_cools 91 = .ok (.iadd, 1) := by decide +kernel
theorem dX6_cools_92 : decode cX6_cools 92 = .ok (.iastore, 1) := by decide +kernel
theorem dX6_cools_93 : decode cX6_cools 93 = .ok (.iinc 2 1, 3) := by decide +kernel
theorem dX6_cools_96 : decode cX6_cools 96 = .ok (.goto (-60), 3) := by decide +kernel
theorem dX6_cools_99 : decode cX6_cools 99 = .ok (.iconst 0, 1) := by decide +kernel
theorem dX6_cools_100 : decode cX6_cools 100 = .ok (.istore_n 2, 1) := by decide +kernel
theorem dX6_cools_101 : decode cX6_cools 101 = .ok (.iload_n 2, 1) := by decide +kernel
theorem dX6_cools_102 : decode cX6_cools 102 = .ok (.bipush 8, 2) := by decide +kernel
theorem dX6_cools_104 : decode cX6_cools 104 = .ok (.if_icmp .ge 26, 3) := by decide +kernel
theorem dX6_cools_107 : decode cX6_cools 107 = .ok (.aload_n 0, 1) := by decide +kernel
theorem dX6_cools_108 : decode cX6_cools 108 = .ok (.iload_n 1, 1) := by decide +kernel
theorem dX6_cools_109 : decode cX6_cools 109 = .ok (.iload_n 2, 1) := by decide +kernel
theorem dX6_cools_110 : decode cX6_cools 110 = .ok (.aload_n 0, 1) := by decide +kernel
theorem dX6_cools_111 : decode cX6_cools 111 = .ok (.getfield 38, 3) := by decide +kernel
theorem dX6_cools_114 : decode cX6_cools 114 = .ok (.iload_n 2, 1) := by decide +kernel
theorem dX6_cools_115 : decode cX6_cools 115 = .ok (.iaload, 1) := by decide +kernel
theorem dX6_cools_116 : decode cX6_cools 116 = .ok (.bipush 99, 2) := by decide +kernel
theorem dX6_cools_118 : decode cX6_cools 118 = .ok (.invokestatic 171, 3) := by decide +kernel
theorem dX6_cools_121 : decode cX6_cools 121 = .ok (.invokevirtual 178, 3) := by decide +kernel
theorem dX6_cools_124 : decode cX6_cools 124 = .ok (.iinc 2 1, 3) := by decide +kernel
theorem dX6_cools_127 : decode cX6_cools 127 = .ok (.goto (-26), 3) := by decide +kernel
theorem dX6_cools_130 : decode cX6_cools 130 = .ok (.return_, 1) := by decide +kernel
theorem dX6_headBurns_0 : decode cX6_headBurns 0 = .ok (.iconst 0, 1) := by decide +kernel
theorem dX6_headBurns_1 : decode cX6_headBurns 1 = .ok (.istore 5, 2) := by decide +kernel
theorem dX6_headBurns_3 : decode cX6_headBurns 3 = .ok (.iload 5, 2) := by decide +kernel
theorem dX6_headBurns_5 : decode cX6_headBurns 5 = .ok (.bipush 8, 2) := by decide +kernel
theorem dX6_headBurns_7 : decode cX6_headBurns 7 = .ok (.if_icmp .ge 34, 3) := by decide +kernel
theorem dX6_headBurns_10 : decode cX6_headBurns 10 = .ok (.aload_n 0, 1) := by decide +kernel
theorem dX6_headBurns_11 : decode cX6_headBurns 11 = .ok (.getfield 35, 3) := by decide +kernel
theorem dX6_headBurns_14 : decode cX6_headBurns 14 = .ok (.iload 5, 2) := by decide +kernel
theorem dX6_headBurns_16 : decode cX6_headBurns 16 = .ok (.iload 4, 2) := by decide +kernel
theorem dX6_headBurns_18 : decode cX6_headBurns 18 = .ok (.ifCond .eq 7, 3) := by decide +kernel
theorem dX6_headBurns_21 : decode cX6_headBurns 21 = .ok (.iconst 0, 1) := by decide +kernel
theorem dX6_headBurns_22 : decode cX6_headBurns 22 = .ok (.goto 12, 3) := by decide +kernel
theorem dX6_headBurns_25 : decode cX6_headBurns 25 = .ok (.aload_n 0, 1) := by decide +kernel
theorem dX6_headBurns_26 : decode cX6_headBurns 26 = .ok (.iload_n 1, 1) := by decide +kernel
theorem dX6_headBurns_27 : decode cX6_headBurns 27 = .ok (.iload 5, 2) := by decide +kernel
theorem dX6_headBurns_29 : decode cX6_headBurns 29 = .ok (.iload_n 2, 1) := by decide +kernel
theorem dX6_headBurns_30 : decode cX6_headBurns 30 = .ok (.iload_n 3, 1) := by decide +kernel
theorem dX6_headBurns_31 : decode cX6_headBurns 31 = .ok (.invokevirtual 182, 3) := by decide +kernel
theorem dX6_headBurns_34 : decode cX6_headBurns 34 = .ok (.iastore, 1) := by decide +kernel
theorem dX6_headBurns_35 : decode cX6_headBurns 35 = .ok (.iinc 5 1, 3) := by decide +kernel
theorem dX6_headBurns_38 : decode cX6_headBurns 38 = .ok (.goto (-35), 3) := by decide +kernel
theorem dX6_headBurns_41 : decode cX6_headBurns 41 = .ok (.iconst 0, 1) := by decide +kernel
theorem dX6_headBurns_42 : decode cX6_headBurns 42 = .ok (.istore 5, 2) := by decide +kernel
theorem dX6_headBurns_44 : decode cX6_headBurns 44 = .ok (.iload 5, 2) := by decide +kernel
theorem dX6_headBurns_46 : decode cX6_headBurns 46 = .ok (.bipush 8, 2) := by decide +kernel
theorem dX6_headBurns_48 : decode cX6_headBurns 48 = .ok (.if_icmp .ge 62, 3) := by decide +kernel
theorem dX6_headBurns_51 : decode cX6_headBurns 51 = .ok (.aload_n 0, 1) := by decide +kernel
theorem dX6_headBurns_52 : decode cX6_headBurns 52 = .ok (.iload_n 1, 1) := by decide +kernel
theorem dX6_headBurns_53 : decode cX6_headBurns 53 = .ok (.iload 5, 2) := by decide +kernel
theorem dX6_headBurns_55 : decode cX6_headBurns 55 = .ok (.invokevirtual 167, 3) := by decide +kernel
theorem dX6_headBurns_58 : decode cX6_headBurns 58 = .ok (.aload_n 0, 1) := by decide +kernel
theorem dX6_headBurns_59 : decode cX6_headBurns 59 = .ok (.getfield 35, 3) := by decide +kernel
theorem dX6_headBurns_62 : decode cX6_headBurns 62 = .ok (.iload 5, 2) := by decide +kernel
theorem dX6_headBurns_64 : decode cX6_headBurns 64 = .ok (.iaload, 1) := by decide +kernel
theorem dX6_headBurns_65 : decode cX6_headBurns 65 = .ok (.iadd, 1) := by decide +kernel
theorem dX6_headBurns_66 : decode cX6_headBurns 66 = .ok (.bipush 99, 2) := by decide +kernel
theorem dX6_headBurns_68 : decode cX6_headBurns 68 = .ok (.invokestatic 171, 3) := by decide +kernel
theorem dX6_headBurns_71 : decode cX6_headBurns 71 = .ok (.istore 6, 2) := by decide +kernel
theorem dX6_headBurns_73 : decode cX6_headBurns 73 = .ok (.aload_n 0, 1) := by decide +kernel
theorem dX6_headBurns_74 : decode cX6_headBurns 74 = .ok (.iload_n 1, 1) := by decide +kernel
theorem dX6_headBurns_75 : decode cX6_headBurns 75 = .ok (.iload 5, 2) := by decide +kernel
theorem dX6_headBurns_77 : decode cX6_headBurns 77 = .ok (.iload 6, 2) := by decide +kernel
theorem dX6_headBurns_79 : decode cX6_headBurns 79 = .ok (.invokevirtual 178, 3) := by decide +kernel
theorem dX6_headBurns_82 : decode cX6_headBurns 82 = .ok (.aload_n 0, 1) := by decide +kernel
theorem dX6_headBurns_83 : decode cX6_headBurns 83 = .ok (.iload 6, 2) := by decide +kernel
theorem dX6_headBurns_85 : decode cX6_headBurns 85 = .ok (.aload_n 0, 1) := by decide +kernel
theorem dX6_headBurns_86 : decode cX6_headBurns 86 = .ok (.getfield 155, 3) := by decide +kernel
theorem dX6_headBurns_89 : decode cX6_headBurns 89 = .ok (.if_icmp .le 8, 3) := by decide +kernel
theorem dX6_headBurns_92 : decode cX6_headBurns 92 = .ok (.iload 6, 2) := by decide +kernel
theorem dX6_headBurns_94 : decode cX6_headBurns 94 = .ok (.goto 7, 3) := by decide +kernel
theorem dX6_headBurns_97 : decode cX6_headBurns 97 = .ok (.aload_n 0, 1) := by decide +kernel
theorem dX6_headBurns_98 : decode cX6_headBurns 98 = .ok (.getfield 155, 3) := by decide +kernel
theorem dX6_headBurns_101 : decode cX6_headBurns 101 = .ok (.putfield 155, 3) := by decide +kernel
theorem dX6_headBurns_104 : decode cX6_headBurns 104 = .ok (.iinc 5 1, 3) := by decide +kernel
theorem dX6_headBurns_107 : decode cX6_headBurns 107 = .ok (.goto (-63), 3) := by decide +kernel
theorem dX6_headBurns_110 : decode cX6_headBurns 110 = .ok (.aload_n 0, 1) := by decide +kernel
theorem dX6_headBurns_111 : decode cX6_headBurns 111 = .ok (.getfield 32, 3) := by decide +kernel
theorem dX6_headBurns_114 : decode cX6_headBurns 114 = .ok (.iload_n 1, 1) := by decide +kernel
theorem dX6_headBurns_115 : decode cX6_headBurns 115 = .ok (.aload_n 0, 1) := by decide +kernel
theorem dX6_headBurns_116 : decode cX6_headBurns 116 = .ok (.iload_n 1, 1) := by decide +kernel
theorem dX6_headBurns_117 : decode cX6_headBurns 117 = .ok (.invokevirtual 186, 3) := by decide +kernel
theorem dX6_headBurns_120 : decode cX6_headBurns 120 = .ok (.iastore, 1) := by decide +kernel
theorem dX6_headBurns_121 : decode cX6_headBurns 121 = .ok (.aload_n 0, 1) := by decide +kernel
theorem dX6_headBurns_122 : decode cX6_headBurns 122 = .ok (.getfield 32, 3) := by decide +kernel
theorem dX6_headBurns_125 : decode cX6_headBurns 125 = .ok (.iload_n 1, 1) := by decide +kernel
theorem dX6_headBurns_126 : decode cX6_headBurns 126 = .ok (.iaload, 1) := by decide +kernel
theorem dX6_headBurns_127 : decode cX6_headBurns 127 = .ok (.iload_n 2, 1) := by decide +kernel
theorem dX6_headBurns_128 : decode cX6_headBurns 128 = .ok (.ixor, 1) := by decide +kernel
theorem dX6_headBurns_129 : decode cX6_headBurns 129 = .ok (.invokestatic 189, 3) := by decide +kernel
theorem dX6_headBurns_132 : decode cX6_headBurns 132 = .ok (.istore 5, 2) := by decide +kernel
theorem dX6_headBurns_134 : decode cX6_headBurns 134 = .ok (.aload_n 0, 1) := by decide +kernel
theorem dX6_headBurns_135 : decode cX6_headBurns 135 = .ok (.dup, 1) := by decide +kernel
theorem dX6_headBurns_136 : decode cX6_headBurns 136 = .ok (.getfield 152, 3) := by decide +kernel
theorem dX6_headBurns_139 : decode cX6_headBurns 139 = .ok (.aload_n 0, 1) := by decide +kernel
theorem dX6_headBurns_140 : decode cX6_headBurns 140 = .ok (.getfield 32, 3) := by decide +kernel
theorem dX6_headBurns_143 : decode cX6_headBurns 143 = .ok (.iload_n 1, 1) := by decide +kernel
theorem dX6_headBurns_144 : decode cX6_headBurns 144 = .ok (.iaload, 1) := by decide +kernel
theorem dX6_headBurns_145 : decode cX6_headBurns 145 = .ok (.invokestatic 189, 3) := by decide +kernel
theorem dX6_headBurns_148 : decode cX6_headBurns 148 = .ok (.iadd, 1) := by decide +kernel
theorem dX6_headBurns_149 : decode cX6_headBurns 149 = .ok (.putfield 152, 3) := by decide +kernel
theorem dX6_headBurns_152 : decode cX6_headBurns 152 = .ok (.aload_n 0, 1) := by decide +kernel
theorem dX6_headBurns_153 : decode cX6_headBurns 153 = .ok (.dup, 1) := by decide +kernel
theorem dX6_headBurns_154 : decode cX6_headBurns 154 = .ok (.getfield 149, 3) := by decide +kernel
theorem dX6_headBurns_157 : decode cX6_headBurns 157 = .ok (.iload 5, 2) := by decide +kernel
theorem dX6_headBurns_159 : decode cX6_headBurns 159 = .ok (.iadd, 1) := by decide +kernel
theorem dX6_headBurns_160 : decode cX6_headBurns 160 = .ok (.putfield 149, 3) := by decide +kernel
theorem dX6_headBurns_163 : decode cX6_headBurns 163 = .ok (.aload_n 0, 1) := by decide +kernel
theorem dX6_headBurns_164 : decode cX6_headBurns 164 = .ok (.getfield 29, 3) := by decide +kernel
theorem dX6_headBurns_167 : decode cX6_headBurns 167 = .ok (.iload_n 1, 1) := by decide +kernel
theorem dX6_headBurns_168 : decode cX6_headBurns 168 = .ok (.dup2, 1) := by decide +kernel
theorem dX6_headBurns_169 : decode cX6_headBurns 169 = .ok (.iaload, 1) := by decide +kernel
theorem dX6_headBurns_170 : decode cX6_headBurns 170 = .ok (.iload 5, 2) := by decide +kernel
theorem dX6_headBurns_172 : decode cX6_headBurns 172 = .ok (.iadd, 1) := by decide +kernel
theorem dX6_headBurns_173 : decode cX6_headBurns 173 = .ok (.iastore, 1) := by decide +kernel
theorem dX6_headBurns_174 : decode cX6_headBurns 174 = .ok (.aload_n 0, 1) := by decide +kernel
theorem dX6_headBurns_175 : decode cX6_headBurns 175 = .ok (.getfield 13, 3) := by decide +kernel
theorem dX6_headBurns_178 : decode cX6_headBurns 178 = .ok (.bipush 11, 2) := by decide +kernel
theorem dX6_headBurns_180 : decode cX6_headBurns 180 = .ok (.iload_n 1, 1) := by decide +kernel
theorem dX6_headBurns_181 : decode cX6_headBurns 181 = .ok (.imul, 1) := by decide +kernel
theorem dX6_headBurns_182 : decode cX6_headBurns 182 = .ok (.iconst 2, 1) := by decide +kernel
theorem dX6_headBurns_183 : decode cX6_headBurns 183 = .ok (.iadd, 1) := by decide +kernel
theorem dX6_headBurns_184 : decode cX6_headBurns 184 = .ok (.aload_n 0, 1) := by decide +kernel
theorem dX6_headBurns_185 : decode cX6_headBurns 185 = .ok (.iload_n 1, 1) := by decide +kernel
theorem dX6_headBurns_186 : decode cX6_headBurns 186 = .ok (.iconst 2, 1) := by decide +kernel
theorem dX6_headBurns_187 : decode cX6_headBurns 187 = .ok (.invokevirtual 161, 3) := by decide +kernel
theorem dX6_headBurns_190 : decode cX6_headBurns 190 = .ok (.iload 5, 2) := by decide +kernel
theorem dX6_headBurns_192 : decode cX6_headBurns 192 = .ok (.iadd, 1) := by decide +kernel
theorem dX6_headBurns_193 : decode cX6_headBurns 193 = .ok (.sipush 9999, 3) := by decide +kernel
theorem dX6_headBurns_196 : decode cX6_headBurns 196 = .ok (.invokestatic 171, 3) := by decide +kernel
theorem dX6_headBurns_199 : decode cX6_headBurns 199 = .ok (.iastore, 1) := by decide +kernel
theorem dX6_headBurns_200 : decode cX6_headBurns 200 = .ok (.aload_n 0, 1) := by decide +kernel
theorem dX6_headBurns_201 : decode cX6_headBurns 201 = .ok (.iload_n 1, 1) := by decide +kernel
theorem dX6_headBurns_202 : decode cX6_headBurns 202 = .ok (.invokevirtual 192, 3) := by decide +kernel
theorem dX6_headBurns_205 : decode cX6_headBurns 205 = .ok (.return_, 1) := by decide +kernel
theorem dX6_rowGoes_0 : decode cX6_rowGoes 0 = .ok (.aload_n 0, 1) := by decide +kernel
theorem dX6_rowGoes_1 : decode cX6_rowGoes 1 = .ok (.getfield 149, 3) := by decide +kernel
theorem dX6_rowGoes_4 : decode cX6_rowGoes 4 = .ok (.istore 4, 2) := by decide +kernel
theorem dX6_rowGoes_6 : decode cX6_rowGoes 6 = .ok (.iconst 0, 1) := by decide +kernel
theorem dX6_rowGoes_7 : decode cX6_rowGoes 7 = .ok (.istore 5, 2) := by decide +kernel
theorem dX6_rowGoes_9 : decode cX6_rowGoes 9 = .ok (.iload 5, 2) := by decide +kernel
theorem dX6_rowGoes_11 : decode cX6_rowGoes 11 = .ok (.aload_n 0, 1) := by decide +kernel
theorem dX6_rowGoes_12 : decode cX6_rowGoes 12 = .ok (.getfield 13, 3) := by decide +kernel
theorem dX6_rowGoes_15 : decode cX6_rowGoes 15 = .ok (.bipush 33, 2) := by decide +kernel
theorem dX6_rowGoes_17 : decode cX6_rowGoes 17 = .ok (.iaload, 1) := by decide +kernel
theorem dX6_rowGoes_18 : decode cX6_rowGoes 18 = .ok (.if_icmp .ge 18, 3) := by decide +kernel
theorem dX6_rowGoes_21 : decode cX6_rowGoes 21 = .ok (.aload_n 0, 1) := by decide +kernel
theorem dX6_rowGoes_22 : decode cX6_rowGoes 22 = .ok (.iload 5, 2) := by decide +kernel
theorem dX6_rowGoes_24 : decode cX6_rowGoes 24 = .ok (.iload_n 1, 1) := by decide +kernel
theorem dX6_rowGoes_25 : decode cX6_rowGoes 25 = .ok (.iload_n 2, 1) := by decide +kernel
theorem dX6_rowGoes_26 : decode cX6_rowGoes 26 = .ok (.iload_n 3, 1) := by decide +kernel
theorem dX6_rowGoes_27 : decode cX6_rowGoes 27 = .ok (.invokevirtual 195, 3) := by decide +kernel
theorem dX6_rowGoes_30 : decode cX6_rowGoes 30 = .ok (.iinc 5 1, 3) := by decide +kernel
theorem dX6_rowGoes_33 : decode cX6_rowGoes 33 = .ok (.goto (-24), 3) := by decide +kernel
theorem dX6_rowGoes_36 : decode cX6_rowGoes 36 = .ok (.aload_n 0, 1) := by decide +kernel
theorem dX6_rowGoes_37 : decode cX6_rowGoes 37 = .ok (.dup, 1) := by decide +kernel
theorem dX6_rowGoes_38 : decode cX6_rowGoes 38 = .ok (.getfield 158, 3) := by decide +kernel
theorem dX6_rowGoes_41 : decode cX6_rowGoes 41 = .ok (.aload_n 0, 1) := by decide +kernel
theorem dX6_rowGoes_42 : decode cX6_rowGoes 42 = .ok (.getfield 149, 3) := by decide +kernel
theorem dX6_rowGoes_45 : decode cX6_rowGoes 45 = .ok (.iload 4, 2) := by decide +kernel
theorem dX6_rowGoes_47 : decode cX6_rowGoes 47 = .ok (.if_icmp .le 7, 3) := by decide +kernel
theorem dX6_rowGoes_50 : decode cX6_rowGoes 50 = .ok (.iconst 1, 1) := by decide +kernel
theorem dX6_rowGoes_51 : decode cX6_rowGoes 51 = .ok (.goto 4, 3) := by decide +kernel
theorem dX6_rowGoes_54 : decode cX6_rowGoes 54 = .ok (.iconst 0, 1) := by decide +kernel
theorem dX6_rowGoes_55 : decode cX6_rowGoes 55 = .ok (.invokestatic 174, 3) := by decide +kernel
theorem dX6_rowGoes_58 : decode cX6_rowGoes 58 = .ok (.iadd, 1) := by decide +kernel
theorem dX6_rowGoes_59 : decode cX6_rowGoes 59 = .ok (.putfield 158, 3) := by decide +kernel
theorem dX6_rowGoes_62 : decode cX6_rowGoes 62 = .ok (.aload_n 0, 1) := by decide +kernel
theorem dX6_rowGoes_63 : decode cX6_rowGoes 63 = .ok (.getfield 146, 3) := by decide +kernel
theorem dX6_rowGoes_66 : decode cX6_rowGoes 66 = .ok (.bipush (-4), 2) := by decide +kernel
theorem dX6_rowGoes_68 : decode cX6_rowGoes 68 = .ok (.if_icmp .eq 71, 3) := by decide +kernel
theorem dX6_rowGoes_71 : decode cX6_rowGoes 71 = .ok (.aload_n 0, 1) := by decide +kernel
theorem dX6_rowGoes_72 : decode cX6_rowGoes 72 = .ok (.getfield 13, 3) := by decide +kernel
theorem dX6_rowGoes_75 : decode cX6_rowGoes 75 = .ok (.bipush 50, 2) := by decide +kernel
theorem dX6_rowGoes_77 : decode cX6_rowGoes 77 = .ok (.iaload, 1) := by decide +kernel
theorem dX6_rowGoes_78 : decode cX6_rowGoes 78 = .ok (.aload_n 0, 1) := by decide +kernel
theorem dX6_rowGoes_79 : decode cX6_rowGoes 79 = .ok (.getfield 13, 3) := by decide +kernel
theorem dX6_rowGoes_82 : decode cX6_rowGoes 82 = .ok (.bipush 49, 2) := by decide +kernel
theorem dX6_rowGoes_84 : decode cX6_rowGoes 84 = .ok (.iaload, 1) := by decide +kernel
theorem dX6_rowGoes_85 : decode cX6_rowGoes 85 = .ok (.irem, 1) := by decide +kernel
theorem dX6_rowGoes_86 : decode cX6_rowGoes 86 = .ok (.aload_n 0, 1) := by decide +kernel
theorem dX6_rowGoes_87 : decode cX6_rowGoes 87 = .ok (.getfield 146, 3) := by decide +kernel
theorem dX6_rowGoes_90 : decode cX6_rowGoes 90 = .ok (.if_icmp .ne 49, 3) := by decide +kernel
theorem dX6_rowGoes_93 : decode cX6_rowGoes 93 = .ok (.iconst 0, 1) := by decide +kernel
theorem dX6_rowGoes_94 : decode cX6_rowGoes 94 = .ok (.istore 5, 2) := by decide +kernel
theorem dX6_rowGoes_96 : decode cX6_rowGoes 96 = .ok (.iload 5, 2) := by decide +kernel
theorem dX6_rowGoes_98 : decode cX6_rowGoes 98 = .ok (.aload_n 0, 1) := by decide +kernel
theorem dX6_rowGoes_99 : decode cX6_rowGoes 99 = .ok (.getfield 13, 3) := by decide +kernel
theorem dX6_rowGoes_102 : decode cX6_rowGoes 102 = .ok (.bipush 33, 2) := by decide +kernel
theorem dX6_rowGoes_104 : decode cX6_rowGoes 104 = .ok (.iaload, 1) := by decide +kernel
theorem dX6_rowGoes_105 : decode cX6_rowGoes 105 = .ok (.if_icmp .ge 34, 3) := by decide +kernel
theorem dX6_rowGoes_108 : decode cX6_rowGoes 108 = .ok (.iconst 0, 1) := by decide +kernel
theorem dX6_rowGoes_109 : decode cX6_rowGoes 109 = .ok (.istore 6, 2) := by decide +kernel
theorem dX6_rowGoes_111 : decode cX6_rowGoes 111 = .ok (.iload 6, 2) := by decide +kernel
theorem dX6_rowGoes_113 : decode cX6_rowGoes 113 = .ok (.bipush 8, 2) := by decide +kernel
theorem dX6_rowGoes_115 : decode cX6_rowGoes 115 = .ok (.if_icmp .ge 18, 3) := by decide +kernel
theorem dX6_rowGoes_118 : decode cX6_rowGoes 118 = .ok (.aload_n 0, 1) := by decide +kernel
theorem dX6_rowGoes_119 : decode cX6_rowGoes 119 = .ok (.iload 5, 2) := by decide +kernel
theorem dX6_rowGoes_121 : decode cX6_rowGoes 121 = .ok (.iload 6, 2) := by decide +kernel
theorem dX6_rowGoes_123 : decode cX6_rowGoes 123 = .ok (.iconst 0, 1) := by decide +kernel
theorem dX6_rowGoes_124 : decode cX6_rowGoes 124 = .ok (.invokevirtual 178, 3) := by decide +kernel
theorem dX6_rowGoes_127 : decode cX6_rowGoes 127 = .ok (.iinc 6 1, 3) := by decide +kernel
theorem dX6_rowGoes_130 : decode cX6_rowGoes 130 = .ok (.goto (-19), 3) := by decide +kernel
theorem dX6_rowGoes_133 : decode cX6_rowGoes 133 = .ok (.iinc 5 1, 3) := by decide +kernel
theorem dX6_rowGoes_136 : decode cX6_rowGoes 136 = .ok (.goto (-40), 3) := by decide +kernel
theorem dX6_rowGoes_139 : decode cX6_rowGoes 139 = .ok (.aload_n 0, 1) := by decide +kernel
theorem dX6_rowGoes_140 : decode cX6_rowGoes 140 = .ok (.getfield 13, 3) := by decide +kernel
theorem dX6_rowGoes_143 : decode cX6_rowGoes 143 = .ok (.bipush 50, 2) := by decide +kernel
theorem dX6_rowGoes_145 : decode cX6_rowGoes 145 = .ok (.dup2, 1) := by decide +kernel
theorem dX6_rowGoes_146 : decode cX6_rowGoes 146 = .ok (.iaload, 1) := by decide +kernel
theorem dX6_rowGoes_147 : decode cX6_rowGoes 147 = .ok (.iconst 1, 1) := by decide +kernel
theorem dX6_rowGoes_148 : decode cX6_rowGoes 148 = .ok (.iadd, 1) := by decide +kernel
theorem dX6_rowGoes_149 : decode cX6_rowGoes 149 = .ok (.iastore, 1) := by decide +kernel
theorem dX6_rowGoes_150 : decode cX6_rowGoes 150 = .ok (.return_, 1) := by decide +kernel
theorem dX6_rowsGo_0 : decode cX6_rowsGo 0 = .ok (.iconst 0, 1) := by decide +kernel
theorem dX6_rowsGo_1 : decode cX6_rowsGo 1 = .ok (.istore_n 2, 1) := by decide +kernel
theorem dX6_rowsGo_2 : decode cX6_rowsGo 2 = .ok (.iload_n 2, 1) := by decide +kernel
theorem dX6_rowsGo_3 : decode cX6_rowsGo 3 = .ok (.iload_n 1, 1) := by decide +kernel
theorem dX6_rowsGo_4 : decode cX6_rowsGo 4 = .ok (.if_icmp .ge 38, 3) := by decide +kernel
theorem dX6_rowsGo_7 : decode cX6_rowsGo 7 = .ok (.aload_n 0, 1) := by decide +kernel
theorem dX6_rowsGo_8 : decode cX6_rowsGo 8 = .ok (.aload_n 0, 1) := by decide +kernel
theorem dX6_rowsGo_9 : decode cX6_rowsGo 9 = .ok (.aload_n 0, 1) := by decide +kernel
theorem dX6_rowsGo_10 : decode cX6_rowsGo 10 = .ok (.getfield 13, 3) := by decide +kernel
theorem dX6_rowsGo_13 : decode cX6_rowsGo 13 = .ok (.bipush 50, 2) := by decide +kernel
theorem dX6_rowsGo_15 : decode cX6_rowsGo 15 = .ok (.iaload, 1) := by decide +kernel
theorem dX6_rowsGo_16 : decode cX6_rowsGo 16 = .ok (.invokevirtual 199, 3) := by decide +kernel
theorem dX6_rowsGo_19 : decode cX6_rowsGo 19 = .ok (.aload_n 0, 1) := by decide +kernel
theorem dX6_rowsGo_20 : decode cX6_rowsGo 20 = .ok (.aload_n 0, 1) := by decide +kernel
theorem dX6_rowsGo_21 : decode cX6_rowsGo 21 = .ok (.getfield 13, 3) := by decide +kernel
theorem dX6_rowsGo_24 : decode cX6_rowsGo 24 = .ok (.bipush 50, 2) := by decide +kernel
theorem dX6_rowsGo_26 : decode cX6_rowsGo 26 = .ok (.iaload, 1) := by decide +kernel
theorem dX6_rowsGo_27 : decode cX6_rowsGo 27 = .ok (.iconst 1, 1) := by decide +kernel
theorem dX6_rowsGo_28 : decode cX6_rowsGo 28 = .ok (.iadd, 1) := by decide +kernel
theorem dX6_rowsGo_29 : decode cX6_rowsGo 29 = .ok (.invokevirtual 199, 3) := by decide +kernel
theorem dX6_rowsGo_32 : decode cX6_rowsGo 32 = .ok (.iconst 0, 1) := by decide +kernel
theorem dX6_rowsGo_33 : decode cX6_rowsGo 33 = .ok (.invokevirtual 202, 3) := by decide +kernel
theorem dX6_rowsGo_36 : decode cX6_rowsGo 36 = .ok (.iinc 2 1, 3) := by decide +kernel
theorem dX6_rowsGo_39 : decode cX6_rowsGo 39 = .ok (.goto (-37), 3) := by decide +kernel
theorem dX6_rowsGo_42 : decode cX6_rowsGo 42 = .ok (.return_, 1) := by decide +kernel
theorem dX6_wrongIn_0 : decode cX6_wrongIn 0 = .ok (.aload_n 0, 1) := by decide +kernel
theorem dX6_wrongIn_1 : decode cX6_wrongIn 1 = .ok (.iload_n 1, 1) := by decide +kernel
theorem dX6_wrongIn_2 : decode cX6_wrongIn 2 = .ok (.invokevirtual 206, 3) := by decide +kernel
theorem dX6_wrongIn_5 : decode cX6_wrongIn 5 = .ok (.aload_n 0, 1) := by decide +kernel
theorem dX6_wrongIn_6 : decode cX6_wrongIn 6 = .ok (.getfield 149, 3) := by decide +kernel
theorem dX6_wrongIn_9 : decode cX6_wrongIn 9 = .ok (.ireturn, 1) := by decide +kernel
theorem dX6_heatsOf_0 : decode cX6_heatsOf 0 = .ok (.iconst 0, 1) := by decide +kernel
theorem dX6_heatsOf_1 : decode cX6_heatsOf 1 = .ok (.istore_n 2, 1) := by decide +kernel
theorem dX6_heatsOf_2 : decode cX6_heatsOf 2 = .ok (.iconst 0, 1) := by decide +kernel
theorem dX6_heatsOf_3 : decode cX6_heatsOf 3 = .ok (.istore_n 3, 1) := by decide +kernel
theorem dX6_heatsOf_4 : decode cX6_heatsOf 4 = .ok (.iload_n 3, 1) := by decide +kernel
theorem dX6_heatsOf_5 : decode cX6_heatsOf 5 = .ok (.bipush 8, 2) := by decide +kernel
theorem dX6_heatsOf_7 : decode cX6_heatsOf 7 = .ok (.if_icmp .ge 18, 3) := by decide +kernel
theorem dX6_heatsOf_10 : decode cX6_heatsOf 10 = .ok (.iload_n 2, 1) := by decide +kernel
theorem dX6_heatsOf_11 : decode cX6_heatsOf 11 = .ok (.aload_n 0, 1) := by decide +kernel
theorem dX6_heatsOf_12 : decode cX6_heatsOf 12 = .ok (.iload_n 1, 1) := by decide +kernel
theorem dX6_heatsOf_13 : decode cX6_heatsOf 13 = .ok (.iload_n 3, 1) := by decide +kernel
theorem dX6_heatsOf_14 : decode cX6_heatsOf 14 = .ok (.invokevirtual 167, 3) := by decide +kernel
theorem dX6_heatsOf_17 : decode cX6_heatsOf 17 = .ok (.iadd, 1) := by decide +kernel
theorem dX6_heatsOf_18 : decode cX6_heatsOf 18 = .ok (.istore_n 2, 1) := by decide +kernel
theorem dX6_heatsOf_19 : decode cX6_heatsOf 19 = .ok (.iinc 3 1, 3) := by decide +kernel
theorem dX6_heatsOf_22 : decode cX6_heatsOf 22 = .ok (.goto (-18), 3) := by decide +kernel
theorem dX6_heatsOf_25 : decode cX6_heatsOf 25 = .ok (.iload_n 2, 1) := by decide +kernel
theorem dX6_heatsOf_26 : decode cX6_heatsOf 26 = .ok (.ireturn, 1) := by decide +kernel
theorem dX6_sumOf_0 : decode cX6_sumOf 0 = .ok (.iconst 0, 1) := by decide +kernel
theorem dX6_sumOf_1 : decode cX6_sumOf 1 = .ok (.istore_n 2, 1) := by decide +kernel
theorem dX6_sumOf_2 : decode cX6_sumOf 2 = .ok (.iconst 0, 1) := by decide +kernel
theorem dX6_sumOf_3 : decode cX6_sumOf 3 = .ok (.istore_n 3, 1) := by decide +kernel
theorem dX6_sumOf_4 : decode cX6_sumOf 4 = .ok (.iload_n 3, 1) := by decide +kernel
theorem dX6_sumOf_5 : decode cX6_sumOf 5 = .ok (.aload_n 0, 1) := by decide +kernel
theorem dX6_sumOf_6 : decode cX6_sumOf 6 = .ok (.getfield 13, 3) := by decide +kernel
theorem dX6_sumOf_9 : decode cX6_sumOf 9 = .ok (.bipush 33, 2) := by decide +kernel
theorem dX6_sumOf_11 : decode cX6_sumOf 11 = .ok (.iaload, 1) := by decide +kernel
theorem dX6_sumOf_12 : decode cX6_sumOf 12 = .ok (.if_icmp .ge 18, 3) := by decide +kernel
theorem dX6_sumOf_15 : decode cX6_sumOf 15 = .ok (.iload_n 2, 1) := by decide +kernel
theorem dX6_sumOf_16 : decode cX6_sumOf 16 = .ok (.aload_n 0, 1) := by decide +kernel
theorem dX6_sumOf_17 : decode cX6_sumOf 17 = .ok (.iload_n 3, 1) := by decide +kernel
theorem dX6_sumOf_18 : decode cX6_sumOf 18 = .ok (.iload_n 1, 1) := by decide +kernel
theorem dX6_sumOf_19 : decode cX6_sumOf 19 = .ok (.invokevirtual 161, 3) := by decide +kernel
theorem dX6_sumOf_22 : decode cX6_sumOf 22 = .ok (.iadd, 1) := by decide +kernel
theorem dX6_sumOf_23 : decode cX6_sumOf 23 = .ok (.istore_n 2, 1) := by decide +kernel
theorem dX6_sumOf_24 : decode cX6_sumOf 24 = .ok (.iinc 3 1, 3) := by decide +kernel
theorem dX6_sumOf_27 : decode cX6_sumOf 27 = .ok (.goto (-23), 3) := by decide +kernel
theorem dX6_sumOf_30 : decode cX6_sumOf 30 = .ok (.iload_n 2, 1) := by decide +kernel
theorem dX6_sumOf_31 : decode cX6_sumOf 31 = .ok (.ireturn, 1) := by decide +kernel
theorem dX6_rule_0 : decode cX6_rule 0 = .ok (.aload_n 0, 1) := by decide +kernel
theorem dX6_rule_1 : decode cX6_rule 1 = .ok (.invokevirtual 209, 3) := by decide +kernel
theorem dX6_rule_4 : decode cX6_rule 4 = .ok (.iload_n 1, 1) := by decide +kernel
theorem dX6_rule_5 : decode cX6_rule 5 = .ok (.tableswitch 101 0 7 #[47, 55, 63, 71, 71, 71, 83, 89], 47) := by decide +kernel
theorem dX6_rule_52 : decode cX6_rule 52 = .ok (.aload_n 0, 1) := by decide +kernel
theorem dX6_rule_53 : decode cX6_rule 53 = .ok (.getfield 7, 3) := by decide +kernel
theorem dX6_rule_56 : decode cX6_rule 56 = .ok (.bipush 33, 2) := by decide +kernel
theorem dX6_rule_58 : decode cX6_rule 58 = .ok (.iaload, 1) := by decide +kernel
theorem dX6_rule_59 : decode cX6_rule 59 = .ok (.ireturn, 1) := by decide +kernel
theorem dX6_rule_60 : decode cX6_rule 60 = .ok (.aload_n 0, 1) := by decide +kernel
theorem dX6_rule_61 : decode cX6_rule 61 = .ok (.getfield 7, 3) := by decide +kernel
theorem dX6_rule_64 : decode cX6_rule 64 = .ok (.bipush 49, 2) := by decide +kernel
theorem dX6_rule_66 : decode cX6_rule 66 = .ok (.iaload, 1) := by decide +kernel
theorem dX6_rule_67 : decode cX6_rule 67 = .ok (.ireturn, 1) := by decide +kernel
theorem dX6_rule_68 : decode cX6_rule 68 = .ok (.aload_n 0, 1) := by decide +kernel
theorem dX6_rule_69 : decode cX6_rule 69 = .ok (.getfield 7, 3) := by decide +kernel
theorem dX6_rule_72 : decode cX6_rule 72 = .ok (.bipush 50, 2) := by decide +kernel
theorem dX6_rule_74 : decode cX6_rule 74 = .ok (.iaload, 1) := by decide +kernel
theorem dX6_rule_75 : decode cX6_rule 75 = .ok (.ireturn, 1) := by decide +kernel
theorem dX6_rule_76 : decode cX6_rule 76 = .ok (.aload_n 0, 1) := by decide +kernel
theorem dX6_rule_77 : decode cX6_rule 77 = .ok (.getfield 7, 3) := by decide +kernel
theorem dX6_rule_80 : decode cX6_rule 80 = .ok (.bipush 34, 2) := by decide +kernel
theorem dX6_rule_82 : decode cX6_rule 82 = .ok (.iload_n 1, 1) := by decide +kernel
theorem dX6_rule_83 : decode cX6_rule 83 = .ok (.iadd, 1) := by decide +kernel
theorem dX6_rule_84 : decode cX6_rule 84 = .ok (.iconst 3, 1) := by decide +kernel
theorem dX6_rule_85 : decode cX6_rule 85 = .ok (.isub, 1) := by decide +kernel
theorem dX6_rule_86 : decode cX6_rule 86 = .ok (.iaload, 1) := by decide +kernel
theorem dX6_rule_87 : decode cX6_rule 87 = .ok (.ireturn, 1) := by decide +kernel
theorem dX6_rule_88 : decode cX6_rule 88 = .ok (.aload_n 0, 1) := by decide +kernel
theorem dX6_rule_89 : decode cX6_rule 89 = .ok (.iconst 2, 1) := by decide +kernel
theorem dX6_rule_90 : decode cX6_rule 90 = .ok (.invokevirtual 212, 3) := by decide +kernel
theorem dX6_rule_93 : decode cX6_rule 93 = .ok (.ireturn, 1) := by decide +kernel
theorem dX6_rule_94 : decode cX6_rule 94 = .ok (.aload_n 0, 1) := by decide +kernel
theorem dX6_rule_95 : decode cX6_rule 95 = .ok (.aload_n 0, 1) := by decide +kernel
theorem dX6_rule_96 : decode cX6_rule 96 = .ok (.getfield 13, 3) := by decide +kernel
theorem dX6_rule_99 : decode cX6_rule 99 = .ok (.bipush 50, 2) := by decide +kernel
theorem dX6_rule_101 : decode cX6_rule 101 = .ok (.iaload, 1) := by decide +kernel
theorem dX6_rule_102 : decode cX6_rule 102 = .ok (.invokevirtual 199, 3) := by decide +kernel
theorem dX6_rule_105 : decode cX6_rule 105 = .ok (.ireturn, 1) := by decide +kernel
theorem dX6_rule_106 : decode cX6_rule 106 = .ok (.iconst (-1), 1) := by decide +kernel
theorem dX6_rule_107 : decode cX6_rule 107 = .ok (.ireturn, 1) := by decide +kernel
theorem dX6_head_0 : decode cX6_head 0 = .ok (.aload_n 0, 1) := by decide +kernel
theorem dX6_head_1 : decode cX6_head 1 = .ok (.iload_n 1, 1) := by decide +kernel
theorem dX6_head_2 : decode cX6_head 2 = .ok (.invokevirtual 215, 3) := by decide +kernel
theorem dX6_head_5 : decode cX6_head 5 = .ok (.ifCond .eq 15, 3) := by decide +kernel
theorem dX6_head_8 : decode cX6_head 8 = .ok (.iload_n 2, 1) := by decide +kernel
theorem dX6_head_9 : decode cX6_head 9 = .ok (.i2l, 1) := by decide +kernel
theorem dX6_head_10 : decode cX6_head 10 = .ok (.lconst 0, 1) := by decide +kernel
theorem dX6_head_11 : decode cX6_head 11 = .ok (.ldc2_w 219, 3) := by decide +kernel
theorem dX6_head_14 : decode cX6_head 14 = .ok (.invokestatic 67, 3) := by decide +kernel
theorem dX6_head_17 : decode cX6_head 17 = .ok (.ifCond .ne 5, 3) := by decide +kernel
theorem dX6_head_20 : decode cX6_head 20 = .ok (.iconst (-1), 1) := by decide +kernel
theorem dX6_head_21 : decode cX6_head 21 = .ok (.ireturn, 1) := by decide +kernel
theorem dX6_head_22 : decode cX6_head 22 = .ok (.aload_n 0, 1) := by decide +kernel
theorem dX6_head_23 : decode cX6_head 23 = .ok (.invokevirtual 209, 3) := by decide +kernel
theorem dX6_head_26 : decode cX6_head 26 = .ok (.iload_n 2, 1) := by decide +kernel
theorem dX6_head_27 : decode cX6_head 27 = .ok (.iconst 3, 1) := by decide +kernel
theorem dX6_head_28 : decode cX6_head 28 = .ok (.if_icmp .ne 11, 3) := by decide +kernel
theorem dX6_head_31 : decode cX6_head 31 = .ok (.aload_n 0, 1) := by decide +kernel
theorem dX6_head_32 : decode cX6_head 32 = .ok (.iload_n 1, 1) := by decide +kernel
theorem dX6_head_33 : decode cX6_head 33 = .ok (.invokevirtual 221, 3) := by decide +kernel
theorem dX6_head_36 : decode cX6_head 36 = .ok (.goto 9, 3) := by decide +kernel
theorem dX6_head_39 : decode cX6_head 39 = .ok (.aload_n 0, 1) := by decide +kernel
theorem dX6_head_40 : decode cX6_head 40 = .ok (.iload_n 1, 1) := by decide +kernel
theorem dX6_head_41 : decode cX6_head 41 = .ok (.iload_n 2, 1) := by decide +kernel
theorem dX6_head_42 : decode cX6_head 42 = .ok (.invokevirtual 161, 3) := by decide +kernel
theorem dX6_head_45 : decode cX6_head 45 = .ok (.ireturn, 1) := by decide +kernel
theorem dX6_dot_0 : decode cX6_dot 0 = .ok (.aload_n 0, 1) := by decide +kernel
theorem dX6_dot_1 : decode cX6_dot 1 = .ok (.iload_n 1, 1) := by decide +kernel
theorem dX6_dot_2 : decode cX6_dot 2 = .ok (.invokevirtual 215, 3) := by decide +kernel
theorem dX6_dot_5 : decode cX6_dot 5 = .ok (.ifCond .eq 17, 3) := by decide +kernel
theorem dX6_dot_8 : decode cX6_dot 8 = .ok (.iload_n 2, 1) := by decide +kernel
theorem dX6_dot_9 : decode cX6_dot 9 = .ok (.invokestatic 224, 3) := by decide +kernel
theorem dX6_dot_12 : decode cX6_dot 12 = .ok (.ifCond .eq 10, 3) := by decide +kernel
theorem dX6_dot_15 : decode cX6_dot 15 = .ok (.iload_n 3, 1) := by decide +kernel
theorem dX6_dot_16 : decode cX6_dot 16 = .ok (.invokestatic 227, 3) := by decide +kernel
theorem dX6_dot_19 : decode cX6_dot 19 = .ok (.ifCond .ne 5, 3) := by decide +kernel
theorem dX6_dot_22 : decode cX6_dot 22 = .ok (.iconst (-1), 1) := by decide +kernel
theorem dX6_dot_23 : decode cX6_dot 23 = .ok (.ireturn, 1) := by decide +kernel
theorem dX6_dot_24 : decode cX6_dot 24 = .ok (.aload_n 0, 1) := by decide +kernel
theorem dX6_dot_25 : decode cX6_dot 25 = .ok (.invokevirtual 209, 3) := by decide +kernel
theorem dX6_dot_28 : decode cX6_dot 28 = .ok (.iload_n 3, 1) := by decide +kernel
theorem dX6_dot_29 : decode cX6_dot 29 = .ok (.ifCond .ne 12, 3) := by decide +kernel
theorem dX6_dot_32 : decode cX6_dot 32 = .ok (.aload_n 0, 1) := by decide +kernel
theorem dX6_dot_33 : decode cX6_dot 33 = .ok (.iload_n 1, 1) := by decide +kernel
theorem dX6_dot_34 : decode cX6_dot 34 = .ok (.iload_n 2, 1) := by decide +kernel
theorem dX6_dot_35 : decode cX6_dot 35 = .ok (.invokevirtual 167, 3) := by decide +kernel
theorem dX6_dot_38 : decode cX6_dot 38 = .ok (.goto 33, 3) := by decide +kernel
theorem dX6_dot_41 : decode cX6_dot 41 = .ok (.aload_n 0, 1) := by decide +kernel
theorem dX6_dot_42 : decode cX6_dot 42 = .ok (.iload_n 1, 1) := by decide +kernel
theorem dX6_dot_43 : decode cX6_dot 43 = .ok (.iload_n 2, 1) := by decide +kernel
theorem dX6_dot_44 : decode cX6_dot 44 = .ok (.aload_n 0, 1) := by decide +kernel
theorem dX6_dot_45 : decode cX6_dot 45 = .ok (.aload_n 0, 1) := by decide +kernel
theorem dX6_dot_46 : decode cX6_dot 46 = .ok (.getfield 13, 3) := by decide +kernel
theorem dX6_dot_49 : decode cX6_dot 49 = .ok (.bipush 50, 2) := by decide +kernel
theorem dX6_dot_51 : decode cX6_dot 51 = .ok (.iaload, 1) := by decide +kernel
theorem dX6_dot_52 : decode cX6_dot 52 = .ok (.invokevirtual 199, 3) := by decide +kernel
theorem dX6_dot_55 : decode cX6_dot 55 = .ok (.aload_n 0, 1) := by decide +kernel
theorem dX6_dot_56 : decode cX6_dot 56 = .ok (.aload_n 0, 1) := by decide +kernel
theorem dX6_dot_57 : decode cX6_dot 57 = .ok (.getfield 13, 3) := by decide +kernel
theorem dX6_dot_60 : decode cX6_dot 60 = .ok (.bipush 50, 2) := by decide +kernel
theorem dX6_dot_62 : decode cX6_dot 62 = .ok (.iaload, 1) := by decide +kernel
theorem dX6_dot_63 : decode cX6_dot 63 = .ok (.iconst 1, 1) := by decide +kernel
theorem dX6_dot_64 : decode cX6_dot 64 = .ok (.iadd, 1) := by decide +kernel
theorem dX6_dot_65 : decode cX6_dot 65 = .ok (.invokevirtual 199, 3) := by decide +kernel
theorem dX6_dot_68 : decode cX6_dot 68 = .ok (.invokevirtual 182, 3) := by decide +kernel
theorem dX6_dot_71 : decode cX6_dot 71 = .ok (.ireturn, 1) := by decide +kernel
theorem dX6_line_0 : decode cX6_line 0 = .ok (.aload_n 0, 1) := by decide +kernel
theorem dX6_line_1 : decode cX6_line 1 = .ok (.iload_n 1, 1) := by decide +kernel
theorem dX6_line_2 : decode cX6_line 2 = .ok (.invokevirtual 230, 3) := by decide +kernel
theorem dX6_line_5 : decode cX6_line 5 = .ok (.ifCond .eq 15, 3) := by decide +kernel
theorem dX6_line_8 : decode cX6_line 8 = .ok (.aload_n 0, 1) := by decide +kernel
theorem dX6_line_9 : decode cX6_line 9 = .ok (.getfield 7, 3) := by decide +kernel
theorem dX6_line_12 : decode cX6_line 12 = .ok (.bipush 37, 2) := by decide +kernel
theorem dX6_line_14 : decode cX6_line 14 = .ok (.iload_n 1, 1) := by decide +kernel
theorem dX6_line_15 : decode cX6_line 15 = .ok (.iadd, 1) := by decide +kernel
theorem dX6_line_16 : decode cX6_line 16 = .ok (.iaload, 1) := by decide +kernel
theorem dX6_line_17 : decode cX6_line 17 = .ok (.goto 4, 3) := by decide +kernel
theorem dX6_line_20 : decode cX6_line 20 = .ok (.iconst (-1), 1) := by decide +kernel
theorem dX6_line_21 : decode cX6_line 21 = .ok (.ireturn, 1) := by decide +kernel
theorem dX6_becomes_0 : decode cX6_becomes 0 = .ok (.aload_n 0, 1) := by decide +kernel
theorem dX6_becomes_1 : decode cX6_becomes 1 = .ok (.getfield 7, 3) := by decide +kernel
theorem dX6_becomes_4 : decode cX6_becomes 4 = .ok (.iload_n 1, 1) := by decide +kernel
theorem dX6_becomes_5 : decode cX6_becomes 5 = .ok (.iaload, 1) := by decide +kernel
theorem dX6_becomes_6 : decode cX6_becomes 6 = .ok (.istore_n 3, 1) := by decide +kernel
theorem dX6_becomes_7 : decode cX6_becomes 7 = .ok (.aload_n 0, 1) := by decide +kernel
theorem dX6_becomes_8 : decode cX6_becomes 8 = .ok (.getfield 7, 3) := by decide +kernel
theorem dX6_becomes_11 : decode cX6_becomes 11 = .ok (.iload_n 1, 1) := by decide +kernel
theorem dX6_becomes_12 : decode cX6_becomes 12 = .ok (.iload_n 2, 1) := by decide +kernel
theorem dX6_becomes_13 : decode cX6_becomes 13 = .ok (.iastore, 1) := by decide +kernel
theorem dX6_becomes_14 : decode cX6_becomes 14 = .ok (.iload_n 3, 1) := by decide +kernel
theorem dX6_becomes_15 : decode cX6_becomes 15 = .ok (.ireturn, 1) := by decide +kernel
theorem dX6_alter_0 : decode cX6_alter 0 = .ok (.iload_n 2, 1) := by decide +kernel
theorem dX6_alter_1 : decode cX6_alter 1 = .ok (.ifCond .ne 15, 3) := by decide +kernel
theorem dX6_alter_4 : decode cX6_alter 4 = .ok (.iload_n 3, 1) := by decide +kernel
theorem dX6_alter_5 : decode cX6_alter 5 = .ok (.i2l, 1) := by decide +kernel
theorem dX6_alter_6 : decode cX6_alter 6 = .ok (.lconst 0, 1) := by decide +kernel
theorem dX6_alter_7 : decode cX6_alter 7 = .ok (.ldc2_w 219, 3) := by decide +kernel
theorem dX6_alter_10 : decode cX6_alter 10 = .ok (.invokestatic 67, 3) := by decide +kernel
theorem dX6_alter_13 : decode cX6_alter 13 = .ok (.goto 25, 3) := by decide +kernel
theorem dX6_alter_16 : decode cX6_alter 16 = .ok (.iload_n 2, 1) := by decide +kernel
theorem dX6_alter_17 : decode cX6_alter 17 = .ok (.iconst 1, 1) := by decide +kernel
theorem dX6_alter_18 : decode cX6_alter 18 = .ok (.if_icmp .ne 19, 3) := by decide +kernel
theorem dX6_alter_21 : decode cX6_alter 21 = .ok (.iload_n 3, 1) := by decide +kernel
theorem dX6_alter_22 : decode cX6_alter 22 = .ok (.i2l, 1) := by decide +kernel
theorem dX6_alter_23 : decode cX6_alter 23 = .ok (.lconst 0, 1) := by decide +kernel
theorem dX6_alter_24 : decode cX6_alter 24 = .ok (.ldc2_w 233, 3) := by decide +kernel
theorem dX6_alter_27 : decode cX6_alter 27 = .ok (.invokestatic 67, 3) := by decide +kernel
theorem dX6_alter_30 : decode cX6_alter 30 = .ok (.ifCond .eq 7, 3) := by decide +kernel
theorem dX6_alter_33 : decode cX6_alter 33 = .ok (.iconst 1, 1) := by decide +kernel
theorem dX6_alter_34 : decode cX6_alter 34 = .ok (.goto 4, 3) := by decide +kernel
theorem dX6_alter_37 : decode cX6_alter 37 = .ok (.iconst 0, 1) := by decide +kernel
theorem dX6_alter_38 : decode cX6_alter 38 = .ok (.istore 4, 2) := by decide +kernel
theorem dX6_alter_40 : decode cX6_alter 40 = .ok (.aload_n 0, 1) := by decide +kernel
theorem dX6_alter_41 : decode cX6_alter 41 = .ok (.iload_n 1, 1) := by decide +kernel
theorem dX6_alter_42 : decode cX6_alter 42 = .ok (.invokevirtual 215, 3) := by decide +kernel
theorem dX6_alter_45 : decode cX6_alter 45 = .ok (.ifCond .eq 22, 3) := by decide +kernel
theorem dX6_alter_48 : decode cX6_alter 48 = .ok (.iload 4, 2) := by decide +kernel
theorem dX6_alter_50 : decode cX6_alter 50 = .ok (.ifCond .eq 17, 3) := by decide +kernel
theorem dX6_alter_53 : decode cX6_alter 53 = .ok (.aload_n 0, 1) := by decide +kernel
theorem dX6_alter_54 : decode cX6_alter 54 = .ok (.bipush 11, 2) := by decide +kernel
theorem dX6_alter_56 : decode cX6_alter 56 = .ok (.iload_n 1, 1) := by decide +kernel
theorem dX6_alter_57 : decode cX6_alter 57 = .ok (.imul, 1) := by decide +kernel
theorem dX6_alter_58 : decode cX6_alter 58 = .ok (.iload_n 2, 1) := by decide +kernel
theorem dX6_alter_59 : decode cX6_alter 59 = .ok (.iadd, 1) := by decide +kernel
theorem dX6_alter_60 : decode cX6_alter 60 = .ok (.iload_n 3, 1) := by decide +kernel
theorem dX6_alter_61 : decode cX6_alter 61 = .ok (.invokevirtual 235, 3) := by decide +kernel
theorem dX6_alter_64 : decode cX6_alter 64 = .ok (.goto 4, 3) := by decide +kernel
theorem dX6_alter_67 : decode cX6_alter 67 = .ok (.iconst (-1), 1) := by decide +kernel
theorem dX6_alter_68 : decode cX6_alter 68 = .ok (.ireturn, 1) := by decide +kernel
theorem dX6_tell_0 : decode cX6_tell 0 = .ok (.iload_n 1, 1) := by decide +kernel
theorem dX6_tell_1 : decode cX6_tell 1 = .ok (.i2l, 1) := by decide +kernel
theorem dX6_tell_2 : decode cX6_tell 2 = .ok (.lconst 0, 1) := by decide +kernel
theorem dX6_tell_3 : decode cX6_tell 3 = .ok (.ldc2_w 238, 3) := by decide +kernel
theorem dX6_tell_6 : decode cX6_tell 6 = .ok (.invokestatic 67, 3) := by decide +kernel
theorem dX6_tell_9 : decode cX6_tell 9 = .ok (.ifCond .eq 33, 3) := by decide +kernel
theorem dX6_tell_12 : decode cX6_tell 12 = .ok (.iload_n 2, 1) := by decide +kernel
theorem dX6_tell_13 : decode cX6_tell 13 = .ok (.i2l, 1) := by decide +kernel
theorem dX6_tell_14 : decode cX6_tell 14 = .ok (.iload_n 1, 1) := by decide +kernel
theorem dX6_tell_15 : decode cX6_tell 15 = .ok (.invokestatic 127, 3) := by decide +kernel
theorem dX6_tell_18 : decode cX6_tell 18 = .ok (.i2l, 1) := by decide +kernel
theorem dX6_tell_19 : decode cX6_tell 19 = .ok (.iload_n 1, 1) := by decide +kernel
theorem dX6_tell_20 : decode cX6_tell 20 = .ok (.invokestatic 130, 3) := by decide +kernel
theorem dX6_tell_23 : decode cX6_tell 23 = .ok (.i2l, 1) := by decide +kernel
theorem dX6_tell_24 : decode cX6_tell 24 = .ok (.invokestatic 67, 3) := by decide +kernel
theorem dX6_tell_27 : decode cX6_tell 27 = .ok (.ifCond .eq 15, 3) := by decide +kernel
theorem dX6_tell_30 : decode cX6_tell 30 = .ok (.aload_n 0, 1) := by decide +kernel
theorem dX6_tell_31 : decode cX6_tell 31 = .ok (.bipush 34, 2) := by decide +kernel
theorem dX6_tell_33 : decode cX6_tell 33 = .ok (.iload_n 1, 1) := by decide +kernel
theorem dX6_tell_34 : decode cX6_tell 34 = .ok (.iadd, 1) := by decide +kernel
theorem dX6_tell_35 : decode cX6_tell 35 = .ok (.iload_n 2, 1) := by decide +kernel
theorem dX6_tell_36 : decode cX6_tell 36 = .ok (.invokevirtual 235, 3) := by decide +kernel
theorem dX6_tell_39 : decode cX6_tell 39 = .ok (.goto 4, 3) := by decide +kernel
theorem dX6_tell_42 : decode cX6_tell 42 = .ok (.iconst (-1), 1) := by decide +kernel
theorem dX6_tell_43 : decode cX6_tell 43 = .ok (.ireturn, 1) := by decide +kernel
theorem dX6_warm_0 : decode cX6_warm 0 = .ok (.aload_n 0, 1) := by decide +kernel
theorem dX6_warm_1 : decode cX6_warm 1 = .ok (.iload_n 1, 1) := by decide +kernel
theorem dX6_warm_2 : decode cX6_warm 2 = .ok (.invokevirtual 215, 3) := by decide +kernel
theorem dX6_warm_5 : decode cX6_warm 5 = .ok (.ifCond .eq 38, 3) := by decide +kernel
theorem dX6_warm_8 : decode cX6_warm 8 = .ok (.iload_n 2, 1) := by decide +kernel
theorem dX6_warm_9 : decode cX6_warm 9 = .ok (.invokestatic 224, 3) := by decide +kernel
theorem dX6_warm_12 : decode cX6_warm 12 = .ok (.ifCond .eq 31, 3) := by decide +kernel
theorem dX6_warm_15 : decode cX6_warm 15 = .ok (.iload_n 3, 1) := by decide +kernel
theorem dX6_warm_16 : decode cX6_warm 16 = .ok (.i2l, 1) := by decide +kernel
theorem dX6_warm_17 : decode cX6_warm 17 = .ok (.lconst 0, 1) := by decide +kernel
