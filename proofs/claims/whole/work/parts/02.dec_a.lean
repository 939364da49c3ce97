theorem dX0_init_0 : decode cX0_init 0 = .ok (.aload_n 0, 1) := by decide +kernel
theorem dX0_init_1 : decode cX0_init 1 = .ok (.invokespecial 3, 3) := by decide +kernel
theorem dX0_init_4 : decode cX0_init 4 = .ok (.aload_n 0, 1) := by decide +kernel
theorem dX0_init_5 : decode cX0_init 5 = .ok (.bipush 8, 2) := by decide +kernel
theorem dX0_init_7 : decode cX0_init 7 = .ok (.newarray .int, 2) := by decide +kernel
theorem dX0_init_9 : decode cX0_init 9 = .ok (.putfield 9, 3) := by decide +kernel
theorem dX0_init_12 : decode cX0_init 12 = .ok (.aload_n 0, 1) := by decide +kernel
theorem dX0_init_13 : decode cX0_init 13 = .ok (.bipush 8, 2) := by decide +kernel
theorem dX0_init_15 : decode cX0_init 15 = .ok (.newarray .int, 2) := by decide +kernel
theorem dX0_init_17 : decode cX0_init 17 = .ok (.putfield 15, 3) := by decide +kernel
theorem dX0_init_20 : decode cX0_init 20 = .ok (.return_, 1) := by decide +kernel
theorem dX0_begin_0 : decode cX0_begin 0 = .ok (.aload_n 0, 1) := by decide +kernel
theorem dX0_begin_1 : decode cX0_begin 1 = .ok (.iload_n 1, 1) := by decide +kernel
theorem dX0_begin_2 : decode cX0_begin 2 = .ok (.putfield 18, 3) := by decide +kernel
theorem dX0_begin_5 : decode cX0_begin 5 = .ok (.aload_n 0, 1) := by decide +kernel
theorem dX0_begin_6 : decode cX0_begin 6 = .ok (.iload_n 2, 1) := by decide +kernel
theorem dX0_begin_7 : decode cX0_begin 7 = .ok (.putfield 22, 3) := by decide +kernel
theorem dX0_begin_10 : decode cX0_begin 10 = .ok (.aload_n 0, 1) := by decide +kernel
theorem dX0_begin_11 : decode cX0_begin 11 = .ok (.iconst 0, 1) := by decide +kernel
theorem dX0_begin_12 : decode cX0_begin 12 = .ok (.putfield 25, 3) := by decide +kernel
theorem dX0_begin_15 : decode cX0_begin 15 = .ok (.aload_n 0, 1) := by decide +kernel
theorem dX0_begin_16 : decode cX0_begin 16 = .ok (.getfield 9, 3) := by decide +kernel
theorem dX0_begin_19 : decode cX0_begin 19 = .ok (.iconst 0, 1) := by decide +kernel
theorem dX0_begin_20 : decode cX0_begin 20 = .ok (.invokestatic 28, 3) := by decide +kernel
theorem dX0_begin_23 : decode cX0_begin 23 = .ok (.return_, 1) := by decide +kernel
theorem dX0_copyFrom_0 : decode cX0_copyFrom 0 = .ok (.aload_n 0, 1) := by decide +kernel
theorem dX0_copyFrom_1 : decode cX0_copyFrom 1 = .ok (.aload_n 1, 1) := by decide +kernel
theorem dX0_copyFrom_2 : decode cX0_copyFrom 2 = .ok (.getfield 18, 3) := by decide +kernel
theorem dX0_copyFrom_5 : decode cX0_copyFrom 5 = .ok (.putfield 18, 3) := by decide +kernel
theorem dX0_copyFrom_8 : decode cX0_copyFrom 8 = .ok (.aload_n 0, 1) := by decide +kernel
theorem dX0_copyFrom_9 : decode cX0_copyFrom 9 = .ok (.aload_n 1, 1) := by decide +kernel
theorem dX0_copyFrom_10 : decode cX0_copyFrom 10 = .ok (.getfield 22, 3) := by decide +kernel
theorem dX0_copyFrom_13 : decode cX0_copyFrom 13 = .ok (.putfield 22, 3) := by decide +kernel
theorem dX0_copyFrom_16 : decode cX0_copyFrom 16 = .ok (.aload_n 0, 1) := by decide +kernel
theorem dX0_copyFrom_17 : decode cX0_copyFrom 17 = .ok (.aload_n 1, 1) := by decide +kernel
theorem dX0_copyFrom_18 : decode cX0_copyFrom 18 = .ok (.getfield 25, 3) := by decide +kernel
theorem dX0_copyFrom_21 : decode cX0_copyFrom 21 = .ok (.putfield 25, 3) := by decide +kernel
theorem dX0_copyFrom_24 : decode cX0_copyFrom 24 = .ok (.aload_n 1, 1) := by decide +kernel
theorem dX0_copyFrom_25 : decode cX0_copyFrom 25 = .ok (.getfield 9, 3) := by decide +kernel
theorem dX0_copyFrom_28 : decode cX0_copyFrom 28 = .ok (.iconst 0, 1) := by decide +kernel
theorem dX0_copyFrom_29 : decode cX0_copyFrom 29 = .ok (.aload_n 0, 1) := by decide +kernel
theorem dX0_copyFrom_30 : decode cX0_copyFrom 30 = .ok (.getfield 9, 3) := by decide +kernel
theorem dX0_copyFrom_33 : decode cX0_copyFrom 33 = .ok (.iconst 0, 1) := by decide +kernel
theorem dX0_copyFrom_34 : decode cX0_copyFrom 34 = .ok (.bipush 8, 2) := by decide +kernel
theorem dX0_copyFrom_36 : decode cX0_copyFrom 36 = .ok (.invokestatic 34, 3) := by decide +kernel
theorem dX0_copyFrom_39 : decode cX0_copyFrom 39 = .ok (.return_, 1) := by decide +kernel
theorem dX0_drive_0 : decode cX0_drive 0 = .ok (.iload_n 1, 1) := by decide +kernel
theorem dX0_drive_1 : decode cX0_drive 1 = .ok (.ifCond .ne 11, 3) := by decide +kernel
theorem dX0_drive_4 : decode cX0_drive 4 = .ok (.aload_n 0, 1) := by decide +kernel
theorem dX0_drive_5 : decode cX0_drive 5 = .ok (.iload_n 2, 1) := by decide +kernel
theorem dX0_drive_6 : decode cX0_drive 6 = .ok (.putfield 18, 3) := by decide +kernel
theorem dX0_drive_9 : decode cX0_drive 9 = .ok (.goto 8, 3) := by decide +kernel
theorem dX0_drive_12 : decode cX0_drive 12 = .ok (.aload_n 0, 1) := by decide +kernel
theorem dX0_drive_13 : decode cX0_drive 13 = .ok (.iload_n 2, 1) := by decide +kernel
theorem dX0_drive_14 : decode cX0_drive 14 = .ok (.putfield 22, 3) := by decide +kernel
theorem dX0_drive_17 : decode cX0_drive 17 = .ok (.return_, 1) := by decide +kernel
theorem dX0_heatSum_0 : decode cX0_heatSum 0 = .ok (.iconst 0, 1) := by decide +kernel
theorem dX0_heatSum_1 : decode cX0_heatSum 1 = .ok (.istore_n 1, 1) := by decide +kernel
theorem dX0_heatSum_2 : decode cX0_heatSum 2 = .ok (.iconst 0, 1) := by decide +kernel
theorem dX0_heatSum_3 : decode cX0_heatSum 3 = .ok (.istore_n 2, 1) := by decide +kernel
theorem dX0_heatSum_4 : decode cX0_heatSum 4 = .ok (.iload_n 2, 1) := by decide +kernel
theorem dX0_heatSum_5 : decode cX0_heatSum 5 = .ok (.bipush 8, 2) := by decide +kernel
theorem dX0_heatSum_7 : decode cX0_heatSum 7 = .ok (.if_icmp .ge 18, 3) := by decide +kernel
theorem dX0_heatSum_10 : decode cX0_heatSum 10 = .ok (.iload_n 1, 1) := by decide +kernel
theorem dX0_heatSum_11 : decode cX0_heatSum 11 = .ok (.aload_n 0, 1) := by decide +kernel
theorem dX0_heatSum_12 : decode cX0_heatSum 12 = .ok (.getfield 9, 3) := by decide +kernel
theorem dX0_heatSum_15 : decode cX0_heatSum 15 = .ok (.iload_n 2, 1) := by decide +kernel
theorem dX0_heatSum_16 : decode cX0_heatSum 16 = .ok (.iaload, 1) := by decide +kernel
theorem dX0_heatSum_17 : decode cX0_heatSum 17 = .ok (.iadd, 1) := by decide +kernel
theorem dX0_heatSum_18 : decode cX0_heatSum 18 = .ok (.istore_n 1, 1) := by decide +kernel
theorem dX0_heatSum_19 : decode cX0_heatSum 19 = .ok (.iinc 2 1, 3) := by decide +kernel
theorem dX0_heatSum_22 : decode cX0_heatSum 22 = .ok (.goto (-18), 3) := by decide +kernel
theorem dX0_heatSum_25 : decode cX0_heatSum 25 = .ok (.iload_n 1, 1) := by decide +kernel
theorem dX0_heatSum_26 : decode cX0_heatSum 26 = .ok (.ireturn, 1) := by decide +kernel
theorem dX0_gain_0 : decode cX0_gain 0 = .ok (.iload_n 2, 1) := by decide +kernel
theorem dX0_gain_1 : decode cX0_gain 1 = .ok (.iload_n 1, 1) := by decide +kernel
theorem dX0_gain_2 : decode cX0_gain 2 = .ok (.ishr, 1) := by decide +kernel
theorem dX0_gain_3 : decode cX0_gain 3 = .ok (.iconst 1, 1) := by decide +kernel
theorem dX0_gain_4 : decode cX0_gain 4 = .ok (.iand, 1) := by decide +kernel
theorem dX0_gain_5 : decode cX0_gain 5 = .ok (.ifCond .ne 31, 3) := by decide +kernel
theorem dX0_gain_8 : decode cX0_gain 8 = .ok (.aload_n 0, 1) := by decide +kernel
theorem dX0_gain_9 : decode cX0_gain 9 = .ok (.getfield 18, 3) := by decide +kernel
theorem dX0_gain_12 : decode cX0_gain 12 = .ok (.iconst 3, 1) := by decide +kernel
theorem dX0_gain_13 : decode cX0_gain 13 = .ok (.if_icmp .ne 21, 3) := by decide +kernel
theorem dX0_gain_16 : decode cX0_gain 16 = .ok (.iload_n 3, 1) := by decide +kernel
theorem dX0_gain_17 : decode cX0_gain 17 = .ok (.iload_n 1, 1) := by decide +kernel
theorem dX0_gain_18 : decode cX0_gain 18 = .ok (.ishr, 1) := by decide +kernel
theorem dX0_gain_19 : decode cX0_gain 19 = .ok (.iconst 1, 1) := by decide +kernel
theorem dX0_gain_20 : decode cX0_gain 20 = .ok (.iand, 1) := by decide +kernel
theorem dX0_gain_21 : decode cX0_gain 21 = .ok (.iconst 1, 1) := by decide +kernel
theorem dX0_gain_22 : decode cX0_gain 22 = .ok (.if_icmp .ne 12, 3) := by decide +kernel
theorem dX0_gain_25 : decode cX0_gain 25 = .ok (.aload_n 0, 1) := by decide +kernel
theorem dX0_gain_26 : decode cX0_gain 26 = .ok (.getfield 22, 3) := by decide +kernel
theorem dX0_gain_29 : decode cX0_gain 29 = .ok (.iconst 3, 1) := by decide +kernel
theorem dX0_gain_30 : decode cX0_gain 30 = .ok (.idiv, 1) := by decide +kernel
theorem dX0_gain_31 : decode cX0_gain 31 = .ok (.goto 4, 3) := by decide +kernel
theorem dX0_gain_34 : decode cX0_gain 34 = .ok (.iconst 0, 1) := by decide +kernel
theorem dX0_gain_35 : decode cX0_gain 35 = .ok (.ireturn, 1) := by decide +kernel
theorem dX0_gain_36 : decode cX0_gain 36 = .ok (.aload_n 0, 1) := by decide +kernel
theorem dX0_gain_37 : decode cX0_gain 37 = .ok (.getfield 22, 3) := by decide +kernel
theorem dX0_gain_40 : decode cX0_gain 40 = .ok (.istore 4, 2) := by decide +kernel
theorem dX0_gain_42 : decode cX0_gain 42 = .ok (.aload_n 0, 1) := by decide +kernel
theorem dX0_gain_43 : decode cX0_gain 43 = .ok (.getfield 18, 3) := by decide +kernel
theorem dX0_gain_46 : decode cX0_gain 46 = .ok (.iconst 1, 1) := by decide +kernel
theorem dX0_gain_47 : decode cX0_gain 47 = .ok (.if_icmp .eq 11, 3) := by decide +kernel
theorem dX0_gain_50 : decode cX0_gain 50 = .ok (.aload_n 0, 1) := by decide +kernel
theorem dX0_gain_51 : decode cX0_gain 51 = .ok (.getfield 18, 3) := by decide +kernel
theorem dX0_gain_54 : decode cX0_gain 54 = .ok (.iconst 2, 1) := by decide +kernel
theorem dX0_gain_55 : decode cX0_gain 55 = .ok (.if_icmp .ne 16, 3) := by decide +kernel
theorem dX0_gain_58 : decode cX0_gain 58 = .ok (.iload 4, 2) := by decide +kernel
theorem dX0_gain_60 : decode cX0_gain 60 = .ok (.aload_n 0, 1) := by decide +kernel
theorem dX0_gain_61 : decode cX0_gain 61 = .ok (.getfield 9, 3) := by decide +kernel
theorem dX0_gain_64 : decode cX0_gain 64 = .ok (.iload_n 1, 1) := by decide +kernel
theorem dX0_gain_65 : decode cX0_gain 65 = .ok (.iaload, 1) := by decide +kernel
theorem dX0_gain_66 : decode cX0_gain 66 = .ok (.iconst 4, 1) := by decide +kernel
theorem dX0_gain_67 : decode cX0_gain 67 = .ok (.idiv, 1) := by decide +kernel
theorem dX0_gain_68 : decode cX0_gain 68 = .ok (.isub, 1) := by decide +kernel
theorem dX0_gain_69 : decode cX0_gain 69 = .ok (.istore 4, 2) := by decide +kernel
theorem dX0_gain_71 : decode cX0_gain 71 = .ok (.aload_n 0, 1) := by decide +kernel
theorem dX0_gain_72 : decode cX0_gain 72 = .ok (.getfield 18, 3) := by decide +kernel
theorem dX0_gain_75 : decode cX0_gain 75 = .ok (.iconst 2, 1) := by decide +kernel
theorem dX0_gain_76 : decode cX0_gain 76 = .ok (.if_icmp .ne 21, 3) := by decide +kernel
theorem dX0_gain_79 : decode cX0_gain 79 = .ok (.iload_n 2, 1) := by decide +kernel
theorem dX0_gain_80 : decode cX0_gain 80 = .ok (.iconst 1, 1) := by decide +kernel
theorem dX0_gain_81 : decode cX0_gain 81 = .ok (.ishl, 1) := by decide +kernel
theorem dX0_gain_82 : decode cX0_gain 82 = .ok (.iload_n 2, 1) := by decide +kernel
theorem dX0_gain_83 : decode cX0_gain 83 = .ok (.iconst 1, 1) := by decide +kernel
theorem dX0_gain_84 : decode cX0_gain 84 = .ok (.ishr, 1) := by decide +kernel
theorem dX0_gain_85 : decode cX0_gain 85 = .ok (.iand, 1) := by decide +kernel
theorem dX0_gain_86 : decode cX0_gain 86 = .ok (.iload_n 1, 1) := by decide +kernel
theorem dX0_gain_87 : decode cX0_gain 87 = .ok (.ishr, 1) := by decide +kernel
theorem dX0_gain_88 : decode cX0_gain 88 = .ok (.iconst 1, 1) := by decide +kernel
theorem dX0_gain_89 : decode cX0_gain 89 = .ok (.iand, 1) := by decide +kernel
theorem dX0_gain_90 : decode cX0_gain 90 = .ok (.iconst 1, 1) := by decide +kernel
theorem dX0_gain_91 : decode cX0_gain 91 = .ok (.if_icmp .ne 6, 3) := by decide +kernel
theorem dX0_gain_94 : decode cX0_gain 94 = .ok (.iinc 4 (-2), 3) := by decide +kernel
theorem dX0_gain_97 : decode cX0_gain 97 = .ok (.iload 4, 2) := by decide +kernel
theorem dX0_gain_99 : decode cX0_gain 99 = .ok (.ifCond .ge 7, 3) := by decide +kernel
theorem dX0_gain_102 : decode cX0_gain 102 = .ok (.iconst 0, 1) := by decide +kernel
theorem dX0_gain_103 : decode cX0_gain 103 = .ok (.goto 5, 3) := by decide +kernel
theorem dX0_gain_106 : decode cX0_gain 106 = .ok (.iload 4, 2) := by decide +kernel
theorem dX0_gain_108 : decode cX0_gain 108 = .ok (.ireturn, 1) := by decide +kernel
theorem dX0_burnLine_0 : decode cX0_burnLine 0 = .ok (.iconst 0, 1) := by decide +kernel
theorem dX0_burnLine_1 : decode cX0_burnLine 1 = .ok (.istore 5, 2) := by decide +kernel
theorem dX0_burnLine_3 : decode cX0_burnLine 3 = .ok (.iconst 0, 1) := by decide +kernel
theorem dX0_burnLine_4 : decode cX0_burnLine 4 = .ok (.istore 6, 2) := by decide +kernel
theorem dX0_burnLine_6 : decode cX0_burnLine 6 = .ok (.iload 6, 2) := by decide +kernel
theorem dX0_burnLine_8 : decode cX0_burnLine 8 = .ok (.bipush 8, 2) := by decide +kernel
theorem dX0_burnLine_10 : decode cX0_burnLine 10 = .ok (.if_icmp .ge 75, 3) := by decide +kernel
theorem dX0_burnLine_13 : decode cX0_burnLine 13 = .ok (.iload 4, 2) := by decide +kernel
theorem dX0_burnLine_15 : decode cX0_burnLine 15 = .ok (.ifCond .eq 14, 3) := by decide +kernel
theorem dX0_burnLine_18 : decode cX0_burnLine 18 = .ok (.aload_n 0, 1) := by decide +kernel
theorem dX0_burnLine_19 : decode cX0_burnLine 19 = .ok (.iload 6, 2) := by decide +kernel
theorem dX0_burnLine_21 : decode cX0_burnLine 21 = .ok (.iload_n 2, 1) := by decide +kernel
theorem dX0_burnLine_22 : decode cX0_burnLine 22 = .ok (.iload_n 3, 1) := by decide +kernel
theorem dX0_burnLine_23 : decode cX0_burnLine 23 = .ok (.invokevirtual 40, 3) := by decide +kernel
theorem dX0_burnLine_26 : decode cX0_burnLine 26 = .ok (.goto 4, 3) := by decide +kernel
theorem dX0_burnLine_29 : decode cX0_burnLine 29 = .ok (.iconst 0, 1) := by decide +kernel
theorem dX0_burnLine_30 : decode cX0_burnLine 30 = .ok (.istore 7, 2) := by decide +kernel
theorem dX0_burnLine_32 : decode cX0_burnLine 32 = .ok (.aload_n 0, 1) := by decide +kernel
theorem dX0_burnLine_33 : decode cX0_burnLine 33 = .ok (.getfield 15, 3) := by decide +kernel
theorem dX0_burnLine_36 : decode cX0_burnLine 36 = .ok (.iload 6, 2) := by decide +kernel
theorem dX0_burnLine_38 : decode cX0_burnLine 38 = .ok (.aload_n 0, 1) := by decide +kernel
theorem dX0_burnLine_39 : decode cX0_burnLine 39 = .ok (.getfield 9, 3) := by decide +kernel
theorem dX0_burnLine_42 : decode cX0_burnLine 42 = .ok (.iload 6, 2) := by decide +kernel
theorem dX0_burnLine_44 : decode cX0_burnLine 44 = .ok (.iaload, 1) := by decide +kernel
theorem dX0_burnLine_45 : decode cX0_burnLine 45 = .ok (.iload 7, 2) := by decide +kernel
theorem dX0_burnLine_47 : decode cX0_burnLine 47 = .ok (.iadd, 1) := by decide +kernel
theorem dX0_burnLine_48 : decode cX0_burnLine 48 = .ok (.bipush 99, 2) := by decide +kernel
theorem dX0_burnLine_50 : decode cX0_burnLine 50 = .ok (.invokestatic 44, 3) := by decide +kernel
theorem dX0_burnLine_53 : decode cX0_burnLine 53 = .ok (.iastore, 1) := by decide +kernel
theorem dX0_burnLine_54 : decode cX0_burnLine 54 = .ok (.aload_n 0, 1) := by decide +kernel
theorem dX0_burnLine_55 : decode cX0_burnLine 55 = .ok (.getfield 15, 3) := by decide +kernel
theorem dX0_burnLine_58 : decode cX0_burnLine 58 = .ok (.iload 6, 2) := by decide +kernel
theorem dX0_burnLine_60 : decode cX0_burnLine 60 = .ok (.iaload, 1) := by decide +kernel
theorem dX0_burnLine_61 : decode cX0_burnLine 61 = .ok (.aload_n 1, 1) := by decide +kernel
theorem dX0_burnLine_62 : decode cX0_burnLine 62 = .ok (.getfield 50, 3) := by decide +kernel
theorem dX0_burnLine_65 : decode cX0_burnLine 65 = .ok (.iconst 0, 1) := by decide +kernel
theorem dX0_burnLine_66 : decode cX0_burnLine 66 = .ok (.iaload, 1) := by decide +kernel
theorem dX0_burnLine_67 : decode cX0_burnLine 67 = .ok (.if_icmp .lt 12, 3) := by decide +kernel
theorem dX0_burnLine_70 : decode cX0_burnLine 70 = .ok (.iload 5, 2) := by decide +kernel
theorem dX0_burnLine_72 : decode cX0_burnLine 72 = .ok (.iconst 1, 1) := by decide +kernel
theorem dX0_burnLine_73 : decode cX0_burnLine 73 = .ok (.iload 6, 2) := by decide +kernel
theorem dX0_burnLine_75 : decode cX0_burnLine 75 = .ok (.ishl, 1) := by decide +kernel
theorem dX0_burnLine_76 : decode cX0_burnLine 76 = .ok (.ior, 1) := by decide +kernel
theorem dX0_burnLine_77 : decode cX0_burnLine 77 = .ok (.istore 5, 2) := by decide +kernel
theorem dX0_burnLine_79 : decode cX0_burnLine 79 = .ok (.iinc 6 1, 3) := by decide +kernel
theorem dX0_burnLine_82 : decode cX0_burnLine 82 = .ok (.goto (-76), 3) := by decide +kernel
theorem dX0_burnLine_85 : decode cX0_burnLine 85 = .ok (.aload_n 0, 1) := by decide +kernel
theorem dX0_burnLine_86 : decode cX0_burnLine 86 = .ok (.aload_n 0, 1) := by decide +kernel
theorem dX0_burnLine_87 : decode cX0_burnLine 87 = .ok (.getfield 25, 3) := by decide +kernel
theorem dX0_burnLine_90 : decode cX0_burnLine 90 = .ok (.iload 5, 2) := by decide +kernel
theorem dX0_burnLine_92 : decode cX0_burnLine 92 = .ok (.iload_n 2, 1) := by decide +kernel
theorem dX0_burnLine_93 : decode cX0_burnLine 93 = .ok (.ixor, 1) := by decide +kernel
theorem dX0_burnLine_94 : decode cX0_burnLine 94 = .ok (.invokestatic 55, 3) := by decide +kernel
theorem dX0_burnLine_97 : decode cX0_burnLine 97 = .ok (.iadd, 1) := by decide +kernel
theorem dX0_burnLine_98 : decode cX0_burnLine 98 = .ok (.sipush 9999, 3) := by decide +kernel
theorem dX0_burnLine_101 : decode cX0_burnLine 101 = .ok (.invokestatic 44, 3) := by decide +kernel
theorem dX0_burnLine_104 : decode cX0_burnLine 104 = .ok (.putfield 25, 3) := by decide +kernel
theorem dX0_burnLine_107 : decode cX0_burnLine 107 = .ok (.aload_n 0, 1) := by decide +kernel
theorem dX0_burnLine_108 : decode cX0_burnLine 108 = .ok (.aload_n 1, 1) := by decide +kernel
theorem dX0_burnLine_109 : decode cX0_burnLine 109 = .ok (.getfield 50, 3) := by decide +kernel
theorem dX0_burnLine_112 : decode cX0_burnLine 112 = .ok (.iconst 1, 1) := by decide +kernel
theorem dX0_burnLine_113 : decode cX0_burnLine 113 = .ok (.iaload, 1) := by decide +kernel
theorem dX0_burnLine_114 : decode cX0_burnLine 114 = .ok (.aload_n 1, 1) := by decide +kernel
theorem dX0_burnLine_115 : decode cX0_burnLine 115 = .ok (.getfield 50, 3) := by decide +kernel
theorem dX0_burnLine_118 : decode cX0_burnLine 118 = .ok (.iconst 2, 1) := by decide +kernel
theorem dX0_burnLine_119 : decode cX0_burnLine 119 = .ok (.iaload, 1) := by decide +kernel
theorem dX0_burnLine_120 : decode cX0_burnLine 120 = .ok (.invokevirtual 61, 3) := by decide +kernel
theorem dX0_burnLine_123 : decode cX0_burnLine 123 = .ok (.iload 5, 2) := by decide +kernel
theorem dX0_burnLine_125 : decode cX0_burnLine 125 = .ok (.ireturn, 1) := by decide +kernel
theorem dX0_settle_0 : decode cX0_settle 0 = .ok (.iconst 0, 1) := by decide +kernel
theorem dX0_settle_1 : decode cX0_settle 1 = .ok (.istore_n 3, 1) := by decide +kernel
theorem dX0_settle_2 : decode cX0_settle 2 = .ok (.iconst 0, 1) := by decide +kernel
theorem dX0_settle_3 : decode cX0_settle 3 = .ok (.istore 4, 2) := by decide +kernel
theorem dX0_settle_5 : decode cX0_settle 5 = .ok (.iload 4, 2) := by decide +kernel
theorem dX0_settle_7 : decode cX0_settle 7 = .ok (.bipush 8, 2) := by decide +kernel
theorem dX0_settle_9 : decode cX0_settle 9 = .ok (.if_icmp .ge 95, 3) := by decide +kernel
theorem dX0_settle_12 : decode cX0_settle 12 = .ok (.iload 4, 2) := by decide +kernel
theorem dX0_settle_14 : decode cX0_settle 14 = .ok (.iconst 1, 1) := by decide +kernel
theorem dX0_settle_15 : decode cX0_settle 15 = .ok (.iadd, 1) := by decide +kernel
theorem dX0_settle_16 : decode cX0_settle 16 = .ok (.bipush 8, 2) := by decide +kernel
theorem dX0_settle_18 : decode cX0_settle 18 = .ok (.if_icmp .ge 28, 3) := by decide +kernel
theorem dX0_settle_21 : decode cX0_settle 21 = .ok (.aload_n 0, 1) := by decide +kernel
theorem dX0_settle_22 : decode cX0_settle 22 = .ok (.getfield 15, 3) := by decide +kernel
theorem dX0_settle_25 : decode cX0_settle 25 = .ok (.iload 4, 2) := by decide +kernel
theorem dX0_settle_27 : decode cX0_settle 27 = .ok (.iaload, 1) := by decide +kernel
theorem dX0_settle_28 : decode cX0_settle 28 = .ok (.aload_n 0, 1) := by decide +kernel
theorem dX0_settle_29 : decode cX0_settle 29 = .ok (.getfield 15, 3) := by decide +kernel
theorem dX0_settle_32 : decode cX0_settle 32 = .ok (.iload 4, 2) := by decide +kernel
theorem dX0_settle_34 : decode cX0_settle 34 = .ok (.iconst 1, 1) := by decide +kernel
theorem dX0_settle_35 : decode cX0_settle 35 = .ok (.iadd, 1) := by decide +kernel
theorem dX0_settle_36 : decode cX0_settle 36 = .ok (.iaload, 1) := by decide +kernel
theorem dX0_settle_37 : decode cX0_settle 37 = .ok (.isub, 1) := by decide +kernel
theorem dX0_settle_38 : decode cX0_settle 38 = .ok (.iload_n 2, 1) := by decide +kernel
theorem dX0_settle_39 : decode cX0_settle 39 = .ok (.imul, 1) := by decide +kernel
theorem dX0_settle_40 : decode cX0_settle 40 = .ok (.bipush 8, 2) := by decide +kernel
theorem dX0_settle_42 : decode cX0_settle 42 = .ok (.idiv, 1) := by decide +kernel
theorem dX0_settle_43 : decode cX0_settle 43 = .ok (.goto 4, 3) := by decide +kernel
theorem dX0_settle_46 : decode cX0_settle 46 = .ok (.iconst 0, 1) := by decide +kernel
theorem dX0_settle_47 : decode cX0_settle 47 = .ok (.istore 5, 2) := by decide +kernel
theorem dX0_settle_49 : decode cX0_settle 49 = .ok (.aload_n 0, 1) := by decide +kernel
theorem dX0_settle_50 : decode cX0_settle 50 = .ok (.getfield 15, 3) := by decide +kernel
theorem dX0_settle_53 : decode cX0_settle 53 = .ok (.iload 4, 2) := by decide +kernel
theorem dX0_settle_55 : decode cX0_settle 55 = .ok (.iaload, 1) := by decide +kernel
theorem dX0_settle_56 : decode cX0_settle 56 = .ok (.iload_n 3, 1) := by decide +kernel
theorem dX0_settle_57 : decode cX0_settle 57 = .ok (.iadd, 1) := by decide +kernel
theorem dX0_settle_58 : decode cX0_settle 58 = .ok (.iload 5, 2) := by decide +kernel
theorem dX0_settle_60 : decode cX0_settle 60 = .ok (.isub, 1) := by decide +kernel
theorem dX0_settle_61 : decode cX0_settle 61 = .ok (.iload_n 1, 1) := by decide +kernel
theorem dX0_settle_62 : decode cX0_settle 62 = .ok (.isub, 1) := by decide +kernel
theorem dX0_settle_63 : decode cX0_settle 63 = .ok (.istore 6, 2) := by decide +kernel
theorem dX0_settle_65 : decode cX0_settle 65 = .ok (.aload_n 0, 1) := by decide +kernel
theorem dX0_settle_66 : decode cX0_settle 66 = .ok (.getfield 9, 3) := by decide +kernel
theorem dX0_settle_69 : decode cX0_settle 69 = .ok (.iload 4, 2) := by decide +kernel
theorem dX0_settle_71 : decode cX0_settle 71 = .ok (.iload 6, 2) := by decide +kernel
theorem dX0_settle_73 : decode cX0_settle 73 = .ok (.ifCond .ge 7, 3) := by decide +kernel
theorem dX0_settle_76 : decode cX0_settle 76 = .ok (.iconst 0, 1) := by decide +kernel
theorem dX0_settle_77 : decode cX0_settle 77 = .ok (.goto 17, 3) := by decide +kernel
theorem dX0_settle_80 : decode cX0_settle 80 = .ok (.iload 6, 2) := by decide +kernel
theorem dX0_settle_82 : decode cX0_settle 82 = .ok (.bipush 99, 2) := by decide +kernel
theorem dX0_settle_84 : decode cX0_settle 84 = .ok (.if_icmp .le 8, 3) := by decide +kernel
theorem dX0_settle_87 : decode cX0_settle 87 = .ok (.bipush 99, 2) := by decide +kernel
theorem dX0_settle_89 : decode cX0_settle 89 = .ok (.goto 5, 3) := by decide +kernel
theorem dX0_settle_92 : decode cX0_settle 92 = .ok (.iload 6, 2) := by decide +kernel
theorem dX0_settle_94 : decode cX0_settle 94 = .ok (.iastore, 1) := by decide +kernel
theorem dX0_settle_95 : decode cX0_settle 95 = .ok (.iload 5, 2) := by decide +kernel
theorem dX0_settle_97 : decode cX0_settle 97 = .ok (.istore_n 3, 1) := by decide +kernel
theorem dX0_settle_98 : decode cX0_settle 98 = .ok (.iinc 4 1, 3) := by decide +kernel
theorem dX0_settle_101 : decode cX0_settle 101 = .ok (.goto (-96), 3) := by decide +kernel
theorem dX0_settle_104 : decode cX0_settle 104 = .ok (.return_, 1) := by decide +kernel
theorem dX1_init_0 : decode cX1_init 0 = .ok (.aload_n 0, 1) := by decide +kernel
theorem dX1_init_1 : decode cX1_init 1 = .ok (.invokespecial 3, 3) := by decide +kernel
theorem dX1_init_4 : decode cX1_init 4 = .ok (.aload_n 0, 1) := by decide +kernel
theorem dX1_init_5 : decode cX1_init 5 = .ok (.iconst 3, 1) := by decide +kernel
theorem dX1_init_6 : decode cX1_init 6 = .ok (.anewarray 9, 3) := by decide +kernel
theorem dX1_init_9 : decode cX1_init 9 = .ok (.putfield 11, 3) := by decide +kernel
theorem dX1_init_12 : decode cX1_init 12 = .ok (.aload_n 0, 1) := by decide +kernel
theorem dX1_init_13 : decode cX1_init 13 = .ok (.bipush 12, 2) := by decide +kernel
theorem dX1_init_15 : decode cX1_init 15 = .ok (.newarray .int, 2) := by decide +kernel
theorem dX1_init_17 : decode cX1_init 17 = .ok (.putfield 17, 3) := by decide +kernel
theorem dX1_init_20 : decode cX1_init 20 = .ok (.aload_n 0, 1) := by decide +kernel
theorem dX1_init_21 : decode cX1_init 21 = .ok (.iconst 3, 1) := by decide +kernel
theorem dX1_init_22 : decode cX1_init 22 = .ok (.newarray .int, 2) := by decide +kernel
theorem dX1_init_24 : decode cX1_init 24 = .ok (.putfield 21, 3) := by decide +kernel
theorem dX1_init_27 : decode cX1_init 27 = .ok (.aload_n 0, 1) := by decide +kernel
theorem dX1_init_28 : decode cX1_init 28 = .ok (.new 24, 3) := by decide +kernel
theorem dX1_init_31 : decode cX1_init 31 = .ok (.dup, 1) := by decide +kernel
theorem dX1_init_32 : decode cX1_init 32 = .ok (.invokespecial 26, 3) := by decide +kernel
theorem dX1_init_35 : decode cX1_init 35 = .ok (.putfield 27, 3) := by decide +kernel
theorem dX1_init_38 : decode cX1_init 38 = .ok (.iconst 0, 1) := by decide +kernel
theorem dX1_init_39 : decode cX1_init 39 = .ok (.istore_n 1, 1) := by decide +kernel
theorem dX1_init_40 : decode cX1_init 40 = .ok (.iload_n 1, 1) := by decide +kernel
theorem dX1_init_41 : decode cX1_init 41 = .ok (.iconst 3, 1) := by decide +kernel
theorem dX1_init_42 : decode cX1_init 42 = .ok (.if_icmp .ge 22, 3) := by decide +kernel
theorem dX1_init_45 : decode cX1_init 45 = .ok (.aload_n 0, 1) := by decide +kernel
theorem dX1_init_46 : decode cX1_init 46 = .ok (.getfield 11, 3) := by decide +kernel
theorem dX1_init_49 : decode cX1_init 49 = .ok (.iload_n 1, 1) := by decide +kernel
theorem dX1_init_50 : decode cX1_init 50 = .ok (.new 9, 3) := by decide +kernel
theorem dX1_init_53 : decode cX1_init 53 = .ok (.dup, 1) := by decide +kernel
theorem dX1_init_54 : decode cX1_init 54 = .ok (.invokespecial 31, 3) := by decide +kernel
theorem dX1_init_57 : decode cX1_init 57 = .ok (.aastore, 1) := by decide +kernel
theorem dX1_init_58 : decode cX1_init 58 = .ok (.iinc 1 1, 3) := by decide +kernel
theorem dX1_init_61 : decode cX1_init 61 = .ok (.goto (-21), 3) := by decide +kernel
theorem dX1_init_64 : decode cX1_init 64 = .ok (.aload_n 0, 1) := by decide +kernel
theorem dX1_init_65 : decode cX1_init 65 = .ok (.invokevirtual 32, 3) := by decide +kernel
theorem dX1_init_68 : decode cX1_init 68 = .ok (.return_, 1) := by decide +kernel
theorem dX1_begin_0 : decode cX1_begin 0 = .ok (.aload_n 0, 1) := by decide +kernel
theorem dX1_begin_1 : decode cX1_begin 1 = .ok (.iconst 0, 1) := by decide +kernel
theorem dX1_begin_2 : decode cX1_begin 2 = .ok (.putfield 35, 3) := by decide +kernel
theorem dX1_begin_5 : decode cX1_begin 5 = .ok (.aload_n 0, 1) := by decide +kernel
theorem dX1_begin_6 : decode cX1_begin 6 = .ok (.iconst 0, 1) := by decide +kernel
theorem dX1_begin_7 : decode cX1_begin 7 = .ok (.putfield 39, 3) := by decide +kernel
theorem dX1_begin_10 : decode cX1_begin 10 = .ok (.aload_n 0, 1) := by decide +kernel
theorem dX1_begin_11 : decode cX1_begin 11 = .ok (.getfield 27, 3) := by decide +kernel
theorem dX1_begin_14 : decode cX1_begin 14 = .ok (.iconst 0, 1) := by decide +kernel
theorem dX1_begin_15 : decode cX1_begin 15 = .ok (.putfield 42, 3) := by decide +kernel
theorem dX1_begin_18 : decode cX1_begin 18 = .ok (.aload_n 0, 1) := by decide +kernel
theorem dX1_begin_19 : decode cX1_begin 19 = .ok (.iconst 0, 1) := by decide +kernel
theorem dX1_begin_20 : decode cX1_begin 20 = .ok (.putfield 45, 3) := by decide +kernel
theorem dX1_begin_23 : decode cX1_begin 23 = .ok (.getstatic 48, 3) := by decide +kernel
theorem dX1_begin_26 : decode cX1_begin 26 = .ok (.iconst 0, 1) := by decide +kernel
theorem dX1_begin_27 : decode cX1_begin 27 = .ok (.aload_n 0, 1) := by decide +kernel
theorem dX1_begin_28 : decode cX1_begin 28 = .ok (.getfield 21, 3) := by decide +kernel
theorem dX1_begin_31 : decode cX1_begin 31 = .ok (.iconst 0, 1) := by decide +kernel
theorem dX1_begin_32 : decode cX1_begin 32 = .ok (.iconst 3, 1) := by decide +kernel
theorem dX1_begin_33 : decode cX1_begin 33 = .ok (.invokestatic 51, 3) := by decide +kernel
theorem dX1_begin_36 : decode cX1_begin 36 = .ok (.return_, 1) := by decide +kernel
theorem dX1_copyFrom_0 : decode cX1_copyFrom 0 = .ok (.aload_n 0, 1) := by decide +kernel
theorem dX1_copyFrom_1 : decode cX1_copyFrom 1 = .ok (.aload_n 1, 1) := by decide +kernel
theorem dX1_copyFrom_2 : decode cX1_copyFrom 2 = .ok (.getfield 35, 3) := by decide +kernel
theorem dX1_copyFrom_5 : decode cX1_copyFrom 5 = .ok (.putfield 35, 3) := by decide +kernel
theorem dX1_copyFrom_8 : decode cX1_copyFrom 8 = .ok (.iconst 0, 1) := by decide +kernel
theorem dX1_copyFrom_9 : decode cX1_copyFrom 9 = .ok (.istore_n 2, 1) := by decide +kernel
theorem dX1_copyFrom_10 : decode cX1_copyFrom 10 = .ok (.iload_n 2, 1) := by decide +kernel
theorem dX1_copyFrom_11 : decode cX1_copyFrom 11 = .ok (.aload_n 0, 1) := by decide +kernel
theorem dX1_copyFrom_12 : decode cX1_copyFrom 12 = .ok (.getfield 35, 3) := by decide +kernel
theorem dX1_copyFrom_15 : decode cX1_copyFrom 15 = .ok (.if_icmp .ge 24, 3) := by decide +kernel
theorem dX1_copyFrom_18 : decode cX1_copyFrom 18 = .ok (.aload_n 0, 1) := by decide +kernel
theorem dX1_copyFrom_19 : decode cX1_copyFrom 19 = .ok (.getfield 11, 3) := by decide +kernel
theorem dX1_copyFrom_22 : decode cX1_copyFrom 22 = .ok (.iload_n 2, 1) := by decide +kernel
theorem dX1_copyFrom_23 : decode cX1_copyFrom 23 = .ok (.aaload, 1) := by decide +kernel
theorem dX1_copyFrom_24 : decode cX1_copyFrom 24 = .ok (.aload_n 1, 1) := by decide +kernel
theorem dX1_copyFrom_25 : decode cX1_copyFrom 25 = .ok (.getfield 11, 3) := by decide +kernel
theorem dX1_copyFrom_28 : decode cX1_copyFrom 28 = .ok (.iload_n 2, 1) := by decide +kernel
theorem dX1_copyFrom_29 : decode cX1_copyFrom 29 = .ok (.aaload, 1) := by decide +kernel
theorem dX1_copyFrom_30 : decode cX1_copyFrom 30 = .ok (.invokevirtual 57, 3) := by decide +kernel
theorem dX1_copyFrom_33 : decode cX1_copyFrom 33 = .ok (.iinc 2 1, 3) := by decide +kernel
theorem dX1_copyFrom_36 : decode cX1_copyFrom 36 = .ok (.goto (-26), 3) := by decide +kernel
theorem dX1_copyFrom_39 : decode cX1_copyFrom 39 = .ok (.aload_n 0, 1) := by decide +kernel
theorem dX1_copyFrom_40 : decode cX1_copyFrom 40 = .ok (.aload_n 1, 1) := by decide +kernel
theorem dX1_copyFrom_41 : decode cX1_copyFrom 41 = .ok (.getfield 39, 3) := by decide +kernel
theorem dX1_copyFrom_44 : decode cX1_copyFrom 44 = .ok (.putfield 39, 3) := by decide +kernel
theorem dX1_copyFrom_47 : decode cX1_copyFrom 47 = .ok (.aload_n 1, 1) := by decide +kernel
theorem dX1_copyFrom_48 : decode cX1_copyFrom 48 = .ok (.getfield 17, 3) := by decide +kernel
theorem dX1_copyFrom_51 : decode cX1_copyFrom 51 = .ok (.iconst 0, 1) := by decide +kernel
theorem dX1_copyFrom_52 : decode cX1_copyFrom 52 = .ok (.aload_n 0, 1) := by decide +kernel
theorem dX1_copyFrom_53 : decode cX1_copyFrom 53 = .ok (.getfield 17, 3) := by decide +kernel
theorem dX1_copyFrom_56 : decode cX1_copyFrom 56 = .ok (.iconst 0, 1) := by decide +kernel
theorem dX1_copyFrom_57 : decode cX1_copyFrom 57 = .ok (.bipush 12, 2) := by decide +kernel
theorem dX1_copyFrom_59 : decode cX1_copyFrom 59 = .ok (.invokestatic 51, 3) := by decide +kernel
theorem dX1_copyFrom_62 : decode cX1_copyFrom 62 = .ok (.aload_n 0, 1) := by decide +kernel
theorem dX1_copyFrom_63 : decode cX1_copyFrom 63 = .ok (.getfield 27, 3) := by decide +kernel
theorem dX1_copyFrom_66 : decode cX1_copyFrom 66 = .ok (.aload_n 1, 1) := by decide +kernel
theorem dX1_copyFrom_67 : decode cX1_copyFrom 67 = .ok (.getfield 27, 3) := by decide +kernel
theorem dX1_copyFrom_70 : decode cX1_copyFrom 70 = .ok (.invokevirtual 61, 3) := by decide +kernel
theorem dX1_copyFrom_73 : decode cX1_copyFrom 73 = .ok (.aload_n 1, 1) := by decide +kernel
theorem dX1_copyFrom_74 : decode cX1_copyFrom 74 = .ok (.getfield 21, 3) := by decide +kernel
theorem dX1_copyFrom_77 : decode cX1_copyFrom 77 = .ok (.iconst 0, 1) := by decide +kernel
theorem dX1_copyFrom_78 : decode cX1_copyFrom 78 = .ok (.aload_n 0, 1) := by decide +kernel
theorem dX1_copyFrom_79 : decode cX1_copyFrom 79 = .ok (.getfield 21, 3) := by decide +kernel
theorem dX1_copyFrom_82 : decode cX1_copyFrom 82 = .ok (.iconst 0, 1) := by decide +kernel
theorem dX1_copyFrom_83 : decode cX1_copyFrom 83 = .ok (.iconst 3, 1) := by decide +kernel
theorem dX1_copyFrom_84 : decode cX1_copyFrom 84 = .ok (.invokestatic 51, 3) := by decide +kernel
theorem dX1_copyFrom_87 : decode cX1_copyFrom 87 = .ok (.aload_n 0, 1) := by decide +kernel
theorem dX1_copyFrom_88 : decode cX1_copyFrom 88 = .ok (.aload_n 1, 1) := by decide +kernel
theorem dX1_copyFrom_89 : decode cX1_copyFrom 89 = .ok (.getfield 45, 3) := by decide +kernel
theorem dX1_copyFrom_92 : decode cX1_copyFrom 92 = .ok (.putfield 45, 3) := by decide +kernel
theorem dX1_copyFrom_95 : decode cX1_copyFrom 95 = .ok (.return_, 1) := by decide +kernel
theorem dX1_lineIn_0 : decode cX1_lineIn 0 = .ok (.aload_n 0, 1) := by decide +kernel
theorem dX1_lineIn_1 : decode cX1_lineIn 1 = .ok (.getfield 39, 3) := by decide +kernel
theorem dX1_lineIn_4 : decode cX1_lineIn 4 = .ok (.ifCond .ne 8, 3) := by decide +kernel
theorem dX1_lineIn_7 : decode cX1_lineIn 7 = .ok (.bipush (-4), 2) := by decide +kernel
theorem dX1_lineIn_9 : decode cX1_lineIn 9 = .ok (.goto 14, 3) := by decide +kernel
theorem dX1_lineIn_12 : decode cX1_lineIn 12 = .ok (.aload_n 0, 1) := by decide +kernel
theorem dX1_lineIn_13 : decode cX1_lineIn 13 = .ok (.getfield 45, 3) := by decide +kernel
theorem dX1_lineIn_16 : decode cX1_lineIn 16 = .ok (.iload_n 1, 1) := by decide +kernel
theorem dX1_lineIn_17 : decode cX1_lineIn 17 = .ok (.iadd, 1) := by decide +kernel
theorem dX1_lineIn_18 : decode cX1_lineIn 18 = .ok (.aload_n 0, 1) := by decide +kernel
theorem dX1_lineIn_19 : decode cX1_lineIn 19 = .ok (.getfield 39, 3) := by decide +kernel
theorem dX1_lineIn_22 : decode cX1_lineIn 22 = .ok (.irem, 1) := by decide +kernel
theorem dX1_lineIn_23 : decode cX1_lineIn 23 = .ok (.ireturn, 1) := by decide +kernel
theorem dX1_wantedIn_0 : decode cX1_wantedIn 0 = .ok (.aload_n 0, 1) := by decide +kernel
theorem dX1_wantedIn_1 : decode cX1_wantedIn 1 = .ok (.getfield 39, 3) := by decide +kernel
theorem dX1_wantedIn_4 : decode cX1_wantedIn 4 = .ok (.ifCond .ne 7, 3) := by decide +kernel
theorem dX1_wantedIn_7 : decode cX1_wantedIn 7 = .ok (.iconst 0, 1) := by decide +kernel
theorem dX1_wantedIn_8 : decode cX1_wantedIn 8 = .ok (.goto 13, 3) := by decide +kernel
theorem dX1_wantedIn_11 : decode cX1_wantedIn 11 = .ok (.aload_n 0, 1) := by decide +kernel
theorem dX1_wantedIn_12 : decode cX1_wantedIn 12 = .ok (.getfield 17, 3) := by decide +kernel
theorem dX1_wantedIn_15 : decode cX1_wantedIn 15 = .ok (.aload_n 0, 1) := by decide +kernel
theorem dX1_wantedIn_16 : decode cX1_wantedIn 16 = .ok (.iload_n 1, 1) := by decide +kernel
theorem dX1_wantedIn_17 : decode cX1_wantedIn 17 = .ok (.invokevirtual 64, 3) := by decide +kernel
theorem dX1_wantedIn_20 : decode cX1_wantedIn 20 = .ok (.iaload, 1) := by decide +kernel
theorem dX1_wantedIn_21 : decode cX1_wantedIn 21 = .ok (.ireturn, 1) := by decide +kernel
theorem dX1_burnRow_0 : decode cX1_burnRow 0 = .ok (.aload_n 0, 1) := by decide +kernel
theorem dX1_burnRow_1 : decode cX1_burnRow 1 = .ok (.aload_n 0, 1) := by decide +kernel
theorem dX1_burnRow_2 : decode cX1_burnRow 2 = .ok (.iconst 0, 1) := by decide +kernel
theorem dX1_burnRow_3 : decode cX1_burnRow 3 = .ok (.invokevirtual 68, 3) := by decide +kernel
theorem dX1_burnRow_6 : decode cX1_burnRow 6 = .ok (.aload_n 0, 1) := by decide +kernel
theorem dX1_burnRow_7 : decode cX1_burnRow 7 = .ok (.iconst 1, 1) := by decide +kernel
theorem dX1_burnRow_8 : decode cX1_burnRow 8 = .ok (.invokevirtual 68, 3) := by decide +kernel
theorem dX1_burnRow_11 : decode cX1_burnRow 11 = .ok (.iload_n 1, 1) := by decide +kernel
theorem dX1_burnRow_12 : decode cX1_burnRow 12 = .ok (.invokevirtual 71, 3) := by decide +kernel
theorem dX1_burnRow_15 : decode cX1_burnRow 15 = .ok (.istore_n 2, 1) := by decide +kernel
theorem dX1_burnRow_16 : decode cX1_burnRow 16 = .ok (.aload_n 0, 1) := by decide +kernel
theorem dX1_burnRow_17 : decode cX1_burnRow 17 = .ok (.dup, 1) := by decide +kernel
theorem dX1_burnRow_18 : decode cX1_burnRow 18 = .ok (.getfield 45, 3) := by decide +kernel
theorem dX1_burnRow_21 : decode cX1_burnRow 21 = .ok (.iconst 1, 1) := by decide +kernel
theorem dX1_burnRow_22 : decode cX1_burnRow 22 = .ok (.iadd, 1) := by decide +kernel
theorem dX1_burnRow_23 : decode cX1_burnRow 23 = .ok (.putfield 45, 3) := by decide +kernel
theorem dX1_burnRow_26 : decode cX1_burnRow 26 = .ok (.iload_n 2, 1) := by decide +kernel
theorem dX1_burnRow_27 : decode cX1_burnRow 27 = .ok (.ireturn, 1) := by decide +kernel
theorem dX1_burnLine_0 : decode cX1_burnLine 0 = .ok (.iconst 0, 1) := by decide +kernel
theorem dX1_burnLine_1 : decode cX1_burnLine 1 = .ok (.istore 4, 2) := by decide +kernel
theorem dX1_burnLine_3 : decode cX1_burnLine 3 = .ok (.aload_n 0, 1) := by decide +kernel
theorem dX1_burnLine_4 : decode cX1_burnLine 4 = .ok (.iconst 0, 1) := by decide +kernel
theorem dX1_burnLine_5 : decode cX1_burnLine 5 = .ok (.putfield 75, 3) := by decide +kernel
theorem dX1_burnLine_8 : decode cX1_burnLine 8 = .ok (.iconst 0, 1) := by decide +kernel
theorem dX1_burnLine_9 : decode cX1_burnLine 9 = .ok (.istore 5, 2) := by decide +kernel
theorem dX1_burnLine_11 : decode cX1_burnLine 11 = .ok (.iload 5, 2) := by decide +kernel
theorem dX1_burnLine_13 : decode cX1_burnLine 13 = .ok (.aload_n 0, 1) := by decide +kernel
theorem dX1_burnLine_14 : decode cX1_burnLine 14 = .ok (.getfield 35, 3) := by decide +kernel
theorem dX1_burnLine_17 : decode cX1_burnLine 17 = .ok (.if_icmp .ge 51, 3) := by decide +kernel
theorem dX1_burnLine_20 : decode cX1_burnLine 20 = .ok (.aload_n 0, 1) := by decide +kernel
theorem dX1_burnLine_21 : decode cX1_burnLine 21 = .ok (.getfield 11, 3) := by decide +kernel
theorem dX1_burnLine_24 : decode cX1_burnLine 24 = .ok (.iload 5, 2) := by decide +kernel
theorem dX1_burnLine_26 : decode cX1_burnLine 26 = .ok (.aaload, 1) := by decide +kernel
theorem dX1_burnLine_27 : decode cX1_burnLine 27 = .ok (.aload_n 0, 1) := by decide +kernel
theorem dX1_burnLine_28 : decode cX1_burnLine 28 = .ok (.iload_n 1, 1) := by decide +kernel
theorem dX1_burnLine_29 : decode cX1_burnLine 29 = .ok (.iload_n 2, 1) := by decide +kernel
theorem dX1_burnLine_30 : decode cX1_burnLine 30 = .ok (.iload_n 3, 1) := by decide +kernel
theorem dX1_burnLine_31 : decode cX1_burnLine 31 = .ok (.invokevirtual 78, 3) := by decide +kernel
theorem dX1_burnLine_34 : decode cX1_burnLine 34 = .ok (.istore 6, 2) := by decide +kernel
theorem dX1_burnLine_36 : decode cX1_burnLine 36 = .ok (.aload_n 0, 1) := by decide +kernel
theorem dX1_burnLine_37 : decode cX1_burnLine 37 = .ok (.dup, 1) := by decide +kernel
theorem dX1_burnLine_38 : decode cX1_burnLine 38 = .ok (.getfield 75, 3) := by decide +kernel
theorem dX1_burnLine_41 : decode cX1_burnLine 41 = .ok (.iload 6, 2) := by decide +kernel
theorem dX1_burnLine_43 : decode cX1_burnLine 43 = .ok (.invokestatic 81, 3) := by decide +kernel
theorem dX1_burnLine_46 : decode cX1_burnLine 46 = .ok (.iadd, 1) := by decide +kernel
theorem dX1_burnLine_47 : decode cX1_burnLine 47 = .ok (.putfield 75, 3) := by decide +kernel
theorem dX1_burnLine_50 : decode cX1_burnLine 50 = .ok (.iload 4, 2) := by decide +kernel
theorem dX1_burnLine_52 : decode cX1_burnLine 52 = .ok (.iload 6, 2) := by decide +kernel
theorem dX1_burnLine_54 : decode cX1_burnLine 54 = .ok (.iload_n 1, 1) := by decide +kernel
theorem dX1_burnLine_55 : decode cX1_burnLine 55 = .ok (.ixor, 1) := by decide +kernel
theorem dX1_burnLine_56 : decode cX1_burnLine 56 = .ok (.invokestatic 81, 3) := by decide +kernel
theorem dX1_burnLine_59 : decode cX1_burnLine 59 = .ok (.iadd, 1) := by decide +kernel
theorem dX1_burnLine_60 : decode cX1_burnLine 60 = .ok (.istore 4, 2) := by decide +kernel
theorem dX1_burnLine_62 : decode cX1_burnLine 62 = .ok (.iinc 5 1, 3) := by decide +kernel
theorem dX1_burnLine_65 : decode cX1_burnLine 65 = .ok (.goto (-54), 3) := by decide +kernel
theorem dX1_burnLine_68 : decode cX1_burnLine 68 = .ok (.iload 4, 2) := by decide +kernel
theorem dX1_burnLine_70 : decode cX1_burnLine 70 = .ok (.ireturn, 1) := by decide +kernel
theorem dX1_hottest_0 : decode cX1_hottest 0 = .ok (.iconst 0, 1) := by decide +kernel
theorem dX1_hottest_1 : decode cX1_hottest 1 = .ok (.istore_n 1, 1) := by decide +kernel
theorem dX1_hottest_2 : decode cX1_hottest 2 = .ok (.iconst 0, 1) := by decide +kernel
theorem dX1_hottest_3 : decode cX1_hottest 3 = .ok (.istore_n 2, 1) := by decide +kernel
theorem dX1_hottest_4 : decode cX1_hottest 4 = .ok (.iload_n 2, 1) := by decide +kernel
theorem dX1_hottest_5 : decode cX1_hottest 5 = .ok (.aload_n 0, 1) := by decide +kernel
theorem dX1_hottest_6 : decode cX1_hottest 6 = .ok (.getfield 35, 3) := by decide +kernel
theorem dX1_hottest_9 : decode cX1_hottest 9 = .ok (.if_icmp .ge 39, 3) := by decide +kernel
theorem dX1_hottest_12 : decode cX1_hottest 12 = .ok (.iconst 0, 1) := by decide +kernel
theorem dX1_hottest_13 : decode cX1_hottest 13 = .ok (.istore_n 3, 1) := by decide +kernel
theorem dX1_hottest_14 : decode cX1_hottest 14 = .ok (.iload_n 3, 1) := by decide +kernel
theorem dX1_hottest_15 : decode cX1_hottest 15 = .ok (.bipush 8, 2) := by decide +kernel
theorem dX1_hottest_17 : decode cX1_hottest 17 = .ok (.if_icmp .ge 25, 3) := by decide +kernel
theorem dX1_hottest_20 : decode cX1_hottest 20 = .ok (.iload_n 1, 1) := by decide +kernel
theorem dX1_hottest_21 : decode cX1_hottest 21 = .ok (.aload_n 0, 1) := by decide +kernel
theorem dX1_hottest_22 : decode cX1_hottest 22 = .ok (.getfield 11, 3) := by decide +kernel
theorem dX1_hottest_25 : decode cX1_hottest 25 = .ok (.iload_n 2, 1) := by decide +kernel
theorem dX1_hottest_26 : decode cX1_hottest 26 = .ok (.aaload, 1) := by decide +kernel
theorem dX1_hottest_27 : decode cX1_hottest 27 = .ok (.getfield 86, 3) := by decide +kernel
theorem dX1_hottest_30 : decode cX1_hottest 30 = .ok (.iload_n 3, 1) := by decide +kernel
theorem dX1_hottest_31 : decode cX1_hottest 31 = .ok (.iaload, 1) := by decide +kernel
theorem dX1_hottest_32 : decode cX1_hottest 32 = .ok (.invokestatic 89, 3) := by decide +kernel
theorem dX1_hottest_35 : decode cX1_hottest 35 = .ok (.istore_n 1, 1) := by decide +kernel
theorem dX1_hottest_36 : decode cX1_hottest 36 = .ok (.iinc 3 1, 3) := by decide +kernel
theorem dX1_hottest_39 : decode cX1_hottest 39 = .ok (.goto (-25), 3) := by decide +kernel
theorem dX1_hottest_42 : decode cX1_hottest 42 = .ok (.iinc 2 1, 3) := by decide +kernel
theorem dX1_hottest_45 : decode cX1_hottest 45 = .ok (.goto (-41), 3) := by decide +kernel
theorem dX1_hottest_48 : decode cX1_hottest 48 = .ok (.iload_n 1, 1) := by decide +kernel
theorem dX1_hottest_49 : decode cX1_hottest 49 = .ok (.ireturn, 1) := by decide +kernel
theorem dX1_loseHeat_0 : decode cX1_loseHeat 0 = .ok (.iconst 0, 1) := by decide +kernel
theorem dX1_loseHeat_1 : decode cX1_loseHeat 1 = .ok (.istore_n 1, 1) := by decide +kernel
theorem dX1_loseHeat_2 : decode cX1_loseHeat 2 = .ok (.iload_n 1, 1) := by decide +kernel
theorem dX1_loseHeat_3 : decode cX1_loseHeat 3 = .ok (.aload_n 0, 1) := by decide +kernel
theorem dX1_loseHeat_4 : decode cX1_loseHeat 4 = .ok (.getfield 35, 3) := by decide +kernel
theorem dX1_loseHeat_7 : decode cX1_loseHeat 7 = .ok (.if_icmp .ge 22, 3) := by decide +kernel
theorem dX1_loseHeat_10 : decode cX1_loseHeat 10 = .ok (.aload_n 0, 1) := by decide +kernel
theorem dX1_loseHeat_11 : decode cX1_loseHeat 11 = .ok (.getfield 11, 3) := by decide +kernel
theorem dX1_loseHeat_14 : decode cX1_loseHeat 14 = .ok (.iload_n 1, 1) := by decide +kernel
theorem dX1_loseHeat_15 : decode cX1_loseHeat 15 = .ok (.aaload, 1) := by decide +kernel
theorem dX1_loseHeat_16 : decode cX1_loseHeat 16 = .ok (.getfield 95, 3) := by decide +kernel
theorem dX1_loseHeat_19 : decode cX1_loseHeat 19 = .ok (.iconst 0, 1) := by decide +kernel
theorem dX1_loseHeat_20 : decode cX1_loseHeat 20 = .ok (.invokestatic 98, 3) := by decide +kernel
theorem dX1_loseHeat_23 : decode cX1_loseHeat 23 = .ok (.iinc 1 1, 3) := by decide +kernel
theorem dX1_loseHeat_26 : decode cX1_loseHeat 26 = .ok (.goto (-24), 3) := by decide +kernel
theorem dX1_loseHeat_29 : decode cX1_loseHeat 29 = .ok (.return_, 1) := by decide +kernel
theorem dX1_wrongOfAll_0 : decode cX1_wrongOfAll 0 = .ok (.iconst 0, 1) := by decide +kernel
theorem dX1_wrongOfAll_1 : decode cX1_wrongOfAll 1 = .ok (.istore_n 1, 1) := by decide +kernel
theorem dX1_wrongOfAll_2 : decode cX1_wrongOfAll 2 = .ok (.iconst 0, 1) := by decide +kernel
theorem dX1_wrongOfAll_3 : decode cX1_wrongOfAll 3 = .ok (.istore_n 2, 1) := by decide +kernel
theorem dX1_wrongOfAll_4 : decode cX1_wrongOfAll 4 = .ok (.iload_n 2, 1) := by decide +kernel
theorem dX1_wrongOfAll_5 : decode cX1_wrongOfAll 5 = .ok (.aload_n 0, 1) := by decide +kernel
theorem dX1_wrongOfAll_6 : decode cX1_wrongOfAll 6 = .ok (.getfield 35, 3) := by decide +kernel
theorem dX1_wrongOfAll_9 : decode cX1_wrongOfAll 9 = .ok (.if_icmp .ge 21, 3) := by decide +kernel
theorem dX1_wrongOfAll_12 : decode cX1_wrongOfAll 12 = .ok (.iload_n 1, 1) := by decide +kernel
theorem dX1_wrongOfAll_13 : decode cX1_wrongOfAll 13 = .ok (.aload_n 0, 1) := by decide +kernel
theorem dX1_wrongOfAll_14 : decode cX1_wrongOfAll 14 = .ok (.getfield 11, 3) := by decide +kernel
theorem dX1_wrongOfAll_17 : decode cX1_wrongOfAll 17 = .ok (.iload_n 2, 1) := by decide +kernel
theorem dX1_wrongOfAll_18 : decode cX1_wrongOfAll 18 = .ok (.aaload, 1) := by decide +kernel
theorem dX1_wrongOfAll_19 : decode cX1_wrongOfAll 19 = .ok (.getfield 104, 3) := by decide +kernel
theorem dX1_wrongOfAll_22 : decode cX1_wrongOfAll 22 = .ok (.iadd, 1) := by decide +kernel
theorem dX1_wrongOfAll_23 : decode cX1_wrongOfAll 23 = .ok (.istore_n 1, 1) := by decide +kernel
theorem dX1_wrongOfAll_24 : decode cX1_wrongOfAll 24 = .ok (.iinc 2 1, 3) := by decide +kernel
theorem dX1_wrongOfAll_27 : decode cX1_wrongOfAll 27 = .ok (.goto (-23), 3) := by decide +kernel
theorem dX1_wrongOfAll_30 : decode cX1_wrongOfAll 30 = .ok (.iload_n 1, 1) := by decide +kernel
theorem dX1_wrongOfAll_31 : decode cX1_wrongOfAll 31 = .ok (.ireturn, 1) := by decide +kernel
theorem dX1_heatOfAll_0 : decode cX1_heatOfAll 0 = .ok (.iconst 0, 1) := by decide +kernel
theorem dX1_heatOfAll_1 : decode cX1_heatOfAll 1 = .ok (.istore_n 1, 1) := by decide +kernel
theorem dX1_heatOfAll_2 : decode cX1_heatOfAll 2 = .ok (.iconst 0, 1) := by decide +kernel
theorem dX1_heatOfAll_3 : decode cX1_heatOfAll 3 = .ok (.istore_n 2, 1) := by decide +kernel
theorem dX1_heatOfAll_4 : decode cX1_heatOfAll 4 = .ok (.iload_n 2, 1) := by decide +kernel
theorem dX1_heatOfAll_5 : decode cX1_heatOfAll 5 = .ok (.aload_n 0, 1) := by decide +kernel
theorem dX1_heatOfAll_6 : decode cX1_heatOfAll 6 = .ok (.getfield 35, 3) := by decide +kernel
theorem dX1_heatOfAll_9 : decode cX1_heatOfAll 9 = .ok (.if_icmp .ge 21, 3) := by decide +kernel
theorem dX1_heatOfAll_12 : decode cX1_heatOfAll 12 = .ok (.iload_n 1, 1) := by decide +kernel
theorem dX1_heatOfAll_13 : decode cX1_heatOfAll 13 = .ok (.aload_n 0, 1) := by decide +kernel
theorem dX1_heatOfAll_14 : decode cX1_heatOfAll 14 = .ok (.getfield 11, 3) := by decide +kernel
theorem dX1_heatOfAll_17 : decode cX1_heatOfAll 17 = .ok (.iload_n 2, 1) := by decide +kernel
theorem dX1_heatOfAll_18 : decode cX1_heatOfAll 18 = .ok (.aaload, 1) := by decide +kernel
theorem dX1_heatOfAll_19 : decode cX1_heatOfAll 19 = .ok (.invokevirtual 107, 3) := by decide +kernel
theorem dX1_heatOfAll_22 : decode cX1_heatOfAll 22 = .ok (.iadd, 1) := by decide +kernel
theorem dX1_heatOfAll_23 : decode cX1_heatOfAll 23 = .ok (.istore_n 1, 1) := by decide +kernel
theorem dX1_heatOfAll_24 : decode cX1_heatOfAll 24 = .ok (.iinc 2 1, 3) := by decide +kernel
theorem dX1_heatOfAll_27 : decode cX1_heatOfAll 27 = .ok (.goto (-23), 3) := by decide +kernel
theorem dX1_heatOfAll_30 : decode cX1_heatOfAll 30 = .ok (.iload_n 1, 1) := by decide +kernel
theorem dX1_heatOfAll_31 : decode cX1_heatOfAll 31 = .ok (.ireturn, 1) := by decide +kernel
theorem dX1_powerOfAll_0 : decode cX1_powerOfAll 0 = .ok (.iconst 0, 1) := by decide +kernel
theorem dX1_powerOfAll_1 : decode cX1_powerOfAll 1 = .ok (.istore_n 1, 1) := by decide +kernel
theorem dX1_powerOfAll_2 : decode cX1_powerOfAll 2 = .ok (.iconst 0, 1) := by decide +kernel
theorem dX1_powerOfAll_3 : decode cX1_powerOfAll 3 = .ok (.istore_n 2, 1) := by decide +kernel
theorem dX1_powerOfAll_4 : decode cX1_powerOfAll 4 = .ok (.iload_n 2, 1) := by decide +kernel
theorem dX1_powerOfAll_5 : decode cX1_powerOfAll 5 = .ok (.aload_n 0, 1) := by decide +kernel
theorem dX1_powerOfAll_6 : decode cX1_powerOfAll 6 = .ok (.getfield 35, 3) := by decide +kernel
theorem dX1_powerOfAll_9 : decode cX1_powerOfAll 9 = .ok (.if_icmp .ge 21, 3) := by decide +kernel
theorem dX1_powerOfAll_12 : decode cX1_powerOfAll 12 = .ok (.iload_n 1, 1) := by decide +kernel
theorem dX1_powerOfAll_13 : decode cX1_powerOfAll 13 = .ok (.aload_n 0, 1) := by decide +kernel
theorem dX1_powerOfAll_14 : decode cX1_powerOfAll 14 = .ok (.getfield 11, 3) := by decide +kernel
theorem dX1_powerOfAll_17 : decode cX1_powerOfAll 17 = .ok (.iload_n 2, 1) := by decide +kernel
theorem dX1_powerOfAll_18 : decode cX1_powerOfAll 18 = .ok (.aaload, 1) := by decide +kernel
theorem dX1_powerOfAll_19 : decode cX1_powerOfAll 19 = .ok (.getfield 111, 3) := by decide +kernel
theorem dX1_powerOfAll_22 : decode cX1_powerOfAll 22 = .ok (.iadd, 1) := by decide +kernel
theorem dX1_powerOfAll_23 : decode cX1_powerOfAll 23 = .ok (.istore_n 1, 1) := by decide +kernel
theorem dX1_powerOfAll_24 : decode cX1_powerOfAll 24 = .ok (.iinc 2 1, 3) := by decide +kernel
theorem dX1_powerOfAll_27 : decode cX1_powerOfAll 27 = .ok (.goto (-23), 3) := by decide +kernel
theorem dX1_powerOfAll_30 : decode cX1_powerOfAll 30 = .ok (.iload_n 1, 1) := by decide +kernel
theorem dX1_powerOfAll_31 : decode cX1_powerOfAll 31 = .ok (.ireturn, 1) := by decide +kernel
theorem dX1_wantedOfAll_0 : decode cX1_wantedOfAll 0 = .ok (.iconst 0, 1) := by decide +kernel
theorem dX1_wantedOfAll_1 : decode cX1_wantedOfAll 1 = .ok (.istore_n 1, 1) := by decide +kernel
theorem dX1_wantedOfAll_2 : decode cX1_wantedOfAll 2 = .ok (.iconst 0, 1) := by decide +kernel
theorem dX1_wantedOfAll_3 : decode cX1_wantedOfAll 3 = .ok (.istore_n 2, 1) := by decide +kernel
theorem dX1_wantedOfAll_4 : decode cX1_wantedOfAll 4 = .ok (.iload_n 2, 1) := by decide +kernel
theorem dX1_wantedOfAll_5 : decode cX1_wantedOfAll 5 = .ok (.aload_n 0, 1) := by decide +kernel
theorem dX1_wantedOfAll_6 : decode cX1_wantedOfAll 6 = .ok (.getfield 39, 3) := by decide +kernel
theorem dX1_wantedOfAll_9 : decode cX1_wantedOfAll 9 = .ok (.if_icmp .ge 21, 3) := by decide +kernel
theorem dX1_wantedOfAll_12 : decode cX1_wantedOfAll 12 = .ok (.iload_n 1, 1) := by decide +kernel
theorem dX1_wantedOfAll_13 : decode cX1_wantedOfAll 13 = .ok (.aload_n 0, 1) := by decide +kernel
theorem dX1_wantedOfAll_14 : decode cX1_wantedOfAll 14 = .ok (.getfield 17, 3) := by decide +kernel
theorem dX1_wantedOfAll_17 : decode cX1_wantedOfAll 17 = .ok (.iload_n 2, 1) := by decide +kernel
theorem dX1_wantedOfAll_18 : decode cX1_wantedOfAll 18 = .ok (.iaload, 1) := by decide +kernel
theorem dX1_wantedOfAll_19 : decode cX1_wantedOfAll 19 = .ok (.invokestatic 81, 3) := by decide +kernel
theorem dX1_wantedOfAll_22 : decode cX1_wantedOfAll 22 = .ok (.iadd, 1) := by decide +kernel
theorem dX1_wantedOfAll_23 : decode cX1_wantedOfAll 23 = .ok (.istore_n 1, 1) := by decide +kernel
theorem dX1_wantedOfAll_24 : decode cX1_wantedOfAll 24 = .ok (.iinc 2 1, 3) := by decide +kernel
theorem dX1_wantedOfAll_27 : decode cX1_wantedOfAll 27 = .ok (.goto (-23), 3) := by decide +kernel
theorem dX1_wantedOfAll_30 : decode cX1_wantedOfAll 30 = .ok (.iload_n 1, 1) := by decide +kernel
theorem dX1_wantedOfAll_31 : decode cX1_wantedOfAll 31 = .ok (.ireturn, 1) := by decide +kernel
theorem dX2_init_0 : decode cX2_init 0 = .ok (.aload_n 0, 1) := by decide +kernel
theorem dX2_init_1 : decode cX2_init 1 = .ok (.invokespecial 3, 3) := by decide +kernel
theorem dX2_init_4 : decode cX2_init 4 = .ok (.aload_n 0, 1) := by decide +kernel
theorem dX2_init_5 : decode cX2_init 5 = .ok (.bipush 6, 2) := by decide +kernel
theorem dX2_init_7 : decode cX2_init 7 = .ok (.newarray .int, 2) := by decide +kernel
theorem dX2_init_9 : decode cX2_init 9 = .ok (.putfield 9, 3) := by decide +kernel
theorem dX2_init_12 : decode cX2_init 12 = .ok (.aload_n 0, 1) := by decide +kernel
theorem dX2_init_13 : decode cX2_init 13 = .ok (.bipush 6, 2) := by decide +kernel
theorem dX2_init_15 : decode cX2_init 15 = .ok (.newarray .int, 2) := by decide +kernel
theorem dX2_init_17 : decode cX2_init 17 = .ok (.putfield 15, 3) := by decide +kernel
theorem dX2_init_20 : decode cX2_init 20 = .ok (.aload_n 0, 1) := by decide +kernel
theorem dX2_init_21 : decode cX2_init 21 = .ok (.bipush 6, 2) := by decide +kernel
theorem dX2_init_23 : decode cX2_init 23 = .ok (.newarray .int, 2) := by decide +kernel
theorem dX2_init_25 : decode cX2_init 25 = .ok (.putfield 18, 3) := by decide +kernel
theorem dX2_init_28 : decode cX2_init 28 = .ok (.return_, 1) := by decide +kernel
theorem dX2_append_0 : decode cX2_append 0 = .ok (.aload_n 0, 1) := by decide +kernel
theorem dX2_append_1 : decode cX2_append 1 = .ok (.getfield 9, 3) := by decide +kernel
theorem dX2_append_4 : decode cX2_append 4 = .ok (.aload_n 0, 1) := by decide +kernel
theorem dX2_append_5 : decode cX2_append 5 = .ok (.getfield 21, 3) := by decide +kernel
theorem dX2_append_8 : decode cX2_append 8 = .ok (.iload_n 1, 1) := by decide +kernel
theorem dX2_append_9 : decode cX2_append 9 = .ok (.iastore, 1) := by decide +kernel
theorem dX2_append_10 : decode cX2_append 10 = .ok (.aload_n 0, 1) := by decide +kernel
theorem dX2_append_11 : decode cX2_append 11 = .ok (.getfield 15, 3) := by decide +kernel
theorem dX2_append_14 : decode cX2_append 14 = .ok (.aload_n 0, 1) := by decide +kernel
theorem dX2_append_15 : decode cX2_append 15 = .ok (.getfield 21, 3) := by decide +kernel
theorem dX2_append_18 : decode cX2_append 18 = .ok (.iload_n 2, 1) := by decide +kernel
theorem dX2_append_19 : decode cX2_append 19 = .ok (.iastore, 1) := by decide +kernel
theorem dX2_append_20 : decode cX2_append 20 = .ok (.aload_n 0, 1) := by decide +kernel
theorem dX2_append_21 : decode cX2_append 21 = .ok (.getfield 18, 3) := by decide +kernel
theorem dX2_append_24 : decode cX2_append 24 = .ok (.aload_n 0, 1) := by decide +kernel
theorem dX2_append_25 : decode cX2_append 25 = .ok (.getfield 21, 3) := by decide +kernel
theorem dX2_append_28 : decode cX2_append 28 = .ok (.iload_n 3, 1) := by decide +kernel
theorem dX2_append_29 : decode cX2_append 29 = .ok (.iastore, 1) := by decide +kernel
theorem dX2_append_30 : decode cX2_append 30 = .ok (.aload_n 0, 1) := by decide +kernel
theorem dX2_append_31 : decode cX2_append 31 = .ok (.dup, 1) := by decide +kernel
theorem dX2_append_32 : decode cX2_append 32 = .ok (.getfield 21, 3) := by decide +kernel
theorem dX2_append_35 : decode cX2_append 35 = .ok (.iconst 1, 1) := by decide +kernel
theorem dX2_append_36 : decode cX2_append 36 = .ok (.iadd, 1) := by decide +kernel
theorem dX2_append_37 : decode cX2_append 37 = .ok (.putfield 21, 3) := by decide +kernel
theorem dX2_append_40 : decode cX2_append 40 = .ok (.return_, 1) := by decide +kernel
theorem dX2_copyFrom_0 : decode cX2_copyFrom 0 = .ok (.aload_n 0, 1) := by decide +kernel
theorem dX2_copyFrom_1 : decode cX2_copyFrom 1 = .ok (.aload_n 1, 1) := by decide +kernel
theorem dX2_copyFrom_2 : decode cX2_copyFrom 2 = .ok (.getfield 21, 3) := by decide +kernel
theorem dX2_copyFrom_5 : decode cX2_copyFrom 5 = .ok (.putfield 21, 3) := by decide +kernel
theorem dX2_copyFrom_8 : decode cX2_copyFrom 8 = .ok (.aload_n 1, 1) := by decide +kernel
theorem dX2_copyFrom_9 : decode cX2_copyFrom 9 = .ok (.getfield 9, 3) := by decide +kernel
theorem dX2_copyFrom_12 : decode cX2_copyFrom 12 = .ok (.iconst 0, 1) := by decide +kernel
theorem dX2_copyFrom_13 : decode cX2_copyFrom 13 = .ok (.aload_n 0, 1) := by decide +kernel
theorem dX2_copyFrom_14 : decode cX2_copyFrom 14 = .ok (.getfield 9, 3) := by decide +kernel
theorem dX2_copyFrom_17 : decode cX2_copyFrom 17 = .ok (.iconst 0, 1) := by decide +kernel
theorem dX2_copyFrom_18 : decode cX2_copyFrom 18 = .ok (.bipush 6, 2) := by decide +kernel
theorem dX2_copyFrom_20 : decode cX2_copyFrom 20 = .ok (.invokestatic 25, 3) := by decide +kernel
theorem dX2_copyFrom_23 : decode cX2_copyFrom 23 = .ok (.aload_n 1, 1) := by decide +kernel
theorem dX2_copyFrom_24 : decode cX2_copyFrom 24 = .ok (.getfield 15, 3) := by decide +kernel
theorem dX2_copyFrom_27 : decode cX2_copyFrom 27 = .ok (.iconst 0, 1) := by decide +kernel
theorem dX2_copyFrom_28 : decode cX2_copyFrom 28 = .ok (.aload_n 0, 1) := by decide +kernel
theorem dX2_copyFrom_29 : decode cX2_copyFrom 29 = .ok (.getfield 15, 3) := by decide +kernel
theorem dX2_copyFrom_32 : decode cX2_copyFrom 32 = .ok (.iconst 0, 1) := by decide +kernel
theorem dX2_copyFrom_33 : decode cX2_copyFrom 33 = .ok (.bipush 6, 2) := by decide +kernel
theorem dX2_copyFrom_35 : decode cX2_copyFrom 35 = .ok (.invokestatic 25, 3) := by decide +kernel
theorem dX2_copyFrom_38 : decode cX2_copyFrom 38 = .ok (.aload_n 1, 1) := by decide +kernel
theorem dX2_copyFrom_39 : decode cX2_copyFrom 39 = .ok (.getfield 18, 3) := by decide +kernel
theorem dX2_copyFrom_42 : decode cX2_copyFrom 42 = .ok (.iconst 0, 1) := by decide +kernel
theorem dX2_copyFrom_43 : decode cX2_copyFrom 43 = .ok (.aload_n 0, 1) := by decide +kernel
theorem dX2_copyFrom_44 : decode cX2_copyFrom 44 = .ok (.getfield 18, 3) := by decide +kernel
theorem dX2_copyFrom_47 : decode cX2_copyFrom 47 = .ok (.iconst 0, 1) := by decide +kernel
theorem dX2_copyFrom_48 : decode cX2_copyFrom 48 = .ok (.bipush 6, 2) := by decide +kernel
theorem dX2_copyFrom_50 : decode cX2_copyFrom 50 = .ok (.invokestatic 25, 3) := by decide +kernel
theorem dX2_copyFrom_53 : decode cX2_copyFrom 53 = .ok (.return_, 1) := by decide +kernel
theorem dX2_names_0 : decode cX2_names 0 = .ok (.iconst 0, 1) := by decide +kernel
theorem dX2_names_1 : decode cX2_names 1 = .ok (.istore_n 2, 1) := by decide +kernel
theorem dX2_names_2 : decode cX2_names 2 = .ok (.iload_n 2, 1) := by decide +kernel
theorem dX2_names_3 : decode cX2_names 3 = .ok (.aload_n 0, 1) := by decide +kernel
theorem dX2_names_4 : decode cX2_names 4 = .ok (.getfield 21, 3) := by decide +kernel
theorem dX2_names_7 : decode cX2_names 7 = .ok (.if_icmp .ge 21, 3) := by decide +kernel
theorem dX2_names_10 : decode cX2_names 10 = .ok (.aload_n 0, 1) := by decide +kernel
theorem dX2_names_11 : decode cX2_names 11 = .ok (.getfield 15, 3) := by decide +kernel
theorem dX2_names_14 : decode cX2_names 14 = .ok (.iload_n 2, 1) := by decide +kernel
theorem dX2_names_15 : decode cX2_names 15 = .ok (.iaload, 1) := by decide +kernel
theorem dX2_names_16 : decode cX2_names 16 = .ok (.iload_n 1, 1) := by decide +kernel
theorem dX2_names_17 : decode cX2_names 17 = .ok (.if_icmp .ne 5, 3) := by decide +kernel
theorem dX2_names_20 : decode cX2_names 20 = .ok (.iconst 1, 1) := by decide +kernel
theorem dX2_names_21 : decode cX2_names 21 = .ok (.ireturn, 1) := by decide +kernel
theorem dX2_names_22 : decode cX2_names 22 = .ok (.iinc 2 1, 3) := by decide +kernel
theorem dX2_names_25 : decode cX2_names 25 = .ok (.goto (-23), 3) := by decide +kernel
theorem dX2_names_28 : decode cX2_names 28 = .ok (.iconst 0, 1) := by decide +kernel
theorem dX2_names_29 : decode cX2_names 29 = .ok (.ireturn, 1) := by decide +kernel
theorem dX2_agrees_0 : decode cX2_agrees 0 = .ok (.iconst 0, 1) := by decide +kernel
theorem dX2_agrees_1 : decode cX2_agrees 1 = .ok (.istore 4, 2) := by decide +kernel
theorem dX2_agrees_3 : decode cX2_agrees 3 = .ok (.iload 4, 2) := by decide +kernel
theorem dX2_agrees_5 : decode cX2_agrees 5 = .ok (.aload_n 0, 1) := by decide +kernel
theorem dX2_agrees_6 : decode cX2_agrees 6 = .ok (.getfield 21, 3) := by decide +kernel
theorem dX2_agrees_9 : decode cX2_agrees 9 = .ok (.if_icmp .ge 43, 3) := by decide +kernel
theorem dX2_agrees_12 : decode cX2_agrees 12 = .ok (.aload_n 0, 1) := by decide +kernel
theorem dX2_agrees_13 : decode cX2_agrees 13 = .ok (.getfield 15, 3) := by decide +kernel
theorem dX2_agrees_16 : decode cX2_agrees 16 = .ok (.iload 4, 2) := by decide +kernel
theorem dX2_agrees_18 : decode cX2_agrees 18 = .ok (.iaload, 1) := by decide +kernel
theorem dX2_agrees_19 : decode cX2_agrees 19 = .ok (.iload_n 1, 1) := by decide +kernel
theorem dX2_agrees_20 : decode cX2_agrees 20 = .ok (.if_icmp .ne 26, 3) := by decide +kernel
theorem dX2_agrees_23 : decode cX2_agrees 23 = .ok (.aload_n 2, 1) := by decide +kernel
theorem dX2_agrees_24 : decode cX2_agrees 24 = .ok (.iload_n 3, 1) := by decide +kernel
theorem dX2_agrees_25 : decode cX2_agrees 25 = .ok (.aload_n 0, 1) := by decide +kernel
theorem dX2_agrees_26 : decode cX2_agrees 26 = .ok (.getfield 9, 3) := by decide +kernel
theorem dX2_agrees_29 : decode cX2_agrees 29 = .ok (.iload 4, 2) := by decide +kernel
theorem dX2_agrees_31 : decode cX2_agrees 31 = .ok (.iaload, 1) := by decide +kernel
theorem dX2_agrees_32 : decode cX2_agrees 32 = .ok (.iadd, 1) := by decide +kernel
theorem dX2_agrees_33 : decode cX2_agrees 33 = .ok (.iaload, 1) := by decide +kernel
theorem dX2_agrees_34 : decode cX2_agrees 34 = .ok (.aload_n 0, 1) := by decide +kernel
theorem dX2_agrees_35 : decode cX2_agrees 35 = .ok (.getfield 18, 3) := by decide +kernel
theorem dX2_agrees_38 : decode cX2_agrees 38 = .ok (.iload 4, 2) := by decide +kernel
theorem dX2_agrees_40 : decode cX2_agrees 40 = .ok (.iaload, 1) := by decide +kernel
theorem dX2_agrees_41 : decode cX2_agrees 41 = .ok (.if_icmp .eq 5, 3) := by decide +kernel
theorem dX2_agrees_44 : decode cX2_agrees 44 = .ok (.iconst 0, 1) := by decide +kernel
theorem dX2_agrees_45 : decode cX2_agrees 45 = .ok (.ireturn, 1) := by decide +kernel
theorem dX2_agrees_46 : decode cX2_agrees 46 = .ok (.iinc 4 1, 3) := by decide +kernel
theorem dX2_agrees_49 : decode cX2_agrees 49 = .ok (.goto (-46), 3) := by decide +kernel
theorem dX2_agrees_52 : decode cX2_agrees 52 = .ok (.iconst 1, 1) := by decide +kernel
theorem dX2_agrees_53 : decode cX2_agrees 53 = .ok (.ireturn, 1) := by decide +kernel
theorem dX3_init_0 : decode cX3_init 0 = .ok (.aload_n 0, 1) := by decide +kernel
theorem dX3_init_1 : decode cX3_init 1 = .ok (.invokespecial 3, 3) := by decide +kernel
theorem dX3_init_4 : decode cX3_init 4 = .ok (.aload_n 0, 1) := by decide +kernel
theorem dX3_init_5 : decode cX3_init 5 = .ok (.bipush 40, 2) := by decide +kernel
theorem dX3_init_7 : decode cX3_init 7 = .ok (.newarray .int, 2) := by decide +kernel
theorem dX3_init_9 : decode cX3_init 9 = .ok (.putfield 9, 3) := by decide +kernel
theorem dX3_init_12 : decode cX3_init 12 = .ok (.return_, 1) := by decide +kernel
theorem dX3_renew_0 : decode cX3_renew 0 = .ok (.aload_n 0, 1) := by decide +kernel
theorem dX3_renew_1 : decode cX3_renew 1 = .ok (.iconst 1, 1) := by decide +kernel
theorem dX3_renew_2 : decode cX3_renew 2 = .ok (.putfield 15, 3) := by decide +kernel
theorem dX3_renew_5 : decode cX3_renew 5 = .ok (.aload_n 0, 1) := by decide +kernel
theorem dX3_renew_6 : decode cX3_renew 6 = .ok (.iload_n 1, 1) := by decide +kernel
theorem dX3_renew_7 : decode cX3_renew 7 = .ok (.putfield 19, 3) := by decide +kernel
theorem dX3_renew_10 : decode cX3_renew 10 = .ok (.aload_n 0, 1) := by decide +kernel
theorem dX3_renew_11 : decode cX3_renew 11 = .ok (.iload_n 2, 1) := by decide +kernel
theorem dX3_renew_12 : decode cX3_renew 12 = .ok (.putfield 23, 3) := by decide +kernel
theorem dX3_renew_15 : decode cX3_renew 15 = .ok (.aload_n 0, 1) := by decide +kernel
theorem dX3_renew_16 : decode cX3_renew 16 = .ok (.getfield 9, 3) := by decide +kernel
theorem dX3_renew_19 : decode cX3_renew 19 = .ok (.iconst 0, 1) := by decide +kernel
theorem dX3_renew_20 : decode cX3_renew 20 = .ok (.invokestatic 26, 3) := by decide +kernel
theorem dX3_renew_23 : decode cX3_renew 23 = .ok (.return_, 1) := by decide +kernel
theorem dX3_faultOf_0 : decode cX3_faultOf 0 = .ok (.aload_n 0, 1) := by decide +kernel
theorem dX3_faultOf_1 : decode cX3_faultOf 1 = .ok (.getfield 15, 3) := by decide +kernel
theorem dX3_faultOf_4 : decode cX3_faultOf 4 = .ok (.ifCond .ne 5, 3) := by decide +kernel
theorem dX3_faultOf_7 : decode cX3_faultOf 7 = .ok (.iconst 1, 1) := by decide +kernel
theorem dX3_faultOf_8 : decode cX3_faultOf 8 = .ok (.ireturn, 1) := by decide +kernel
theorem dX3_faultOf_9 : decode cX3_faultOf 9 = .ok (.aload_n 0, 1) := by decide +kernel
theorem dX3_faultOf_10 : decode cX3_faultOf 10 = .ok (.getfield 19, 3) := by decide +kernel
theorem dX3_faultOf_13 : decode cX3_faultOf 13 = .ok (.iload_n 1, 1) := by decide +kernel
theorem dX3_faultOf_14 : decode cX3_faultOf 14 = .ok (.if_icmp .eq 5, 3) := by decide +kernel
theorem dX3_faultOf_17 : decode cX3_faultOf 17 = .ok (.iconst 3, 1) := by decide +kernel
theorem dX3_faultOf_18 : decode cX3_faultOf 18 = .ok (.ireturn, 1) := by decide +kernel
theorem dX3_faultOf_19 : decode cX3_faultOf 19 = .ok (.iload_n 2, 1) := by decide +kernel
theorem dX3_faultOf_20 : decode cX3_faultOf 20 = .ok (.ifCond .lt 11, 3) := by decide +kernel
theorem dX3_faultOf_23 : decode cX3_faultOf 23 = .ok (.iload_n 2, 1) := by decide +kernel
theorem dX3_faultOf_24 : decode cX3_faultOf 24 = .ok (.aload_n 0, 1) := by decide +kernel
theorem dX3_faultOf_25 : decode cX3_faultOf 25 = .ok (.getfield 23, 3) := by decide +kernel
theorem dX3_faultOf_28 : decode cX3_faultOf 28 = .ok (.if_icmp .lt 7, 3) := by decide +kernel
theorem dX3_faultOf_31 : decode cX3_faultOf 31 = .ok (.iconst 2, 1) := by decide +kernel
theorem dX3_faultOf_32 : decode cX3_faultOf 32 = .ok (.goto 4, 3) := by decide +kernel
theorem dX3_faultOf_35 : decode cX3_faultOf 35 = .ok (.iconst 0, 1) := by decide +kernel
theorem dX3_faultOf_36 : decode cX3_faultOf 36 = .ok (.ireturn, 1) := by decide +kernel
theorem dX3_pairFault_0 : decode cX3_pairFault 0 = .ok (.aload_n 0, 1) := by decide +kernel
theorem dX3_pairFault_1 : decode cX3_pairFault 1 = .ok (.iload_n 1, 1) := by decide +kernel
theorem dX3_pairFault_2 : decode cX3_pairFault 2 = .ok (.iload_n 2, 1) := by decide +kernel
theorem dX3_pairFault_3 : decode cX3_pairFault 3 = .ok (.iconst 2, 1) := by decide +kernel
theorem dX3_pairFault_4 : decode cX3_pairFault 4 = .ok (.iload_n 3, 1) := by decide +kernel
theorem dX3_pairFault_5 : decode cX3_pairFault 5 = .ok (.imul, 1) := by decide +kernel
theorem dX3_pairFault_6 : decode cX3_pairFault 6 = .ok (.iadd, 1) := by decide +kernel
theorem dX3_pairFault_7 : decode cX3_pairFault 7 = .ok (.invokevirtual 32, 3) := by decide +kernel
theorem dX3_pairFault_10 : decode cX3_pairFault 10 = .ok (.istore 4, 2) := by decide +kernel
theorem dX3_pairFault_12 : decode cX3_pairFault 12 = .ok (.iload 4, 2) := by decide +kernel
theorem dX3_pairFault_14 : decode cX3_pairFault 14 = .ok (.ifCond .eq 8, 3) := by decide +kernel
theorem dX3_pairFault_17 : decode cX3_pairFault 17 = .ok (.iload 4, 2) := by decide +kernel
theorem dX3_pairFault_19 : decode cX3_pairFault 19 = .ok (.goto 15, 3) := by decide +kernel
theorem dX3_pairFault_22 : decode cX3_pairFault 22 = .ok (.aload_n 0, 1) := by decide +kernel
theorem dX3_pairFault_23 : decode cX3_pairFault 23 = .ok (.iload_n 1, 1) := by decide +kernel
theorem dX3_pairFault_24 : decode cX3_pairFault 24 = .ok (.iload_n 2, 1) := by decide +kernel
theorem dX3_pairFault_25 : decode cX3_pairFault 25 = .ok (.iconst 2, 1) := by decide +kernel
theorem dX3_pairFault_26 : decode cX3_pairFault 26 = .ok (.iload_n 3, 1) := by decide +kernel
theorem dX3_pairFault_27 : decode cX3_pairFault 27 = .ok (.imul, 1) := by decide +kernel
theorem dX3_pairFault_28 : decode cX3_pairFault 28 = .ok (.iadd, 1) := by decide +kernel
theorem dX3_pairFault_29 : decode cX3_pairFault 29 = .ok (.iconst 1, 1) := by decide +kernel
theorem dX3_pairFault_30 : decode cX3_pairFault 30 = .ok (.iadd, 1) := by decide +kernel
theorem dX3_pairFault_31 : decode cX3_pairFault 31 = .ok (.invokevirtual 32, 3) := by decide +kernel
theorem dX3_pairFault_34 : decode cX3_pairFault 34 = .ok (.ireturn, 1) := by decide +kernel
theorem dX3_put_0 : decode cX3_put 0 = .ok (.aload_n 0, 1) := by decide +kernel
theorem dX3_put_1 : decode cX3_put 1 = .ok (.getfield 19, 3) := by decide +kernel
theorem dX3_put_4 : decode cX3_put 4 = .ok (.lookupswitch 50 #[(0, 28), (1, 39)], 28) := by decide +kernel
theorem dX3_put_32 : decode cX3_put 32 = .ok (.aload_n 0, 1) := by decide +kernel
theorem dX3_put_33 : decode cX3_put 33 = .ok (.getfield 9, 3) := by decide +kernel
theorem dX3_put_36 : decode cX3_put 36 = .ok (.iload_n 1, 1) := by decide +kernel
theorem dX3_put_37 : decode cX3_put 37 = .ok (.iload_n 2, 1) := by decide +kernel
theorem dX3_put_38 : decode cX3_put 38 = .ok (.i2b, 1) := by decide +kernel
theorem dX3_put_39 : decode cX3_put 39 = .ok (.iastore, 1) := by decide +kernel
theorem dX3_put_40 : decode cX3_put 40 = .ok (.goto 21, 3) := by decide +kernel
theorem dX3_put_43 : decode cX3_put 43 = .ok (.aload_n 0, 1) := by decide +kernel
theorem dX3_put_44 : decode cX3_put 44 = .ok (.getfield 9, 3) := by decide +kernel
theorem dX3_put_47 : decode cX3_put 47 = .ok (.iload_n 1, 1) := by decide +kernel
theorem dX3_put_48 : decode cX3_put 48 = .ok (.iload_n 2, 1) := by decide +kernel
theorem dX3_put_49 : decode cX3_put 49 = .ok (.i2s, 1) := by decide +kernel
theorem dX3_put_50 : decode cX3_put 50 = .ok (.iastore, 1) := by decide +kernel
theorem dX3_put_51 : decode cX3_put 51 = .ok (.goto 10, 3) := by decide +kernel
theorem dX3_put_54 : decode cX3_put 54 = .ok (.aload_n 0, 1) := by decide +kernel
theorem dX3_put_55 : decode cX3_put 55 = .ok (.getfield 9, 3) := by decide +kernel
theorem dX3_put_58 : decode cX3_put 58 = .ok (.iload_n 1, 1) := by decide +kernel
theorem dX3_put_59 : decode cX3_put 59 = .ok (.iload_n 2, 1) := by decide +kernel
theorem dX3_put_60 : decode cX3_put 60 = .ok (.iastore, 1) := by decide +kernel
theorem dX3_put_61 : decode cX3_put 61 = .ok (.return_, 1) := by decide +kernel
theorem dX4_init_0 : decode cX4_init 0 = .ok (.aload_n 0, 1) := by decide +kernel
theorem dX4_init_1 : decode cX4_init 1 = .ok (.invokespecial 3, 3) := by decide +kernel
theorem dX4_init_4 : decode cX4_init 4 = .ok (.aload_n 0, 1) := by decide +kernel
theorem dX4_init_5 : decode cX4_init 5 = .ok (.sipush 160, 3) := by decide +kernel
theorem dX4_init_8 : decode cX4_init 8 = .ok (.newarray .byte, 2) := by decide +kernel
theorem dX4_init_10 : decode cX4_init 10 = .ok (.putfield 11, 3) := by decide +kernel
theorem dX4_init_13 : decode cX4_init 13 = .ok (.return_, 1) := by decide +kernel
theorem dX4_nameOf_0 : decode cX4_nameOf 0 = .ok (.iload_n 0, 1) := by decide +kernel
theorem dX4_nameOf_1 : decode cX4_nameOf 1 = .ok (.tableswitch 64 0 6 #[43, 46, 49, 52, 55, 58, 61], 43) := by decide +kernel
theorem dX4_nameOf_44 : decode cX4_nameOf 44 = .ok (.ldc 15, 2) := by decide +kernel
theorem dX4_nameOf_46 : decode cX4_nameOf 46 = .ok (.areturn, 1) := by decide +kernel
theorem dX4_nameOf_47 : decode cX4_nameOf 47 = .ok (.ldc 17, 2) := by decide +kernel
theorem dX4_nameOf_49 : decode cX4_nameOf 49 = .ok (.areturn, 1) := by decide +kernel
theorem dX4_nameOf_50 : decode cX4_nameOf 50 = .ok (.ldc 19, 2) := by decide +kernel
theorem dX4_nameOf_52 : decode cX4_nameOf 52 = .ok (.areturn, 1) := by decide +kernel
theorem dX4_nameOf_53 : decode cX4_nameOf 53 = .ok (.ldc 21, 2) := by decide +kernel
theorem dX4_nameOf_55 : decode cX4_nameOf 55 = .ok (.areturn, 1) := by decide +kernel
theorem dX4_nameOf_56 : decode cX4_nameOf 56 = .ok (.ldc 23, 2) := by decide +kernel
theorem dX4_nameOf_58 : decode cX4_nameOf 58 = .ok (.areturn, 1) := by decide +kernel
theorem dX4_nameOf_59 : decode cX4_nameOf 59 = .ok (.ldc 25, 2) := by decide +kernel
theorem dX4_nameOf_61 : decode cX4_nameOf 61 = .ok (.areturn, 1) := by decide +kernel
theorem dX4_nameOf_62 : decode cX4_nameOf 62 = .ok (.ldc 27, 2) := by decide +kernel
theorem dX4_nameOf_64 : decode cX4_nameOf 64 = .ok (.areturn, 1) := by decide +kernel
theorem dX4_nameOf_65 : decode cX4_nameOf 65 = .ok (.ldc 29, 2) := by decide +kernel
theorem dX4_nameOf_67 : decode cX4_nameOf 67 = .ok (.areturn, 1) := by decide +kernel
theorem dX4_readInto_0 : decode cX4_readInto 0 = .ok (.aload_n 1, 1) := by decide +kernel
theorem dX4_readInto_1 : decode cX4_readInto 1 = .ok (.invokevirtual 31, 3) := by decide +kernel
theorem dX4_readInto_4 : decode cX4_readInto 4 = .ok (.aload_n 0, 1) := by decide +kernel
theorem dX4_readInto_5 : decode cX4_readInto 5 = .ok (.iconst 0, 1) := by decide +kernel
theorem dX4_readInto_6 : decode cX4_readInto 6 = .ok (.putfield 36, 3) := by decide +kernel
theorem dX4_readInto_9 : decode cX4_readInto 9 = .ok (.aload_n 0, 1) := by decide +kernel
theorem dX4_readInto_10 : decode cX4_readInto 10 = .ok (.iconst 0, 1) := by decide +kernel
theorem dX4_readInto_11 : decode cX4_readInto 11 = .ok (.putfield 40, 3) := by decide +kernel
theorem dX4_readInto_14 : decode cX4_readInto 14 = .ok (.aload_n 0, 1) := by decide +kernel
theorem dX4_readInto_15 : decode cX4_readInto 15 = .ok (.iconst 0, 1) := by decide +kernel
theorem dX4_readInto_16 : decode cX4_readInto 16 = .ok (.putfield 43, 3) := by decide +kernel
theorem dX4_readInto_19 : decode cX4_readInto 19 = .ok (.iconst 0, 1) := by decide +kernel
theorem dX4_readInto_20 : decode cX4_readInto 20 = .ok (.istore_n 2, 1) := by decide +kernel
theorem dX4_readInto_21 : decode cX4_readInto 21 = .ok (.iload_n 2, 1) := by decide +kernel
theorem dX4_readInto_22 : decode cX4_readInto 22 = .ok (.sipush 160, 3) := by decide +kernel
theorem dX4_readInto_25 : decode cX4_readInto 25 = .ok (.if_icmp .gt 31, 3) := by decide +kernel
theorem dX4_readInto_28 : decode cX4_readInto 28 = .ok (.aload_n 0, 1) := by decide +kernel
theorem dX4_readInto_29 : decode cX4_readInto 29 = .ok (.invokevirtual 46, 3) := by decide +kernel
theorem dX4_readInto_32 : decode cX4_readInto 32 = .ok (.ifCond .eq 24, 3) := by decide +kernel
theorem dX4_readInto_35 : decode cX4_readInto 35 = .ok (.aload_n 0, 1) := by decide +kernel
theorem dX4_readInto_36 : decode cX4_readInto 36 = .ok (.getfield 50, 3) := by decide +kernel
theorem dX4_readInto_39 : decode cX4_readInto 39 = .ok (.ifCond .eq 17, 3) := by decide +kernel
theorem dX4_readInto_42 : decode cX4_readInto 42 = .ok (.aload_n 0, 1) := by decide +kernel
theorem dX4_readInto_43 : decode cX4_readInto 43 = .ok (.aload_n 1, 1) := by decide +kernel
theorem dX4_readInto_44 : decode cX4_readInto 44 = .ok (.invokevirtual 53, 3) := by decide +kernel
theorem dX4_readInto_47 : decode cX4_readInto 47 = .ok (.ifCond .eq 9, 3) := by decide +kernel
theorem dX4_readInto_50 : decode cX4_readInto 50 = .ok (.iinc 2 1, 3) := by decide +kernel
theorem dX4_readInto_53 : decode cX4_readInto 53 = .ok (.goto (-32), 3) := by decide +kernel
theorem dX4_readInto_56 : decode cX4_readInto 56 = .ok (.iload_n 2, 1) := by decide +kernel
theorem dX4_readInto_57 : decode cX4_readInto 57 = .ok (.ireturn, 1) := by decide +kernel
theorem dX4_refuse_0 : decode cX4_refuse 0 = .ok (.aload_n 0, 1) := by decide +kernel
theorem dX4_refuse_1 : decode cX4_refuse 1 = .ok (.iload_n 1, 1) := by decide +kernel
theorem dX4_refuse_2 : decode cX4_refuse 2 = .ok (.putfield 36, 3) := by decide +kernel
theorem dX4_refuse_5 : decode cX4_refuse 5 = .ok (.aload_n 0, 1) := by decide +kernel
theorem dX4_refuse_6 : decode cX4_refuse 6 = .ok (.aload_n 0, 1) := by decide +kernel
theorem dX4_refuse_7 : decode cX4_refuse 7 = .ok (.getfield 57, 3) := by decide +kernel
theorem dX4_refuse_10 : decode cX4_refuse 10 = .ok (.putfield 60, 3) := by decide +kernel
theorem dX4_refuse_13 : decode cX4_refuse 13 = .ok (.iconst 0, 1) := by decide +kernel
theorem dX4_refuse_14 : decode cX4_refuse 14 = .ok (.ireturn, 1) := by decide +kernel
theorem dX4_sortOf_0 : decode cX4_sortOf 0 = .ok (.iload_n 1, 1) := by decide +kernel
theorem dX4_sortOf_1 : decode cX4_sortOf 1 = .ok (.bipush 97, 2) := by decide +kernel
theorem dX4_sortOf_3 : decode cX4_sortOf 3 = .ok (.if_icmp .lt 11, 3) := by decide +kernel
theorem dX4_sortOf_6 : decode cX4_sortOf 6 = .ok (.iload_n 1, 1) := by decide +kernel
theorem dX4_sortOf_7 : decode cX4_sortOf 7 = .ok (.bipush 122, 2) := by decide +kernel
theorem dX4_sortOf_9 : decode cX4_sortOf 9 = .ok (.if_icmp .gt 5, 3) := by decide +kernel
theorem dX4_sortOf_12 : decode cX4_sortOf 12 = .ok (.iconst 1, 1) := by decide +kernel
theorem dX4_sortOf_13 : decode cX4_sortOf 13 = .ok (.ireturn, 1) := by decide +kernel
theorem dX4_sortOf_14 : decode cX4_sortOf 14 = .ok (.iload_n 1, 1) := by decide +kernel
theorem dX4_sortOf_15 : decode cX4_sortOf 15 = .ok (.bipush 48, 2) := by decide +kernel
theorem dX4_sortOf_17 : decode cX4_sortOf 17 = .ok (.if_icmp .lt 11, 3) := by decide +kernel
theorem dX4_sortOf_20 : decode cX4_sortOf 20 = .ok (.iload_n 1, 1) := by decide +kernel
theorem dX4_sortOf_21 : decode cX4_sortOf 21 = .ok (.bipush 57, 2) := by decide +kernel
theorem dX4_sortOf_23 : decode cX4_sortOf 23 = .ok (.if_icmp .gt 5, 3) := by decide +kernel
theorem dX4_sortOf_26 : decode cX4_sortOf 26 = .ok (.iconst 2, 1) := by decide +kernel
theorem dX4_sortOf_27 : decode cX4_sortOf 27 = .ok (.ireturn, 1) := by decide +kernel
theorem dX4_sortOf_28 : decode cX4_sortOf 28 = .ok (.iload_n 1, 1) := by decide +kernel
theorem dX4_sortOf_29 : decode cX4_sortOf 29 = .ok (.bipush 59, 2) := by decide +kernel
theorem dX4_sortOf_31 : decode cX4_sortOf 31 = .ok (.if_icmp .ne 7, 3) := by decide +kernel
theorem dX4_sortOf_34 : decode cX4_sortOf 34 = .ok (.iconst 3, 1) := by decide +kernel
theorem dX4_sortOf_35 : decode cX4_sortOf 35 = .ok (.goto 4, 3) := by decide +kernel
theorem dX4_sortOf_38 : decode cX4_sortOf 38 = .ok (.iconst 4, 1) := by decide +kernel
theorem dX4_sortOf_39 : decode cX4_sortOf 39 = .ok (.ireturn, 1) := by decide +kernel
theorem dX4_step_0 : decode cX4_step 0 = .ok (.aload_n 0, 1) := by decide +kernel
theorem dX4_step_1 : decode cX4_step 1 = .ok (.getfield 40, 3) := by decide +kernel
theorem dX4_step_4 : decode cX4_step 4 = .ok (.aload_n 0, 1) := by decide +kernel
theorem dX4_step_5 : decode cX4_step 5 = .ok (.getfield 63, 3) := by decide +kernel
theorem dX4_step_8 : decode cX4_step 8 = .ok (.if_icmp .ge 30, 3) := by decide +kernel
theorem dX4_step_11 : decode cX4_step 11 = .ok (.aload_n 0, 1) := by decide +kernel
theorem dX4_step_12 : decode cX4_step 12 = .ok (.getfield 11, 3) := by decide +kernel
theorem dX4_step_15 : decode cX4_step 15 = .ok (.aload_n 0, 1) := by decide +kernel
theorem dX4_step_16 : decode cX4_step 16 = .ok (.getfield 40, 3) := by decide +kernel
theorem dX4_step_19 : decode cX4_step 19 = .ok (.baload, 1) := by decide +kernel
theorem dX4_step_20 : decode cX4_step 20 = .ok (.bipush 32, 2) := by decide +kernel
theorem dX4_step_22 : decode cX4_step 22 = .ok (.if_icmp .ne 16, 3) := by decide +kernel
theorem dX4_step_25 : decode cX4_step 25 = .ok (.aload_n 0, 1) := by decide +kernel
theorem dX4_step_26 : decode cX4_step 26 = .ok (.dup, 1) := by decide +kernel
theorem dX4_step_27 : decode cX4_step 27 = .ok (.getfield 40, 3) := by decide +kernel
theorem dX4_step_30 : decode cX4_step 30 = .ok (.iconst 1, 1) := by decide +kernel
theorem dX4_step_31 : decode cX4_step 31 = .ok (.iadd, 1) := by decide +kernel
theorem dX4_step_32 : decode cX4_step 32 = .ok (.putfield 40, 3) := by decide +kernel
theorem dX4_step_35 : decode cX4_step 35 = .ok (.goto (-35), 3) := by decide +kernel
theorem dX4_step_38 : decode cX4_step 38 = .ok (.aload_n 0, 1) := by decide +kernel
theorem dX4_step_39 : decode cX4_step 39 = .ok (.aload_n 0, 1) := by decide +kernel
theorem dX4_step_40 : decode cX4_step 40 = .ok (.getfield 40, 3) := by decide +kernel
theorem dX4_step_43 : decode cX4_step 43 = .ok (.putfield 57, 3) := by decide +kernel
theorem dX4_step_46 : decode cX4_step 46 = .ok (.aload_n 0, 1) := by decide +kernel
theorem dX4_step_47 : decode cX4_step 47 = .ok (.getfield 40, 3) := by decide +kernel
theorem dX4_step_50 : decode cX4_step 50 = .ok (.aload_n 0, 1) := by decide +kernel
theorem dX4_step_51 : decode cX4_step 51 = .ok (.getfield 63, 3) := by decide +kernel
theorem dX4_step_54 : decode cX4_step 54 = .ok (.if_icmp .lt 10, 3) := by decide +kernel
theorem dX4_step_57 : decode cX4_step 57 = .ok (.aload_n 0, 1) := by decide +kernel
theorem dX4_step_58 : decode cX4_step 58 = .ok (.iconst 0, 1) := by decide +kernel
theorem dX4_step_59 : decode cX4_step 59 = .ok (.putfield 50, 3) := by decide +kernel
theorem dX4_step_62 : decode cX4_step 62 = .ok (.iconst 1, 1) := by decide +kernel
theorem dX4_step_63 : decode cX4_step 63 = .ok (.ireturn, 1) := by decide +kernel
theorem dX4_step_64 : decode cX4_step 64 = .ok (.aload_n 0, 1) := by decide +kernel
theorem dX4_step_65 : decode cX4_step 65 = .ok (.aload_n 0, 1) := by decide +kernel
theorem dX4_step_66 : decode cX4_step 66 = .ok (.aload_n 0, 1) := by decide +kernel
theorem dX4_step_67 : decode cX4_step 67 = .ok (.getfield 11, 3) := by decide +kernel
theorem dX4_step_70 : decode cX4_step 70 = .ok (.aload_n 0, 1) := by decide +kernel
theorem dX4_step_71 : decode cX4_step 71 = .ok (.getfield 40, 3) := by decide +kernel
theorem dX4_step_74 : decode cX4_step 74 = .ok (.baload, 1) := by decide +kernel
theorem dX4_step_75 : decode cX4_step 75 = .ok (.invokevirtual 66, 3) := by decide +kernel
theorem dX4_step_78 : decode cX4_step 78 = .ok (.putfield 50, 3) := by decide +kernel
theorem dX4_step_81 : decode cX4_step 81 = .ok (.aload_n 0, 1) := by decide +kernel
theorem dX4_step_82 : decode cX4_step 82 = .ok (.dup, 1) := by decide +kernel
theorem dX4_step_83 : decode cX4_step 83 = .ok (.getfield 40, 3) := by decide +kernel
theorem dX4_step_86 : decode cX4_step 86 = .ok (.iconst 1, 1) := by decide +kernel
theorem dX4_step_87 : decode cX4_step 87 = .ok (.iadd, 1) := by decide +kernel
theorem dX4_step_88 : decode cX4_step 88 = .ok (.putfield 40, 3) := by decide +kernel
theorem dX4_step_91 : decode cX4_step 91 = .ok (.aload_n 0, 1) := by decide +kernel
theorem dX4_step_92 : decode cX4_step 92 = .ok (.getfield 50, 3) := by decide +kernel
theorem dX4_step_95 : decode cX4_step 95 = .ok (.iconst 3, 1) := by decide +kernel
theorem dX4_step_96 : decode cX4_step 96 = .ok (.if_icmp .eq 47, 3) := by decide +kernel
theorem dX4_step_99 : decode cX4_step 99 = .ok (.aload_n 0, 1) := by decide +kernel
theorem dX4_step_100 : decode cX4_step 100 = .ok (.getfield 40, 3) := by decide +kernel
theorem dX4_step_103 : decode cX4_step 103 = .ok (.aload_n 0, 1) := by decide +kernel
theorem dX4_step_104 : decode cX4_step 104 = .ok (.getfield 63, 3) := by decide +kernel
theorem dX4_step_107 : decode cX4_step 107 = .ok (.if_icmp .ge 36, 3) := by decide +kernel
theorem dX4_step_110 : decode cX4_step 110 = .ok (.aload_n 0, 1) := by decide +kernel
theorem dX4_step_111 : decode cX4_step 111 = .ok (.aload_n 0, 1) := by decide +kernel
theorem dX4_step_112 : decode cX4_step 112 = .ok (.getfield 11, 3) := by decide +kernel
theorem dX4_step_115 : decode cX4_step 115 = .ok (.aload_n 0, 1) := by decide +kernel
theorem dX4_step_116 : decode cX4_step 116 = .ok (.getfield 40, 3) := by decide +kernel
theorem dX4_step_119 : decode cX4_step 119 = .ok (.baload, 1) := by decide +kernel
theorem dX4_step_120 : decode cX4_step 120 = .ok (.invokevirtual 66, 3) := by decide +kernel
theorem dX4_step_123 : decode cX4_step 123 = .ok (.aload_n 0, 1) := by decide +kernel
theorem dX4_step_124 : decode cX4_step 124 = .ok (.getfield 50, 3) := by decide +kernel
theorem dX4_step_127 : decode cX4_step 127 = .ok (.if_icmp .ne 16, 3) := by decide +kernel
theorem dX4_step_130 : decode cX4_step 130 = .ok (.aload_n 0, 1) := by decide +kernel
theorem dX4_step_131 : decode cX4_step 131 = .ok (.dup, 1) := by decide +kernel
theorem dX4_step_132 : decode cX4_step 132 = .ok (.getfield 40, 3) := by decide +kernel
theorem dX4_step_135 : decode cX4_step 135 = .ok (.iconst 1, 1) := by decide +kernel
theorem dX4_step_136 : decode cX4_step 136 = .ok (.iadd, 1) := by decide +kernel
theorem dX4_step_137 : decode cX4_step 137 = .ok (.putfield 40, 3) := by decide +kernel
theorem dX4_step_140 : decode cX4_step 140 = .ok (.goto (-49), 3) := by decide +kernel
theorem dX4_step_143 : decode cX4_step 143 = .ok (.aload_n 0, 1) := by decide +kernel
theorem dX4_step_144 : decode cX4_step 144 = .ok (.getfield 50, 3) := by decide +kernel
theorem dX4_step_147 : decode cX4_step 147 = .ok (.iconst 4, 1) := by decide +kernel
theorem dX4_step_148 : decode cX4_step 148 = .ok (.if_icmp .eq 28, 3) := by decide +kernel
theorem dX4_step_151 : decode cX4_step 151 = .ok (.aload_n 0, 1) := by decide +kernel
theorem dX4_step_152 : decode cX4_step 152 = .ok (.getfield 50, 3) := by decide +kernel
theorem dX4_step_155 : decode cX4_step 155 = .ok (.iconst 2, 1) := by decide +kernel
theorem dX4_step_156 : decode cX4_step 156 = .ok (.if_icmp .ne 16, 3) := by decide +kernel
theorem dX4_step_159 : decode cX4_step 159 = .ok (.aload_n 0, 1) := by decide +kernel
theorem dX4_step_160 : decode cX4_step 160 = .ok (.getfield 40, 3) := by decide +kernel
theorem dX4_step_163 : decode cX4_step 163 = .ok (.aload_n 0, 1) := by decide +kernel
theorem dX4_step_164 : decode cX4_step 164 = .ok (.getfield 57, 3) := by decide +kernel
theorem dX4_step_167 : decode cX4_step 167 = .ok (.isub, 1) := by decide +kernel
theorem dX4_step_168 : decode cX4_step 168 = .ok (.iconst 3, 1) := by decide +kernel
theorem dX4_step_169 : decode cX4_step 169 = .ok (.if_icmp .gt 7, 3) := by decide +kernel
theorem dX4_step_172 : decode cX4_step 172 = .ok (.iconst 1, 1) := by decide +kernel
theorem dX4_step_173 : decode cX4_step 173 = .ok (.goto 4, 3) := by decide +kernel
theorem dX4_step_176 : decode cX4_step 176 = .ok (.iconst 0, 1) := by decide +kernel
theorem dX4_step_177 : decode cX4_step 177 = .ok (.istore_n 1, 1) := by decide +kernel
theorem dX4_step_178 : decode cX4_step 178 = .ok (.iload_n 1, 1) := by decide +kernel
theorem dX4_step_179 : decode cX4_step 179 = .ok (.ifCond .ne 11, 3) := by decide +kernel
theorem dX4_step_182 : decode cX4_step 182 = .ok (.aload_n 0, 1) := by decide +kernel
theorem dX4_step_183 : decode cX4_step 183 = .ok (.iconst 1, 1) := by decide +kernel
theorem dX4_step_184 : decode cX4_step 184 = .ok (.invokevirtual 70, 3) := by decide +kernel
theorem dX4_step_187 : decode cX4_step 187 = .ok (.ifCond .eq 7, 3) := by decide +kernel
theorem dX4_step_190 : decode cX4_step 190 = .ok (.iconst 1, 1) := by decide +kernel
theorem dX4_step_191 : decode cX4_step 191 = .ok (.goto 4, 3) := by decide +kernel
theorem dX4_step_194 : decode cX4_step 194 = .ok (.iconst 0, 1) := by decide +kernel
theorem dX4_step_195 : decode cX4_step 195 = .ok (.ireturn, 1) := by decide +kernel
theorem dX4_stepTo_0 : decode cX4_stepTo 0 = .ok (.aload_n 0, 1) := by decide +kernel
theorem dX4_stepTo_1 : decode cX4_stepTo 1 = .ok (.invokevirtual 46, 3) := by decide +kernel
theorem dX4_stepTo_4 : decode cX4_stepTo 4 = .ok (.ifCond .eq 23, 3) := by decide +kernel
theorem dX4_stepTo_7 : decode cX4_stepTo 7 = .ok (.aload_n 0, 1) := by decide +kernel
theorem dX4_stepTo_8 : decode cX4_stepTo 8 = .ok (.getfield 50, 3) := by decide +kernel
theorem dX4_stepTo_11 : decode cX4_stepTo 11 = .ok (.iload_n 1, 1) := by decide +kernel
theorem dX4_stepTo_12 : decode cX4_stepTo 12 = .ok (.if_icmp .eq 11, 3) := by decide +kernel
theorem dX4_stepTo_15 : decode cX4_stepTo 15 = .ok (.aload_n 0, 1) := by decide +kernel
theorem dX4_stepTo_16 : decode cX4_stepTo 16 = .ok (.iconst 2, 1) := by decide +kernel
theorem dX4_stepTo_17 : decode cX4_stepTo 17 = .ok (.invokevirtual 70, 3) := by decide +kernel
theorem dX4_stepTo_20 : decode cX4_stepTo 20 = .ok (.ifCond .eq 7, 3) := by decide +kernel
theorem dX4_stepTo_23 : decode cX4_stepTo 23 = .ok (.iconst 1, 1) := by decide +kernel
theorem dX4_stepTo_24 : decode cX4_stepTo 24 = .ok (.goto 4, 3) := by decide +kernel
theorem dX4_stepTo_27 : decode cX4_stepTo 27 = .ok (.iconst 0, 1) := by decide +kernel
theorem dX4_stepTo_28 : decode cX4_stepTo 28 = .ok (.ireturn, 1) := by decide +kernel
theorem dX4_takeNumber_0 : decode cX4_takeNumber 0 = .ok (.aload_n 0, 1) := by decide +kernel
theorem dX4_takeNumber_1 : decode cX4_takeNumber 1 = .ok (.iconst 0, 1) := by decide +kernel
theorem dX4_takeNumber_2 : decode cX4_takeNumber 2 = .ok (.putfield 74, 3) := by decide +kernel
theorem dX4_takeNumber_5 : decode cX4_takeNumber 5 = .ok (.aload_n 0, 1) := by decide +kernel
theorem dX4_takeNumber_6 : decode cX4_takeNumber 6 = .ok (.getfield 57, 3) := by decide +kernel
theorem dX4_takeNumber_9 : decode cX4_takeNumber 9 = .ok (.istore_n 3, 1) := by decide +kernel
theorem dX4_takeNumber_10 : decode cX4_takeNumber 10 = .ok (.iload_n 3, 1) := by decide +kernel
theorem dX4_takeNumber_11 : decode cX4_takeNumber 11 = .ok (.aload_n 0, 1) := by decide +kernel
theorem dX4_takeNumber_12 : decode cX4_takeNumber 12 = .ok (.getfield 40, 3) := by decide +kernel
theorem dX4_takeNumber_15 : decode cX4_takeNumber 15 = .ok (.if_icmp .ge 30, 3) := by decide +kernel
theorem dX4_takeNumber_18 : decode cX4_takeNumber 18 = .ok (.aload_n 0, 1) := by decide +kernel
theorem dX4_takeNumber_19 : decode cX4_takeNumber 19 = .ok (.aload_n 0, 1) := by decide +kernel
theorem dX4_takeNumber_20 : decode cX4_takeNumber 20 = .ok (.getfield 74, 3) := by decide +kernel
theorem dX4_takeNumber_23 : decode cX4_takeNumber 23 = .ok (.bipush 10, 2) := by decide +kernel
theorem dX4_takeNumber_25 : decode cX4_takeNumber 25 = .ok (.imul, 1) := by decide +kernel
theorem dX4_takeNumber_26 : decode cX4_takeNumber 26 = .ok (.aload_n 0, 1) := by decide +kernel
theorem dX4_takeNumber_27 : decode cX4_takeNumber 27 = .ok (.getfield 11, 3) := by decide +kernel
theorem dX4_takeNumber_30 : decode cX4_takeNumber 30 = .ok (.iload_n 3, 1) := by decide +kernel
theorem dX4_takeNumber_31 : decode cX4_takeNumber 31 = .ok (.baload, 1) := by decide +kernel
theorem dX4_takeNumber_32 : decode cX4_takeNumber 32 = .ok (.iadd, 1) := by decide +kernel
theorem dX4_takeNumber_33 : decode cX4_takeNumber 33 = .ok (.bipush 48, 2) := by decide +kernel
theorem dX4_takeNumber_35 : decode cX4_takeNumber 35 = .ok (.isub, 1) := by decide +kernel
theorem dX4_takeNumber_36 : decode cX4_takeNumber 36 = .ok (.putfield 74, 3) := by decide +kernel
theorem dX4_takeNumber_39 : decode cX4_takeNumber 39 = .ok (.iinc 3 1, 3) := by decide +kernel
theorem dX4_takeNumber_42 : decode cX4_takeNumber 42 = .ok (.goto (-32), 3) := by decide +kernel
theorem dX4_takeNumber_45 : decode cX4_takeNumber 45 = .ok (.aload_n 0, 1) := by decide +kernel
theorem dX4_takeNumber_46 : decode cX4_takeNumber 46 = .ok (.getfield 74, 3) := by decide +kernel
theorem dX4_takeNumber_49 : decode cX4_takeNumber 49 = .ok (.iload_n 1, 1) := by decide +kernel
theorem dX4_takeNumber_50 : decode cX4_takeNumber 50 = .ok (.if_icmp .lt 11, 3) := by decide +kernel
theorem dX4_takeNumber_53 : decode cX4_takeNumber 53 = .ok (.aload_n 0, 1) := by decide +kernel
theorem dX4_takeNumber_54 : decode cX4_takeNumber 54 = .ok (.getfield 74, 3) := by decide +kernel
theorem dX4_takeNumber_57 : decode cX4_takeNumber 57 = .ok (.iload_n 2, 1) := by decide +kernel
theorem dX4_takeNumber_58 : decode cX4_takeNumber 58 = .ok (.if_icmp .le 11, 3) := by decide +kernel
theorem dX4_takeNumber_61 : decode cX4_takeNumber 61 = .ok (.aload_n 0, 1) := by decide +kernel
theorem dX4_takeNumber_62 : decode cX4_takeNumber 62 = .ok (.iconst 3, 1) := by decide +kernel
theorem dX4_takeNumber_63 : decode cX4_takeNumber 63 = .ok (.invokevirtual 70, 3) := by decide +kernel
theorem dX4_takeNumber_66 : decode cX4_takeNumber 66 = .ok (.ifCond .eq 7, 3) := by decide +kernel
theorem dX4_takeNumber_69 : decode cX4_takeNumber 69 = .ok (.iconst 1, 1) := by decide +kernel
theorem dX4_takeNumber_70 : decode cX4_takeNumber 70 = .ok (.goto 4, 3) := by decide +kernel
theorem dX4_takeNumber_73 : decode cX4_takeNumber 73 = .ok (.iconst 0, 1) := by decide +kernel
theorem dX4_takeNumber_74 : decode cX4_takeNumber 74 = .ok (.ireturn, 1) := by decide +kernel
theorem dX4_isName_0 : decode cX4_isName 0 = .ok (.aload_n 1, 1) := by decide +kernel
theorem dX4_isName_1 : decode cX4_isName 1 = .ok (.invokevirtual 77, 3) := by decide +kernel
theorem dX4_isName_4 : decode cX4_isName 4 = .ok (.aload_n 0, 1) := by decide +kernel
theorem dX4_isName_5 : decode cX4_isName 5 = .ok (.getfield 40, 3) := by decide +kernel
theorem dX4_isName_8 : decode cX4_isName 8 = .ok (.aload_n 0, 1) := by decide +kernel
theorem dX4_isName_9 : decode cX4_isName 9 = .ok (.getfield 57, 3) := by decide +kernel
theorem dX4_isName_12 : decode cX4_isName 12 = .ok (.isub, 1) := by decide +kernel
theorem dX4_isName_13 : decode cX4_isName 13 = .ok (.if_icmp .eq 5, 3) := by decide +kernel
theorem dX4_isName_16 : decode cX4_isName 16 = .ok (.iconst 0, 1) := by decide +kernel
theorem dX4_isName_17 : decode cX4_isName 17 = .ok (.ireturn, 1) := by decide +kernel
theorem dX4_isName_18 : decode cX4_isName 18 = .ok (.iconst 0, 1) := by decide +kernel
theorem dX4_isName_19 : decode cX4_isName 19 = .ok (.istore_n 2, 1) := by decide +kernel
theorem dX4_isName_20 : decode cX4_isName 20 = .ok (.iload_n 2, 1) := by decide +kernel
theorem dX4_isName_21 : decode cX4_isName 21 = .ok (.aload_n 1, 1) := by decide +kernel
theorem dX4_isName_22 : decode cX4_isName 22 = .ok (.invokevirtual 77, 3) := by decide +kernel
theorem dX4_isName_25 : decode cX4_isName 25 = .ok (.if_icmp .ge 30, 3) := by decide +kernel
theorem dX4_isName_28 : decode cX4_isName 28 = .ok (.aload_n 0, 1) := by decide +kernel
theorem dX4_isName_29 : decode cX4_isName 29 = .ok (.getfield 11, 3) := by decide +kernel
theorem dX4_isName_32 : decode cX4_isName 32 = .ok (.aload_n 0, 1) := by decide +kernel
theorem dX4_isName_33 : decode cX4_isName 33 = .ok (.getfield 57, 3) := by decide +kernel
theorem dX4_isName_36 : decode cX4_isName 36 = .ok (.iload_n 2, 1) := by decide +kernel
theorem dX4_isName_37 : decode cX4_isName 37 = .ok (.iadd, 1) := by decide +kernel
theorem dX4_isName_38 : decode cX4_isName 38 = .ok (.baload, 1) := by decide +kernel
theorem dX4_isName_39 : decode cX4_isName 39 = .ok (.aload_n 1, 1) := by decide +kernel
theorem dX4_isName_40 : decode cX4_isName 40 = .ok (.iload_n 2, 1) := by decide +kernel
theorem dX4_isName_41 : decode cX4_isName 41 = .ok (.invokevirtual 83, 3) := by decide +kernel
theorem dX4_isName_44 : decode cX4_isName 44 = .ok (.if_icmp .eq 5, 3) := by decide +kernel
theorem dX4_isName_47 : decode cX4_isName 47 = .ok (.iconst 0, 1) := by decide +kernel
theorem dX4_isName_48 : decode cX4_isName 48 = .ok (.ireturn, 1) := by decide +kernel
theorem dX4_isName_49 : decode cX4_isName 49 = .ok (.iinc 2 1, 3) := by decide +kernel
theorem dX4_isName_52 : decode cX4_isName 52 = .ok (.goto (-32), 3) := by decide +kernel
theorem dX4_isName_55 : decode cX4_isName 55 = .ok (.iconst 1, 1) := by decide +kernel
theorem dX4_isName_56 : decode cX4_isName 56 = .ok (.ireturn, 1) := by decide +kernel
theorem dX4_nameIndex_0 : decode cX4_nameIndex 0 = .ok (.iconst 0, 1) := by decide +kernel
theorem dX4_nameIndex_1 : decode cX4_nameIndex 1 = .ok (.istore_n 1, 1) := by decide +kernel
theorem dX4_nameIndex_2 : decode cX4_nameIndex 2 = .ok (.iload_n 1, 1) := by decide +kernel
theorem dX4_nameIndex_3 : decode cX4_nameIndex 3 = .ok (.bipush 8, 2) := by decide +kernel
theorem dX4_nameIndex_5 : decode cX4_nameIndex 5 = .ok (.if_icmp .ge 22, 3) := by decide +kernel
theorem dX4_nameIndex_8 : decode cX4_nameIndex 8 = .ok (.aload_n 0, 1) := by decide +kernel
theorem dX4_nameIndex_9 : decode cX4_nameIndex 9 = .ok (.iload_n 1, 1) := by decide +kernel
theorem dX4_nameIndex_10 : decode cX4_nameIndex 10 = .ok (.invokestatic 87, 3) := by decide +kernel
theorem dX4_nameIndex_13 : decode cX4_nameIndex 13 = .ok (.invokevirtual 91, 3) := by decide +kernel
theorem dX4_nameIndex_16 : decode cX4_nameIndex 16 = .ok (.ifCond .eq 5, 3) := by decide +kernel
theorem dX4_nameIndex_19 : decode cX4_nameIndex 19 = .ok (.iload_n 1, 1) := by decide +kernel
theorem dX4_nameIndex_20 : decode cX4_nameIndex 20 = .ok (.ireturn, 1) := by decide +kernel
theorem dX4_nameIndex_21 : decode cX4_nameIndex 21 = .ok (.iinc 1 1, 3) := by decide +kernel
theorem dX4_nameIndex_24 : decode cX4_nameIndex 24 = .ok (.goto (-22), 3) := by decide +kernel
theorem dX4_nameIndex_27 : decode cX4_nameIndex 27 = .ok (.bipush (-4), 2) := by decide +kernel
theorem dX4_nameIndex_29 : decode cX4_nameIndex 29 = .ok (.ireturn, 1) := by decide +kernel
theorem dX4_readLine_0 : decode cX4_readLine 0 = .ok (.aload_n 0, 1) := by decide +kernel
theorem dX4_readLine_1 : decode cX4_readLine 1 = .ok (.invokevirtual 95, 3) := by decide +kernel
theorem dX4_readLine_4 : decode cX4_readLine 4 = .ok (.istore_n 2, 1) := by decide +kernel
theorem dX4_readLine_5 : decode cX4_readLine 5 = .ok (.iload_n 2, 1) := by decide +kernel
theorem dX4_readLine_6 : decode cX4_readLine 6 = .ok (.bipush (-4), 2) := by decide +kernel
theorem dX4_readLine_8 : decode cX4_readLine 8 = .ok (.if_icmp .ne 9, 3) := by decide +kernel
theorem dX4_readLine_11 : decode cX4_readLine 11 = .ok (.aload_n 0, 1) := by decide +kernel
theorem dX4_readLine_12 : decode cX4_readLine 12 = .ok (.iconst 2, 1) := by decide +kernel
theorem dX4_readLine_13 : decode cX4_readLine 13 = .ok (.invokevirtual 70, 3) := by decide +kernel
theorem dX4_readLine_16 : decode cX4_readLine 16 = .ok (.ireturn, 1) := by decide +kernel
theorem dX4_readLine_17 : decode cX4_readLine 17 = .ok (.iload_n 2, 1) := by decide +kernel
theorem dX4_readLine_18 : decode cX4_readLine 18 = .ok (.iconst 4, 1) := by decide +kernel
theorem dX4_readLine_19 : decode cX4_readLine 19 = .ok (.if_icmp .ge 10, 3) := by decide +kernel
theorem dX4_readLine_22 : decode cX4_readLine 22 = .ok (.aload_n 0, 1) := by decide +kernel
theorem dX4_readLine_23 : decode cX4_readLine 23 = .ok (.aload_n 1, 1) := by decide +kernel
theorem dX4_readLine_24 : decode cX4_readLine 24 = .ok (.iload_n 2, 1) := by decide +kernel
theorem dX4_readLine_25 : decode cX4_readLine 25 = .ok (.invokevirtual 98, 3) := by decide +kernel
theorem dX4_readLine_28 : decode cX4_readLine 28 = .ok (.ireturn, 1) := by decide +kernel
theorem dX4_readLine_29 : decode cX4_readLine 29 = .ok (.aload_n 0, 1) := by decide +kernel
theorem dX4_readLine_30 : decode cX4_readLine 30 = .ok (.getfield 43, 3) := by decide +kernel
theorem dX4_readLine_33 : decode cX4_readLine 33 = .ok (.iload_n 2, 1) := by decide +kernel
theorem dX4_readLine_34 : decode cX4_readLine 34 = .ok (.ishr, 1) := by decide +kernel
theorem dX4_readLine_35 : decode cX4_readLine 35 = .ok (.iconst 1, 1) := by decide +kernel
theorem dX4_readLine_36 : decode cX4_readLine 36 = .ok (.iand, 1) := by decide +kernel
theorem dX4_readLine_37 : decode cX4_readLine 37 = .ok (.iconst 1, 1) := by decide +kernel
theorem dX4_readLine_38 : decode cX4_readLine 38 = .ok (.if_icmp .ne 9, 3) := by decide +kernel
theorem dX4_readLine_41 : decode cX4_readLine 41 = .ok (.aload_n 0, 1) := by decide +kernel
theorem dX4_readLine_42 : decode cX4_readLine 42 = .ok (.iconst 4, 1) := by decide +kernel
theorem dX4_readLine_43 : decode cX4_readLine 43 = .ok (.invokevirtual 70, 3) := by decide +kernel
theorem dX4_readLine_46 : decode cX4_readLine 46 = .ok (.ireturn, 1) := by decide +kernel
theorem dX4_readLine_47 : decode cX4_readLine 47 = .ok (.aload_n 0, 1) := by decide +kernel
theorem dX4_readLine_48 : decode cX4_readLine 48 = .ok (.dup, 1) := by decide +kernel
theorem dX4_readLine_49 : decode cX4_readLine 49 = .ok (.getfield 43, 3) := by decide +kernel
theorem dX4_readLine_52 : decode cX4_readLine 52 = .ok (.iconst 1, 1) := by decide +kernel
theorem dX4_readLine_53 : decode cX4_readLine 53 = .ok (.iload_n 2, 1) := by decide +kernel
theorem dX4_readLine_54 : decode cX4_readLine 54 = .ok (.ishl, 1) := by decide +kernel
theorem dX4_readLine_55 : decode cX4_readLine 55 = .ok (.ior, 1) := by decide +kernel
theorem dX4_readLine_56 : decode cX4_readLine 56 = .ok (.putfield 43, 3) := by decide +kernel
theorem dX4_readLine_59 : decode cX4_readLine 59 = .ok (.iload_n 2, 1) := by decide +kernel
theorem dX4_readLine_60 : decode cX4_readLine 60 = .ok (.bipush 7, 2) := by decide +kernel
theorem dX4_readLine_62 : decode cX4_readLine 62 = .ok (.if_icmp .ne 11, 3) := by decide +kernel
theorem dX4_readLine_65 : decode cX4_readLine 65 = .ok (.aload_n 0, 1) := by decide +kernel
theorem dX4_readLine_66 : decode cX4_readLine 66 = .ok (.aload_n 1, 1) := by decide +kernel
theorem dX4_readLine_67 : decode cX4_readLine 67 = .ok (.invokevirtual 102, 3) := by decide +kernel
theorem dX4_readLine_70 : decode cX4_readLine 70 = .ok (.goto 11, 3) := by decide +kernel
theorem dX4_readLine_73 : decode cX4_readLine 73 = .ok (.aload_n 0, 1) := by decide +kernel
theorem dX4_readLine_74 : decode cX4_readLine 74 = .ok (.aload_n 1, 1) := by decide +kernel
theorem dX4_readLine_75 : decode cX4_readLine 75 = .ok (.iload_n 2, 1) := by decide +kernel
theorem dX4_readLine_76 : decode cX4_readLine 76 = .ok (.iconst 4, 1) := by decide +kernel
theorem dX4_readLine_77 : decode cX4_readLine 77 = .ok (.isub, 1) := by decide +kernel
theorem dX4_readLine_78 : decode cX4_readLine 78 = .ok (.invokevirtual 105, 3) := by decide +kernel
theorem dX4_readLine_81 : decode cX4_readLine 81 = .ok (.ireturn, 1) := by decide +kernel
theorem dX4_readHead_0 : decode cX4_readHead 0 = .ok (.aload_n 1, 1) := by decide +kernel
theorem dX4_readHead_1 : decode cX4_readHead 1 = .ok (.getfield 108, 3) := by decide +kernel
theorem dX4_readHead_4 : decode cX4_readHead 4 = .ok (.iconst 3, 1) := by decide +kernel
theorem dX4_readHead_5 : decode cX4_readHead 5 = .ok (.if_icmp .lt 9, 3) := by decide +kernel
theorem dX4_readHead_8 : decode cX4_readHead 8 = .ok (.aload_n 0, 1) := by decide +kernel
theorem dX4_readHead_9 : decode cX4_readHead 9 = .ok (.iconst 5, 1) := by decide +kernel
theorem dX4_readHead_10 : decode cX4_readHead 10 = .ok (.invokevirtual 70, 3) := by decide +kernel
theorem dX4_readHead_13 : decode cX4_readHead 13 = .ok (.ireturn, 1) := by decide +kernel
theorem dX4_readHead_14 : decode cX4_readHead 14 = .ok (.aload_n 0, 1) := by decide +kernel
theorem dX4_readHead_15 : decode cX4_readHead 15 = .ok (.iconst 2, 1) := by decide +kernel
theorem dX4_readHead_16 : decode cX4_readHead 16 = .ok (.invokevirtual 111, 3) := by decide +kernel
theorem dX4_readHead_19 : decode cX4_readHead 19 = .ok (.ifCond .eq 13, 3) := by decide +kernel
theorem dX4_readHead_22 : decode cX4_readHead 22 = .ok (.aload_n 0, 1) := by decide +kernel
theorem dX4_readHead_23 : decode cX4_readHead 23 = .ok (.iconst 0, 1) := by decide +kernel
theorem dX4_readHead_24 : decode cX4_readHead 24 = .ok (.bipush 30, 2) := by decide +kernel
theorem dX4_readHead_26 : decode cX4_readHead 26 = .ok (.invokevirtual 114, 3) := by decide +kernel
theorem dX4_readHead_29 : decode cX4_readHead 29 = .ok (.ifCond .ne 5, 3) := by decide +kernel
theorem dX4_readHead_32 : decode cX4_readHead 32 = .ok (.iconst 0, 1) := by decide +kernel
theorem dX4_readHead_33 : decode cX4_readHead 33 = .ok (.ireturn, 1) := by decide +kernel
theorem dX4_readHead_34 : decode cX4_readHead 34 = .ok (.aload_n 1, 1) := by decide +kernel
theorem dX4_readHead_35 : decode cX4_readHead 35 = .ok (.getfield 118, 3) := by decide +kernel
theorem dX4_readHead_38 : decode cX4_readHead 38 = .ok (.aload_n 1, 1) := by decide +kernel
theorem dX4_readHead_39 : decode cX4_readHead 39 = .ok (.getfield 108, 3) := by decide +kernel
theorem dX4_readHead_42 : decode cX4_readHead 42 = .ok (.aaload, 1) := by decide +kernel
theorem dX4_readHead_43 : decode cX4_readHead 43 = .ok (.iload_n 2, 1) := by decide +kernel
theorem dX4_readHead_44 : decode cX4_readHead 44 = .ok (.aload_n 0, 1) := by decide +kernel
theorem dX4_readHead_45 : decode cX4_readHead 45 = .ok (.getfield 74, 3) := by decide +kernel
theorem dX4_readHead_48 : decode cX4_readHead 48 = .ok (.invokevirtual 122, 3) := by decide +kernel
theorem dX4_readHead_51 : decode cX4_readHead 51 = .ok (.aload_n 1, 1) := by decide +kernel
theorem dX4_readHead_52 : decode cX4_readHead 52 = .ok (.dup, 1) := by decide +kernel
theorem dX4_readHead_53 : decode cX4_readHead 53 = .ok (.getfield 108, 3) := by decide +kernel
theorem dX4_readHead_56 : decode cX4_readHead 56 = .ok (.iconst 1, 1) := by decide +kernel
theorem dX4_readHead_57 : decode cX4_readHead 57 = .ok (.iadd, 1) := by decide +kernel
theorem dX4_readHead_58 : decode cX4_readHead 58 = .ok (.putfield 108, 3) := by decide +kernel
theorem dX4_readHead_61 : decode cX4_readHead 61 = .ok (.aload_n 0, 1) := by decide +kernel
theorem dX4_readHead_62 : decode cX4_readHead 62 = .ok (.iconst 3, 1) := by decide +kernel
theorem dX4_readHead_63 : decode cX4_readHead 63 = .ok (.invokevirtual 111, 3) := by decide +kernel
theorem dX4_readHead_66 : decode cX4_readHead 66 = .ok (.ireturn, 1) := by decide +kernel
theorem dX4_readRule_0 : decode cX4_readRule 0 = .ok (.aload_n 0, 1) := by decide +kernel
theorem dX4_readRule_1 : decode cX4_readRule 1 = .ok (.iconst 2, 1) := by decide +kernel
theorem dX4_readRule_2 : decode cX4_readRule 2 = .ok (.invokevirtual 111, 3) := by decide +kernel
theorem dX4_readRule_5 : decode cX4_readRule 5 = .ok (.ifCond .eq 20, 3) := by decide +kernel
theorem dX4_readRule_8 : decode cX4_readRule 8 = .ok (.aload_n 0, 1) := by decide +kernel
theorem dX4_readRule_9 : decode cX4_readRule 9 = .ok (.getstatic 127, 3) := by decide +kernel
theorem dX4_readRule_12 : decode cX4_readRule 12 = .ok (.iload_n 2, 1) := by decide +kernel
theorem dX4_readRule_13 : decode cX4_readRule 13 = .ok (.iaload, 1) := by decide +kernel
theorem dX4_readRule_14 : decode cX4_readRule 14 = .ok (.getstatic 131, 3) := by decide +kernel
theorem dX4_readRule_17 : decode cX4_readRule 17 = .ok (.iload_n 2, 1) := by decide +kernel
theorem dX4_readRule_18 : decode cX4_readRule 18 = .ok (.iaload, 1) := by decide +kernel
theorem dX4_readRule_19 : decode cX4_readRule 19 = .ok (.invokevirtual 114, 3) := by decide +kernel
theorem dX4_readRule_22 : decode cX4_readRule 22 = .ok (.ifCond .ne 5, 3) := by decide +kernel
theorem dX4_readRule_25 : decode cX4_readRule 25 = .ok (.iconst 0, 1) := by decide +kernel
theorem dX4_readRule_26 : decode cX4_readRule 26 = .ok (.ireturn, 1) := by decide +kernel
theorem dX4_readRule_27 : decode cX4_readRule 27 = .ok (.aload_n 1, 1) := by decide +kernel
theorem dX4_readRule_28 : decode cX4_readRule 28 = .ok (.getfield 134, 3) := by decide +kernel
theorem dX4_readRule_31 : decode cX4_readRule 31 = .ok (.iload_n 2, 1) := by decide +kernel
theorem dX4_readRule_32 : decode cX4_readRule 32 = .ok (.aload_n 0, 1) := by decide +kernel
theorem dX4_readRule_33 : decode cX4_readRule 33 = .ok (.getfield 74, 3) := by decide +kernel
theorem dX4_readRule_36 : decode cX4_readRule 36 = .ok (.iastore, 1) := by decide +kernel
theorem dX4_readRule_37 : decode cX4_readRule 37 = .ok (.aload_n 0, 1) := by decide +kernel
theorem dX4_readRule_38 : decode cX4_readRule 38 = .ok (.iconst 3, 1) := by decide +kernel
theorem dX4_readRule_39 : decode cX4_readRule 39 = .ok (.invokevirtual 111, 3) := by decide +kernel
theorem dX4_readRule_42 : decode cX4_readRule 42 = .ok (.ireturn, 1) := by decide +kernel
theorem dX4_readLines_0 : decode cX4_readLines 0 = .ok (.aload_n 0, 1) := by decide +kernel
theorem dX4_readLines_1 : decode cX4_readLines 1 = .ok (.iconst 2, 1) := by decide +kernel
theorem dX4_readLines_2 : decode cX4_readLines 2 = .ok (.invokevirtual 111, 3) := by decide +kernel
theorem dX4_readLines_5 : decode cX4_readLines 5 = .ok (.ifCond .ne 5, 3) := by decide +kernel
theorem dX4_readLines_8 : decode cX4_readLines 8 = .ok (.iconst 0, 1) := by decide +kernel
theorem dX4_readLines_9 : decode cX4_readLines 9 = .ok (.ireturn, 1) := by decide +kernel
theorem dX4_readLines_10 : decode cX4_readLines 10 = .ok (.aload_n 1, 1) := by decide +kernel
theorem dX4_readLines_11 : decode cX4_readLines 11 = .ok (.getfield 137, 3) := by decide +kernel
theorem dX4_readLines_14 : decode cX4_readLines 14 = .ok (.bipush 12, 2) := by decide +kernel
theorem dX4_readLines_16 : decode cX4_readLines 16 = .ok (.if_icmp .ge 56, 3) := by decide +kernel
theorem dX4_readLines_19 : decode cX4_readLines 19 = .ok (.aload_n 0, 1) := by decide +kernel
theorem dX4_readLines_20 : decode cX4_readLines 20 = .ok (.getfield 50, 3) := by decide +kernel
theorem dX4_readLines_23 : decode cX4_readLines 23 = .ok (.iconst 2, 1) := by decide +kernel
theorem dX4_readLines_24 : decode cX4_readLines 24 = .ok (.if_icmp .ne 48, 3) := by decide +kernel
theorem dX4_readLines_27 : decode cX4_readLines 27 = .ok (.aload_n 0, 1) := by decide +kernel
theorem dX4_readLines_28 : decode cX4_readLines 28 = .ok (.iconst 0, 1) := by decide +kernel
theorem dX4_readLines_29 : decode cX4_readLines 29 = .ok (.sipush 255, 3) := by decide +kernel
theorem dX4_readLines_32 : decode cX4_readLines 32 = .ok (.invokevirtual 114, 3) := by decide +kernel
theorem dX4_readLines_35 : decode cX4_readLines 35 = .ok (.ifCond .ne 5, 3) := by decide +kernel
theorem dX4_readLines_38 : decode cX4_readLines 38 = .ok (.iconst 0, 1) := by decide +kernel
theorem dX4_readLines_39 : decode cX4_readLines 39 = .ok (.ireturn, 1) := by decide +kernel
theorem dX4_readLines_40 : decode cX4_readLines 40 = .ok (.aload_n 1, 1) := by decide +kernel
theorem dX4_readLines_41 : decode cX4_readLines 41 = .ok (.getfield 140, 3) := by decide +kernel
theorem dX4_readLines_44 : decode cX4_readLines 44 = .ok (.aload_n 1, 1) := by decide +kernel
theorem dX4_readLines_45 : decode cX4_readLines 45 = .ok (.getfield 137, 3) := by decide +kernel
theorem dX4_readLines_48 : decode cX4_readLines 48 = .ok (.aload_n 0, 1) := by decide +kernel
theorem dX4_readLines_49 : decode cX4_readLines 49 = .ok (.getfield 74, 3) := by decide +kernel
theorem dX4_readLines_52 : decode cX4_readLines 52 = .ok (.iastore, 1) := by decide +kernel
theorem dX4_readLines_53 : decode cX4_readLines 53 = .ok (.aload_n 1, 1) := by decide +kernel
theorem dX4_readLines_54 : decode cX4_readLines 54 = .ok (.dup, 1) := by decide +kernel
theorem dX4_readLines_55 : decode cX4_readLines 55 = .ok (.getfield 137, 3) := by decide +kernel
theorem dX4_readLines_58 : decode cX4_readLines 58 = .ok (.iconst 1, 1) := by decide +kernel
theorem dX4_readLines_59 : decode cX4_readLines 59 = .ok (.iadd, 1) := by decide +kernel
theorem dX4_readLines_60 : decode cX4_readLines 60 = .ok (.putfield 137, 3) := by decide +kernel
theorem dX4_readLines_63 : decode cX4_readLines 63 = .ok (.aload_n 0, 1) := by decide +kernel
theorem dX4_readLines_64 : decode cX4_readLines 64 = .ok (.invokevirtual 46, 3) := by decide +kernel
theorem dX4_readLines_67 : decode cX4_readLines 67 = .ok (.ifCond .ne (-57), 3) := by decide +kernel
theorem dX4_readLines_70 : decode cX4_readLines 70 = .ok (.iconst 0, 1) := by decide +kernel
theorem dX4_readLines_71 : decode cX4_readLines 71 = .ok (.ireturn, 1) := by decide +kernel
theorem dX4_readLines_72 : decode cX4_readLines 72 = .ok (.aload_n 0, 1) := by decide +kernel
theorem dX4_readLines_73 : decode cX4_readLines 73 = .ok (.getfield 50, 3) := by decide +kernel
theorem dX4_readLines_76 : decode cX4_readLines 76 = .ok (.iconst 2, 1) := by decide +kernel
theorem dX4_readLines_77 : decode cX4_readLines 77 = .ok (.if_icmp .ne 9, 3) := by decide +kernel
theorem dX4_readLines_80 : decode cX4_readLines 80 = .ok (.aload_n 0, 1) := by decide +kernel
theorem dX4_readLines_81 : decode cX4_readLines 81 = .ok (.iconst 5, 1) := by decide +kernel
theorem dX4_readLines_82 : decode cX4_readLines 82 = .ok (.invokevirtual 70, 3) := by decide +kernel
theorem dX4_readLines_85 : decode cX4_readLines 85 = .ok (.ireturn, 1) := by decide +kernel
theorem dX4_readLines_86 : decode cX4_readLines 86 = .ok (.aload_n 0, 1) := by decide +kernel
theorem dX4_readLines_87 : decode cX4_readLines 87 = .ok (.getfield 50, 3) := by decide +kernel
theorem dX4_readLines_90 : decode cX4_readLines 90 = .ok (.iconst 3, 1) := by decide +kernel
theorem dX4_readLines_91 : decode cX4_readLines 91 = .ok (.if_icmp .eq 11, 3) := by decide +kernel
theorem dX4_readLines_94 : decode cX4_readLines 94 = .ok (.aload_n 0, 1) := by decide +kernel
theorem dX4_readLines_95 : decode cX4_readLines 95 = .ok (.iconst 2, 1) := by decide +kernel
theorem dX4_readLines_96 : decode cX4_readLines 96 = .ok (.invokevirtual 70, 3) := by decide +kernel
theorem dX4_readLines_99 : decode cX4_readLines 99 = .ok (.ifCond .eq 7, 3) := by decide +kernel
theorem dX4_readLines_102 : decode cX4_readLines 102 = .ok (.iconst 1, 1) := by decide +kernel
theorem dX4_readLines_103 : decode cX4_readLines 103 = .ok (.goto 4, 3) := by decide +kernel
theorem dX4_readLines_106 : decode cX4_readLines 106 = .ok (.iconst 0, 1) := by decide +kernel
theorem dX4_readLines_107 : decode cX4_readLines 107 = .ok (.ireturn, 1) := by decide +kernel
