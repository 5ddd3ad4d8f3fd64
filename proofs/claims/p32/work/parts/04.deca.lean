theorem dX0_init_0 : decode cX0_init 0 = .ok (.aload_n 0, 1) := by decide +kernel
theorem dX0_init_1 : decode cX0_init 1 = .ok (.invokespecial 3, 3) := by decide +kernel
theorem dX0_init_4 : decode cX0_init 4 = .ok (.aload_n 0, 1) := by decide +kernel
theorem dX0_init_5 : decode cX0_init 5 = .ok (.bipush 12, 2) := by decide +kernel
theorem dX0_init_7 : decode cX0_init 7 = .ok (.newarray .int, 2) := by decide +kernel
theorem dX0_init_9 : decode cX0_init 9 = .ok (.putfield 9, 3) := by decide +kernel
theorem dX0_init_12 : decode cX0_init 12 = .ok (.aload_n 0, 1) := by decide +kernel
theorem dX0_init_13 : decode cX0_init 13 = .ok (.sipush 192, 3) := by decide +kernel
theorem dX0_init_16 : decode cX0_init 16 = .ok (.newarray .int, 2) := by decide +kernel
theorem dX0_init_18 : decode cX0_init 18 = .ok (.putfield 15, 3) := by decide +kernel
theorem dX0_init_21 : decode cX0_init 21 = .ok (.aload_n 0, 1) := by decide +kernel
theorem dX0_init_22 : decode cX0_init 22 = .ok (.sipush 192, 3) := by decide +kernel
theorem dX0_init_25 : decode cX0_init 25 = .ok (.newarray .int, 2) := by decide +kernel
theorem dX0_init_27 : decode cX0_init 27 = .ok (.putfield 18, 3) := by decide +kernel
theorem dX0_init_30 : decode cX0_init 30 = .ok (.aload_n 0, 1) := by decide +kernel
theorem dX0_init_31 : decode cX0_init 31 = .ok (.sipush 192, 3) := by decide +kernel
theorem dX0_init_34 : decode cX0_init 34 = .ok (.newarray .int, 2) := by decide +kernel
theorem dX0_init_36 : decode cX0_init 36 = .ok (.putfield 21, 3) := by decide +kernel
theorem dX0_init_39 : decode cX0_init 39 = .ok (.aload_n 0, 1) := by decide +kernel
theorem dX0_init_40 : decode cX0_init 40 = .ok (.bipush 16, 2) := by decide +kernel
theorem dX0_init_42 : decode cX0_init 42 = .ok (.newarray .int, 2) := by decide +kernel
theorem dX0_init_44 : decode cX0_init 44 = .ok (.putfield 24, 3) := by decide +kernel
theorem dX0_init_47 : decode cX0_init 47 = .ok (.aload_n 0, 1) := by decide +kernel
theorem dX0_init_48 : decode cX0_init 48 = .ok (.iconst 0, 1) := by decide +kernel
theorem dX0_init_49 : decode cX0_init 49 = .ok (.putfield 27, 3) := by decide +kernel
theorem dX0_init_52 : decode cX0_init 52 = .ok (.return_, 1) := by decide +kernel
theorem dX0_workOut_0 : decode cX0_workOut 0 = .ok (.aload_n 0, 1) := by decide +kernel
theorem dX0_workOut_1 : decode cX0_workOut 1 = .ok (.getfield 27, 3) := by decide +kernel
theorem dX0_workOut_4 : decode cX0_workOut 4 = .ok (.ifCond .eq 4, 3) := by decide +kernel
theorem dX0_workOut_7 : decode cX0_workOut 7 = .ok (.return_, 1) := by decide +kernel
theorem dX0_workOut_8 : decode cX0_workOut 8 = .ok (.iconst 0, 1) := by decide +kernel
theorem dX0_workOut_9 : decode cX0_workOut 9 = .ok (.istore_n 2, 1) := by decide +kernel
theorem dX0_workOut_10 : decode cX0_workOut 10 = .ok (.iload_n 2, 1) := by decide +kernel
theorem dX0_workOut_11 : decode cX0_workOut 11 = .ok (.aload_n 1, 1) := by decide +kernel
theorem dX0_workOut_12 : decode cX0_workOut 12 = .ok (.getfield 31, 3) := by decide +kernel
theorem dX0_workOut_15 : decode cX0_workOut 15 = .ok (.if_icmp .ge 135, 3) := by decide +kernel
theorem dX0_workOut_18 : decode cX0_workOut 18 = .ok (.iconst 0, 1) := by decide +kernel
theorem dX0_workOut_19 : decode cX0_workOut 19 = .ok (.istore_n 3, 1) := by decide +kernel
theorem dX0_workOut_20 : decode cX0_workOut 20 = .ok (.iload_n 3, 1) := by decide +kernel
theorem dX0_workOut_21 : decode cX0_workOut 21 = .ok (.iconst 2, 1) := by decide +kernel
theorem dX0_workOut_22 : decode cX0_workOut 22 = .ok (.if_icmp .ge 26, 3) := by decide +kernel
theorem dX0_workOut_25 : decode cX0_workOut 25 = .ok (.aload_n 0, 1) := by decide +kernel
theorem dX0_workOut_26 : decode cX0_workOut 26 = .ok (.getfield 9, 3) := by decide +kernel
theorem dX0_workOut_29 : decode cX0_workOut 29 = .ok (.iload_n 2, 1) := by decide +kernel
theorem dX0_workOut_30 : decode cX0_workOut 30 = .ok (.iconst 2, 1) := by decide +kernel
theorem dX0_workOut_31 : decode cX0_workOut 31 = .ok (.imul, 1) := by decide +kernel
theorem dX0_workOut_32 : decode cX0_workOut 32 = .ok (.iload_n 3, 1) := by decide +kernel
theorem dX0_workOut_33 : decode cX0_workOut 33 = .ok (.iadd, 1) := by decide +kernel
theorem dX0_workOut_34 : decode cX0_workOut 34 = .ok (.aload_n 0, 1) := by decide +kernel
theorem dX0_workOut_35 : decode cX0_workOut 35 = .ok (.aload_n 1, 1) := by decide +kernel
theorem dX0_workOut_36 : decode cX0_workOut 36 = .ok (.iload_n 2, 1) := by decide +kernel
theorem dX0_workOut_37 : decode cX0_workOut 37 = .ok (.iload_n 3, 1) := by decide +kernel
theorem dX0_workOut_38 : decode cX0_workOut 38 = .ok (.invokevirtual 37, 3) := by decide +kernel
theorem dX0_workOut_41 : decode cX0_workOut 41 = .ok (.iastore, 1) := by decide +kernel
theorem dX0_workOut_42 : decode cX0_workOut 42 = .ok (.iinc 3 1, 3) := by decide +kernel
theorem dX0_workOut_45 : decode cX0_workOut 45 = .ok (.goto (-25), 3) := by decide +kernel
theorem dX0_workOut_48 : decode cX0_workOut 48 = .ok (.iconst 0, 1) := by decide +kernel
theorem dX0_workOut_49 : decode cX0_workOut 49 = .ok (.istore_n 3, 1) := by decide +kernel
theorem dX0_workOut_50 : decode cX0_workOut 50 = .ok (.iload_n 3, 1) := by decide +kernel
theorem dX0_workOut_51 : decode cX0_workOut 51 = .ok (.bipush 16, 2) := by decide +kernel
theorem dX0_workOut_53 : decode cX0_workOut 53 = .ok (.if_icmp .ge 91, 3) := by decide +kernel
theorem dX0_workOut_56 : decode cX0_workOut 56 = .ok (.iconst 0, 1) := by decide +kernel
theorem dX0_workOut_57 : decode cX0_workOut 57 = .ok (.istore 4, 2) := by decide +kernel
theorem dX0_workOut_59 : decode cX0_workOut 59 = .ok (.iload 4, 2) := by decide +kernel
theorem dX0_workOut_61 : decode cX0_workOut 61 = .ok (.iconst 2, 1) := by decide +kernel
theorem dX0_workOut_62 : decode cX0_workOut 62 = .ok (.if_icmp .ge 69, 3) := by decide +kernel
theorem dX0_workOut_65 : decode cX0_workOut 65 = .ok (.aload_n 0, 1) := by decide +kernel
theorem dX0_workOut_66 : decode cX0_workOut 66 = .ok (.getfield 9, 3) := by decide +kernel
theorem dX0_workOut_69 : decode cX0_workOut 69 = .ok (.iload_n 2, 1) := by decide +kernel
theorem dX0_workOut_70 : decode cX0_workOut 70 = .ok (.iconst 2, 1) := by decide +kernel
theorem dX0_workOut_71 : decode cX0_workOut 71 = .ok (.imul, 1) := by decide +kernel
theorem dX0_workOut_72 : decode cX0_workOut 72 = .ok (.iload 4, 2) := by decide +kernel
theorem dX0_workOut_74 : decode cX0_workOut 74 = .ok (.iadd, 1) := by decide +kernel
theorem dX0_workOut_75 : decode cX0_workOut 75 = .ok (.iaload, 1) := by decide +kernel
theorem dX0_workOut_76 : decode cX0_workOut 76 = .ok (.istore 5, 2) := by decide +kernel
theorem dX0_workOut_78 : decode cX0_workOut 78 = .ok (.aload_n 0, 1) := by decide +kernel
theorem dX0_workOut_79 : decode cX0_workOut 79 = .ok (.getfield 15, 3) := by decide +kernel
theorem dX0_workOut_82 : decode cX0_workOut 82 = .ok (.iload_n 2, 1) := by decide +kernel
theorem dX0_workOut_83 : decode cX0_workOut 83 = .ok (.iload_n 3, 1) := by decide +kernel
theorem dX0_workOut_84 : decode cX0_workOut 84 = .ok (.iload 4, 2) := by decide +kernel
theorem dX0_workOut_86 : decode cX0_workOut 86 = .ok (.invokestatic 41, 3) := by decide +kernel
theorem dX0_workOut_89 : decode cX0_workOut 89 = .ok (.aload_n 1, 1) := by decide +kernel
theorem dX0_workOut_90 : decode cX0_workOut 90 = .ok (.iload_n 2, 1) := by decide +kernel
theorem dX0_workOut_91 : decode cX0_workOut 91 = .ok (.iload_n 3, 1) := by decide +kernel
theorem dX0_workOut_92 : decode cX0_workOut 92 = .ok (.iload 4, 2) := by decide +kernel
theorem dX0_workOut_94 : decode cX0_workOut 94 = .ok (.invokestatic 45, 3) := by decide +kernel
theorem dX0_workOut_97 : decode cX0_workOut 97 = .ok (.iload 5, 2) := by decide +kernel
theorem dX0_workOut_99 : decode cX0_workOut 99 = .ok (.isub, 1) := by decide +kernel
theorem dX0_workOut_100 : decode cX0_workOut 100 = .ok (.invokestatic 49, 3) := by decide +kernel
theorem dX0_workOut_103 : decode cX0_workOut 103 = .ok (.iastore, 1) := by decide +kernel
theorem dX0_workOut_104 : decode cX0_workOut 104 = .ok (.aload_n 0, 1) := by decide +kernel
theorem dX0_workOut_105 : decode cX0_workOut 105 = .ok (.getfield 18, 3) := by decide +kernel
theorem dX0_workOut_108 : decode cX0_workOut 108 = .ok (.iload_n 2, 1) := by decide +kernel
theorem dX0_workOut_109 : decode cX0_workOut 109 = .ok (.iload_n 3, 1) := by decide +kernel
theorem dX0_workOut_110 : decode cX0_workOut 110 = .ok (.iload 4, 2) := by decide +kernel
theorem dX0_workOut_112 : decode cX0_workOut 112 = .ok (.invokestatic 41, 3) := by decide +kernel
theorem dX0_workOut_115 : decode cX0_workOut 115 = .ok (.aload_n 0, 1) := by decide +kernel
theorem dX0_workOut_116 : decode cX0_workOut 116 = .ok (.aload_n 1, 1) := by decide +kernel
theorem dX0_workOut_117 : decode cX0_workOut 117 = .ok (.iload_n 2, 1) := by decide +kernel
theorem dX0_workOut_118 : decode cX0_workOut 118 = .ok (.iload_n 3, 1) := by decide +kernel
theorem dX0_workOut_119 : decode cX0_workOut 119 = .ok (.iload 4, 2) := by decide +kernel
theorem dX0_workOut_121 : decode cX0_workOut 121 = .ok (.invokevirtual 55, 3) := by decide +kernel
theorem dX0_workOut_124 : decode cX0_workOut 124 = .ok (.iastore, 1) := by decide +kernel
theorem dX0_workOut_125 : decode cX0_workOut 125 = .ok (.iinc 4 1, 3) := by decide +kernel
theorem dX0_workOut_128 : decode cX0_workOut 128 = .ok (.goto (-69), 3) := by decide +kernel
theorem dX0_workOut_131 : decode cX0_workOut 131 = .ok (.aload_n 0, 1) := by decide +kernel
theorem dX0_workOut_132 : decode cX0_workOut 132 = .ok (.aload_n 1, 1) := by decide +kernel
theorem dX0_workOut_133 : decode cX0_workOut 133 = .ok (.iload_n 2, 1) := by decide +kernel
theorem dX0_workOut_134 : decode cX0_workOut 134 = .ok (.iload_n 3, 1) := by decide +kernel
theorem dX0_workOut_135 : decode cX0_workOut 135 = .ok (.invokevirtual 58, 3) := by decide +kernel
theorem dX0_workOut_138 : decode cX0_workOut 138 = .ok (.iinc 3 1, 3) := by decide +kernel
theorem dX0_workOut_141 : decode cX0_workOut 141 = .ok (.goto (-91), 3) := by decide +kernel
theorem dX0_workOut_144 : decode cX0_workOut 144 = .ok (.iinc 2 1, 3) := by decide +kernel
theorem dX0_workOut_147 : decode cX0_workOut 147 = .ok (.goto (-137), 3) := by decide +kernel
theorem dX0_workOut_150 : decode cX0_workOut 150 = .ok (.aload_n 0, 1) := by decide +kernel
theorem dX0_workOut_151 : decode cX0_workOut 151 = .ok (.iconst 1, 1) := by decide +kernel
theorem dX0_workOut_152 : decode cX0_workOut 152 = .ok (.putfield 27, 3) := by decide +kernel
theorem dX0_workOut_155 : decode cX0_workOut 155 = .ok (.return_, 1) := by decide +kernel
theorem dX0_commonCheck_0 : decode cX0_commonCheck 0 = .ok (.iconst 0, 1) := by decide +kernel
theorem dX0_commonCheck_1 : decode cX0_commonCheck 1 = .ok (.istore 4, 2) := by decide +kernel
theorem dX0_commonCheck_3 : decode cX0_commonCheck 3 = .ok (.iload 4, 2) := by decide +kernel
theorem dX0_commonCheck_5 : decode cX0_commonCheck 5 = .ok (.bipush 16, 2) := by decide +kernel
theorem dX0_commonCheck_7 : decode cX0_commonCheck 7 = .ok (.if_icmp .ge 73, 3) := by decide +kernel
theorem dX0_commonCheck_10 : decode cX0_commonCheck 10 = .ok (.aload_n 1, 1) := by decide +kernel
theorem dX0_commonCheck_11 : decode cX0_commonCheck 11 = .ok (.iload_n 2, 1) := by decide +kernel
theorem dX0_commonCheck_12 : decode cX0_commonCheck 12 = .ok (.iload 4, 2) := by decide +kernel
theorem dX0_commonCheck_14 : decode cX0_commonCheck 14 = .ok (.iload_n 3, 1) := by decide +kernel
theorem dX0_commonCheck_15 : decode cX0_commonCheck 15 = .ok (.invokestatic 45, 3) := by decide +kernel
theorem dX0_commonCheck_18 : decode cX0_commonCheck 18 = .ok (.istore 5, 2) := by decide +kernel
theorem dX0_commonCheck_20 : decode cX0_commonCheck 20 = .ok (.iload 4, 2) := by decide +kernel
theorem dX0_commonCheck_22 : decode cX0_commonCheck 22 = .ok (.istore 6, 2) := by decide +kernel
theorem dX0_commonCheck_24 : decode cX0_commonCheck 24 = .ok (.iload 6, 2) := by decide +kernel
theorem dX0_commonCheck_26 : decode cX0_commonCheck 26 = .ok (.ifCond .le 39, 3) := by decide +kernel
theorem dX0_commonCheck_29 : decode cX0_commonCheck 29 = .ok (.aload_n 0, 1) := by decide +kernel
theorem dX0_commonCheck_30 : decode cX0_commonCheck 30 = .ok (.getfield 24, 3) := by decide +kernel
theorem dX0_commonCheck_33 : decode cX0_commonCheck 33 = .ok (.iload 6, 2) := by decide +kernel
theorem dX0_commonCheck_35 : decode cX0_commonCheck 35 = .ok (.iconst 1, 1) := by decide +kernel
theorem dX0_commonCheck_36 : decode cX0_commonCheck 36 = .ok (.isub, 1) := by decide +kernel
theorem dX0_commonCheck_37 : decode cX0_commonCheck 37 = .ok (.iaload, 1) := by decide +kernel
theorem dX0_commonCheck_38 : decode cX0_commonCheck 38 = .ok (.iload 5, 2) := by decide +kernel
theorem dX0_commonCheck_40 : decode cX0_commonCheck 40 = .ok (.if_icmp .le 25, 3) := by decide +kernel
theorem dX0_commonCheck_43 : decode cX0_commonCheck 43 = .ok (.aload_n 0, 1) := by decide +kernel
theorem dX0_commonCheck_44 : decode cX0_commonCheck 44 = .ok (.getfield 24, 3) := by decide +kernel
theorem dX0_commonCheck_47 : decode cX0_commonCheck 47 = .ok (.iload 6, 2) := by decide +kernel
theorem dX0_commonCheck_49 : decode cX0_commonCheck 49 = .ok (.aload_n 0, 1) := by decide +kernel
theorem dX0_commonCheck_50 : decode cX0_commonCheck 50 = .ok (.getfield 24, 3) := by decide +kernel
theorem dX0_commonCheck_53 : decode cX0_commonCheck 53 = .ok (.iload 6, 2) := by decide +kernel
theorem dX0_commonCheck_55 : decode cX0_commonCheck 55 = .ok (.iconst 1, 1) := by decide +kernel
theorem dX0_commonCheck_56 : decode cX0_commonCheck 56 = .ok (.isub, 1) := by decide +kernel
theorem dX0_commonCheck_57 : decode cX0_commonCheck 57 = .ok (.iaload, 1) := by decide +kernel
theorem dX0_commonCheck_58 : decode cX0_commonCheck 58 = .ok (.iastore, 1) := by decide +kernel
theorem dX0_commonCheck_59 : decode cX0_commonCheck 59 = .ok (.iinc 6 (-1), 3) := by decide +kernel
theorem dX0_commonCheck_62 : decode cX0_commonCheck 62 = .ok (.goto (-38), 3) := by decide +kernel
theorem dX0_commonCheck_65 : decode cX0_commonCheck 65 = .ok (.aload_n 0, 1) := by decide +kernel
theorem dX0_commonCheck_66 : decode cX0_commonCheck 66 = .ok (.getfield 24, 3) := by decide +kernel
theorem dX0_commonCheck_69 : decode cX0_commonCheck 69 = .ok (.iload 6, 2) := by decide +kernel
theorem dX0_commonCheck_71 : decode cX0_commonCheck 71 = .ok (.iload 5, 2) := by decide +kernel
theorem dX0_commonCheck_73 : decode cX0_commonCheck 73 = .ok (.iastore, 1) := by decide +kernel
theorem dX0_commonCheck_74 : decode cX0_commonCheck 74 = .ok (.iinc 4 1, 3) := by decide +kernel
theorem dX0_commonCheck_77 : decode cX0_commonCheck 77 = .ok (.goto (-74), 3) := by decide +kernel
theorem dX0_commonCheck_80 : decode cX0_commonCheck 80 = .ok (.aload_n 0, 1) := by decide +kernel
theorem dX0_commonCheck_81 : decode cX0_commonCheck 81 = .ok (.getfield 24, 3) := by decide +kernel
theorem dX0_commonCheck_84 : decode cX0_commonCheck 84 = .ok (.bipush 7, 2) := by decide +kernel
theorem dX0_commonCheck_86 : decode cX0_commonCheck 86 = .ok (.iaload, 1) := by decide +kernel
theorem dX0_commonCheck_87 : decode cX0_commonCheck 87 = .ok (.ireturn, 1) := by decide +kernel
theorem dX0_isSuspicious_0 : decode cX0_isSuspicious 0 = .ok (.aload_n 0, 1) := by decide +kernel
theorem dX0_isSuspicious_1 : decode cX0_isSuspicious 1 = .ok (.getfield 15, 3) := by decide +kernel
theorem dX0_isSuspicious_4 : decode cX0_isSuspicious 4 = .ok (.iload_n 2, 1) := by decide +kernel
theorem dX0_isSuspicious_5 : decode cX0_isSuspicious 5 = .ok (.iload_n 3, 1) := by decide +kernel
theorem dX0_isSuspicious_6 : decode cX0_isSuspicious 6 = .ok (.iload 4, 2) := by decide +kernel
theorem dX0_isSuspicious_8 : decode cX0_isSuspicious 8 = .ok (.invokestatic 41, 3) := by decide +kernel
theorem dX0_isSuspicious_11 : decode cX0_isSuspicious 11 = .ok (.iaload, 1) := by decide +kernel
theorem dX0_isSuspicious_12 : decode cX0_isSuspicious 12 = .ok (.aload_n 1, 1) := by decide +kernel
theorem dX0_isSuspicious_13 : decode cX0_isSuspicious 13 = .ok (.getfield 62, 3) := by decide +kernel
theorem dX0_isSuspicious_16 : decode cX0_isSuspicious 16 = .ok (.iconst 0, 1) := by decide +kernel
theorem dX0_isSuspicious_17 : decode cX0_isSuspicious 17 = .ok (.iaload, 1) := by decide +kernel
theorem dX0_isSuspicious_18 : decode cX0_isSuspicious 18 = .ok (.if_icmp .le 7, 3) := by decide +kernel
theorem dX0_isSuspicious_21 : decode cX0_isSuspicious 21 = .ok (.iconst 1, 1) := by decide +kernel
theorem dX0_isSuspicious_22 : decode cX0_isSuspicious 22 = .ok (.goto 4, 3) := by decide +kernel
theorem dX0_isSuspicious_25 : decode cX0_isSuspicious 25 = .ok (.iconst 0, 1) := by decide +kernel
theorem dX0_isSuspicious_26 : decode cX0_isSuspicious 26 = .ok (.ireturn, 1) := by decide +kernel
theorem dX0_tiltRead_0 : decode cX0_tiltRead 0 = .ok (.iload_n 2, 1) := by decide +kernel
theorem dX0_tiltRead_1 : decode cX0_tiltRead 1 = .ok (.iload_n 3, 1) := by decide +kernel
theorem dX0_tiltRead_2 : decode cX0_tiltRead 2 = .ok (.iload 4, 2) := by decide +kernel
theorem dX0_tiltRead_4 : decode cX0_tiltRead 4 = .ok (.iconst 0, 1) := by decide +kernel
theorem dX0_tiltRead_5 : decode cX0_tiltRead 5 = .ok (.invokestatic 65, 3) := by decide +kernel
theorem dX0_tiltRead_8 : decode cX0_tiltRead 8 = .ok (.istore 5, 2) := by decide +kernel
theorem dX0_tiltRead_10 : decode cX0_tiltRead 10 = .ok (.aload_n 1, 1) := by decide +kernel
theorem dX0_tiltRead_11 : decode cX0_tiltRead 11 = .ok (.getfield 69, 3) := by decide +kernel
theorem dX0_tiltRead_14 : decode cX0_tiltRead 14 = .ok (.iload 5, 2) := by decide +kernel
theorem dX0_tiltRead_16 : decode cX0_tiltRead 16 = .ok (.iaload, 1) := by decide +kernel
theorem dX0_tiltRead_17 : decode cX0_tiltRead 17 = .ok (.istore 6, 2) := by decide +kernel
theorem dX0_tiltRead_19 : decode cX0_tiltRead 19 = .ok (.aload_n 1, 1) := by decide +kernel
theorem dX0_tiltRead_20 : decode cX0_tiltRead 20 = .ok (.getfield 69, 3) := by decide +kernel
theorem dX0_tiltRead_23 : decode cX0_tiltRead 23 = .ok (.iload 5, 2) := by decide +kernel
theorem dX0_tiltRead_25 : decode cX0_tiltRead 25 = .ok (.iconst 1, 1) := by decide +kernel
theorem dX0_tiltRead_26 : decode cX0_tiltRead 26 = .ok (.iadd, 1) := by decide +kernel
theorem dX0_tiltRead_27 : decode cX0_tiltRead 27 = .ok (.iaload, 1) := by decide +kernel
theorem dX0_tiltRead_28 : decode cX0_tiltRead 28 = .ok (.istore 7, 2) := by decide +kernel
theorem dX0_tiltRead_30 : decode cX0_tiltRead 30 = .ok (.aload_n 1, 1) := by decide +kernel
theorem dX0_tiltRead_31 : decode cX0_tiltRead 31 = .ok (.getfield 62, 3) := by decide +kernel
theorem dX0_tiltRead_34 : decode cX0_tiltRead 34 = .ok (.iconst 1, 1) := by decide +kernel
theorem dX0_tiltRead_35 : decode cX0_tiltRead 35 = .ok (.iaload, 1) := by decide +kernel
theorem dX0_tiltRead_36 : decode cX0_tiltRead 36 = .ok (.iconst 1, 1) := by decide +kernel
theorem dX0_tiltRead_37 : decode cX0_tiltRead 37 = .ok (.if_icmp .ne 15, 3) := by decide +kernel
theorem dX0_tiltRead_40 : decode cX0_tiltRead 40 = .ok (.aload_n 0, 1) := by decide +kernel
theorem dX0_tiltRead_41 : decode cX0_tiltRead 41 = .ok (.aload_n 1, 1) := by decide +kernel
theorem dX0_tiltRead_42 : decode cX0_tiltRead 42 = .ok (.iload_n 2, 1) := by decide +kernel
theorem dX0_tiltRead_43 : decode cX0_tiltRead 43 = .ok (.iload_n 3, 1) := by decide +kernel
theorem dX0_tiltRead_44 : decode cX0_tiltRead 44 = .ok (.iload 4, 2) := by decide +kernel
theorem dX0_tiltRead_46 : decode cX0_tiltRead 46 = .ok (.invokevirtual 72, 3) := by decide +kernel
theorem dX0_tiltRead_49 : decode cX0_tiltRead 49 = .ok (.ifCond .ne 11, 3) := by decide +kernel
theorem dX0_tiltRead_52 : decode cX0_tiltRead 52 = .ok (.iload 6, 2) := by decide +kernel
theorem dX0_tiltRead_54 : decode cX0_tiltRead 54 = .ok (.iload 7, 2) := by decide +kernel
theorem dX0_tiltRead_56 : decode cX0_tiltRead 56 = .ok (.isub, 1) := by decide +kernel
theorem dX0_tiltRead_57 : decode cX0_tiltRead 57 = .ok (.iconst 2, 1) := by decide +kernel
theorem dX0_tiltRead_58 : decode cX0_tiltRead 58 = .ok (.idiv, 1) := by decide +kernel
theorem dX0_tiltRead_59 : decode cX0_tiltRead 59 = .ok (.ireturn, 1) := by decide +kernel
theorem dX0_tiltRead_60 : decode cX0_tiltRead 60 = .ok (.aload_n 0, 1) := by decide +kernel
theorem dX0_tiltRead_61 : decode cX0_tiltRead 61 = .ok (.getfield 9, 3) := by decide +kernel
theorem dX0_tiltRead_64 : decode cX0_tiltRead 64 = .ok (.iload_n 2, 1) := by decide +kernel
theorem dX0_tiltRead_65 : decode cX0_tiltRead 65 = .ok (.iconst 2, 1) := by decide +kernel
theorem dX0_tiltRead_66 : decode cX0_tiltRead 66 = .ok (.imul, 1) := by decide +kernel
theorem dX0_tiltRead_67 : decode cX0_tiltRead 67 = .ok (.iload 4, 2) := by decide +kernel
theorem dX0_tiltRead_69 : decode cX0_tiltRead 69 = .ok (.iadd, 1) := by decide +kernel
theorem dX0_tiltRead_70 : decode cX0_tiltRead 70 = .ok (.iaload, 1) := by decide +kernel
theorem dX0_tiltRead_71 : decode cX0_tiltRead 71 = .ok (.iconst 2, 1) := by decide +kernel
theorem dX0_tiltRead_72 : decode cX0_tiltRead 72 = .ok (.idiv, 1) := by decide +kernel
theorem dX0_tiltRead_73 : decode cX0_tiltRead 73 = .ok (.istore 8, 2) := by decide +kernel
theorem dX0_tiltRead_75 : decode cX0_tiltRead 75 = .ok (.iload 6, 2) := by decide +kernel
theorem dX0_tiltRead_77 : decode cX0_tiltRead 77 = .ok (.iload 8, 2) := by decide +kernel
theorem dX0_tiltRead_79 : decode cX0_tiltRead 79 = .ok (.isub, 1) := by decide +kernel
theorem dX0_tiltRead_80 : decode cX0_tiltRead 80 = .ok (.istore 9, 2) := by decide +kernel
theorem dX0_tiltRead_82 : decode cX0_tiltRead 82 = .ok (.iload 8, 2) := by decide +kernel
theorem dX0_tiltRead_84 : decode cX0_tiltRead 84 = .ok (.iload 7, 2) := by decide +kernel
theorem dX0_tiltRead_86 : decode cX0_tiltRead 86 = .ok (.isub, 1) := by decide +kernel
theorem dX0_tiltRead_87 : decode cX0_tiltRead 87 = .ok (.istore 10, 2) := by decide +kernel
theorem dX0_tiltRead_89 : decode cX0_tiltRead 89 = .ok (.iload_n 2, 1) := by decide +kernel
theorem dX0_tiltRead_90 : decode cX0_tiltRead 90 = .ok (.ifCond .ne 6, 3) := by decide +kernel
theorem dX0_tiltRead_93 : decode cX0_tiltRead 93 = .ok (.iload 9, 2) := by decide +kernel
theorem dX0_tiltRead_95 : decode cX0_tiltRead 95 = .ok (.ireturn, 1) := by decide +kernel
theorem dX0_tiltRead_96 : decode cX0_tiltRead 96 = .ok (.aload_n 0, 1) := by decide +kernel
theorem dX0_tiltRead_97 : decode cX0_tiltRead 97 = .ok (.getfield 18, 3) := by decide +kernel
theorem dX0_tiltRead_100 : decode cX0_tiltRead 100 = .ok (.iload_n 2, 1) := by decide +kernel
theorem dX0_tiltRead_101 : decode cX0_tiltRead 101 = .ok (.iconst 1, 1) := by decide +kernel
theorem dX0_tiltRead_102 : decode cX0_tiltRead 102 = .ok (.isub, 1) := by decide +kernel
theorem dX0_tiltRead_103 : decode cX0_tiltRead 103 = .ok (.iload_n 3, 1) := by decide +kernel
theorem dX0_tiltRead_104 : decode cX0_tiltRead 104 = .ok (.iload 4, 2) := by decide +kernel
theorem dX0_tiltRead_106 : decode cX0_tiltRead 106 = .ok (.invokestatic 41, 3) := by decide +kernel
theorem dX0_tiltRead_109 : decode cX0_tiltRead 109 = .ok (.iaload, 1) := by decide +kernel
theorem dX0_tiltRead_110 : decode cX0_tiltRead 110 = .ok (.istore 11, 2) := by decide +kernel
theorem dX0_tiltRead_112 : decode cX0_tiltRead 112 = .ok (.iload 10, 2) := by decide +kernel
theorem dX0_tiltRead_114 : decode cX0_tiltRead 114 = .ok (.iload 11, 2) := by decide +kernel
theorem dX0_tiltRead_116 : decode cX0_tiltRead 116 = .ok (.isub, 1) := by decide +kernel
theorem dX0_tiltRead_117 : decode cX0_tiltRead 117 = .ok (.invokestatic 49, 3) := by decide +kernel
theorem dX0_tiltRead_120 : decode cX0_tiltRead 120 = .ok (.iload 9, 2) := by decide +kernel
theorem dX0_tiltRead_122 : decode cX0_tiltRead 122 = .ok (.iload 11, 2) := by decide +kernel
theorem dX0_tiltRead_124 : decode cX0_tiltRead 124 = .ok (.isub, 1) := by decide +kernel
theorem dX0_tiltRead_125 : decode cX0_tiltRead 125 = .ok (.invokestatic 49, 3) := by decide +kernel
theorem dX0_tiltRead_128 : decode cX0_tiltRead 128 = .ok (.if_icmp .ge 8, 3) := by decide +kernel
theorem dX0_tiltRead_131 : decode cX0_tiltRead 131 = .ok (.iload 10, 2) := by decide +kernel
theorem dX0_tiltRead_133 : decode cX0_tiltRead 133 = .ok (.goto 5, 3) := by decide +kernel
theorem dX0_tiltRead_136 : decode cX0_tiltRead 136 = .ok (.iload 9, 2) := by decide +kernel
theorem dX0_tiltRead_138 : decode cX0_tiltRead 138 = .ok (.ireturn, 1) := by decide +kernel
theorem dX0_tellLevel_0 : decode cX0_tellLevel 0 = .ok (.aload_n 1, 1) := by decide +kernel
theorem dX0_tellLevel_1 : decode cX0_tellLevel 1 = .ok (.getfield 62, 3) := by decide +kernel
theorem dX0_tellLevel_4 : decode cX0_tellLevel 4 = .ok (.iconst 2, 1) := by decide +kernel
theorem dX0_tellLevel_5 : decode cX0_tellLevel 5 = .ok (.iaload, 1) := by decide +kernel
theorem dX0_tellLevel_6 : decode cX0_tellLevel 6 = .ok (.iconst 1, 1) := by decide +kernel
theorem dX0_tellLevel_7 : decode cX0_tellLevel 7 = .ok (.if_icmp .ne 16, 3) := by decide +kernel
theorem dX0_tellLevel_10 : decode cX0_tellLevel 10 = .ok (.iconst 4, 1) := by decide +kernel
theorem dX0_tellLevel_11 : decode cX0_tellLevel 11 = .ok (.aload_n 1, 1) := by decide +kernel
theorem dX0_tellLevel_12 : decode cX0_tellLevel 12 = .ok (.getfield 76, 3) := by decide +kernel
theorem dX0_tellLevel_15 : decode cX0_tellLevel 15 = .ok (.iload_n 3, 1) := by decide +kernel
theorem dX0_tellLevel_16 : decode cX0_tellLevel 16 = .ok (.iaload, 1) := by decide +kernel
theorem dX0_tellLevel_17 : decode cX0_tellLevel 17 = .ok (.isub, 1) := by decide +kernel
theorem dX0_tellLevel_18 : decode cX0_tellLevel 18 = .ok (.iconst 4, 1) := by decide +kernel
theorem dX0_tellLevel_19 : decode cX0_tellLevel 19 = .ok (.irem, 1) := by decide +kernel
theorem dX0_tellLevel_20 : decode cX0_tellLevel 20 = .ok (.goto 4, 3) := by decide +kernel
theorem dX0_tellLevel_23 : decode cX0_tellLevel 23 = .ok (.iconst 0, 1) := by decide +kernel
theorem dX0_tellLevel_24 : decode cX0_tellLevel 24 = .ok (.istore 4, 2) := by decide +kernel
theorem dX0_tellLevel_26 : decode cX0_tellLevel 26 = .ok (.iload_n 2, 1) := by decide +kernel
theorem dX0_tellLevel_27 : decode cX0_tellLevel 27 = .ok (.iload_n 3, 1) := by decide +kernel
theorem dX0_tellLevel_28 : decode cX0_tellLevel 28 = .ok (.iconst 0, 1) := by decide +kernel
theorem dX0_tellLevel_29 : decode cX0_tellLevel 29 = .ok (.invokestatic 41, 3) := by decide +kernel
theorem dX0_tellLevel_32 : decode cX0_tellLevel 32 = .ok (.istore 5, 2) := by decide +kernel
theorem dX0_tellLevel_34 : decode cX0_tellLevel 34 = .ok (.iconst 0, 1) := by decide +kernel
theorem dX0_tellLevel_35 : decode cX0_tellLevel 35 = .ok (.istore 6, 2) := by decide +kernel
theorem dX0_tellLevel_37 : decode cX0_tellLevel 37 = .ok (.iload 6, 2) := by decide +kernel
theorem dX0_tellLevel_39 : decode cX0_tellLevel 39 = .ok (.iconst 2, 1) := by decide +kernel
theorem dX0_tellLevel_40 : decode cX0_tellLevel 40 = .ok (.if_icmp .ge 42, 3) := by decide +kernel
theorem dX0_tellLevel_43 : decode cX0_tellLevel 43 = .ok (.aload_n 0, 1) := by decide +kernel
theorem dX0_tellLevel_44 : decode cX0_tellLevel 44 = .ok (.getfield 21, 3) := by decide +kernel
theorem dX0_tellLevel_47 : decode cX0_tellLevel 47 = .ok (.iload 5, 2) := by decide +kernel
theorem dX0_tellLevel_49 : decode cX0_tellLevel 49 = .ok (.iload 6, 2) := by decide +kernel
theorem dX0_tellLevel_51 : decode cX0_tellLevel 51 = .ok (.iadd, 1) := by decide +kernel
theorem dX0_tellLevel_52 : decode cX0_tellLevel 52 = .ok (.iload 4, 2) := by decide +kernel
theorem dX0_tellLevel_54 : decode cX0_tellLevel 54 = .ok (.aload_n 0, 1) := by decide +kernel
theorem dX0_tellLevel_55 : decode cX0_tellLevel 55 = .ok (.getfield 18, 3) := by decide +kernel
theorem dX0_tellLevel_58 : decode cX0_tellLevel 58 = .ok (.iload 5, 2) := by decide +kernel
theorem dX0_tellLevel_60 : decode cX0_tellLevel 60 = .ok (.iaload, 1) := by decide +kernel
theorem dX0_tellLevel_61 : decode cX0_tellLevel 61 = .ok (.aload_n 0, 1) := by decide +kernel
theorem dX0_tellLevel_62 : decode cX0_tellLevel 62 = .ok (.getfield 18, 3) := by decide +kernel
theorem dX0_tellLevel_65 : decode cX0_tellLevel 65 = .ok (.iload 5, 2) := by decide +kernel
theorem dX0_tellLevel_67 : decode cX0_tellLevel 67 = .ok (.iconst 1, 1) := by decide +kernel
theorem dX0_tellLevel_68 : decode cX0_tellLevel 68 = .ok (.iadd, 1) := by decide +kernel
theorem dX0_tellLevel_69 : decode cX0_tellLevel 69 = .ok (.iaload, 1) := by decide +kernel
theorem dX0_tellLevel_70 : decode cX0_tellLevel 70 = .ok (.iload 6, 2) := by decide +kernel
theorem dX0_tellLevel_72 : decode cX0_tellLevel 72 = .ok (.invokestatic 79, 3) := by decide +kernel
theorem dX0_tellLevel_75 : decode cX0_tellLevel 75 = .ok (.iastore, 1) := by decide +kernel
theorem dX0_tellLevel_76 : decode cX0_tellLevel 76 = .ok (.iinc 6 1, 3) := by decide +kernel
theorem dX0_tellLevel_79 : decode cX0_tellLevel 79 = .ok (.goto (-42), 3) := by decide +kernel
theorem dX0_tellLevel_82 : decode cX0_tellLevel 82 = .ok (.return_, 1) := by decide +kernel
theorem dX1_init_0 : decode cX1_init 0 = .ok (.aload_n 0, 1) := by decide +kernel
theorem dX1_init_1 : decode cX1_init 1 = .ok (.invokespecial 3, 3) := by decide +kernel
theorem dX1_init_4 : decode cX1_init 4 = .ok (.aload_n 0, 1) := by decide +kernel
theorem dX1_init_5 : decode cX1_init 5 = .ok (.bipush 6, 2) := by decide +kernel
theorem dX1_init_7 : decode cX1_init 7 = .ok (.anewarray 9, 3) := by decide +kernel
theorem dX1_init_10 : decode cX1_init 10 = .ok (.putfield 11, 3) := by decide +kernel
theorem dX1_init_13 : decode cX1_init 13 = .ok (.iconst 0, 1) := by decide +kernel
theorem dX1_init_14 : decode cX1_init 14 = .ok (.istore_n 1, 1) := by decide +kernel
theorem dX1_init_15 : decode cX1_init 15 = .ok (.iload_n 1, 1) := by decide +kernel
theorem dX1_init_16 : decode cX1_init 16 = .ok (.bipush 6, 2) := by decide +kernel
theorem dX1_init_18 : decode cX1_init 18 = .ok (.if_icmp .ge 22, 3) := by decide +kernel
theorem dX1_init_21 : decode cX1_init 21 = .ok (.aload_n 0, 1) := by decide +kernel
theorem dX1_init_22 : decode cX1_init 22 = .ok (.getfield 11, 3) := by decide +kernel
theorem dX1_init_25 : decode cX1_init 25 = .ok (.iload_n 1, 1) := by decide +kernel
theorem dX1_init_26 : decode cX1_init 26 = .ok (.new 9, 3) := by decide +kernel
theorem dX1_init_29 : decode cX1_init 29 = .ok (.dup, 1) := by decide +kernel
theorem dX1_init_30 : decode cX1_init 30 = .ok (.invokespecial 17, 3) := by decide +kernel
theorem dX1_init_33 : decode cX1_init 33 = .ok (.aastore, 1) := by decide +kernel
theorem dX1_init_34 : decode cX1_init 34 = .ok (.iinc 1 1, 3) := by decide +kernel
theorem dX1_init_37 : decode cX1_init 37 = .ok (.goto (-22), 3) := by decide +kernel
theorem dX1_init_40 : decode cX1_init 40 = .ok (.aload_n 0, 1) := by decide +kernel
theorem dX1_init_41 : decode cX1_init 41 = .ok (.iconst 0, 1) := by decide +kernel
theorem dX1_init_42 : decode cX1_init 42 = .ok (.putfield 18, 3) := by decide +kernel
theorem dX1_init_45 : decode cX1_init 45 = .ok (.aload_n 0, 1) := by decide +kernel
theorem dX1_init_46 : decode cX1_init 46 = .ok (.iconst 0, 1) := by decide +kernel
theorem dX1_init_47 : decode cX1_init 47 = .ok (.putfield 22, 3) := by decide +kernel
theorem dX1_init_50 : decode cX1_init 50 = .ok (.return_, 1) := by decide +kernel
theorem dX1_save_0 : decode cX1_save 0 = .ok (.aload_n 0, 1) := by decide +kernel
theorem dX1_save_1 : decode cX1_save 1 = .ok (.getfield 22, 3) := by decide +kernel
theorem dX1_save_4 : decode cX1_save 4 = .ok (.bipush 6, 2) := by decide +kernel
theorem dX1_save_6 : decode cX1_save 6 = .ok (.if_icmp .ne 26, 3) := by decide +kernel
theorem dX1_save_9 : decode cX1_save 9 = .ok (.aload_n 0, 1) := by decide +kernel
theorem dX1_save_10 : decode cX1_save 10 = .ok (.aload_n 0, 1) := by decide +kernel
theorem dX1_save_11 : decode cX1_save 11 = .ok (.getfield 18, 3) := by decide +kernel
theorem dX1_save_14 : decode cX1_save 14 = .ok (.iconst 1, 1) := by decide +kernel
theorem dX1_save_15 : decode cX1_save 15 = .ok (.iadd, 1) := by decide +kernel
theorem dX1_save_16 : decode cX1_save 16 = .ok (.bipush 6, 2) := by decide +kernel
theorem dX1_save_18 : decode cX1_save 18 = .ok (.irem, 1) := by decide +kernel
theorem dX1_save_19 : decode cX1_save 19 = .ok (.putfield 18, 3) := by decide +kernel
theorem dX1_save_22 : decode cX1_save 22 = .ok (.aload_n 0, 1) := by decide +kernel
theorem dX1_save_23 : decode cX1_save 23 = .ok (.dup, 1) := by decide +kernel
theorem dX1_save_24 : decode cX1_save 24 = .ok (.getfield 22, 3) := by decide +kernel
theorem dX1_save_27 : decode cX1_save 27 = .ok (.iconst 1, 1) := by decide +kernel
theorem dX1_save_28 : decode cX1_save 28 = .ok (.isub, 1) := by decide +kernel
theorem dX1_save_29 : decode cX1_save 29 = .ok (.putfield 22, 3) := by decide +kernel
theorem dX1_save_32 : decode cX1_save 32 = .ok (.aload_n 0, 1) := by decide +kernel
theorem dX1_save_33 : decode cX1_save 33 = .ok (.getfield 11, 3) := by decide +kernel
theorem dX1_save_36 : decode cX1_save 36 = .ok (.aload_n 0, 1) := by decide +kernel
theorem dX1_save_37 : decode cX1_save 37 = .ok (.getfield 18, 3) := by decide +kernel
theorem dX1_save_40 : decode cX1_save 40 = .ok (.aload_n 0, 1) := by decide +kernel
theorem dX1_save_41 : decode cX1_save 41 = .ok (.getfield 22, 3) := by decide +kernel
theorem dX1_save_44 : decode cX1_save 44 = .ok (.iadd, 1) := by decide +kernel
theorem dX1_save_45 : decode cX1_save 45 = .ok (.bipush 6, 2) := by decide +kernel
theorem dX1_save_47 : decode cX1_save 47 = .ok (.irem, 1) := by decide +kernel
theorem dX1_save_48 : decode cX1_save 48 = .ok (.aaload, 1) := by decide +kernel
theorem dX1_save_49 : decode cX1_save 49 = .ok (.aload_n 1, 1) := by decide +kernel
theorem dX1_save_50 : decode cX1_save 50 = .ok (.invokevirtual 25, 3) := by decide +kernel
theorem dX1_save_53 : decode cX1_save 53 = .ok (.aload_n 0, 1) := by decide +kernel
theorem dX1_save_54 : decode cX1_save 54 = .ok (.dup, 1) := by decide +kernel
theorem dX1_save_55 : decode cX1_save 55 = .ok (.getfield 22, 3) := by decide +kernel
theorem dX1_save_58 : decode cX1_save 58 = .ok (.iconst 1, 1) := by decide +kernel
theorem dX1_save_59 : decode cX1_save 59 = .ok (.iadd, 1) := by decide +kernel
theorem dX1_save_60 : decode cX1_save 60 = .ok (.putfield 22, 3) := by decide +kernel
theorem dX1_save_63 : decode cX1_save 63 = .ok (.return_, 1) := by decide +kernel
theorem dX1_bringBack_0 : decode cX1_bringBack 0 = .ok (.aload_n 0, 1) := by decide +kernel
theorem dX1_bringBack_1 : decode cX1_bringBack 1 = .ok (.dup, 1) := by decide +kernel
theorem dX1_bringBack_2 : decode cX1_bringBack 2 = .ok (.getfield 22, 3) := by decide +kernel
theorem dX1_bringBack_5 : decode cX1_bringBack 5 = .ok (.iconst 1, 1) := by decide +kernel
theorem dX1_bringBack_6 : decode cX1_bringBack 6 = .ok (.isub, 1) := by decide +kernel
theorem dX1_bringBack_7 : decode cX1_bringBack 7 = .ok (.putfield 22, 3) := by decide +kernel
theorem dX1_bringBack_10 : decode cX1_bringBack 10 = .ok (.aload_n 1, 1) := by decide +kernel
theorem dX1_bringBack_11 : decode cX1_bringBack 11 = .ok (.aload_n 0, 1) := by decide +kernel
theorem dX1_bringBack_12 : decode cX1_bringBack 12 = .ok (.getfield 11, 3) := by decide +kernel
theorem dX1_bringBack_15 : decode cX1_bringBack 15 = .ok (.aload_n 0, 1) := by decide +kernel
theorem dX1_bringBack_16 : decode cX1_bringBack 16 = .ok (.getfield 18, 3) := by decide +kernel
theorem dX1_bringBack_19 : decode cX1_bringBack 19 = .ok (.aload_n 0, 1) := by decide +kernel
theorem dX1_bringBack_20 : decode cX1_bringBack 20 = .ok (.getfield 22, 3) := by decide +kernel
theorem dX1_bringBack_23 : decode cX1_bringBack 23 = .ok (.iadd, 1) := by decide +kernel
theorem dX1_bringBack_24 : decode cX1_bringBack 24 = .ok (.bipush 6, 2) := by decide +kernel
theorem dX1_bringBack_26 : decode cX1_bringBack 26 = .ok (.irem, 1) := by decide +kernel
theorem dX1_bringBack_27 : decode cX1_bringBack 27 = .ok (.aaload, 1) := by decide +kernel
theorem dX1_bringBack_28 : decode cX1_bringBack 28 = .ok (.invokevirtual 25, 3) := by decide +kernel
theorem dX1_bringBack_31 : decode cX1_bringBack 31 = .ok (.return_, 1) := by decide +kernel
theorem dX2_init_0 : decode cX2_init 0 = .ok (.aload_n 0, 1) := by decide +kernel
theorem dX2_init_1 : decode cX2_init 1 = .ok (.invokespecial 3, 3) := by decide +kernel
theorem dX2_init_4 : decode cX2_init 4 = .ok (.aload_n 0, 1) := by decide +kernel
theorem dX2_init_5 : decode cX2_init 5 = .ok (.bipush 32, 2) := by decide +kernel
theorem dX2_init_7 : decode cX2_init 7 = .ok (.newarray .int, 2) := by decide +kernel
theorem dX2_init_9 : decode cX2_init 9 = .ok (.putfield 9, 3) := by decide +kernel
theorem dX2_init_12 : decode cX2_init 12 = .ok (.aload_n 0, 1) := by decide +kernel
theorem dX2_init_13 : decode cX2_init 13 = .ok (.bipush 16, 2) := by decide +kernel
theorem dX2_init_15 : decode cX2_init 15 = .ok (.newarray .int, 2) := by decide +kernel
theorem dX2_init_17 : decode cX2_init 17 = .ok (.putfield 15, 3) := by decide +kernel
theorem dX2_init_20 : decode cX2_init 20 = .ok (.aload_n 0, 1) := by decide +kernel
theorem dX2_init_21 : decode cX2_init 21 = .ok (.iconst 2, 1) := by decide +kernel
theorem dX2_init_22 : decode cX2_init 22 = .ok (.newarray .int, 2) := by decide +kernel
theorem dX2_init_24 : decode cX2_init 24 = .ok (.putfield 18, 3) := by decide +kernel
theorem dX2_init_27 : decode cX2_init 27 = .ok (.aload_n 0, 1) := by decide +kernel
theorem dX2_init_28 : decode cX2_init 28 = .ok (.iconst 3, 1) := by decide +kernel
theorem dX2_init_29 : decode cX2_init 29 = .ok (.newarray .int, 2) := by decide +kernel
theorem dX2_init_31 : decode cX2_init 31 = .ok (.putfield 21, 3) := by decide +kernel
theorem dX2_init_34 : decode cX2_init 34 = .ok (.aload_n 0, 1) := by decide +kernel
theorem dX2_init_35 : decode cX2_init 35 = .ok (.getfield 21, 3) := by decide +kernel
theorem dX2_init_38 : decode cX2_init 38 = .ok (.iconst 0, 1) := by decide +kernel
theorem dX2_init_39 : decode cX2_init 39 = .ok (.iconst 2, 1) := by decide +kernel
theorem dX2_init_40 : decode cX2_init 40 = .ok (.iastore, 1) := by decide +kernel
theorem dX2_init_41 : decode cX2_init 41 = .ok (.aload_n 0, 1) := by decide +kernel
theorem dX2_init_42 : decode cX2_init 42 = .ok (.getfield 21, 3) := by decide +kernel
theorem dX2_init_45 : decode cX2_init 45 = .ok (.iconst 1, 1) := by decide +kernel
theorem dX2_init_46 : decode cX2_init 46 = .ok (.iconst 1, 1) := by decide +kernel
theorem dX2_init_47 : decode cX2_init 47 = .ok (.iastore, 1) := by decide +kernel
theorem dX2_init_48 : decode cX2_init 48 = .ok (.aload_n 0, 1) := by decide +kernel
theorem dX2_init_49 : decode cX2_init 49 = .ok (.getfield 21, 3) := by decide +kernel
theorem dX2_init_52 : decode cX2_init 52 = .ok (.iconst 2, 1) := by decide +kernel
theorem dX2_init_53 : decode cX2_init 53 = .ok (.iconst 1, 1) := by decide +kernel
theorem dX2_init_54 : decode cX2_init 54 = .ok (.iastore, 1) := by decide +kernel
theorem dX2_init_55 : decode cX2_init 55 = .ok (.aload_n 0, 1) := by decide +kernel
theorem dX2_init_56 : decode cX2_init 56 = .ok (.sipush 384, 3) := by decide +kernel
theorem dX2_init_59 : decode cX2_init 59 = .ok (.newarray .int, 2) := by decide +kernel
theorem dX2_init_61 : decode cX2_init 61 = .ok (.putfield 24, 3) := by decide +kernel
theorem dX2_init_64 : decode cX2_init 64 = .ok (.aload_n 0, 1) := by decide +kernel
theorem dX2_init_65 : decode cX2_init 65 = .ok (.bipush 6, 2) := by decide +kernel
theorem dX2_init_67 : decode cX2_init 67 = .ok (.newarray .int, 2) := by decide +kernel
theorem dX2_init_69 : decode cX2_init 69 = .ok (.putfield 27, 3) := by decide +kernel
theorem dX2_init_72 : decode cX2_init 72 = .ok (.aload_n 0, 1) := by decide +kernel
theorem dX2_init_73 : decode cX2_init 73 = .ok (.iconst 0, 1) := by decide +kernel
theorem dX2_init_74 : decode cX2_init 74 = .ok (.putfield 30, 3) := by decide +kernel
theorem dX2_init_77 : decode cX2_init 77 = .ok (.aload_n 0, 1) := by decide +kernel
theorem dX2_init_78 : decode cX2_init 78 = .ok (.iconst 0, 1) := by decide +kernel
theorem dX2_init_79 : decode cX2_init 79 = .ok (.putfield 34, 3) := by decide +kernel
theorem dX2_init_82 : decode cX2_init 82 = .ok (.aload_n 0, 1) := by decide +kernel
theorem dX2_init_83 : decode cX2_init 83 = .ok (.iconst 0, 1) := by decide +kernel
theorem dX2_init_84 : decode cX2_init 84 = .ok (.putfield 37, 3) := by decide +kernel
theorem dX2_init_87 : decode cX2_init 87 = .ok (.aload_n 0, 1) := by decide +kernel
theorem dX2_init_88 : decode cX2_init 88 = .ok (.iconst 0, 1) := by decide +kernel
theorem dX2_init_89 : decode cX2_init 89 = .ok (.putfield 40, 3) := by decide +kernel
theorem dX2_init_92 : decode cX2_init 92 = .ok (.return_, 1) := by decide +kernel
theorem dX2_become_0 : decode cX2_become 0 = .ok (.aload_n 1, 1) := by decide +kernel
theorem dX2_become_1 : decode cX2_become 1 = .ok (.getfield 9, 3) := by decide +kernel
theorem dX2_become_4 : decode cX2_become 4 = .ok (.iconst 0, 1) := by decide +kernel
theorem dX2_become_5 : decode cX2_become 5 = .ok (.aload_n 0, 1) := by decide +kernel
theorem dX2_become_6 : decode cX2_become 6 = .ok (.getfield 9, 3) := by decide +kernel
theorem dX2_become_9 : decode cX2_become 9 = .ok (.iconst 0, 1) := by decide +kernel
theorem dX2_become_10 : decode cX2_become 10 = .ok (.bipush 32, 2) := by decide +kernel
theorem dX2_become_12 : decode cX2_become 12 = .ok (.invokestatic 43, 3) := by decide +kernel
theorem dX2_become_15 : decode cX2_become 15 = .ok (.aload_n 1, 1) := by decide +kernel
theorem dX2_become_16 : decode cX2_become 16 = .ok (.getfield 15, 3) := by decide +kernel
theorem dX2_become_19 : decode cX2_become 19 = .ok (.iconst 0, 1) := by decide +kernel
theorem dX2_become_20 : decode cX2_become 20 = .ok (.aload_n 0, 1) := by decide +kernel
theorem dX2_become_21 : decode cX2_become 21 = .ok (.getfield 15, 3) := by decide +kernel
theorem dX2_become_24 : decode cX2_become 24 = .ok (.iconst 0, 1) := by decide +kernel
theorem dX2_become_25 : decode cX2_become 25 = .ok (.bipush 16, 2) := by decide +kernel
theorem dX2_become_27 : decode cX2_become 27 = .ok (.invokestatic 43, 3) := by decide +kernel
theorem dX2_become_30 : decode cX2_become 30 = .ok (.aload_n 1, 1) := by decide +kernel
theorem dX2_become_31 : decode cX2_become 31 = .ok (.getfield 18, 3) := by decide +kernel
theorem dX2_become_34 : decode cX2_become 34 = .ok (.iconst 0, 1) := by decide +kernel
theorem dX2_become_35 : decode cX2_become 35 = .ok (.aload_n 0, 1) := by decide +kernel
theorem dX2_become_36 : decode cX2_become 36 = .ok (.getfield 18, 3) := by decide +kernel
theorem dX2_become_39 : decode cX2_become 39 = .ok (.iconst 0, 1) := by decide +kernel
theorem dX2_become_40 : decode cX2_become 40 = .ok (.iconst 2, 1) := by decide +kernel
theorem dX2_become_41 : decode cX2_become 41 = .ok (.invokestatic 43, 3) := by decide +kernel
theorem dX2_become_44 : decode cX2_become 44 = .ok (.aload_n 1, 1) := by decide +kernel
theorem dX2_become_45 : decode cX2_become 45 = .ok (.getfield 21, 3) := by decide +kernel
theorem dX2_become_48 : decode cX2_become 48 = .ok (.iconst 0, 1) := by decide +kernel
theorem dX2_become_49 : decode cX2_become 49 = .ok (.aload_n 0, 1) := by decide +kernel
theorem dX2_become_50 : decode cX2_become 50 = .ok (.getfield 21, 3) := by decide +kernel
theorem dX2_become_53 : decode cX2_become 53 = .ok (.iconst 0, 1) := by decide +kernel
theorem dX2_become_54 : decode cX2_become 54 = .ok (.iconst 3, 1) := by decide +kernel
theorem dX2_become_55 : decode cX2_become 55 = .ok (.invokestatic 43, 3) := by decide +kernel
theorem dX2_become_58 : decode cX2_become 58 = .ok (.aload_n 1, 1) := by decide +kernel
theorem dX2_become_59 : decode cX2_become 59 = .ok (.getfield 24, 3) := by decide +kernel
theorem dX2_become_62 : decode cX2_become 62 = .ok (.iconst 0, 1) := by decide +kernel
theorem dX2_become_63 : decode cX2_become 63 = .ok (.aload_n 0, 1) := by decide +kernel
theorem dX2_become_64 : decode cX2_become 64 = .ok (.getfield 24, 3) := by decide +kernel
theorem dX2_become_67 : decode cX2_become 67 = .ok (.iconst 0, 1) := by decide +kernel
theorem dX2_become_68 : decode cX2_become 68 = .ok (.sipush 384, 3) := by decide +kernel
theorem dX2_become_71 : decode cX2_become 71 = .ok (.invokestatic 43, 3) := by decide +kernel
theorem dX2_become_74 : decode cX2_become 74 = .ok (.aload_n 1, 1) := by decide +kernel
theorem dX2_become_75 : decode cX2_become 75 = .ok (.getfield 27, 3) := by decide +kernel
theorem dX2_become_78 : decode cX2_become 78 = .ok (.iconst 0, 1) := by decide +kernel
theorem dX2_become_79 : decode cX2_become 79 = .ok (.aload_n 0, 1) := by decide +kernel
theorem dX2_become_80 : decode cX2_become 80 = .ok (.getfield 27, 3) := by decide +kernel
theorem dX2_become_83 : decode cX2_become 83 = .ok (.iconst 0, 1) := by decide +kernel
theorem dX2_become_84 : decode cX2_become 84 = .ok (.bipush 6, 2) := by decide +kernel
theorem dX2_become_86 : decode cX2_become 86 = .ok (.invokestatic 43, 3) := by decide +kernel
theorem dX2_become_89 : decode cX2_become 89 = .ok (.aload_n 0, 1) := by decide +kernel
theorem dX2_become_90 : decode cX2_become 90 = .ok (.aload_n 1, 1) := by decide +kernel
theorem dX2_become_91 : decode cX2_become 91 = .ok (.getfield 30, 3) := by decide +kernel
theorem dX2_become_94 : decode cX2_become 94 = .ok (.putfield 30, 3) := by decide +kernel
theorem dX2_become_97 : decode cX2_become 97 = .ok (.aload_n 0, 1) := by decide +kernel
theorem dX2_become_98 : decode cX2_become 98 = .ok (.aload_n 1, 1) := by decide +kernel
theorem dX2_become_99 : decode cX2_become 99 = .ok (.getfield 34, 3) := by decide +kernel
theorem dX2_become_102 : decode cX2_become 102 = .ok (.putfield 34, 3) := by decide +kernel
theorem dX2_become_105 : decode cX2_become 105 = .ok (.aload_n 0, 1) := by decide +kernel
theorem dX2_become_106 : decode cX2_become 106 = .ok (.aload_n 1, 1) := by decide +kernel
theorem dX2_become_107 : decode cX2_become 107 = .ok (.getfield 37, 3) := by decide +kernel
theorem dX2_become_110 : decode cX2_become 110 = .ok (.putfield 37, 3) := by decide +kernel
theorem dX2_become_113 : decode cX2_become 113 = .ok (.aload_n 0, 1) := by decide +kernel
theorem dX2_become_114 : decode cX2_become 114 = .ok (.aload_n 1, 1) := by decide +kernel
theorem dX2_become_115 : decode cX2_become 115 = .ok (.getfield 40, 3) := by decide +kernel
theorem dX2_become_118 : decode cX2_become 118 = .ok (.putfield 40, 3) := by decide +kernel
theorem dX2_become_121 : decode cX2_become 121 = .ok (.return_, 1) := by decide +kernel
theorem dX3_init_0 : decode cX3_init 0 = .ok (.aload_n 0, 1) := by decide +kernel
theorem dX3_init_1 : decode cX3_init 1 = .ok (.invokespecial 3, 3) := by decide +kernel
theorem dX3_init_4 : decode cX3_init 4 = .ok (.aload_n 0, 1) := by decide +kernel
theorem dX3_init_5 : decode cX3_init 5 = .ok (.iconst 0, 1) := by decide +kernel
theorem dX3_init_6 : decode cX3_init 6 = .ok (.putfield 11, 3) := by decide +kernel
theorem dX3_init_9 : decode cX3_init 9 = .ok (.aload_n 0, 1) := by decide +kernel
theorem dX3_init_10 : decode cX3_init 10 = .ok (.iconst 0, 1) := by decide +kernel
theorem dX3_init_11 : decode cX3_init 11 = .ok (.putfield 15, 3) := by decide +kernel
theorem dX3_init_14 : decode cX3_init 14 = .ok (.aload_n 0, 1) := by decide +kernel
theorem dX3_init_15 : decode cX3_init 15 = .ok (.iconst 0, 1) := by decide +kernel
theorem dX3_init_16 : decode cX3_init 16 = .ok (.putfield 18, 3) := by decide +kernel
theorem dX3_init_19 : decode cX3_init 19 = .ok (.aload_n 0, 1) := by decide +kernel
theorem dX3_init_20 : decode cX3_init 20 = .ok (.iconst 0, 1) := by decide +kernel
theorem dX3_init_21 : decode cX3_init 21 = .ok (.putfield 21, 3) := by decide +kernel
theorem dX3_init_24 : decode cX3_init 24 = .ok (.aload_n 0, 1) := by decide +kernel
theorem dX3_init_25 : decode cX3_init 25 = .ok (.iconst 0, 1) := by decide +kernel
theorem dX3_init_26 : decode cX3_init 26 = .ok (.putfield 24, 3) := by decide +kernel
theorem dX3_init_29 : decode cX3_init 29 = .ok (.aload_n 0, 1) := by decide +kernel
theorem dX3_init_30 : decode cX3_init 30 = .ok (.iconst 0, 1) := by decide +kernel
theorem dX3_init_31 : decode cX3_init 31 = .ok (.putfield 27, 3) := by decide +kernel
theorem dX3_init_34 : decode cX3_init 34 = .ok (.return_, 1) := by decide +kernel
theorem dX4_init_0 : decode cX4_init 0 = .ok (.aload_n 0, 1) := by decide +kernel
theorem dX4_init_1 : decode cX4_init 1 = .ok (.invokespecial 3, 3) := by decide +kernel
theorem dX4_init_4 : decode cX4_init 4 = .ok (.aload_n 0, 1) := by decide +kernel
theorem dX4_init_5 : decode cX4_init 5 = .ok (.new 9, 3) := by decide +kernel
theorem dX4_init_8 : decode cX4_init 8 = .ok (.dup, 1) := by decide +kernel
theorem dX4_init_9 : decode cX4_init 9 = .ok (.invokespecial 11, 3) := by decide +kernel
theorem dX4_init_12 : decode cX4_init 12 = .ok (.putfield 12, 3) := by decide +kernel
theorem dX4_init_15 : decode cX4_init 15 = .ok (.aload_n 0, 1) := by decide +kernel
theorem dX4_init_16 : decode cX4_init 16 = .ok (.iconst 2, 1) := by decide +kernel
theorem dX4_init_17 : decode cX4_init 17 = .ok (.anewarray 9, 3) := by decide +kernel
theorem dX4_init_20 : decode cX4_init 20 = .ok (.putfield 16, 3) := by decide +kernel
theorem dX4_init_23 : decode cX4_init 23 = .ok (.iconst 0, 1) := by decide +kernel
theorem dX4_init_24 : decode cX4_init 24 = .ok (.istore_n 1, 1) := by decide +kernel
theorem dX4_init_25 : decode cX4_init 25 = .ok (.iload_n 1, 1) := by decide +kernel
theorem dX4_init_26 : decode cX4_init 26 = .ok (.iconst 2, 1) := by decide +kernel
theorem dX4_init_27 : decode cX4_init 27 = .ok (.if_icmp .ge 22, 3) := by decide +kernel
theorem dX4_init_30 : decode cX4_init 30 = .ok (.aload_n 0, 1) := by decide +kernel
theorem dX4_init_31 : decode cX4_init 31 = .ok (.getfield 16, 3) := by decide +kernel
theorem dX4_init_34 : decode cX4_init 34 = .ok (.iload_n 1, 1) := by decide +kernel
theorem dX4_init_35 : decode cX4_init 35 = .ok (.new 9, 3) := by decide +kernel
theorem dX4_init_38 : decode cX4_init 38 = .ok (.dup, 1) := by decide +kernel
theorem dX4_init_39 : decode cX4_init 39 = .ok (.invokespecial 11, 3) := by decide +kernel
theorem dX4_init_42 : decode cX4_init 42 = .ok (.aastore, 1) := by decide +kernel
theorem dX4_init_43 : decode cX4_init 43 = .ok (.iinc 1 1, 3) := by decide +kernel
theorem dX4_init_46 : decode cX4_init 46 = .ok (.goto (-21), 3) := by decide +kernel
theorem dX4_init_49 : decode cX4_init 49 = .ok (.aload_n 0, 1) := by decide +kernel
theorem dX4_init_50 : decode cX4_init 50 = .ok (.iconst 2, 1) := by decide +kernel
theorem dX4_init_51 : decode cX4_init 51 = .ok (.newarray .boolean, 2) := by decide +kernel
theorem dX4_init_53 : decode cX4_init 53 = .ok (.putfield 20, 3) := by decide +kernel
theorem dX4_init_56 : decode cX4_init 56 = .ok (.aload_n 0, 1) := by decide +kernel
theorem dX4_init_57 : decode cX4_init 57 = .ok (.new 24, 3) := by decide +kernel
theorem dX4_init_60 : decode cX4_init 60 = .ok (.dup, 1) := by decide +kernel
theorem dX4_init_61 : decode cX4_init 61 = .ok (.invokespecial 26, 3) := by decide +kernel
theorem dX4_init_64 : decode cX4_init 64 = .ok (.putfield 27, 3) := by decide +kernel
theorem dX4_init_67 : decode cX4_init 67 = .ok (.aload_n 0, 1) := by decide +kernel
theorem dX4_init_68 : decode cX4_init 68 = .ok (.new 31, 3) := by decide +kernel
theorem dX4_init_71 : decode cX4_init 71 = .ok (.dup, 1) := by decide +kernel
theorem dX4_init_72 : decode cX4_init 72 = .ok (.invokespecial 33, 3) := by decide +kernel
theorem dX4_init_75 : decode cX4_init 75 = .ok (.putfield 34, 3) := by decide +kernel
theorem dX4_init_78 : decode cX4_init 78 = .ok (.aload_n 0, 1) := by decide +kernel
theorem dX4_init_79 : decode cX4_init 79 = .ok (.new 38, 3) := by decide +kernel
theorem dX4_init_82 : decode cX4_init 82 = .ok (.dup, 1) := by decide +kernel
theorem dX4_init_83 : decode cX4_init 83 = .ok (.invokespecial 40, 3) := by decide +kernel
theorem dX4_init_86 : decode cX4_init 86 = .ok (.putfield 41, 3) := by decide +kernel
theorem dX4_init_89 : decode cX4_init 89 = .ok (.aload_n 0, 1) := by decide +kernel
theorem dX4_init_90 : decode cX4_init 90 = .ok (.bipush 60, 2) := by decide +kernel
theorem dX4_init_92 : decode cX4_init 92 = .ok (.newarray .char, 2) := by decide +kernel
theorem dX4_init_94 : decode cX4_init 94 = .ok (.putfield 45, 3) := by decide +kernel
theorem dX4_init_97 : decode cX4_init 97 = .ok (.aload_n 0, 1) := by decide +kernel
theorem dX4_init_98 : decode cX4_init 98 = .ok (.iconst 0, 1) := by decide +kernel
theorem dX4_init_99 : decode cX4_init 99 = .ok (.putfield 49, 3) := by decide +kernel
theorem dX4_init_102 : decode cX4_init 102 = .ok (.return_, 1) := by decide +kernel
theorem dX4_bend_0 : decode cX4_bend 0 = .ok (.iload_n 1, 1) := by decide +kernel
theorem dX4_bend_1 : decode cX4_bend 1 = .ok (.bipush 16, 2) := by decide +kernel
theorem dX4_bend_3 : decode cX4_bend 3 = .ok (.invokestatic 53, 3) := by decide +kernel
theorem dX4_bend_6 : decode cX4_bend 6 = .ok (.iload_n 2, 1) := by decide +kernel
theorem dX4_bend_7 : decode cX4_bend 7 = .ok (.iconst 2, 1) := by decide +kernel
theorem dX4_bend_8 : decode cX4_bend 8 = .ok (.invokestatic 53, 3) := by decide +kernel
theorem dX4_bend_11 : decode cX4_bend 11 = .ok (.iload_n 3, 1) := by decide +kernel
theorem dX4_bend_12 : decode cX4_bend 12 = .ok (.bipush (-99), 2) := by decide +kernel
theorem dX4_bend_14 : decode cX4_bend 14 = .ok (.bipush 99, 2) := by decide +kernel
theorem dX4_bend_16 : decode cX4_bend 16 = .ok (.invokestatic 57, 3) := by decide +kernel
theorem dX4_bend_19 : decode cX4_bend 19 = .ok (.aload_n 0, 1) := by decide +kernel
theorem dX4_bend_20 : decode cX4_bend 20 = .ok (.invokevirtual 61, 3) := by decide +kernel
theorem dX4_bend_23 : decode cX4_bend 23 = .ok (.aload_n 0, 1) := by decide +kernel
theorem dX4_bend_24 : decode cX4_bend 24 = .ok (.getfield 12, 3) := by decide +kernel
theorem dX4_bend_27 : decode cX4_bend 27 = .ok (.getfield 64, 3) := by decide +kernel
theorem dX4_bend_30 : decode cX4_bend 30 = .ok (.iload_n 1, 1) := by decide +kernel
theorem dX4_bend_31 : decode cX4_bend 31 = .ok (.iconst 2, 1) := by decide +kernel
theorem dX4_bend_32 : decode cX4_bend 32 = .ok (.imul, 1) := by decide +kernel
theorem dX4_bend_33 : decode cX4_bend 33 = .ok (.iload_n 2, 1) := by decide +kernel
theorem dX4_bend_34 : decode cX4_bend 34 = .ok (.iadd, 1) := by decide +kernel
theorem dX4_bend_35 : decode cX4_bend 35 = .ok (.iaload, 1) := by decide +kernel
theorem dX4_bend_36 : decode cX4_bend 36 = .ok (.istore 4, 2) := by decide +kernel
theorem dX4_bend_38 : decode cX4_bend 38 = .ok (.aload_n 0, 1) := by decide +kernel
theorem dX4_bend_39 : decode cX4_bend 39 = .ok (.getfield 12, 3) := by decide +kernel
theorem dX4_bend_42 : decode cX4_bend 42 = .ok (.getfield 64, 3) := by decide +kernel
theorem dX4_bend_45 : decode cX4_bend 45 = .ok (.iload_n 1, 1) := by decide +kernel
theorem dX4_bend_46 : decode cX4_bend 46 = .ok (.iconst 2, 1) := by decide +kernel
theorem dX4_bend_47 : decode cX4_bend 47 = .ok (.imul, 1) := by decide +kernel
theorem dX4_bend_48 : decode cX4_bend 48 = .ok (.iload_n 2, 1) := by decide +kernel
theorem dX4_bend_49 : decode cX4_bend 49 = .ok (.iadd, 1) := by decide +kernel
theorem dX4_bend_50 : decode cX4_bend 50 = .ok (.iload_n 3, 1) := by decide +kernel
theorem dX4_bend_51 : decode cX4_bend 51 = .ok (.iastore, 1) := by decide +kernel
theorem dX4_bend_52 : decode cX4_bend 52 = .ok (.iload 4, 2) := by decide +kernel
theorem dX4_bend_54 : decode cX4_bend 54 = .ok (.ireturn, 1) := by decide +kernel
theorem dX4_slide_0 : decode cX4_slide 0 = .ok (.iload_n 1, 1) := by decide +kernel
theorem dX4_slide_1 : decode cX4_slide 1 = .ok (.bipush 16, 2) := by decide +kernel
theorem dX4_slide_3 : decode cX4_slide 3 = .ok (.invokestatic 53, 3) := by decide +kernel
theorem dX4_slide_6 : decode cX4_slide 6 = .ok (.iload_n 2, 1) := by decide +kernel
theorem dX4_slide_7 : decode cX4_slide 7 = .ok (.iconst 2, 1) := by decide +kernel
theorem dX4_slide_8 : decode cX4_slide 8 = .ok (.invokestatic 53, 3) := by decide +kernel
theorem dX4_slide_11 : decode cX4_slide 11 = .ok (.iload_n 3, 1) := by decide +kernel
theorem dX4_slide_12 : decode cX4_slide 12 = .ok (.bipush (-99), 2) := by decide +kernel
theorem dX4_slide_14 : decode cX4_slide 14 = .ok (.bipush 99, 2) := by decide +kernel
theorem dX4_slide_16 : decode cX4_slide 16 = .ok (.invokestatic 57, 3) := by decide +kernel
theorem dX4_slide_19 : decode cX4_slide 19 = .ok (.aload_n 0, 1) := by decide +kernel
theorem dX4_slide_20 : decode cX4_slide 20 = .ok (.invokevirtual 61, 3) := by decide +kernel
theorem dX4_slide_23 : decode cX4_slide 23 = .ok (.aload_n 0, 1) := by decide +kernel
theorem dX4_slide_24 : decode cX4_slide 24 = .ok (.getfield 12, 3) := by decide +kernel
theorem dX4_slide_27 : decode cX4_slide 27 = .ok (.getfield 64, 3) := by decide +kernel
theorem dX4_slide_30 : decode cX4_slide 30 = .ok (.iload_n 1, 1) := by decide +kernel
theorem dX4_slide_31 : decode cX4_slide 31 = .ok (.iconst 2, 1) := by decide +kernel
theorem dX4_slide_32 : decode cX4_slide 32 = .ok (.imul, 1) := by decide +kernel
theorem dX4_slide_33 : decode cX4_slide 33 = .ok (.iload_n 2, 1) := by decide +kernel
theorem dX4_slide_34 : decode cX4_slide 34 = .ok (.iadd, 1) := by decide +kernel
theorem dX4_slide_35 : decode cX4_slide 35 = .ok (.iaload, 1) := by decide +kernel
theorem dX4_slide_36 : decode cX4_slide 36 = .ok (.iload_n 3, 1) := by decide +kernel
theorem dX4_slide_37 : decode cX4_slide 37 = .ok (.iadd, 1) := by decide +kernel
theorem dX4_slide_38 : decode cX4_slide 38 = .ok (.istore 4, 2) := by decide +kernel
theorem dX4_slide_40 : decode cX4_slide 40 = .ok (.bipush (-99), 2) := by decide +kernel
theorem dX4_slide_42 : decode cX4_slide 42 = .ok (.bipush 99, 2) := by decide +kernel
theorem dX4_slide_44 : decode cX4_slide 44 = .ok (.iload 4, 2) := by decide +kernel
theorem dX4_slide_46 : decode cX4_slide 46 = .ok (.invokestatic 68, 3) := by decide +kernel
theorem dX4_slide_49 : decode cX4_slide 49 = .ok (.invokestatic 74, 3) := by decide +kernel
theorem dX4_slide_52 : decode cX4_slide 52 = .ok (.istore 5, 2) := by decide +kernel
theorem dX4_slide_54 : decode cX4_slide 54 = .ok (.aload_n 0, 1) := by decide +kernel
theorem dX4_slide_55 : decode cX4_slide 55 = .ok (.getfield 12, 3) := by decide +kernel
theorem dX4_slide_58 : decode cX4_slide 58 = .ok (.getfield 64, 3) := by decide +kernel
theorem dX4_slide_61 : decode cX4_slide 61 = .ok (.iload_n 1, 1) := by decide +kernel
theorem dX4_slide_62 : decode cX4_slide 62 = .ok (.iconst 2, 1) := by decide +kernel
theorem dX4_slide_63 : decode cX4_slide 63 = .ok (.imul, 1) := by decide +kernel
theorem dX4_slide_64 : decode cX4_slide 64 = .ok (.iload_n 2, 1) := by decide +kernel
theorem dX4_slide_65 : decode cX4_slide 65 = .ok (.iadd, 1) := by decide +kernel
theorem dX4_slide_66 : decode cX4_slide 66 = .ok (.iload 5, 2) := by decide +kernel
theorem dX4_slide_68 : decode cX4_slide 68 = .ok (.iastore, 1) := by decide +kernel
theorem dX4_slide_69 : decode cX4_slide 69 = .ok (.iload 5, 2) := by decide +kernel
theorem dX4_slide_71 : decode cX4_slide 71 = .ok (.ireturn, 1) := by decide +kernel
theorem dX4_turn_0 : decode cX4_turn 0 = .ok (.iload_n 1, 1) := by decide +kernel
theorem dX4_turn_1 : decode cX4_turn 1 = .ok (.bipush 16, 2) := by decide +kernel
theorem dX4_turn_3 : decode cX4_turn 3 = .ok (.invokestatic 53, 3) := by decide +kernel
theorem dX4_turn_6 : decode cX4_turn 6 = .ok (.iload_n 2, 1) := by decide +kernel
theorem dX4_turn_7 : decode cX4_turn 7 = .ok (.iconst 0, 1) := by decide +kernel
theorem dX4_turn_8 : decode cX4_turn 8 = .ok (.iconst 3, 1) := by decide +kernel
theorem dX4_turn_9 : decode cX4_turn 9 = .ok (.invokestatic 57, 3) := by decide +kernel
theorem dX4_turn_12 : decode cX4_turn 12 = .ok (.aload_n 0, 1) := by decide +kernel
theorem dX4_turn_13 : decode cX4_turn 13 = .ok (.invokevirtual 61, 3) := by decide +kernel
theorem dX4_turn_16 : decode cX4_turn 16 = .ok (.aload_n 0, 1) := by decide +kernel
theorem dX4_turn_17 : decode cX4_turn 17 = .ok (.getfield 12, 3) := by decide +kernel
theorem dX4_turn_20 : decode cX4_turn 20 = .ok (.getfield 77, 3) := by decide +kernel
theorem dX4_turn_23 : decode cX4_turn 23 = .ok (.iload_n 1, 1) := by decide +kernel
theorem dX4_turn_24 : decode cX4_turn 24 = .ok (.iaload, 1) := by decide +kernel
theorem dX4_turn_25 : decode cX4_turn 25 = .ok (.istore_n 3, 1) := by decide +kernel
theorem dX4_turn_26 : decode cX4_turn 26 = .ok (.aload_n 0, 1) := by decide +kernel
theorem dX4_turn_27 : decode cX4_turn 27 = .ok (.getfield 12, 3) := by decide +kernel
theorem dX4_turn_30 : decode cX4_turn 30 = .ok (.getfield 77, 3) := by decide +kernel
theorem dX4_turn_33 : decode cX4_turn 33 = .ok (.iload_n 1, 1) := by decide +kernel
theorem dX4_turn_34 : decode cX4_turn 34 = .ok (.iload_n 2, 1) := by decide +kernel
theorem dX4_turn_35 : decode cX4_turn 35 = .ok (.iastore, 1) := by decide +kernel
theorem dX4_turn_36 : decode cX4_turn 36 = .ok (.iload_n 3, 1) := by decide +kernel
theorem dX4_turn_37 : decode cX4_turn 37 = .ok (.ireturn, 1) := by decide +kernel
theorem dX4_bias_0 : decode cX4_bias 0 = .ok (.iload_n 1, 1) := by decide +kernel
theorem dX4_bias_1 : decode cX4_bias 1 = .ok (.iconst 2, 1) := by decide +kernel
theorem dX4_bias_2 : decode cX4_bias 2 = .ok (.invokestatic 53, 3) := by decide +kernel
theorem dX4_bias_5 : decode cX4_bias 5 = .ok (.iload_n 2, 1) := by decide +kernel
theorem dX4_bias_6 : decode cX4_bias 6 = .ok (.bipush (-50), 2) := by decide +kernel
theorem dX4_bias_8 : decode cX4_bias 8 = .ok (.bipush 50, 2) := by decide +kernel
theorem dX4_bias_10 : decode cX4_bias 10 = .ok (.invokestatic 57, 3) := by decide +kernel
theorem dX4_bias_13 : decode cX4_bias 13 = .ok (.aload_n 0, 1) := by decide +kernel
theorem dX4_bias_14 : decode cX4_bias 14 = .ok (.invokevirtual 61, 3) := by decide +kernel
theorem dX4_bias_17 : decode cX4_bias 17 = .ok (.aload_n 0, 1) := by decide +kernel
theorem dX4_bias_18 : decode cX4_bias 18 = .ok (.getfield 12, 3) := by decide +kernel
theorem dX4_bias_21 : decode cX4_bias 21 = .ok (.getfield 80, 3) := by decide +kernel
theorem dX4_bias_24 : decode cX4_bias 24 = .ok (.iload_n 1, 1) := by decide +kernel
theorem dX4_bias_25 : decode cX4_bias 25 = .ok (.iaload, 1) := by decide +kernel
theorem dX4_bias_26 : decode cX4_bias 26 = .ok (.istore_n 3, 1) := by decide +kernel
theorem dX4_bias_27 : decode cX4_bias 27 = .ok (.aload_n 0, 1) := by decide +kernel
theorem dX4_bias_28 : decode cX4_bias 28 = .ok (.getfield 12, 3) := by decide +kernel
theorem dX4_bias_31 : decode cX4_bias 31 = .ok (.getfield 80, 3) := by decide +kernel
theorem dX4_bias_34 : decode cX4_bias 34 = .ok (.iload_n 1, 1) := by decide +kernel
theorem dX4_bias_35 : decode cX4_bias 35 = .ok (.iload_n 2, 1) := by decide +kernel
theorem dX4_bias_36 : decode cX4_bias 36 = .ok (.iastore, 1) := by decide +kernel
theorem dX4_bias_37 : decode cX4_bias 37 = .ok (.iload_n 3, 1) := by decide +kernel
theorem dX4_bias_38 : decode cX4_bias 38 = .ok (.ireturn, 1) := by decide +kernel
theorem dX4_set_0 : decode cX4_set 0 = .ok (.iload_n 1, 1) := by decide +kernel
theorem dX4_set_1 : decode cX4_set 1 = .ok (.iconst 3, 1) := by decide +kernel
theorem dX4_set_2 : decode cX4_set 2 = .ok (.invokestatic 53, 3) := by decide +kernel
theorem dX4_set_5 : decode cX4_set 5 = .ok (.iload_n 2, 1) := by decide +kernel
theorem dX4_set_6 : decode cX4_set 6 = .ok (.iconst 0, 1) := by decide +kernel
theorem dX4_set_7 : decode cX4_set 7 = .ok (.iload_n 1, 1) := by decide +kernel
theorem dX4_set_8 : decode cX4_set 8 = .ok (.ifCond .ne 8, 3) := by decide +kernel
theorem dX4_set_11 : decode cX4_set 11 = .ok (.bipush 99, 2) := by decide +kernel
theorem dX4_set_13 : decode cX4_set 13 = .ok (.goto 4, 3) := by decide +kernel
theorem dX4_set_16 : decode cX4_set 16 = .ok (.iconst 1, 1) := by decide +kernel
theorem dX4_set_17 : decode cX4_set 17 = .ok (.invokestatic 57, 3) := by decide +kernel
theorem dX4_set_20 : decode cX4_set 20 = .ok (.aload_n 0, 1) := by decide +kernel
theorem dX4_set_21 : decode cX4_set 21 = .ok (.invokevirtual 61, 3) := by decide +kernel
theorem dX4_set_24 : decode cX4_set 24 = .ok (.aload_n 0, 1) := by decide +kernel
theorem dX4_set_25 : decode cX4_set 25 = .ok (.getfield 12, 3) := by decide +kernel
theorem dX4_set_28 : decode cX4_set 28 = .ok (.getfield 83, 3) := by decide +kernel
theorem dX4_set_31 : decode cX4_set 31 = .ok (.iload_n 1, 1) := by decide +kernel
theorem dX4_set_32 : decode cX4_set 32 = .ok (.iaload, 1) := by decide +kernel
theorem dX4_set_33 : decode cX4_set 33 = .ok (.istore_n 3, 1) := by decide +kernel
theorem dX4_set_34 : decode cX4_set 34 = .ok (.aload_n 0, 1) := by decide +kernel
theorem dX4_set_35 : decode cX4_set 35 = .ok (.getfield 12, 3) := by decide +kernel
theorem dX4_set_38 : decode cX4_set 38 = .ok (.getfield 83, 3) := by decide +kernel
theorem dX4_set_41 : decode cX4_set 41 = .ok (.iload_n 1, 1) := by decide +kernel
theorem dX4_set_42 : decode cX4_set 42 = .ok (.iload_n 2, 1) := by decide +kernel
theorem dX4_set_43 : decode cX4_set 43 = .ok (.iastore, 1) := by decide +kernel
theorem dX4_set_44 : decode cX4_set 44 = .ok (.iload_n 3, 1) := by decide +kernel
theorem dX4_set_45 : decode cX4_set 45 = .ok (.ireturn, 1) := by decide +kernel
theorem dX4_pass_0 : decode cX4_pass 0 = .ok (.iload_n 1, 1) := by decide +kernel
theorem dX4_pass_1 : decode cX4_pass 1 = .ok (.iconst 1, 1) := by decide +kernel
theorem dX4_pass_2 : decode cX4_pass 2 = .ok (.bipush 99, 2) := by decide +kernel
theorem dX4_pass_4 : decode cX4_pass 4 = .ok (.invokestatic 57, 3) := by decide +kernel
theorem dX4_pass_7 : decode cX4_pass 7 = .ok (.aload_n 0, 1) := by decide +kernel
theorem dX4_pass_8 : decode cX4_pass 8 = .ok (.getfield 12, 3) := by decide +kernel
theorem dX4_pass_11 : decode cX4_pass 11 = .ok (.getfield 86, 3) := by decide +kernel
theorem dX4_pass_14 : decode cX4_pass 14 = .ok (.iload_n 1, 1) := by decide +kernel
theorem dX4_pass_15 : decode cX4_pass 15 = .ok (.iadd, 1) := by decide +kernel
theorem dX4_pass_16 : decode cX4_pass 16 = .ok (.sipush 9999, 3) := by decide +kernel
theorem dX4_pass_19 : decode cX4_pass 19 = .ok (.if_icmp .gt 7, 3) := by decide +kernel
theorem dX4_pass_22 : decode cX4_pass 22 = .ok (.iconst 1, 1) := by decide +kernel
theorem dX4_pass_23 : decode cX4_pass 23 = .ok (.goto 4, 3) := by decide +kernel
theorem dX4_pass_26 : decode cX4_pass 26 = .ok (.iconst 0, 1) := by decide +kernel
theorem dX4_pass_27 : decode cX4_pass 27 = .ok (.invokestatic 89, 3) := by decide +kernel
theorem dX4_pass_30 : decode cX4_pass 30 = .ok (.aload_n 0, 1) := by decide +kernel
theorem dX4_pass_31 : decode cX4_pass 31 = .ok (.invokevirtual 61, 3) := by decide +kernel
theorem dX4_pass_34 : decode cX4_pass 34 = .ok (.aload_n 0, 1) := by decide +kernel
theorem dX4_pass_35 : decode cX4_pass 35 = .ok (.getfield 12, 3) := by decide +kernel
theorem dX4_pass_38 : decode cX4_pass 38 = .ok (.dup, 1) := by decide +kernel
theorem dX4_pass_39 : decode cX4_pass 39 = .ok (.getfield 86, 3) := by decide +kernel
theorem dX4_pass_42 : decode cX4_pass 42 = .ok (.iload_n 1, 1) := by decide +kernel
theorem dX4_pass_43 : decode cX4_pass 43 = .ok (.iadd, 1) := by decide +kernel
theorem dX4_pass_44 : decode cX4_pass 44 = .ok (.putfield 86, 3) := by decide +kernel
theorem dX4_pass_47 : decode cX4_pass 47 = .ok (.aload_n 0, 1) := by decide +kernel
theorem dX4_pass_48 : decode cX4_pass 48 = .ok (.getfield 12, 3) := by decide +kernel
theorem dX4_pass_51 : decode cX4_pass 51 = .ok (.getfield 86, 3) := by decide +kernel
theorem dX4_pass_54 : decode cX4_pass 54 = .ok (.ireturn, 1) := by decide +kernel
theorem dX4_survey_0 : decode cX4_survey 0 = .ok (.aload_n 0, 1) := by decide +kernel
theorem dX4_survey_1 : decode cX4_survey 1 = .ok (.getfield 12, 3) := by decide +kernel
theorem dX4_survey_4 : decode cX4_survey 4 = .ok (.getfield 93, 3) := by decide +kernel
theorem dX4_survey_7 : decode cX4_survey 7 = .ok (.bipush 6, 2) := by decide +kernel
theorem dX4_survey_9 : decode cX4_survey 9 = .ok (.if_icmp .ge 7, 3) := by decide +kernel
theorem dX4_survey_12 : decode cX4_survey 12 = .ok (.iconst 1, 1) := by decide +kernel
theorem dX4_survey_13 : decode cX4_survey 13 = .ok (.goto 4, 3) := by decide +kernel
theorem dX4_survey_16 : decode cX4_survey 16 = .ok (.iconst 0, 1) := by decide +kernel
theorem dX4_survey_17 : decode cX4_survey 17 = .ok (.invokestatic 89, 3) := by decide +kernel
theorem dX4_survey_20 : decode cX4_survey 20 = .ok (.aload_n 0, 1) := by decide +kernel
theorem dX4_survey_21 : decode cX4_survey 21 = .ok (.invokevirtual 61, 3) := by decide +kernel
theorem dX4_survey_24 : decode cX4_survey 24 = .ok (.aload_n 0, 1) := by decide +kernel
theorem dX4_survey_25 : decode cX4_survey 25 = .ok (.getfield 12, 3) := by decide +kernel
theorem dX4_survey_28 : decode cX4_survey 28 = .ok (.getfield 93, 3) := by decide +kernel
theorem dX4_survey_31 : decode cX4_survey 31 = .ok (.istore_n 1, 1) := by decide +kernel
theorem dX4_survey_32 : decode cX4_survey 32 = .ok (.iconst 0, 1) := by decide +kernel
theorem dX4_survey_33 : decode cX4_survey 33 = .ok (.istore_n 2, 1) := by decide +kernel
theorem dX4_survey_34 : decode cX4_survey 34 = .ok (.iload_n 2, 1) := by decide +kernel
theorem dX4_survey_35 : decode cX4_survey 35 = .ok (.bipush 16, 2) := by decide +kernel
theorem dX4_survey_37 : decode cX4_survey 37 = .ok (.if_icmp .ge 61, 3) := by decide +kernel
theorem dX4_survey_40 : decode cX4_survey 40 = .ok (.iconst 0, 1) := by decide +kernel
theorem dX4_survey_41 : decode cX4_survey 41 = .ok (.istore_n 3, 1) := by decide +kernel
theorem dX4_survey_42 : decode cX4_survey 42 = .ok (.iload_n 3, 1) := by decide +kernel
theorem dX4_survey_43 : decode cX4_survey 43 = .ok (.iconst 2, 1) := by decide +kernel
theorem dX4_survey_44 : decode cX4_survey 44 = .ok (.if_icmp .ge 48, 3) := by decide +kernel
theorem dX4_survey_47 : decode cX4_survey 47 = .ok (.iconst 0, 1) := by decide +kernel
theorem dX4_survey_48 : decode cX4_survey 48 = .ok (.istore 4, 2) := by decide +kernel
theorem dX4_survey_50 : decode cX4_survey 50 = .ok (.iload 4, 2) := by decide +kernel
theorem dX4_survey_52 : decode cX4_survey 52 = .ok (.iconst 2, 1) := by decide +kernel
theorem dX4_survey_53 : decode cX4_survey 53 = .ok (.if_icmp .ge 33, 3) := by decide +kernel
theorem dX4_survey_56 : decode cX4_survey 56 = .ok (.aload_n 0, 1) := by decide +kernel
theorem dX4_survey_57 : decode cX4_survey 57 = .ok (.getfield 12, 3) := by decide +kernel
theorem dX4_survey_60 : decode cX4_survey 60 = .ok (.getfield 96, 3) := by decide +kernel
theorem dX4_survey_63 : decode cX4_survey 63 = .ok (.iload_n 1, 1) := by decide +kernel
theorem dX4_survey_64 : decode cX4_survey 64 = .ok (.iload_n 2, 1) := by decide +kernel
theorem dX4_survey_65 : decode cX4_survey 65 = .ok (.iload_n 3, 1) := by decide +kernel
theorem dX4_survey_66 : decode cX4_survey 66 = .ok (.iload 4, 2) := by decide +kernel
theorem dX4_survey_68 : decode cX4_survey 68 = .ok (.invokestatic 99, 3) := by decide +kernel
theorem dX4_survey_71 : decode cX4_survey 71 = .ok (.aload_n 0, 1) := by decide +kernel
theorem dX4_survey_72 : decode cX4_survey 72 = .ok (.iload_n 2, 1) := by decide +kernel
theorem dX4_survey_73 : decode cX4_survey 73 = .ok (.iload_n 3, 1) := by decide +kernel
theorem dX4_survey_74 : decode cX4_survey 74 = .ok (.iload 4, 2) := by decide +kernel
theorem dX4_survey_76 : decode cX4_survey 76 = .ok (.invokevirtual 103, 3) := by decide +kernel
theorem dX4_survey_79 : decode cX4_survey 79 = .ok (.iastore, 1) := by decide +kernel
theorem dX4_survey_80 : decode cX4_survey 80 = .ok (.iinc 4 1, 3) := by decide +kernel
theorem dX4_survey_83 : decode cX4_survey 83 = .ok (.goto (-33), 3) := by decide +kernel
theorem dX4_survey_86 : decode cX4_survey 86 = .ok (.iinc 3 1, 3) := by decide +kernel
theorem dX4_survey_89 : decode cX4_survey 89 = .ok (.goto (-47), 3) := by decide +kernel
theorem dX4_survey_92 : decode cX4_survey 92 = .ok (.iinc 2 1, 3) := by decide +kernel
theorem dX4_survey_95 : decode cX4_survey 95 = .ok (.goto (-61), 3) := by decide +kernel
theorem dX4_survey_98 : decode cX4_survey 98 = .ok (.aload_n 0, 1) := by decide +kernel
theorem dX4_survey_99 : decode cX4_survey 99 = .ok (.getfield 12, 3) := by decide +kernel
theorem dX4_survey_102 : decode cX4_survey 102 = .ok (.getfield 107, 3) := by decide +kernel
theorem dX4_survey_105 : decode cX4_survey 105 = .ok (.iload_n 1, 1) := by decide +kernel
theorem dX4_survey_106 : decode cX4_survey 106 = .ok (.aload_n 0, 1) := by decide +kernel
theorem dX4_survey_107 : decode cX4_survey 107 = .ok (.getfield 12, 3) := by decide +kernel
theorem dX4_survey_110 : decode cX4_survey 110 = .ok (.getfield 86, 3) := by decide +kernel
theorem dX4_survey_113 : decode cX4_survey 113 = .ok (.iastore, 1) := by decide +kernel
theorem dX4_survey_114 : decode cX4_survey 114 = .ok (.aload_n 0, 1) := by decide +kernel
theorem dX4_survey_115 : decode cX4_survey 115 = .ok (.getfield 12, 3) := by decide +kernel
theorem dX4_survey_118 : decode cX4_survey 118 = .ok (.dup, 1) := by decide +kernel
theorem dX4_survey_119 : decode cX4_survey 119 = .ok (.getfield 93, 3) := by decide +kernel
theorem dX4_survey_122 : decode cX4_survey 122 = .ok (.iconst 1, 1) := by decide +kernel
theorem dX4_survey_123 : decode cX4_survey 123 = .ok (.iadd, 1) := by decide +kernel
theorem dX4_survey_124 : decode cX4_survey 124 = .ok (.putfield 93, 3) := by decide +kernel
theorem dX4_survey_127 : decode cX4_survey 127 = .ok (.aload_n 0, 1) := by decide +kernel
theorem dX4_survey_128 : decode cX4_survey 128 = .ok (.getfield 12, 3) := by decide +kernel
theorem dX4_survey_131 : decode cX4_survey 131 = .ok (.dup, 1) := by decide +kernel
theorem dX4_survey_132 : decode cX4_survey 132 = .ok (.getfield 110, 3) := by decide +kernel
theorem dX4_survey_135 : decode cX4_survey 135 = .ok (.iconst 1, 1) := by decide +kernel
theorem dX4_survey_136 : decode cX4_survey 136 = .ok (.iadd, 1) := by decide +kernel
theorem dX4_survey_137 : decode cX4_survey 137 = .ok (.putfield 110, 3) := by decide +kernel
theorem dX4_survey_140 : decode cX4_survey 140 = .ok (.iload_n 1, 1) := by decide +kernel
theorem dX4_survey_141 : decode cX4_survey 141 = .ok (.ireturn, 1) := by decide +kernel
theorem dX4_drop_0 : decode cX4_drop 0 = .ok (.aload_n 0, 1) := by decide +kernel
theorem dX4_drop_1 : decode cX4_drop 1 = .ok (.getfield 12, 3) := by decide +kernel
theorem dX4_drop_4 : decode cX4_drop 4 = .ok (.getfield 93, 3) := by decide +kernel
theorem dX4_drop_7 : decode cX4_drop 7 = .ok (.ifCond .le 7, 3) := by decide +kernel
theorem dX4_drop_10 : decode cX4_drop 10 = .ok (.iconst 1, 1) := by decide +kernel
theorem dX4_drop_11 : decode cX4_drop 11 = .ok (.goto 4, 3) := by decide +kernel
theorem dX4_drop_14 : decode cX4_drop 14 = .ok (.iconst 0, 1) := by decide +kernel
theorem dX4_drop_15 : decode cX4_drop 15 = .ok (.invokestatic 89, 3) := by decide +kernel
theorem dX4_drop_18 : decode cX4_drop 18 = .ok (.aload_n 0, 1) := by decide +kernel
theorem dX4_drop_19 : decode cX4_drop 19 = .ok (.invokevirtual 61, 3) := by decide +kernel
theorem dX4_drop_22 : decode cX4_drop 22 = .ok (.aload_n 0, 1) := by decide +kernel
theorem dX4_drop_23 : decode cX4_drop 23 = .ok (.getfield 12, 3) := by decide +kernel
theorem dX4_drop_26 : decode cX4_drop 26 = .ok (.dup, 1) := by decide +kernel
theorem dX4_drop_27 : decode cX4_drop 27 = .ok (.getfield 93, 3) := by decide +kernel
theorem dX4_drop_30 : decode cX4_drop 30 = .ok (.iconst 1, 1) := by decide +kernel
theorem dX4_drop_31 : decode cX4_drop 31 = .ok (.isub, 1) := by decide +kernel
theorem dX4_drop_32 : decode cX4_drop 32 = .ok (.putfield 93, 3) := by decide +kernel
theorem dX4_drop_35 : decode cX4_drop 35 = .ok (.aload_n 0, 1) := by decide +kernel
theorem dX4_drop_36 : decode cX4_drop 36 = .ok (.getfield 12, 3) := by decide +kernel
theorem dX4_drop_39 : decode cX4_drop 39 = .ok (.getfield 93, 3) := by decide +kernel
theorem dX4_drop_42 : decode cX4_drop 42 = .ok (.ireturn, 1) := by decide +kernel
theorem dX4_spoil_0 : decode cX4_spoil 0 = .ok (.iload_n 1, 1) := by decide +kernel
theorem dX4_spoil_1 : decode cX4_spoil 1 = .ok (.bipush 16, 2) := by decide +kernel
theorem dX4_spoil_3 : decode cX4_spoil 3 = .ok (.invokestatic 53, 3) := by decide +kernel
theorem dX4_spoil_6 : decode cX4_spoil 6 = .ok (.iload_n 2, 1) := by decide +kernel
theorem dX4_spoil_7 : decode cX4_spoil 7 = .ok (.iconst 2, 1) := by decide +kernel
theorem dX4_spoil_8 : decode cX4_spoil 8 = .ok (.invokestatic 53, 3) := by decide +kernel
theorem dX4_spoil_11 : decode cX4_spoil 11 = .ok (.iload_n 3, 1) := by decide +kernel
theorem dX4_spoil_12 : decode cX4_spoil 12 = .ok (.iconst 2, 1) := by decide +kernel
theorem dX4_spoil_13 : decode cX4_spoil 13 = .ok (.invokestatic 53, 3) := by decide +kernel
theorem dX4_spoil_16 : decode cX4_spoil 16 = .ok (.iload 4, 2) := by decide +kernel
theorem dX4_spoil_18 : decode cX4_spoil 18 = .ok (.bipush (-99), 2) := by decide +kernel
theorem dX4_spoil_20 : decode cX4_spoil 20 = .ok (.bipush 99, 2) := by decide +kernel
theorem dX4_spoil_22 : decode cX4_spoil 22 = .ok (.invokestatic 57, 3) := by decide +kernel
theorem dX4_spoil_25 : decode cX4_spoil 25 = .ok (.aload_n 0, 1) := by decide +kernel
theorem dX4_spoil_26 : decode cX4_spoil 26 = .ok (.getfield 12, 3) := by decide +kernel
theorem dX4_spoil_29 : decode cX4_spoil 29 = .ok (.getfield 93, 3) := by decide +kernel
theorem dX4_spoil_32 : decode cX4_spoil 32 = .ok (.ifCond .le 7, 3) := by decide +kernel
theorem dX4_spoil_35 : decode cX4_spoil 35 = .ok (.iconst 1, 1) := by decide +kernel
theorem dX4_spoil_36 : decode cX4_spoil 36 = .ok (.goto 4, 3) := by decide +kernel
theorem dX4_spoil_39 : decode cX4_spoil 39 = .ok (.iconst 0, 1) := by decide +kernel
theorem dX4_spoil_40 : decode cX4_spoil 40 = .ok (.invokestatic 89, 3) := by decide +kernel
theorem dX4_spoil_43 : decode cX4_spoil 43 = .ok (.aload_n 0, 1) := by decide +kernel
theorem dX4_spoil_44 : decode cX4_spoil 44 = .ok (.getfield 12, 3) := by decide +kernel
theorem dX4_spoil_47 : decode cX4_spoil 47 = .ok (.getfield 93, 3) := by decide +kernel
theorem dX4_spoil_50 : decode cX4_spoil 50 = .ok (.iconst 1, 1) := by decide +kernel
theorem dX4_spoil_51 : decode cX4_spoil 51 = .ok (.isub, 1) := by decide +kernel
theorem dX4_spoil_52 : decode cX4_spoil 52 = .ok (.iload_n 1, 1) := by decide +kernel
theorem dX4_spoil_53 : decode cX4_spoil 53 = .ok (.iload_n 2, 1) := by decide +kernel
theorem dX4_spoil_54 : decode cX4_spoil 54 = .ok (.iload_n 3, 1) := by decide +kernel
theorem dX4_spoil_55 : decode cX4_spoil 55 = .ok (.invokestatic 99, 3) := by decide +kernel
theorem dX4_spoil_58 : decode cX4_spoil 58 = .ok (.istore 5, 2) := by decide +kernel
theorem dX4_spoil_60 : decode cX4_spoil 60 = .ok (.aload_n 0, 1) := by decide +kernel
theorem dX4_spoil_61 : decode cX4_spoil 61 = .ok (.getfield 12, 3) := by decide +kernel
theorem dX4_spoil_64 : decode cX4_spoil 64 = .ok (.getfield 96, 3) := by decide +kernel
theorem dX4_spoil_67 : decode cX4_spoil 67 = .ok (.iload 5, 2) := by decide +kernel
theorem dX4_spoil_69 : decode cX4_spoil 69 = .ok (.iaload, 1) := by decide +kernel
theorem dX4_spoil_70 : decode cX4_spoil 70 = .ok (.iload 4, 2) := by decide +kernel
theorem dX4_spoil_72 : decode cX4_spoil 72 = .ok (.iadd, 1) := by decide +kernel
theorem dX4_spoil_73 : decode cX4_spoil 73 = .ok (.istore 6, 2) := by decide +kernel
theorem dX4_spoil_75 : decode cX4_spoil 75 = .ok (.iload 6, 2) := by decide +kernel
theorem dX4_spoil_77 : decode cX4_spoil 77 = .ok (.sipush (-900), 3) := by decide +kernel
theorem dX4_spoil_80 : decode cX4_spoil 80 = .ok (.sipush 900, 3) := by decide +kernel
theorem dX4_spoil_83 : decode cX4_spoil 83 = .ok (.invokestatic 113, 3) := by decide +kernel
theorem dX4_spoil_86 : decode cX4_spoil 86 = .ok (.invokestatic 89, 3) := by decide +kernel
theorem dX4_spoil_89 : decode cX4_spoil 89 = .ok (.aload_n 0, 1) := by decide +kernel
theorem dX4_spoil_90 : decode cX4_spoil 90 = .ok (.invokevirtual 61, 3) := by decide +kernel
theorem dX4_spoil_93 : decode cX4_spoil 93 = .ok (.aload_n 0, 1) := by decide +kernel
theorem dX4_spoil_94 : decode cX4_spoil 94 = .ok (.getfield 12, 3) := by decide +kernel
theorem dX4_spoil_97 : decode cX4_spoil 97 = .ok (.getfield 96, 3) := by decide +kernel
theorem dX4_spoil_100 : decode cX4_spoil 100 = .ok (.iload 5, 2) := by decide +kernel
theorem dX4_spoil_102 : decode cX4_spoil 102 = .ok (.iload 6, 2) := by decide +kernel
theorem dX4_spoil_104 : decode cX4_spoil 104 = .ok (.iastore, 1) := by decide +kernel
theorem dX4_spoil_105 : decode cX4_spoil 105 = .ok (.aload_n 0, 1) := by decide +kernel
theorem dX4_spoil_106 : decode cX4_spoil 106 = .ok (.getfield 12, 3) := by decide +kernel
theorem dX4_spoil_109 : decode cX4_spoil 109 = .ok (.dup, 1) := by decide +kernel
theorem dX4_spoil_110 : decode cX4_spoil 110 = .ok (.getfield 117, 3) := by decide +kernel
theorem dX4_spoil_113 : decode cX4_spoil 113 = .ok (.iconst 1, 1) := by decide +kernel
theorem dX4_spoil_114 : decode cX4_spoil 114 = .ok (.iadd, 1) := by decide +kernel
theorem dX4_spoil_115 : decode cX4_spoil 115 = .ok (.putfield 117, 3) := by decide +kernel
theorem dX4_spoil_118 : decode cX4_spoil 118 = .ok (.iload 6, 2) := by decide +kernel
theorem dX4_spoil_120 : decode cX4_spoil 120 = .ok (.ireturn, 1) := by decide +kernel
theorem dX4_keep_0 : decode cX4_keep 0 = .ok (.iload_n 1, 1) := by decide +kernel
theorem dX4_keep_1 : decode cX4_keep 1 = .ok (.iconst 0, 1) := by decide +kernel
theorem dX4_keep_2 : decode cX4_keep 2 = .ok (.iconst 1, 1) := by decide +kernel
theorem dX4_keep_3 : decode cX4_keep 3 = .ok (.invokestatic 57, 3) := by decide +kernel
theorem dX4_keep_6 : decode cX4_keep 6 = .ok (.aload_n 0, 1) := by decide +kernel
theorem dX4_keep_7 : decode cX4_keep 7 = .ok (.getfield 16, 3) := by decide +kernel
theorem dX4_keep_10 : decode cX4_keep 10 = .ok (.iload_n 1, 1) := by decide +kernel
theorem dX4_keep_11 : decode cX4_keep 11 = .ok (.aaload, 1) := by decide +kernel
theorem dX4_keep_12 : decode cX4_keep 12 = .ok (.aload_n 0, 1) := by decide +kernel
theorem dX4_keep_13 : decode cX4_keep 13 = .ok (.getfield 12, 3) := by decide +kernel
theorem dX4_keep_16 : decode cX4_keep 16 = .ok (.invokevirtual 138, 3) := by decide +kernel
theorem dX4_keep_19 : decode cX4_keep 19 = .ok (.aload_n 0, 1) := by decide +kernel
theorem dX4_keep_20 : decode cX4_keep 20 = .ok (.getfield 20, 3) := by decide +kernel
theorem dX4_keep_23 : decode cX4_keep 23 = .ok (.iload_n 1, 1) := by decide +kernel
theorem dX4_keep_24 : decode cX4_keep 24 = .ok (.iconst 1, 1) := by decide +kernel
theorem dX4_keep_25 : decode cX4_keep 25 = .ok (.bastore, 1) := by decide +kernel
theorem dX4_keep_26 : decode cX4_keep 26 = .ok (.aload_n 0, 1) := by decide +kernel
theorem dX4_keep_27 : decode cX4_keep 27 = .ok (.getfield 12, 3) := by decide +kernel
theorem dX4_keep_30 : decode cX4_keep 30 = .ok (.getfield 93, 3) := by decide +kernel
theorem dX4_keep_33 : decode cX4_keep 33 = .ok (.ireturn, 1) := by decide +kernel
theorem dX4_goBack_0 : decode cX4_goBack 0 = .ok (.iload_n 1, 1) := by decide +kernel
theorem dX4_goBack_1 : decode cX4_goBack 1 = .ok (.iconst 0, 1) := by decide +kernel
theorem dX4_goBack_2 : decode cX4_goBack 2 = .ok (.iconst 1, 1) := by decide +kernel
theorem dX4_goBack_3 : decode cX4_goBack 3 = .ok (.invokestatic 57, 3) := by decide +kernel
theorem dX4_goBack_6 : decode cX4_goBack 6 = .ok (.aload_n 0, 1) := by decide +kernel
theorem dX4_goBack_7 : decode cX4_goBack 7 = .ok (.getfield 20, 3) := by decide +kernel
theorem dX4_goBack_10 : decode cX4_goBack 10 = .ok (.iload_n 1, 1) := by decide +kernel
theorem dX4_goBack_11 : decode cX4_goBack 11 = .ok (.baload, 1) := by decide +kernel
theorem dX4_goBack_12 : decode cX4_goBack 12 = .ok (.invokestatic 89, 3) := by decide +kernel
theorem dX4_goBack_15 : decode cX4_goBack 15 = .ok (.aload_n 0, 1) := by decide +kernel
theorem dX4_goBack_16 : decode cX4_goBack 16 = .ok (.invokevirtual 61, 3) := by decide +kernel
theorem dX4_goBack_19 : decode cX4_goBack 19 = .ok (.aload_n 0, 1) := by decide +kernel
theorem dX4_goBack_20 : decode cX4_goBack 20 = .ok (.getfield 12, 3) := by decide +kernel
theorem dX4_goBack_23 : decode cX4_goBack 23 = .ok (.aload_n 0, 1) := by decide +kernel
theorem dX4_goBack_24 : decode cX4_goBack 24 = .ok (.getfield 16, 3) := by decide +kernel
theorem dX4_goBack_27 : decode cX4_goBack 27 = .ok (.iload_n 1, 1) := by decide +kernel
theorem dX4_goBack_28 : decode cX4_goBack 28 = .ok (.aaload, 1) := by decide +kernel
theorem dX4_goBack_29 : decode cX4_goBack 29 = .ok (.invokevirtual 138, 3) := by decide +kernel
theorem dX4_goBack_32 : decode cX4_goBack 32 = .ok (.aload_n 0, 1) := by decide +kernel
theorem dX4_goBack_33 : decode cX4_goBack 33 = .ok (.getfield 12, 3) := by decide +kernel
theorem dX4_goBack_36 : decode cX4_goBack 36 = .ok (.getfield 93, 3) := by decide +kernel
theorem dX4_goBack_39 : decode cX4_goBack 39 = .ok (.ireturn, 1) := by decide +kernel
theorem dX4_undo_0 : decode cX4_undo 0 = .ok (.aload_n 0, 1) := by decide +kernel
theorem dX4_undo_1 : decode cX4_undo 1 = .ok (.getfield 27, 3) := by decide +kernel
theorem dX4_undo_4 : decode cX4_undo 4 = .ok (.getfield 142, 3) := by decide +kernel
theorem dX4_undo_7 : decode cX4_undo 7 = .ok (.ifCond .le 7, 3) := by decide +kernel
theorem dX4_undo_10 : decode cX4_undo 10 = .ok (.iconst 1, 1) := by decide +kernel
theorem dX4_undo_11 : decode cX4_undo 11 = .ok (.goto 4, 3) := by decide +kernel
theorem dX4_undo_14 : decode cX4_undo 14 = .ok (.iconst 0, 1) := by decide +kernel
theorem dX4_undo_15 : decode cX4_undo 15 = .ok (.invokestatic 89, 3) := by decide +kernel
theorem dX4_undo_18 : decode cX4_undo 18 = .ok (.aload_n 0, 1) := by decide +kernel
theorem dX4_undo_19 : decode cX4_undo 19 = .ok (.getfield 27, 3) := by decide +kernel
theorem dX4_undo_22 : decode cX4_undo 22 = .ok (.aload_n 0, 1) := by decide +kernel
theorem dX4_undo_23 : decode cX4_undo 23 = .ok (.getfield 12, 3) := by decide +kernel
theorem dX4_undo_26 : decode cX4_undo 26 = .ok (.invokevirtual 145, 3) := by decide +kernel
theorem dX4_undo_29 : decode cX4_undo 29 = .ok (.aload_n 0, 1) := by decide +kernel
theorem dX4_undo_30 : decode cX4_undo 30 = .ok (.getfield 34, 3) := by decide +kernel
theorem dX4_undo_33 : decode cX4_undo 33 = .ok (.iconst 0, 1) := by decide +kernel
theorem dX4_undo_34 : decode cX4_undo 34 = .ok (.putfield 148, 3) := by decide +kernel
theorem dX4_undo_37 : decode cX4_undo 37 = .ok (.aload_n 0, 1) := by decide +kernel
theorem dX4_undo_38 : decode cX4_undo 38 = .ok (.getfield 27, 3) := by decide +kernel
theorem dX4_undo_41 : decode cX4_undo 41 = .ok (.getfield 142, 3) := by decide +kernel
theorem dX4_undo_44 : decode cX4_undo 44 = .ok (.ireturn, 1) := by decide +kernel
theorem dX4_levelOf_0 : decode cX4_levelOf 0 = .ok (.iload_n 1, 1) := by decide +kernel
theorem dX4_levelOf_1 : decode cX4_levelOf 1 = .ok (.bipush 16, 2) := by decide +kernel
theorem dX4_levelOf_3 : decode cX4_levelOf 3 = .ok (.invokestatic 53, 3) := by decide +kernel
theorem dX4_levelOf_6 : decode cX4_levelOf 6 = .ok (.iload_n 2, 1) := by decide +kernel
theorem dX4_levelOf_7 : decode cX4_levelOf 7 = .ok (.iconst 0, 1) := by decide +kernel
theorem dX4_levelOf_8 : decode cX4_levelOf 8 = .ok (.bipush 6, 2) := by decide +kernel
theorem dX4_levelOf_10 : decode cX4_levelOf 10 = .ok (.invokestatic 57, 3) := by decide +kernel
theorem dX4_levelOf_13 : decode cX4_levelOf 13 = .ok (.iload_n 2, 1) := by decide +kernel
theorem dX4_levelOf_14 : decode cX4_levelOf 14 = .ok (.tableswitch 98 0 5 #[38, 50, 64, 74, 82, 90], 38) := by decide +kernel
theorem dX4_levelOf_52 : decode cX4_levelOf 52 = .ok (.aload_n 0, 1) := by decide +kernel
theorem dX4_levelOf_53 : decode cX4_levelOf 53 = .ok (.getfield 12, 3) := by decide +kernel
theorem dX4_levelOf_56 : decode cX4_levelOf 56 = .ok (.getfield 64, 3) := by decide +kernel
theorem dX4_levelOf_59 : decode cX4_levelOf 59 = .ok (.iload_n 1, 1) := by decide +kernel
theorem dX4_levelOf_60 : decode cX4_levelOf 60 = .ok (.iconst 2, 1) := by decide +kernel
theorem dX4_levelOf_61 : decode cX4_levelOf 61 = .ok (.imul, 1) := by decide +kernel
theorem dX4_levelOf_62 : decode cX4_levelOf 62 = .ok (.iaload, 1) := by decide +kernel
theorem dX4_levelOf_63 : decode cX4_levelOf 63 = .ok (.ireturn, 1) := by decide +kernel
theorem dX4_levelOf_64 : decode cX4_levelOf 64 = .ok (.aload_n 0, 1) := by decide +kernel
theorem dX4_levelOf_65 : decode cX4_levelOf 65 = .ok (.getfield 12, 3) := by decide +kernel
theorem dX4_levelOf_68 : decode cX4_levelOf 68 = .ok (.getfield 64, 3) := by decide +kernel
theorem dX4_levelOf_71 : decode cX4_levelOf 71 = .ok (.iload_n 1, 1) := by decide +kernel
theorem dX4_levelOf_72 : decode cX4_levelOf 72 = .ok (.iconst 2, 1) := by decide +kernel
theorem dX4_levelOf_73 : decode cX4_levelOf 73 = .ok (.imul, 1) := by decide +kernel
theorem dX4_levelOf_74 : decode cX4_levelOf 74 = .ok (.iconst 1, 1) := by decide +kernel
theorem dX4_levelOf_75 : decode cX4_levelOf 75 = .ok (.iadd, 1) := by decide +kernel
theorem dX4_levelOf_76 : decode cX4_levelOf 76 = .ok (.iaload, 1) := by decide +kernel
theorem dX4_levelOf_77 : decode cX4_levelOf 77 = .ok (.ireturn, 1) := by decide +kernel
theorem dX4_levelOf_78 : decode cX4_levelOf 78 = .ok (.aload_n 0, 1) := by decide +kernel
theorem dX4_levelOf_79 : decode cX4_levelOf 79 = .ok (.getfield 12, 3) := by decide +kernel
theorem dX4_levelOf_82 : decode cX4_levelOf 82 = .ok (.getfield 77, 3) := by decide +kernel
theorem dX4_levelOf_85 : decode cX4_levelOf 85 = .ok (.iload_n 1, 1) := by decide +kernel
theorem dX4_levelOf_86 : decode cX4_levelOf 86 = .ok (.iaload, 1) := by decide +kernel
theorem dX4_levelOf_87 : decode cX4_levelOf 87 = .ok (.ireturn, 1) := by decide +kernel
theorem dX4_levelOf_88 : decode cX4_levelOf 88 = .ok (.aload_n 0, 1) := by decide +kernel
theorem dX4_levelOf_89 : decode cX4_levelOf 89 = .ok (.iload_n 1, 1) := by decide +kernel
theorem dX4_levelOf_90 : decode cX4_levelOf 90 = .ok (.iconst 0, 1) := by decide +kernel
theorem dX4_levelOf_91 : decode cX4_levelOf 91 = .ok (.iconst 0, 1) := by decide +kernel
theorem dX4_levelOf_92 : decode cX4_levelOf 92 = .ok (.invokevirtual 103, 3) := by decide +kernel
theorem dX4_levelOf_95 : decode cX4_levelOf 95 = .ok (.ireturn, 1) := by decide +kernel
theorem dX4_levelOf_96 : decode cX4_levelOf 96 = .ok (.aload_n 0, 1) := by decide +kernel
theorem dX4_levelOf_97 : decode cX4_levelOf 97 = .ok (.iload_n 1, 1) := by decide +kernel
theorem dX4_levelOf_98 : decode cX4_levelOf 98 = .ok (.iconst 0, 1) := by decide +kernel
theorem dX4_levelOf_99 : decode cX4_levelOf 99 = .ok (.iconst 1, 1) := by decide +kernel
theorem dX4_levelOf_100 : decode cX4_levelOf 100 = .ok (.invokevirtual 103, 3) := by decide +kernel
theorem dX4_levelOf_103 : decode cX4_levelOf 103 = .ok (.ireturn, 1) := by decide +kernel
theorem dX4_levelOf_104 : decode cX4_levelOf 104 = .ok (.aload_n 0, 1) := by decide +kernel
theorem dX4_levelOf_105 : decode cX4_levelOf 105 = .ok (.iload_n 1, 1) := by decide +kernel
theorem dX4_levelOf_106 : decode cX4_levelOf 106 = .ok (.iconst 1, 1) := by decide +kernel
theorem dX4_levelOf_107 : decode cX4_levelOf 107 = .ok (.iconst 0, 1) := by decide +kernel
theorem dX4_levelOf_108 : decode cX4_levelOf 108 = .ok (.invokevirtual 103, 3) := by decide +kernel
theorem dX4_levelOf_111 : decode cX4_levelOf 111 = .ok (.ireturn, 1) := by decide +kernel
theorem dX4_levelOf_112 : decode cX4_levelOf 112 = .ok (.aload_n 0, 1) := by decide +kernel
theorem dX4_levelOf_113 : decode cX4_levelOf 113 = .ok (.iload_n 1, 1) := by decide +kernel
theorem dX4_levelOf_114 : decode cX4_levelOf 114 = .ok (.iconst 1, 1) := by decide +kernel
theorem dX4_levelOf_115 : decode cX4_levelOf 115 = .ok (.iconst 1, 1) := by decide +kernel
theorem dX4_levelOf_116 : decode cX4_levelOf 116 = .ok (.invokevirtual 103, 3) := by decide +kernel
theorem dX4_levelOf_119 : decode cX4_levelOf 119 = .ok (.ireturn, 1) := by decide +kernel
theorem dX4_reading_0 : decode cX4_reading 0 = .ok (.iload_n 1, 1) := by decide +kernel
theorem dX4_reading_1 : decode cX4_reading 1 = .ok (.aload_n 0, 1) := by decide +kernel
theorem dX4_reading_2 : decode cX4_reading 2 = .ok (.getfield 12, 3) := by decide +kernel
theorem dX4_reading_5 : decode cX4_reading 5 = .ok (.getfield 93, 3) := by decide +kernel
theorem dX4_reading_8 : decode cX4_reading 8 = .ok (.invokestatic 53, 3) := by decide +kernel
theorem dX4_reading_11 : decode cX4_reading 11 = .ok (.iload_n 2, 1) := by decide +kernel
theorem dX4_reading_12 : decode cX4_reading 12 = .ok (.bipush 16, 2) := by decide +kernel
theorem dX4_reading_14 : decode cX4_reading 14 = .ok (.invokestatic 53, 3) := by decide +kernel
theorem dX4_reading_17 : decode cX4_reading 17 = .ok (.iload_n 3, 1) := by decide +kernel
theorem dX4_reading_18 : decode cX4_reading 18 = .ok (.iconst 2, 1) := by decide +kernel
theorem dX4_reading_19 : decode cX4_reading 19 = .ok (.invokestatic 53, 3) := by decide +kernel
theorem dX4_reading_22 : decode cX4_reading 22 = .ok (.iload 4, 2) := by decide +kernel
theorem dX4_reading_24 : decode cX4_reading 24 = .ok (.iconst 0, 1) := by decide +kernel
theorem dX4_reading_25 : decode cX4_reading 25 = .ok (.iconst 5, 1) := by decide +kernel
theorem dX4_reading_26 : decode cX4_reading 26 = .ok (.invokestatic 57, 3) := by decide +kernel
theorem dX4_reading_29 : decode cX4_reading 29 = .ok (.aload_n 0, 1) := by decide +kernel
theorem dX4_reading_30 : decode cX4_reading 30 = .ok (.getfield 34, 3) := by decide +kernel
theorem dX4_reading_33 : decode cX4_reading 33 = .ok (.aload_n 0, 1) := by decide +kernel
theorem dX4_reading_34 : decode cX4_reading 34 = .ok (.getfield 12, 3) := by decide +kernel
theorem dX4_reading_37 : decode cX4_reading 37 = .ok (.invokevirtual 152, 3) := by decide +kernel
theorem dX4_reading_40 : decode cX4_reading 40 = .ok (.iload 4, 2) := by decide +kernel
theorem dX4_reading_42 : decode cX4_reading 42 = .ok (.tableswitch 115 0 4 #[34, 50, 66, 77, 100], 34) := by decide +kernel
theorem dX4_reading_76 : decode cX4_reading 76 = .ok (.aload_n 0, 1) := by decide +kernel
theorem dX4_reading_77 : decode cX4_reading 77 = .ok (.getfield 12, 3) := by decide +kernel
theorem dX4_reading_80 : decode cX4_reading 80 = .ok (.getfield 96, 3) := by decide +kernel
theorem dX4_reading_83 : decode cX4_reading 83 = .ok (.iload_n 1, 1) := by decide +kernel
theorem dX4_reading_84 : decode cX4_reading 84 = .ok (.iload_n 2, 1) := by decide +kernel
theorem dX4_reading_85 : decode cX4_reading 85 = .ok (.iload_n 3, 1) := by decide +kernel
theorem dX4_reading_86 : decode cX4_reading 86 = .ok (.iconst 0, 1) := by decide +kernel
theorem dX4_reading_87 : decode cX4_reading 87 = .ok (.invokestatic 99, 3) := by decide +kernel
theorem dX4_reading_90 : decode cX4_reading 90 = .ok (.iaload, 1) := by decide +kernel
theorem dX4_reading_91 : decode cX4_reading 91 = .ok (.ireturn, 1) := by decide +kernel
theorem dX4_reading_92 : decode cX4_reading 92 = .ok (.aload_n 0, 1) := by decide +kernel
theorem dX4_reading_93 : decode cX4_reading 93 = .ok (.getfield 12, 3) := by decide +kernel
theorem dX4_reading_96 : decode cX4_reading 96 = .ok (.getfield 96, 3) := by decide +kernel
theorem dX4_reading_99 : decode cX4_reading 99 = .ok (.iload_n 1, 1) := by decide +kernel
theorem dX4_reading_100 : decode cX4_reading 100 = .ok (.iload_n 2, 1) := by decide +kernel
theorem dX4_reading_101 : decode cX4_reading 101 = .ok (.iload_n 3, 1) := by decide +kernel
theorem dX4_reading_102 : decode cX4_reading 102 = .ok (.iconst 1, 1) := by decide +kernel
theorem dX4_reading_103 : decode cX4_reading 103 = .ok (.invokestatic 99, 3) := by decide +kernel
theorem dX4_reading_106 : decode cX4_reading 106 = .ok (.iaload, 1) := by decide +kernel
theorem dX4_reading_107 : decode cX4_reading 107 = .ok (.ireturn, 1) := by decide +kernel
theorem dX4_reading_108 : decode cX4_reading 108 = .ok (.aload_n 0, 1) := by decide +kernel
theorem dX4_reading_109 : decode cX4_reading 109 = .ok (.getfield 12, 3) := by decide +kernel
theorem dX4_reading_112 : decode cX4_reading 112 = .ok (.iload_n 1, 1) := by decide +kernel
theorem dX4_reading_113 : decode cX4_reading 113 = .ok (.iload_n 2, 1) := by decide +kernel
theorem dX4_reading_114 : decode cX4_reading 114 = .ok (.iload_n 3, 1) := by decide +kernel
theorem dX4_reading_115 : decode cX4_reading 115 = .ok (.invokestatic 155, 3) := by decide +kernel
theorem dX4_reading_118 : decode cX4_reading 118 = .ok (.ireturn, 1) := by decide +kernel
theorem dX4_reading_119 : decode cX4_reading 119 = .ok (.aload_n 0, 1) := by decide +kernel
theorem dX4_reading_120 : decode cX4_reading 120 = .ok (.getfield 34, 3) := by decide +kernel
theorem dX4_reading_123 : decode cX4_reading 123 = .ok (.aload_n 0, 1) := by decide +kernel
theorem dX4_reading_124 : decode cX4_reading 124 = .ok (.getfield 12, 3) := by decide +kernel
theorem dX4_reading_127 : decode cX4_reading 127 = .ok (.iload_n 1, 1) := by decide +kernel
theorem dX4_reading_128 : decode cX4_reading 128 = .ok (.iload_n 2, 1) := by decide +kernel
theorem dX4_reading_129 : decode cX4_reading 129 = .ok (.iload_n 3, 1) := by decide +kernel
theorem dX4_reading_130 : decode cX4_reading 130 = .ok (.invokevirtual 159, 3) := by decide +kernel
theorem dX4_reading_133 : decode cX4_reading 133 = .ok (.ifCond .eq 7, 3) := by decide +kernel
theorem dX4_reading_136 : decode cX4_reading 136 = .ok (.iconst 1, 1) := by decide +kernel
theorem dX4_reading_137 : decode cX4_reading 137 = .ok (.goto 4, 3) := by decide +kernel
theorem dX4_reading_140 : decode cX4_reading 140 = .ok (.iconst 0, 1) := by decide +kernel
theorem dX4_reading_141 : decode cX4_reading 141 = .ok (.ireturn, 1) := by decide +kernel
theorem dX4_reading_142 : decode cX4_reading 142 = .ok (.aload_n 0, 1) := by decide +kernel
theorem dX4_reading_143 : decode cX4_reading 143 = .ok (.getfield 34, 3) := by decide +kernel
theorem dX4_reading_146 : decode cX4_reading 146 = .ok (.getfield 163, 3) := by decide +kernel
theorem dX4_reading_149 : decode cX4_reading 149 = .ok (.iload_n 1, 1) := by decide +kernel
theorem dX4_reading_150 : decode cX4_reading 150 = .ok (.iload_n 2, 1) := by decide +kernel
theorem dX4_reading_151 : decode cX4_reading 151 = .ok (.iload_n 3, 1) := by decide +kernel
theorem dX4_reading_152 : decode cX4_reading 152 = .ok (.invokestatic 166, 3) := by decide +kernel
theorem dX4_reading_155 : decode cX4_reading 155 = .ok (.iaload, 1) := by decide +kernel
theorem dX4_reading_156 : decode cX4_reading 156 = .ok (.ireturn, 1) := by decide +kernel
theorem dX4_reading_157 : decode cX4_reading 157 = .ok (.aload_n 0, 1) := by decide +kernel
theorem dX4_reading_158 : decode cX4_reading 158 = .ok (.getfield 34, 3) := by decide +kernel
theorem dX4_reading_161 : decode cX4_reading 161 = .ok (.getfield 169, 3) := by decide +kernel
theorem dX4_reading_164 : decode cX4_reading 164 = .ok (.iload_n 1, 1) := by decide +kernel
theorem dX4_reading_165 : decode cX4_reading 165 = .ok (.iload_n 2, 1) := by decide +kernel
theorem dX4_reading_166 : decode cX4_reading 166 = .ok (.iload_n 3, 1) := by decide +kernel
theorem dX4_reading_167 : decode cX4_reading 167 = .ok (.invokestatic 166, 3) := by decide +kernel
theorem dX4_reading_170 : decode cX4_reading 170 = .ok (.iaload, 1) := by decide +kernel
theorem dX4_reading_171 : decode cX4_reading 171 = .ok (.ireturn, 1) := by decide +kernel
theorem dX4_surveyOf_0 : decode cX4_surveyOf 0 = .ok (.iload_n 1, 1) := by decide +kernel
theorem dX4_surveyOf_1 : decode cX4_surveyOf 1 = .ok (.aload_n 0, 1) := by decide +kernel
theorem dX4_surveyOf_2 : decode cX4_surveyOf 2 = .ok (.getfield 12, 3) := by decide +kernel
theorem dX4_surveyOf_5 : decode cX4_surveyOf 5 = .ok (.getfield 93, 3) := by decide +kernel
theorem dX4_surveyOf_8 : decode cX4_surveyOf 8 = .ok (.invokestatic 53, 3) := by decide +kernel
theorem dX4_surveyOf_11 : decode cX4_surveyOf 11 = .ok (.iload_n 2, 1) := by decide +kernel
theorem dX4_surveyOf_12 : decode cX4_surveyOf 12 = .ok (.iconst 0, 1) := by decide +kernel
theorem dX4_surveyOf_13 : decode cX4_surveyOf 13 = .ok (.iconst 4, 1) := by decide +kernel
theorem dX4_surveyOf_14 : decode cX4_surveyOf 14 = .ok (.invokestatic 57, 3) := by decide +kernel
theorem dX4_surveyOf_17 : decode cX4_surveyOf 17 = .ok (.aload_n 0, 1) := by decide +kernel
theorem dX4_surveyOf_18 : decode cX4_surveyOf 18 = .ok (.getfield 34, 3) := by decide +kernel
theorem dX4_surveyOf_21 : decode cX4_surveyOf 21 = .ok (.aload_n 0, 1) := by decide +kernel
theorem dX4_surveyOf_22 : decode cX4_surveyOf 22 = .ok (.getfield 12, 3) := by decide +kernel
theorem dX4_surveyOf_25 : decode cX4_surveyOf 25 = .ok (.invokevirtual 152, 3) := by decide +kernel
theorem dX4_surveyOf_28 : decode cX4_surveyOf 28 = .ok (.iload_n 2, 1) := by decide +kernel
theorem dX4_surveyOf_29 : decode cX4_surveyOf 29 = .ok (.tableswitch 73 0 3 #[31, 41, 53, 67], 31) := by decide +kernel
theorem dX4_surveyOf_60 : decode cX4_surveyOf 60 = .ok (.aload_n 0, 1) := by decide +kernel
theorem dX4_surveyOf_61 : decode cX4_surveyOf 61 = .ok (.getfield 12, 3) := by decide +kernel
theorem dX4_surveyOf_64 : decode cX4_surveyOf 64 = .ok (.getfield 107, 3) := by decide +kernel
theorem dX4_surveyOf_67 : decode cX4_surveyOf 67 = .ok (.iload_n 1, 1) := by decide +kernel
theorem dX4_surveyOf_68 : decode cX4_surveyOf 68 = .ok (.iaload, 1) := by decide +kernel
theorem dX4_surveyOf_69 : decode cX4_surveyOf 69 = .ok (.ireturn, 1) := by decide +kernel
theorem dX4_surveyOf_70 : decode cX4_surveyOf 70 = .ok (.aload_n 0, 1) := by decide +kernel
theorem dX4_surveyOf_71 : decode cX4_surveyOf 71 = .ok (.getfield 34, 3) := by decide +kernel
theorem dX4_surveyOf_74 : decode cX4_surveyOf 74 = .ok (.getfield 172, 3) := by decide +kernel
theorem dX4_surveyOf_77 : decode cX4_surveyOf 77 = .ok (.iload_n 1, 1) := by decide +kernel
theorem dX4_surveyOf_78 : decode cX4_surveyOf 78 = .ok (.iconst 2, 1) := by decide +kernel
theorem dX4_surveyOf_79 : decode cX4_surveyOf 79 = .ok (.imul, 1) := by decide +kernel
theorem dX4_surveyOf_80 : decode cX4_surveyOf 80 = .ok (.iaload, 1) := by decide +kernel
theorem dX4_surveyOf_81 : decode cX4_surveyOf 81 = .ok (.ireturn, 1) := by decide +kernel
theorem dX4_surveyOf_82 : decode cX4_surveyOf 82 = .ok (.aload_n 0, 1) := by decide +kernel
theorem dX4_surveyOf_83 : decode cX4_surveyOf 83 = .ok (.getfield 34, 3) := by decide +kernel
theorem dX4_surveyOf_86 : decode cX4_surveyOf 86 = .ok (.getfield 172, 3) := by decide +kernel
theorem dX4_surveyOf_89 : decode cX4_surveyOf 89 = .ok (.iload_n 1, 1) := by decide +kernel
theorem dX4_surveyOf_90 : decode cX4_surveyOf 90 = .ok (.iconst 2, 1) := by decide +kernel
theorem dX4_surveyOf_91 : decode cX4_surveyOf 91 = .ok (.imul, 1) := by decide +kernel
theorem dX4_surveyOf_92 : decode cX4_surveyOf 92 = .ok (.iconst 1, 1) := by decide +kernel
theorem dX4_surveyOf_93 : decode cX4_surveyOf 93 = .ok (.iadd, 1) := by decide +kernel
theorem dX4_surveyOf_94 : decode cX4_surveyOf 94 = .ok (.iaload, 1) := by decide +kernel
theorem dX4_surveyOf_95 : decode cX4_surveyOf 95 = .ok (.ireturn, 1) := by decide +kernel
theorem dX4_surveyOf_96 : decode cX4_surveyOf 96 = .ok (.aload_n 0, 1) := by decide +kernel
theorem dX4_surveyOf_97 : decode cX4_surveyOf 97 = .ok (.iload_n 1, 1) := by decide +kernel
theorem dX4_surveyOf_98 : decode cX4_surveyOf 98 = .ok (.invokevirtual 175, 3) := by decide +kernel
theorem dX4_surveyOf_101 : decode cX4_surveyOf 101 = .ok (.ireturn, 1) := by decide +kernel
theorem dX4_surveyOf_102 : decode cX4_surveyOf 102 = .ok (.aload_n 0, 1) := by decide +kernel
theorem dX4_surveyOf_103 : decode cX4_surveyOf 103 = .ok (.iload_n 1, 1) := by decide +kernel
theorem dX4_surveyOf_104 : decode cX4_surveyOf 104 = .ok (.invokevirtual 178, 3) := by decide +kernel
theorem dX4_surveyOf_107 : decode cX4_surveyOf 107 = .ok (.ireturn, 1) := by decide +kernel
theorem dX4_place_0 : decode cX4_place 0 = .ok (.iload_n 1, 1) := by decide +kernel
theorem dX4_place_1 : decode cX4_place 1 = .ok (.aload_n 0, 1) := by decide +kernel
theorem dX4_place_2 : decode cX4_place 2 = .ok (.getfield 12, 3) := by decide +kernel
theorem dX4_place_5 : decode cX4_place 5 = .ok (.getfield 93, 3) := by decide +kernel
theorem dX4_place_8 : decode cX4_place 8 = .ok (.invokestatic 53, 3) := by decide +kernel
theorem dX4_place_11 : decode cX4_place 11 = .ok (.iload_n 2, 1) := by decide +kernel
theorem dX4_place_12 : decode cX4_place 12 = .ok (.bipush 16, 2) := by decide +kernel
theorem dX4_place_14 : decode cX4_place 14 = .ok (.invokestatic 53, 3) := by decide +kernel
theorem dX4_place_17 : decode cX4_place 17 = .ok (.iload_n 3, 1) := by decide +kernel
theorem dX4_place_18 : decode cX4_place 18 = .ok (.iconst 2, 1) := by decide +kernel
theorem dX4_place_19 : decode cX4_place 19 = .ok (.invokestatic 53, 3) := by decide +kernel
theorem dX4_place_22 : decode cX4_place 22 = .ok (.iload 4, 2) := by decide +kernel
theorem dX4_place_24 : decode cX4_place 24 = .ok (.iconst 0, 1) := by decide +kernel
theorem dX4_place_25 : decode cX4_place 25 = .ok (.iconst 1, 1) := by decide +kernel
theorem dX4_place_26 : decode cX4_place 26 = .ok (.invokestatic 57, 3) := by decide +kernel
theorem dX4_place_29 : decode cX4_place 29 = .ok (.aload_n 0, 1) := by decide +kernel
theorem dX4_place_30 : decode cX4_place 30 = .ok (.getfield 34, 3) := by decide +kernel
theorem dX4_place_33 : decode cX4_place 33 = .ok (.aload_n 0, 1) := by decide +kernel
theorem dX4_place_34 : decode cX4_place 34 = .ok (.getfield 12, 3) := by decide +kernel
theorem dX4_place_37 : decode cX4_place 37 = .ok (.invokevirtual 152, 3) := by decide +kernel
theorem dX4_place_40 : decode cX4_place 40 = .ok (.iload 4, 2) := by decide +kernel
theorem dX4_place_42 : decode cX4_place 42 = .ok (.ifCond .ne 12, 3) := by decide +kernel
theorem dX4_place_45 : decode cX4_place 45 = .ok (.aload_n 0, 1) := by decide +kernel
theorem dX4_place_46 : decode cX4_place 46 = .ok (.iload_n 1, 1) := by decide +kernel
theorem dX4_place_47 : decode cX4_place 47 = .ok (.iload_n 3, 1) := by decide +kernel
theorem dX4_place_48 : decode cX4_place 48 = .ok (.iconst 0, 1) := by decide +kernel
theorem dX4_place_49 : decode cX4_place 49 = .ok (.iload_n 2, 1) := by decide +kernel
theorem dX4_place_50 : decode cX4_place 50 = .ok (.invokevirtual 181, 3) := by decide +kernel
theorem dX4_place_53 : decode cX4_place 53 = .ok (.ireturn, 1) := by decide +kernel
theorem dX4_place_54 : decode cX4_place 54 = .ok (.aload_n 0, 1) := by decide +kernel
theorem dX4_place_55 : decode cX4_place 55 = .ok (.iload_n 1, 1) := by decide +kernel
theorem dX4_place_56 : decode cX4_place 56 = .ok (.iload_n 3, 1) := by decide +kernel
theorem dX4_place_57 : decode cX4_place 57 = .ok (.iconst 0, 1) := by decide +kernel
theorem dX4_place_58 : decode cX4_place 58 = .ok (.bipush 15, 2) := by decide +kernel
theorem dX4_place_60 : decode cX4_place 60 = .ok (.invokevirtual 181, 3) := by decide +kernel
theorem dX4_place_63 : decode cX4_place 63 = .ok (.aload_n 0, 1) := by decide +kernel
theorem dX4_place_64 : decode cX4_place 64 = .ok (.iload_n 1, 1) := by decide +kernel
theorem dX4_place_65 : decode cX4_place 65 = .ok (.iload_n 3, 1) := by decide +kernel
theorem dX4_place_66 : decode cX4_place 66 = .ok (.iload_n 2, 1) := by decide +kernel
theorem dX4_place_67 : decode cX4_place 67 = .ok (.iconst 1, 1) := by decide +kernel
theorem dX4_place_68 : decode cX4_place 68 = .ok (.iadd, 1) := by decide +kernel
theorem dX4_place_69 : decode cX4_place 69 = .ok (.bipush 15, 2) := by decide +kernel
theorem dX4_place_71 : decode cX4_place 71 = .ok (.invokevirtual 181, 3) := by decide +kernel
theorem dX4_place_74 : decode cX4_place 74 = .ok (.isub, 1) := by decide +kernel
theorem dX4_place_75 : decode cX4_place 75 = .ok (.ireturn, 1) := by decide +kernel
theorem dX4_count_0 : decode cX4_count 0 = .ok (.iload_n 1, 1) := by decide +kernel
theorem dX4_count_1 : decode cX4_count 1 = .ok (.iconst 0, 1) := by decide +kernel
theorem dX4_count_2 : decode cX4_count 2 = .ok (.bipush 7, 2) := by decide +kernel
theorem dX4_count_4 : decode cX4_count 4 = .ok (.invokestatic 57, 3) := by decide +kernel
theorem dX4_count_7 : decode cX4_count 7 = .ok (.iload_n 1, 1) := by decide +kernel
theorem dX4_count_8 : decode cX4_count 8 = .ok (.tableswitch 101 0 6 #[44, 52, 60, 70, 80, 88, 96], 44) := by decide +kernel
theorem dX4_count_52 : decode cX4_count 52 = .ok (.aload_n 0, 1) := by decide +kernel
theorem dX4_count_53 : decode cX4_count 53 = .ok (.getfield 12, 3) := by decide +kernel
theorem dX4_count_56 : decode cX4_count 56 = .ok (.getfield 86, 3) := by decide +kernel
theorem dX4_count_59 : decode cX4_count 59 = .ok (.ireturn, 1) := by decide +kernel
theorem dX4_count_60 : decode cX4_count 60 = .ok (.aload_n 0, 1) := by decide +kernel
theorem dX4_count_61 : decode cX4_count 61 = .ok (.getfield 12, 3) := by decide +kernel
theorem dX4_count_64 : decode cX4_count 64 = .ok (.getfield 93, 3) := by decide +kernel
theorem dX4_count_67 : decode cX4_count 67 = .ok (.ireturn, 1) := by decide +kernel
theorem dX4_count_68 : decode cX4_count 68 = .ok (.aload_n 0, 1) := by decide +kernel
theorem dX4_count_69 : decode cX4_count 69 = .ok (.getfield 12, 3) := by decide +kernel
theorem dX4_count_72 : decode cX4_count 72 = .ok (.getfield 80, 3) := by decide +kernel
theorem dX4_count_75 : decode cX4_count 75 = .ok (.iconst 0, 1) := by decide +kernel
theorem dX4_count_76 : decode cX4_count 76 = .ok (.iaload, 1) := by decide +kernel
theorem dX4_count_77 : decode cX4_count 77 = .ok (.ireturn, 1) := by decide +kernel
theorem dX4_count_78 : decode cX4_count 78 = .ok (.aload_n 0, 1) := by decide +kernel
theorem dX4_count_79 : decode cX4_count 79 = .ok (.getfield 12, 3) := by decide +kernel
theorem dX4_count_82 : decode cX4_count 82 = .ok (.getfield 80, 3) := by decide +kernel
theorem dX4_count_85 : decode cX4_count 85 = .ok (.iconst 1, 1) := by decide +kernel
theorem dX4_count_86 : decode cX4_count 86 = .ok (.iaload, 1) := by decide +kernel
theorem dX4_count_87 : decode cX4_count 87 = .ok (.ireturn, 1) := by decide +kernel
theorem dX4_count_88 : decode cX4_count 88 = .ok (.aload_n 0, 1) := by decide +kernel
theorem dX4_count_89 : decode cX4_count 89 = .ok (.getfield 12, 3) := by decide +kernel
theorem dX4_count_92 : decode cX4_count 92 = .ok (.getfield 110, 3) := by decide +kernel
theorem dX4_count_95 : decode cX4_count 95 = .ok (.ireturn, 1) := by decide +kernel
theorem dX4_count_96 : decode cX4_count 96 = .ok (.aload_n 0, 1) := by decide +kernel
theorem dX4_count_97 : decode cX4_count 97 = .ok (.getfield 12, 3) := by decide +kernel
theorem dX4_count_100 : decode cX4_count 100 = .ok (.getfield 117, 3) := by decide +kernel
theorem dX4_count_103 : decode cX4_count 103 = .ok (.ireturn, 1) := by decide +kernel
theorem dX4_count_104 : decode cX4_count 104 = .ok (.aload_n 0, 1) := by decide +kernel
theorem dX4_count_105 : decode cX4_count 105 = .ok (.invokevirtual 184, 3) := by decide +kernel
theorem dX4_count_108 : decode cX4_count 108 = .ok (.ireturn, 1) := by decide +kernel
theorem dX4_count_109 : decode cX4_count 109 = .ok (.aload_n 0, 1) := by decide +kernel
theorem dX4_count_110 : decode cX4_count 110 = .ok (.getfield 27, 3) := by decide +kernel
theorem dX4_count_113 : decode cX4_count 113 = .ok (.getfield 142, 3) := by decide +kernel
theorem dX4_count_116 : decode cX4_count 116 = .ok (.ireturn, 1) := by decide +kernel
theorem dX4_setting_0 : decode cX4_setting 0 = .ok (.iload_n 1, 1) := by decide +kernel
theorem dX4_setting_1 : decode cX4_setting 1 = .ok (.iconst 3, 1) := by decide +kernel
theorem dX4_setting_2 : decode cX4_setting 2 = .ok (.invokestatic 53, 3) := by decide +kernel
theorem dX4_setting_5 : decode cX4_setting 5 = .ok (.aload_n 0, 1) := by decide +kernel
theorem dX4_setting_6 : decode cX4_setting 6 = .ok (.getfield 12, 3) := by decide +kernel
theorem dX4_setting_9 : decode cX4_setting 9 = .ok (.getfield 83, 3) := by decide +kernel
theorem dX4_setting_12 : decode cX4_setting 12 = .ok (.iload_n 1, 1) := by decide +kernel
theorem dX4_setting_13 : decode cX4_setting 13 = .ok (.iaload, 1) := by decide +kernel
theorem dX4_setting_14 : decode cX4_setting 14 = .ok (.ireturn, 1) := by decide +kernel
theorem dX4_moved_0 : decode cX4_moved 0 = .ok (.iload_n 1, 1) := by decide +kernel
theorem dX4_moved_1 : decode cX4_moved 1 = .ok (.aload_n 0, 1) := by decide +kernel
theorem dX4_moved_2 : decode cX4_moved 2 = .ok (.getfield 12, 3) := by decide +kernel
theorem dX4_moved_5 : decode cX4_moved 5 = .ok (.getfield 93, 3) := by decide +kernel
theorem dX4_moved_8 : decode cX4_moved 8 = .ok (.invokestatic 53, 3) := by decide +kernel
theorem dX4_moved_11 : decode cX4_moved 11 = .ok (.iload_n 2, 1) := by decide +kernel
theorem dX4_moved_12 : decode cX4_moved 12 = .ok (.aload_n 0, 1) := by decide +kernel
theorem dX4_moved_13 : decode cX4_moved 13 = .ok (.getfield 12, 3) := by decide +kernel
theorem dX4_moved_16 : decode cX4_moved 16 = .ok (.getfield 93, 3) := by decide +kernel
theorem dX4_moved_19 : decode cX4_moved 19 = .ok (.invokestatic 53, 3) := by decide +kernel
theorem dX4_moved_22 : decode cX4_moved 22 = .ok (.iload_n 3, 1) := by decide +kernel
theorem dX4_moved_23 : decode cX4_moved 23 = .ok (.bipush 16, 2) := by decide +kernel
theorem dX4_moved_25 : decode cX4_moved 25 = .ok (.invokestatic 53, 3) := by decide +kernel
theorem dX4_moved_28 : decode cX4_moved 28 = .ok (.iload 4, 2) := by decide +kernel
theorem dX4_moved_30 : decode cX4_moved 30 = .ok (.iconst 2, 1) := by decide +kernel
theorem dX4_moved_31 : decode cX4_moved 31 = .ok (.invokestatic 53, 3) := by decide +kernel
theorem dX4_moved_34 : decode cX4_moved 34 = .ok (.aload_n 0, 1) := by decide +kernel
theorem dX4_moved_35 : decode cX4_moved 35 = .ok (.getfield 34, 3) := by decide +kernel
theorem dX4_moved_38 : decode cX4_moved 38 = .ok (.aload_n 0, 1) := by decide +kernel
theorem dX4_moved_39 : decode cX4_moved 39 = .ok (.getfield 12, 3) := by decide +kernel
theorem dX4_moved_42 : decode cX4_moved 42 = .ok (.invokevirtual 152, 3) := by decide +kernel
theorem dX4_moved_45 : decode cX4_moved 45 = .ok (.aload_n 0, 1) := by decide +kernel
theorem dX4_moved_46 : decode cX4_moved 46 = .ok (.iload_n 1, 1) := by decide +kernel
theorem dX4_moved_47 : decode cX4_moved 47 = .ok (.iload_n 2, 1) := by decide +kernel
theorem dX4_moved_48 : decode cX4_moved 48 = .ok (.iload_n 3, 1) := by decide +kernel
theorem dX4_moved_49 : decode cX4_moved 49 = .ok (.iload 4, 2) := by decide +kernel
theorem dX4_moved_51 : decode cX4_moved 51 = .ok (.invokevirtual 188, 3) := by decide +kernel
theorem dX4_moved_54 : decode cX4_moved 54 = .ok (.ireturn, 1) := by decide +kernel
theorem dX4_slidesAt_0 : decode cX4_slidesAt 0 = .ok (.iload_n 1, 1) := by decide +kernel
theorem dX4_slidesAt_1 : decode cX4_slidesAt 1 = .ok (.aload_n 0, 1) := by decide +kernel
theorem dX4_slidesAt_2 : decode cX4_slidesAt 2 = .ok (.getfield 12, 3) := by decide +kernel
theorem dX4_slidesAt_5 : decode cX4_slidesAt 5 = .ok (.getfield 93, 3) := by decide +kernel
theorem dX4_slidesAt_8 : decode cX4_slidesAt 8 = .ok (.invokestatic 53, 3) := by decide +kernel
theorem dX4_slidesAt_11 : decode cX4_slidesAt 11 = .ok (.iload_n 2, 1) := by decide +kernel
theorem dX4_slidesAt_12 : decode cX4_slidesAt 12 = .ok (.aload_n 0, 1) := by decide +kernel
theorem dX4_slidesAt_13 : decode cX4_slidesAt 13 = .ok (.getfield 12, 3) := by decide +kernel
theorem dX4_slidesAt_16 : decode cX4_slidesAt 16 = .ok (.getfield 93, 3) := by decide +kernel
theorem dX4_slidesAt_19 : decode cX4_slidesAt 19 = .ok (.invokestatic 53, 3) := by decide +kernel
theorem dX4_slidesAt_22 : decode cX4_slidesAt 22 = .ok (.iload_n 3, 1) := by decide +kernel
theorem dX4_slidesAt_23 : decode cX4_slidesAt 23 = .ok (.iconst 2, 1) := by decide +kernel
theorem dX4_slidesAt_24 : decode cX4_slidesAt 24 = .ok (.invokestatic 53, 3) := by decide +kernel
theorem dX4_slidesAt_27 : decode cX4_slidesAt 27 = .ok (.aload_n 0, 1) := by decide +kernel
theorem dX4_slidesAt_28 : decode cX4_slidesAt 28 = .ok (.getfield 34, 3) := by decide +kernel
theorem dX4_slidesAt_31 : decode cX4_slidesAt 31 = .ok (.aload_n 0, 1) := by decide +kernel
theorem dX4_slidesAt_32 : decode cX4_slidesAt 32 = .ok (.getfield 12, 3) := by decide +kernel
theorem dX4_slidesAt_35 : decode cX4_slidesAt 35 = .ok (.invokevirtual 152, 3) := by decide +kernel
theorem dX4_slidesAt_38 : decode cX4_slidesAt 38 = .ok (.iconst 0, 1) := by decide +kernel
theorem dX4_slidesAt_39 : decode cX4_slidesAt 39 = .ok (.istore 4, 2) := by decide +kernel
theorem dX4_slidesAt_41 : decode cX4_slidesAt 41 = .ok (.iconst (-1), 1) := by decide +kernel
theorem dX4_slidesAt_42 : decode cX4_slidesAt 42 = .ok (.istore 5, 2) := by decide +kernel
theorem dX4_slidesAt_44 : decode cX4_slidesAt 44 = .ok (.iconst 0, 1) := by decide +kernel
theorem dX4_slidesAt_45 : decode cX4_slidesAt 45 = .ok (.istore 6, 2) := by decide +kernel
theorem dX4_slidesAt_47 : decode cX4_slidesAt 47 = .ok (.iload 6, 2) := by decide +kernel
theorem dX4_slidesAt_49 : decode cX4_slidesAt 49 = .ok (.bipush 16, 2) := by decide +kernel
theorem dX4_slidesAt_51 : decode cX4_slidesAt 51 = .ok (.if_icmp .ge 38, 3) := by decide +kernel
theorem dX4_slidesAt_54 : decode cX4_slidesAt 54 = .ok (.aload_n 0, 1) := by decide +kernel
theorem dX4_slidesAt_55 : decode cX4_slidesAt 55 = .ok (.iload_n 1, 1) := by decide +kernel
theorem dX4_slidesAt_56 : decode cX4_slidesAt 56 = .ok (.iload_n 2, 1) := by decide +kernel
theorem dX4_slidesAt_57 : decode cX4_slidesAt 57 = .ok (.iload 6, 2) := by decide +kernel
theorem dX4_slidesAt_59 : decode cX4_slidesAt 59 = .ok (.iload_n 3, 1) := by decide +kernel
theorem dX4_slidesAt_60 : decode cX4_slidesAt 60 = .ok (.invokevirtual 191, 3) := by decide +kernel
theorem dX4_slidesAt_63 : decode cX4_slidesAt 63 = .ok (.invokestatic 194, 3) := by decide +kernel
theorem dX4_slidesAt_66 : decode cX4_slidesAt 66 = .ok (.istore 7, 2) := by decide +kernel
theorem dX4_slidesAt_68 : decode cX4_slidesAt 68 = .ok (.iload 7, 2) := by decide +kernel
theorem dX4_slidesAt_70 : decode cX4_slidesAt 70 = .ok (.iload 4, 2) := by decide +kernel
theorem dX4_slidesAt_72 : decode cX4_slidesAt 72 = .ok (.if_icmp .le 11, 3) := by decide +kernel
theorem dX4_slidesAt_75 : decode cX4_slidesAt 75 = .ok (.iload 7, 2) := by decide +kernel
theorem dX4_slidesAt_77 : decode cX4_slidesAt 77 = .ok (.istore 4, 2) := by decide +kernel
theorem dX4_slidesAt_79 : decode cX4_slidesAt 79 = .ok (.iload 6, 2) := by decide +kernel
theorem dX4_slidesAt_81 : decode cX4_slidesAt 81 = .ok (.istore 5, 2) := by decide +kernel
theorem dX4_slidesAt_83 : decode cX4_slidesAt 83 = .ok (.iinc 6 1, 3) := by decide +kernel
theorem dX4_slidesAt_86 : decode cX4_slidesAt 86 = .ok (.goto (-39), 3) := by decide +kernel
theorem dX4_slidesAt_89 : decode cX4_slidesAt 89 = .ok (.iload 5, 2) := by decide +kernel
theorem dX4_slidesAt_91 : decode cX4_slidesAt 91 = .ok (.ireturn, 1) := by decide +kernel
theorem dX4_firstMoved_0 : decode cX4_firstMoved 0 = .ok (.iload_n 1, 1) := by decide +kernel
theorem dX4_firstMoved_1 : decode cX4_firstMoved 1 = .ok (.aload_n 0, 1) := by decide +kernel
theorem dX4_firstMoved_2 : decode cX4_firstMoved 2 = .ok (.getfield 12, 3) := by decide +kernel
theorem dX4_firstMoved_5 : decode cX4_firstMoved 5 = .ok (.getfield 93, 3) := by decide +kernel
theorem dX4_firstMoved_8 : decode cX4_firstMoved 8 = .ok (.invokestatic 53, 3) := by decide +kernel
theorem dX4_firstMoved_11 : decode cX4_firstMoved 11 = .ok (.iload_n 2, 1) := by decide +kernel
theorem dX4_firstMoved_12 : decode cX4_firstMoved 12 = .ok (.aload_n 0, 1) := by decide +kernel
theorem dX4_firstMoved_13 : decode cX4_firstMoved 13 = .ok (.getfield 12, 3) := by decide +kernel
theorem dX4_firstMoved_16 : decode cX4_firstMoved 16 = .ok (.getfield 93, 3) := by decide +kernel
theorem dX4_firstMoved_19 : decode cX4_firstMoved 19 = .ok (.invokestatic 53, 3) := by decide +kernel
theorem dX4_firstMoved_22 : decode cX4_firstMoved 22 = .ok (.iload_n 3, 1) := by decide +kernel
theorem dX4_firstMoved_23 : decode cX4_firstMoved 23 = .ok (.iconst 2, 1) := by decide +kernel
theorem dX4_firstMoved_24 : decode cX4_firstMoved 24 = .ok (.invokestatic 53, 3) := by decide +kernel
theorem dX4_firstMoved_27 : decode cX4_firstMoved 27 = .ok (.iload 4, 2) := by decide +kernel
theorem dX4_firstMoved_29 : decode cX4_firstMoved 29 = .ok (.iconst 1, 1) := by decide +kernel
theorem dX4_firstMoved_30 : decode cX4_firstMoved 30 = .ok (.sipush 999, 3) := by decide +kernel
theorem dX4_firstMoved_33 : decode cX4_firstMoved 33 = .ok (.invokestatic 57, 3) := by decide +kernel
theorem dX4_firstMoved_36 : decode cX4_firstMoved 36 = .ok (.aload_n 0, 1) := by decide +kernel
theorem dX4_firstMoved_37 : decode cX4_firstMoved 37 = .ok (.getfield 34, 3) := by decide +kernel
theorem dX4_firstMoved_40 : decode cX4_firstMoved 40 = .ok (.aload_n 0, 1) := by decide +kernel
theorem dX4_firstMoved_41 : decode cX4_firstMoved 41 = .ok (.getfield 12, 3) := by decide +kernel
theorem dX4_firstMoved_44 : decode cX4_firstMoved 44 = .ok (.invokevirtual 152, 3) := by decide +kernel
theorem dX4_firstMoved_47 : decode cX4_firstMoved 47 = .ok (.iconst 0, 1) := by decide +kernel
theorem dX4_firstMoved_48 : decode cX4_firstMoved 48 = .ok (.istore 5, 2) := by decide +kernel
theorem dX4_firstMoved_50 : decode cX4_firstMoved 50 = .ok (.iconst 0, 1) := by decide +kernel
theorem dX4_firstMoved_51 : decode cX4_firstMoved 51 = .ok (.istore 6, 2) := by decide +kernel
theorem dX4_firstMoved_53 : decode cX4_firstMoved 53 = .ok (.iload 6, 2) := by decide +kernel
theorem dX4_firstMoved_55 : decode cX4_firstMoved 55 = .ok (.bipush 16, 2) := by decide +kernel
theorem dX4_firstMoved_57 : decode cX4_firstMoved 57 = .ok (.if_icmp .ge 36, 3) := by decide +kernel
theorem dX4_firstMoved_60 : decode cX4_firstMoved 60 = .ok (.iload 5, 2) := by decide +kernel
theorem dX4_firstMoved_62 : decode cX4_firstMoved 62 = .ok (.aload_n 0, 1) := by decide +kernel
theorem dX4_firstMoved_63 : decode cX4_firstMoved 63 = .ok (.iload_n 1, 1) := by decide +kernel
theorem dX4_firstMoved_64 : decode cX4_firstMoved 64 = .ok (.iload_n 2, 1) := by decide +kernel
theorem dX4_firstMoved_65 : decode cX4_firstMoved 65 = .ok (.iload 6, 2) := by decide +kernel
theorem dX4_firstMoved_67 : decode cX4_firstMoved 67 = .ok (.iload_n 3, 1) := by decide +kernel
theorem dX4_firstMoved_68 : decode cX4_firstMoved 68 = .ok (.invokevirtual 191, 3) := by decide +kernel
theorem dX4_firstMoved_71 : decode cX4_firstMoved 71 = .ok (.iadd, 1) := by decide +kernel
theorem dX4_firstMoved_72 : decode cX4_firstMoved 72 = .ok (.istore 5, 2) := by decide +kernel
theorem dX4_firstMoved_74 : decode cX4_firstMoved 74 = .ok (.iload 5, 2) := by decide +kernel
theorem dX4_firstMoved_76 : decode cX4_firstMoved 76 = .ok (.invokestatic 194, 3) := by decide +kernel
theorem dX4_firstMoved_79 : decode cX4_firstMoved 79 = .ok (.iload 4, 2) := by decide +kernel
theorem dX4_firstMoved_81 : decode cX4_firstMoved 81 = .ok (.if_icmp .lt 6, 3) := by decide +kernel
theorem dX4_firstMoved_84 : decode cX4_firstMoved 84 = .ok (.iload 6, 2) := by decide +kernel
theorem dX4_firstMoved_86 : decode cX4_firstMoved 86 = .ok (.ireturn, 1) := by decide +kernel
theorem dX4_firstMoved_87 : decode cX4_firstMoved 87 = .ok (.iinc 6 1, 3) := by decide +kernel
theorem dX4_firstMoved_90 : decode cX4_firstMoved 90 = .ok (.goto (-37), 3) := by decide +kernel
theorem dX4_firstMoved_93 : decode cX4_firstMoved 93 = .ok (.iconst (-1), 1) := by decide +kernel
theorem dX4_firstMoved_94 : decode cX4_firstMoved 94 = .ok (.ireturn, 1) := by decide +kernel
theorem dX4_spread_0 : decode cX4_spread 0 = .ok (.iload_n 1, 1) := by decide +kernel
theorem dX4_spread_1 : decode cX4_spread 1 = .ok (.aload_n 0, 1) := by decide +kernel
theorem dX4_spread_2 : decode cX4_spread 2 = .ok (.getfield 12, 3) := by decide +kernel
theorem dX4_spread_5 : decode cX4_spread 5 = .ok (.getfield 93, 3) := by decide +kernel
theorem dX4_spread_8 : decode cX4_spread 8 = .ok (.invokestatic 53, 3) := by decide +kernel
theorem dX4_spread_11 : decode cX4_spread 11 = .ok (.iload_n 2, 1) := by decide +kernel
theorem dX4_spread_12 : decode cX4_spread 12 = .ok (.iconst 2, 1) := by decide +kernel
theorem dX4_spread_13 : decode cX4_spread 13 = .ok (.invokestatic 53, 3) := by decide +kernel
theorem dX4_spread_16 : decode cX4_spread 16 = .ok (.lconst 0, 1) := by decide +kernel
theorem dX4_spread_17 : decode cX4_spread 17 = .ok (.lstore_n 3, 1) := by decide +kernel
theorem dX4_spread_18 : decode cX4_spread 18 = .ok (.lconst 0, 1) := by decide +kernel
theorem dX4_spread_19 : decode cX4_spread 19 = .ok (.lstore 5, 2) := by decide +kernel
theorem dX4_spread_21 : decode cX4_spread 21 = .ok (.iconst 0, 1) := by decide +kernel
theorem dX4_spread_22 : decode cX4_spread 22 = .ok (.istore 7, 2) := by decide +kernel
theorem dX4_spread_24 : decode cX4_spread 24 = .ok (.iload 7, 2) := by decide +kernel
theorem dX4_spread_26 : decode cX4_spread 26 = .ok (.bipush 16, 2) := by decide +kernel
theorem dX4_spread_28 : decode cX4_spread 28 = .ok (.if_icmp .ge 38, 3) := by decide +kernel
theorem dX4_spread_31 : decode cX4_spread 31 = .ok (.aload_n 0, 1) := by decide +kernel
theorem dX4_spread_32 : decode cX4_spread 32 = .ok (.getfield 12, 3) := by decide +kernel
theorem dX4_spread_35 : decode cX4_spread 35 = .ok (.iload_n 1, 1) := by decide +kernel
theorem dX4_spread_36 : decode cX4_spread 36 = .ok (.iload 7, 2) := by decide +kernel
theorem dX4_spread_38 : decode cX4_spread 38 = .ok (.iload_n 2, 1) := by decide +kernel
theorem dX4_spread_39 : decode cX4_spread 39 = .ok (.invokestatic 155, 3) := by decide +kernel
theorem dX4_spread_42 : decode cX4_spread 42 = .ok (.i2l, 1) := by decide +kernel
theorem dX4_spread_43 : decode cX4_spread 43 = .ok (.lstore 8, 2) := by decide +kernel
theorem dX4_spread_45 : decode cX4_spread 45 = .ok (.lload_n 3, 1) := by decide +kernel
theorem dX4_spread_46 : decode cX4_spread 46 = .ok (.lload 8, 2) := by decide +kernel
theorem dX4_spread_48 : decode cX4_spread 48 = .ok (.ladd, 1) := by decide +kernel
theorem dX4_spread_49 : decode cX4_spread 49 = .ok (.lstore_n 3, 1) := by decide +kernel
theorem dX4_spread_50 : decode cX4_spread 50 = .ok (.lload 5, 2) := by decide +kernel
theorem dX4_spread_52 : decode cX4_spread 52 = .ok (.lload 8, 2) := by decide +kernel
theorem dX4_spread_54 : decode cX4_spread 54 = .ok (.lload 8, 2) := by decide +kernel
theorem dX4_spread_56 : decode cX4_spread 56 = .ok (.lmul, 1) := by decide +kernel
theorem dX4_spread_57 : decode cX4_spread 57 = .ok (.ladd, 1) := by decide +kernel
theorem dX4_spread_58 : decode cX4_spread 58 = .ok (.lstore 5, 2) := by decide +kernel
theorem dX4_spread_60 : decode cX4_spread 60 = .ok (.iinc 7 1, 3) := by decide +kernel
theorem dX4_spread_63 : decode cX4_spread 63 = .ok (.goto (-39), 3) := by decide +kernel
theorem dX4_spread_66 : decode cX4_spread 66 = .ok (.ldc2_w 198, 3) := by decide +kernel
theorem dX4_spread_69 : decode cX4_spread 69 = .ok (.lload 5, 2) := by decide +kernel
theorem dX4_spread_71 : decode cX4_spread 71 = .ok (.lmul, 1) := by decide +kernel
theorem dX4_spread_72 : decode cX4_spread 72 = .ok (.lload_n 3, 1) := by decide +kernel
theorem dX4_spread_73 : decode cX4_spread 73 = .ok (.lload_n 3, 1) := by decide +kernel
theorem dX4_spread_74 : decode cX4_spread 74 = .ok (.lmul, 1) := by decide +kernel
theorem dX4_spread_75 : decode cX4_spread 75 = .ok (.lsub, 1) := by decide +kernel
theorem dX4_spread_76 : decode cX4_spread 76 = .ok (.l2d, 1) := by decide +kernel
theorem dX4_spread_77 : decode cX4_spread 77 = .ok (.ldc2_w 200, 3) := by decide +kernel
theorem dX4_spread_80 : decode cX4_spread 80 = .ok (.ddiv, 1) := by decide +kernel
theorem dX4_spread_81 : decode cX4_spread 81 = .ok (.dreturn, 1) := by decide +kernel
theorem dX4_isWithin_0 : decode cX4_isWithin 0 = .ok (.iload_n 0, 1) := by decide +kernel
theorem dX4_isWithin_1 : decode cX4_isWithin 1 = .ok (.iload_n 1, 1) := by decide +kernel
theorem dX4_isWithin_2 : decode cX4_isWithin 2 = .ok (.if_icmp .lt 12, 3) := by decide +kernel
theorem dX4_isWithin_5 : decode cX4_isWithin 5 = .ok (.iload_n 0, 1) := by decide +kernel
theorem dX4_isWithin_6 : decode cX4_isWithin 6 = .ok (.iload_n 2, 1) := by decide +kernel
theorem dX4_isWithin_7 : decode cX4_isWithin 7 = .ok (.if_icmp .gt 7, 3) := by decide +kernel
theorem dX4_isWithin_10 : decode cX4_isWithin 10 = .ok (.iconst 1, 1) := by decide +kernel
theorem dX4_isWithin_11 : decode cX4_isWithin 11 = .ok (.goto 4, 3) := by decide +kernel
theorem dX4_isWithin_14 : decode cX4_isWithin 14 = .ok (.iconst 0, 1) := by decide +kernel
theorem dX4_isWithin_15 : decode cX4_isWithin 15 = .ok (.ireturn, 1) := by decide +kernel
theorem dX4_needIndex_0 : decode cX4_needIndex 0 = .ok (.iload_n 0, 1) := by decide +kernel
theorem dX4_needIndex_1 : decode cX4_needIndex 1 = .ok (.ifCond .lt 8, 3) := by decide +kernel
theorem dX4_needIndex_4 : decode cX4_needIndex 4 = .ok (.iload_n 0, 1) := by decide +kernel
theorem dX4_needIndex_5 : decode cX4_needIndex 5 = .ok (.iload_n 1, 1) := by decide +kernel
theorem dX4_needIndex_6 : decode cX4_needIndex 6 = .ok (.if_icmp .lt 13, 3) := by decide +kernel
theorem dX4_needIndex_9 : decode cX4_needIndex 9 = .ok (.new 233, 3) := by decide +kernel
theorem dX4_needIndex_12 : decode cX4_needIndex 12 = .ok (.dup, 1) := by decide +kernel
theorem dX4_needIndex_13 : decode cX4_needIndex 13 = .ok (.ldc 235, 2) := by decide +kernel
theorem dX4_needIndex_15 : decode cX4_needIndex 15 = .ok (.invokespecial 237, 3) := by decide +kernel
theorem dX4_needIndex_18 : decode cX4_needIndex 18 = .ok (.athrow, 1) := by decide +kernel
theorem dX4_needIndex_19 : decode cX4_needIndex 19 = .ok (.return_, 1) := by decide +kernel
theorem dX4_needRange_0 : decode cX4_needRange 0 = .ok (.iload_n 0, 1) := by decide +kernel
theorem dX4_needRange_1 : decode cX4_needRange 1 = .ok (.iload_n 1, 1) := by decide +kernel
theorem dX4_needRange_2 : decode cX4_needRange 2 = .ok (.iload_n 2, 1) := by decide +kernel
theorem dX4_needRange_3 : decode cX4_needRange 3 = .ok (.invokestatic 113, 3) := by decide +kernel
theorem dX4_needRange_6 : decode cX4_needRange 6 = .ok (.ifCond .ne 13, 3) := by decide +kernel
theorem dX4_needRange_9 : decode cX4_needRange 9 = .ok (.new 240, 3) := by decide +kernel
theorem dX4_needRange_12 : decode cX4_needRange 12 = .ok (.dup, 1) := by decide +kernel
theorem dX4_needRange_13 : decode cX4_needRange 13 = .ok (.ldc 242, 2) := by decide +kernel
theorem dX4_needRange_15 : decode cX4_needRange 15 = .ok (.invokespecial 244, 3) := by decide +kernel
theorem dX4_needRange_18 : decode cX4_needRange 18 = .ok (.athrow, 1) := by decide +kernel
theorem dX4_needRange_19 : decode cX4_needRange 19 = .ok (.return_, 1) := by decide +kernel
theorem dX4_needState_0 : decode cX4_needState 0 = .ok (.iload_n 0, 1) := by decide +kernel
theorem dX4_needState_1 : decode cX4_needState 1 = .ok (.ifCond .ne 13, 3) := by decide +kernel
theorem dX4_needState_4 : decode cX4_needState 4 = .ok (.new 247, 3) := by decide +kernel
theorem dX4_needState_7 : decode cX4_needState 7 = .ok (.dup, 1) := by decide +kernel
theorem dX4_needState_8 : decode cX4_needState 8 = .ok (.ldc 249, 2) := by decide +kernel
theorem dX4_needState_10 : decode cX4_needState 10 = .ok (.invokespecial 251, 3) := by decide +kernel
theorem dX4_needState_13 : decode cX4_needState 13 = .ok (.athrow, 1) := by decide +kernel
theorem dX4_needState_14 : decode cX4_needState 14 = .ok (.return_, 1) := by decide +kernel
theorem dX4_readingAt_0 : decode cX4_readingAt 0 = .ok (.iload_n 0, 1) := by decide +kernel
theorem dX4_readingAt_1 : decode cX4_readingAt 1 = .ok (.bipush 64, 2) := by decide +kernel
theorem dX4_readingAt_3 : decode cX4_readingAt 3 = .ok (.imul, 1) := by decide +kernel
theorem dX4_readingAt_4 : decode cX4_readingAt 4 = .ok (.iload_n 1, 1) := by decide +kernel
theorem dX4_readingAt_5 : decode cX4_readingAt 5 = .ok (.iconst 2, 1) := by decide +kernel
theorem dX4_readingAt_6 : decode cX4_readingAt 6 = .ok (.imul, 1) := by decide +kernel
theorem dX4_readingAt_7 : decode cX4_readingAt 7 = .ok (.iconst 2, 1) := by decide +kernel
theorem dX4_readingAt_8 : decode cX4_readingAt 8 = .ok (.imul, 1) := by decide +kernel
theorem dX4_readingAt_9 : decode cX4_readingAt 9 = .ok (.iadd, 1) := by decide +kernel
theorem dX4_readingAt_10 : decode cX4_readingAt 10 = .ok (.iload_n 2, 1) := by decide +kernel
theorem dX4_readingAt_11 : decode cX4_readingAt 11 = .ok (.iconst 2, 1) := by decide +kernel
theorem dX4_readingAt_12 : decode cX4_readingAt 12 = .ok (.imul, 1) := by decide +kernel
theorem dX4_readingAt_13 : decode cX4_readingAt 13 = .ok (.iadd, 1) := by decide +kernel
theorem dX4_readingAt_14 : decode cX4_readingAt 14 = .ok (.iload_n 3, 1) := by decide +kernel
theorem dX4_readingAt_15 : decode cX4_readingAt 15 = .ok (.iadd, 1) := by decide +kernel
theorem dX4_readingAt_16 : decode cX4_readingAt 16 = .ok (.ireturn, 1) := by decide +kernel
theorem dX4_tiltAt_0 : decode cX4_tiltAt 0 = .ok (.iload_n 0, 1) := by decide +kernel
theorem dX4_tiltAt_1 : decode cX4_tiltAt 1 = .ok (.bipush 32, 2) := by decide +kernel
theorem dX4_tiltAt_3 : decode cX4_tiltAt 3 = .ok (.imul, 1) := by decide +kernel
theorem dX4_tiltAt_4 : decode cX4_tiltAt 4 = .ok (.iload_n 1, 1) := by decide +kernel
theorem dX4_tiltAt_5 : decode cX4_tiltAt 5 = .ok (.iconst 2, 1) := by decide +kernel
theorem dX4_tiltAt_6 : decode cX4_tiltAt 6 = .ok (.imul, 1) := by decide +kernel
theorem dX4_tiltAt_7 : decode cX4_tiltAt 7 = .ok (.iadd, 1) := by decide +kernel
theorem dX4_tiltAt_8 : decode cX4_tiltAt 8 = .ok (.iload_n 2, 1) := by decide +kernel
theorem dX4_tiltAt_9 : decode cX4_tiltAt 9 = .ok (.iadd, 1) := by decide +kernel
theorem dX4_tiltAt_10 : decode cX4_tiltAt 10 = .ok (.ireturn, 1) := by decide +kernel
theorem dX4_beginChange_0 : decode cX4_beginChange 0 = .ok (.aload_n 0, 1) := by decide +kernel
theorem dX4_beginChange_1 : decode cX4_beginChange 1 = .ok (.getfield 27, 3) := by decide +kernel
theorem dX4_beginChange_4 : decode cX4_beginChange 4 = .ok (.aload_n 0, 1) := by decide +kernel
theorem dX4_beginChange_5 : decode cX4_beginChange 5 = .ok (.getfield 12, 3) := by decide +kernel
theorem dX4_beginChange_8 : decode cX4_beginChange 8 = .ok (.invokevirtual 252, 3) := by decide +kernel
theorem dX4_beginChange_11 : decode cX4_beginChange 11 = .ok (.aload_n 0, 1) := by decide +kernel
theorem dX4_beginChange_12 : decode cX4_beginChange 12 = .ok (.getfield 34, 3) := by decide +kernel
theorem dX4_beginChange_15 : decode cX4_beginChange 15 = .ok (.iconst 0, 1) := by decide +kernel
theorem dX4_beginChange_16 : decode cX4_beginChange 16 = .ok (.putfield 148, 3) := by decide +kernel
theorem dX4_beginChange_19 : decode cX4_beginChange 19 = .ok (.return_, 1) := by decide +kernel
theorem dX4_turnedTilt_0 : decode cX4_turnedTilt 0 = .ok (.iload_n 0, 1) := by decide +kernel
theorem dX4_turnedTilt_1 : decode cX4_turnedTilt 1 = .ok (.tableswitch 60 0 2 #[27, 37, 48], 27) := by decide +kernel
theorem dX4_turnedTilt_28 : decode cX4_turnedTilt 28 = .ok (.iload_n 3, 1) := by decide +kernel
theorem dX4_turnedTilt_29 : decode cX4_turnedTilt 29 = .ok (.ifCond .ne 7, 3) := by decide +kernel
theorem dX4_turnedTilt_32 : decode cX4_turnedTilt 32 = .ok (.iload_n 1, 1) := by decide +kernel
theorem dX4_turnedTilt_33 : decode cX4_turnedTilt 33 = .ok (.goto 4, 3) := by decide +kernel
theorem dX4_turnedTilt_36 : decode cX4_turnedTilt 36 = .ok (.iload_n 2, 1) := by decide +kernel
theorem dX4_turnedTilt_37 : decode cX4_turnedTilt 37 = .ok (.ireturn, 1) := by decide +kernel
theorem dX4_turnedTilt_38 : decode cX4_turnedTilt 38 = .ok (.iload_n 3, 1) := by decide +kernel
theorem dX4_turnedTilt_39 : decode cX4_turnedTilt 39 = .ok (.ifCond .ne 7, 3) := by decide +kernel
theorem dX4_turnedTilt_42 : decode cX4_turnedTilt 42 = .ok (.iload_n 2, 1) := by decide +kernel
theorem dX4_turnedTilt_43 : decode cX4_turnedTilt 43 = .ok (.goto 5, 3) := by decide +kernel
theorem dX4_turnedTilt_46 : decode cX4_turnedTilt 46 = .ok (.iload_n 1, 1) := by decide +kernel
theorem dX4_turnedTilt_47 : decode cX4_turnedTilt 47 = .ok (.ineg, 1) := by decide +kernel
theorem dX4_turnedTilt_48 : decode cX4_turnedTilt 48 = .ok (.ireturn, 1) := by decide +kernel
theorem dX4_turnedTilt_49 : decode cX4_turnedTilt 49 = .ok (.iload_n 3, 1) := by decide +kernel
theorem dX4_turnedTilt_50 : decode cX4_turnedTilt 50 = .ok (.ifCond .ne 8, 3) := by decide +kernel
theorem dX4_turnedTilt_53 : decode cX4_turnedTilt 53 = .ok (.iload_n 1, 1) := by decide +kernel
theorem dX4_turnedTilt_54 : decode cX4_turnedTilt 54 = .ok (.ineg, 1) := by decide +kernel
theorem dX4_turnedTilt_55 : decode cX4_turnedTilt 55 = .ok (.goto 5, 3) := by decide +kernel
theorem dX4_turnedTilt_58 : decode cX4_turnedTilt 58 = .ok (.iload_n 2, 1) := by decide +kernel
theorem dX4_turnedTilt_59 : decode cX4_turnedTilt 59 = .ok (.ineg, 1) := by decide +kernel
theorem dX4_turnedTilt_60 : decode cX4_turnedTilt 60 = .ok (.ireturn, 1) := by decide +kernel
theorem dX4_turnedTilt_61 : decode cX4_turnedTilt 61 = .ok (.iload_n 3, 1) := by decide +kernel
theorem dX4_turnedTilt_62 : decode cX4_turnedTilt 62 = .ok (.ifCond .ne 8, 3) := by decide +kernel
theorem dX4_turnedTilt_65 : decode cX4_turnedTilt 65 = .ok (.iload_n 2, 1) := by decide +kernel
theorem dX4_turnedTilt_66 : decode cX4_turnedTilt 66 = .ok (.ineg, 1) := by decide +kernel
theorem dX4_turnedTilt_67 : decode cX4_turnedTilt 67 = .ok (.goto 4, 3) := by decide +kernel
theorem dX4_turnedTilt_70 : decode cX4_turnedTilt 70 = .ok (.iload_n 1, 1) := by decide +kernel
theorem dX4_turnedTilt_71 : decode cX4_turnedTilt 71 = .ok (.ireturn, 1) := by decide +kernel
theorem dX4_probeReads_0 : decode cX4_probeReads 0 = .ok (.iload_n 1, 1) := by decide +kernel
theorem dX4_probeReads_1 : decode cX4_probeReads 1 = .ok (.iconst 2, 1) := by decide +kernel
theorem dX4_probeReads_2 : decode cX4_probeReads 2 = .ok (.imul, 1) := by decide +kernel
theorem dX4_probeReads_3 : decode cX4_probeReads 3 = .ok (.istore 4, 2) := by decide +kernel
theorem dX4_probeReads_5 : decode cX4_probeReads 5 = .ok (.aload_n 0, 1) := by decide +kernel
theorem dX4_probeReads_6 : decode cX4_probeReads 6 = .ok (.getfield 12, 3) := by decide +kernel
theorem dX4_probeReads_9 : decode cX4_probeReads 9 = .ok (.getfield 77, 3) := by decide +kernel
theorem dX4_probeReads_12 : decode cX4_probeReads 12 = .ok (.iload_n 1, 1) := by decide +kernel
theorem dX4_probeReads_13 : decode cX4_probeReads 13 = .ok (.iaload, 1) := by decide +kernel
theorem dX4_probeReads_14 : decode cX4_probeReads 14 = .ok (.aload_n 0, 1) := by decide +kernel
theorem dX4_probeReads_15 : decode cX4_probeReads 15 = .ok (.getfield 12, 3) := by decide +kernel
theorem dX4_probeReads_18 : decode cX4_probeReads 18 = .ok (.getfield 64, 3) := by decide +kernel
theorem dX4_probeReads_21 : decode cX4_probeReads 21 = .ok (.iload 4, 2) := by decide +kernel
theorem dX4_probeReads_23 : decode cX4_probeReads 23 = .ok (.iaload, 1) := by decide +kernel
theorem dX4_probeReads_24 : decode cX4_probeReads 24 = .ok (.aload_n 0, 1) := by decide +kernel
theorem dX4_probeReads_25 : decode cX4_probeReads 25 = .ok (.getfield 12, 3) := by decide +kernel
theorem dX4_probeReads_28 : decode cX4_probeReads 28 = .ok (.getfield 64, 3) := by decide +kernel
theorem dX4_probeReads_31 : decode cX4_probeReads 31 = .ok (.iload 4, 2) := by decide +kernel
theorem dX4_probeReads_33 : decode cX4_probeReads 33 = .ok (.iconst 1, 1) := by decide +kernel
theorem dX4_probeReads_34 : decode cX4_probeReads 34 = .ok (.iadd, 1) := by decide +kernel
theorem dX4_probeReads_35 : decode cX4_probeReads 35 = .ok (.iaload, 1) := by decide +kernel
theorem dX4_probeReads_36 : decode cX4_probeReads 36 = .ok (.iload_n 2, 1) := by decide +kernel
theorem dX4_probeReads_37 : decode cX4_probeReads 37 = .ok (.invokestatic 255, 3) := by decide +kernel
theorem dX4_probeReads_40 : decode cX4_probeReads 40 = .ok (.istore 5, 2) := by decide +kernel
theorem dX4_probeReads_42 : decode cX4_probeReads 42 = .ok (.iload_n 3, 1) := by decide +kernel
theorem dX4_probeReads_43 : decode cX4_probeReads 43 = .ok (.ifCond .ne 18, 3) := by decide +kernel
theorem dX4_probeReads_46 : decode cX4_probeReads 46 = .ok (.aload_n 0, 1) := by decide +kernel
theorem dX4_probeReads_47 : decode cX4_probeReads 47 = .ok (.getfield 12, 3) := by decide +kernel
theorem dX4_probeReads_50 : decode cX4_probeReads 50 = .ok (.getfield 80, 3) := by decide +kernel
theorem dX4_probeReads_53 : decode cX4_probeReads 53 = .ok (.iload_n 2, 1) := by decide +kernel
theorem dX4_probeReads_54 : decode cX4_probeReads 54 = .ok (.iaload, 1) := by decide +kernel
theorem dX4_probeReads_55 : decode cX4_probeReads 55 = .ok (.iload 5, 2) := by decide +kernel
theorem dX4_probeReads_57 : decode cX4_probeReads 57 = .ok (.iadd, 1) := by decide +kernel
theorem dX4_probeReads_58 : decode cX4_probeReads 58 = .ok (.goto 15, 3) := by decide +kernel
theorem dX4_probeReads_61 : decode cX4_probeReads 61 = .ok (.aload_n 0, 1) := by decide +kernel
theorem dX4_probeReads_62 : decode cX4_probeReads 62 = .ok (.getfield 12, 3) := by decide +kernel
theorem dX4_probeReads_65 : decode cX4_probeReads 65 = .ok (.getfield 80, 3) := by decide +kernel
theorem dX4_probeReads_68 : decode cX4_probeReads 68 = .ok (.iload_n 2, 1) := by decide +kernel
theorem dX4_probeReads_69 : decode cX4_probeReads 69 = .ok (.iaload, 1) := by decide +kernel
theorem dX4_probeReads_70 : decode cX4_probeReads 70 = .ok (.iload 5, 2) := by decide +kernel
theorem dX4_probeReads_72 : decode cX4_probeReads 72 = .ok (.isub, 1) := by decide +kernel
theorem dX4_probeReads_73 : decode cX4_probeReads 73 = .ok (.ireturn, 1) := by decide +kernel
theorem dX4_checkOf_0 : decode cX4_checkOf 0 = .ok (.iload_n 1, 1) := by decide +kernel
theorem dX4_checkOf_1 : decode cX4_checkOf 1 = .ok (.iload_n 2, 1) := by decide +kernel
theorem dX4_checkOf_2 : decode cX4_checkOf 2 = .ok (.iload_n 3, 1) := by decide +kernel
theorem dX4_checkOf_3 : decode cX4_checkOf 3 = .ok (.iconst 0, 1) := by decide +kernel
theorem dX4_checkOf_4 : decode cX4_checkOf 4 = .ok (.invokestatic 99, 3) := by decide +kernel
theorem dX4_checkOf_7 : decode cX4_checkOf 7 = .ok (.istore 4, 2) := by decide +kernel
theorem dX4_checkOf_9 : decode cX4_checkOf 9 = .ok (.aload_n 0, 1) := by decide +kernel
theorem dX4_checkOf_10 : decode cX4_checkOf 10 = .ok (.getfield 96, 3) := by decide +kernel
theorem dX4_checkOf_13 : decode cX4_checkOf 13 = .ok (.iload 4, 2) := by decide +kernel
theorem dX4_checkOf_15 : decode cX4_checkOf 15 = .ok (.iaload, 1) := by decide +kernel
theorem dX4_checkOf_16 : decode cX4_checkOf 16 = .ok (.aload_n 0, 1) := by decide +kernel
theorem dX4_checkOf_17 : decode cX4_checkOf 17 = .ok (.getfield 96, 3) := by decide +kernel
theorem dX4_checkOf_20 : decode cX4_checkOf 20 = .ok (.iload 4, 2) := by decide +kernel
theorem dX4_checkOf_22 : decode cX4_checkOf 22 = .ok (.iconst 1, 1) := by decide +kernel
theorem dX4_checkOf_23 : decode cX4_checkOf 23 = .ok (.iadd, 1) := by decide +kernel
theorem dX4_checkOf_24 : decode cX4_checkOf 24 = .ok (.iaload, 1) := by decide +kernel
theorem dX4_checkOf_25 : decode cX4_checkOf 25 = .ok (.iadd, 1) := by decide +kernel
theorem dX4_checkOf_26 : decode cX4_checkOf 26 = .ok (.ireturn, 1) := by decide +kernel
theorem dX4_turnedLevels_0 : decode cX4_turnedLevels 0 = .ok (.iconst 0, 1) := by decide +kernel
theorem dX4_turnedLevels_1 : decode cX4_turnedLevels 1 = .ok (.istore_n 1, 1) := by decide +kernel
theorem dX4_turnedLevels_2 : decode cX4_turnedLevels 2 = .ok (.iconst 0, 1) := by decide +kernel
theorem dX4_turnedLevels_3 : decode cX4_turnedLevels 3 = .ok (.istore_n 2, 1) := by decide +kernel
theorem dX4_turnedLevels_4 : decode cX4_turnedLevels 4 = .ok (.iload_n 2, 1) := by decide +kernel
theorem dX4_turnedLevels_5 : decode cX4_turnedLevels 5 = .ok (.bipush 16, 2) := by decide +kernel
theorem dX4_turnedLevels_7 : decode cX4_turnedLevels 7 = .ok (.if_icmp .ge 24, 3) := by decide +kernel
theorem dX4_turnedLevels_10 : decode cX4_turnedLevels 10 = .ok (.aload_n 0, 1) := by decide +kernel
theorem dX4_turnedLevels_11 : decode cX4_turnedLevels 11 = .ok (.getfield 12, 3) := by decide +kernel
theorem dX4_turnedLevels_14 : decode cX4_turnedLevels 14 = .ok (.getfield 77, 3) := by decide +kernel
theorem dX4_turnedLevels_17 : decode cX4_turnedLevels 17 = .ok (.iload_n 2, 1) := by decide +kernel
theorem dX4_turnedLevels_18 : decode cX4_turnedLevels 18 = .ok (.iaload, 1) := by decide +kernel
theorem dX4_turnedLevels_19 : decode cX4_turnedLevels 19 = .ok (.ifCond .eq 6, 3) := by decide +kernel
theorem dX4_turnedLevels_22 : decode cX4_turnedLevels 22 = .ok (.iinc 1 1, 3) := by decide +kernel
theorem dX4_turnedLevels_25 : decode cX4_turnedLevels 25 = .ok (.iinc 2 1, 3) := by decide +kernel
theorem dX4_turnedLevels_28 : decode cX4_turnedLevels 28 = .ok (.goto (-24), 3) := by decide +kernel
theorem dX4_turnedLevels_31 : decode cX4_turnedLevels 31 = .ok (.iload_n 1, 1) := by decide +kernel
theorem dX4_turnedLevels_32 : decode cX4_turnedLevels 32 = .ok (.ireturn, 1) := by decide +kernel
theorem dX4_suspiciousTilts_0 : decode cX4_suspiciousTilts 0 = .ok (.iconst 0, 1) := by decide +kernel
theorem dX4_suspiciousTilts_1 : decode cX4_suspiciousTilts 1 = .ok (.istore_n 2, 1) := by decide +kernel
theorem dX4_suspiciousTilts_2 : decode cX4_suspiciousTilts 2 = .ok (.iconst 0, 1) := by decide +kernel
theorem dX4_suspiciousTilts_3 : decode cX4_suspiciousTilts 3 = .ok (.istore_n 3, 1) := by decide +kernel
theorem dX4_suspiciousTilts_4 : decode cX4_suspiciousTilts 4 = .ok (.iload_n 3, 1) := by decide +kernel
theorem dX4_suspiciousTilts_5 : decode cX4_suspiciousTilts 5 = .ok (.bipush 16, 2) := by decide +kernel
theorem dX4_suspiciousTilts_7 : decode cX4_suspiciousTilts 7 = .ok (.if_icmp .ge 45, 3) := by decide +kernel
theorem dX4_suspiciousTilts_10 : decode cX4_suspiciousTilts 10 = .ok (.iconst 0, 1) := by decide +kernel
theorem dX4_suspiciousTilts_11 : decode cX4_suspiciousTilts 11 = .ok (.istore 4, 2) := by decide +kernel
theorem dX4_suspiciousTilts_13 : decode cX4_suspiciousTilts 13 = .ok (.iload 4, 2) := by decide +kernel
theorem dX4_suspiciousTilts_15 : decode cX4_suspiciousTilts 15 = .ok (.iconst 2, 1) := by decide +kernel
theorem dX4_suspiciousTilts_16 : decode cX4_suspiciousTilts 16 = .ok (.if_icmp .ge 30, 3) := by decide +kernel
theorem dX4_suspiciousTilts_19 : decode cX4_suspiciousTilts 19 = .ok (.aload_n 0, 1) := by decide +kernel
theorem dX4_suspiciousTilts_20 : decode cX4_suspiciousTilts 20 = .ok (.getfield 34, 3) := by decide +kernel
theorem dX4_suspiciousTilts_23 : decode cX4_suspiciousTilts 23 = .ok (.aload_n 0, 1) := by decide +kernel
theorem dX4_suspiciousTilts_24 : decode cX4_suspiciousTilts 24 = .ok (.getfield 12, 3) := by decide +kernel
theorem dX4_suspiciousTilts_27 : decode cX4_suspiciousTilts 27 = .ok (.iload_n 1, 1) := by decide +kernel
theorem dX4_suspiciousTilts_28 : decode cX4_suspiciousTilts 28 = .ok (.iload_n 3, 1) := by decide +kernel
theorem dX4_suspiciousTilts_29 : decode cX4_suspiciousTilts 29 = .ok (.iload 4, 2) := by decide +kernel
theorem dX4_suspiciousTilts_31 : decode cX4_suspiciousTilts 31 = .ok (.invokevirtual 159, 3) := by decide +kernel
theorem dX4_suspiciousTilts_34 : decode cX4_suspiciousTilts 34 = .ok (.ifCond .eq 6, 3) := by decide +kernel
theorem dX4_suspiciousTilts_37 : decode cX4_suspiciousTilts 37 = .ok (.iinc 2 1, 3) := by decide +kernel
theorem dX4_suspiciousTilts_40 : decode cX4_suspiciousTilts 40 = .ok (.iinc 4 1, 3) := by decide +kernel
theorem dX4_suspiciousTilts_43 : decode cX4_suspiciousTilts 43 = .ok (.goto (-30), 3) := by decide +kernel
theorem dX4_suspiciousTilts_46 : decode cX4_suspiciousTilts 46 = .ok (.iinc 3 1, 3) := by decide +kernel
theorem dX4_suspiciousTilts_49 : decode cX4_suspiciousTilts 49 = .ok (.goto (-45), 3) := by decide +kernel
theorem dX4_suspiciousTilts_52 : decode cX4_suspiciousTilts 52 = .ok (.iload_n 2, 1) := by decide +kernel
theorem dX4_suspiciousTilts_53 : decode cX4_suspiciousTilts 53 = .ok (.ireturn, 1) := by decide +kernel
theorem dX4_levelFarthestOff_0 : decode cX4_levelFarthestOff 0 = .ok (.iconst 0, 1) := by decide +kernel
theorem dX4_levelFarthestOff_1 : decode cX4_levelFarthestOff 1 = .ok (.istore_n 2, 1) := by decide +kernel
theorem dX4_levelFarthestOff_2 : decode cX4_levelFarthestOff 2 = .ok (.iconst 0, 1) := by decide +kernel
theorem dX4_levelFarthestOff_3 : decode cX4_levelFarthestOff 3 = .ok (.istore_n 3, 1) := by decide +kernel
theorem dX4_levelFarthestOff_4 : decode cX4_levelFarthestOff 4 = .ok (.iconst 0, 1) := by decide +kernel
theorem dX4_levelFarthestOff_5 : decode cX4_levelFarthestOff 5 = .ok (.istore 4, 2) := by decide +kernel
theorem dX4_levelFarthestOff_7 : decode cX4_levelFarthestOff 7 = .ok (.iload 4, 2) := by decide +kernel
theorem dX4_levelFarthestOff_9 : decode cX4_levelFarthestOff 9 = .ok (.bipush 16, 2) := by decide +kernel
theorem dX4_levelFarthestOff_11 : decode cX4_levelFarthestOff 11 = .ok (.if_icmp .ge 54, 3) := by decide +kernel
theorem dX4_levelFarthestOff_14 : decode cX4_levelFarthestOff 14 = .ok (.iconst 0, 1) := by decide +kernel
theorem dX4_levelFarthestOff_15 : decode cX4_levelFarthestOff 15 = .ok (.istore 5, 2) := by decide +kernel
theorem dX4_levelFarthestOff_17 : decode cX4_levelFarthestOff 17 = .ok (.iload 5, 2) := by decide +kernel
theorem dX4_levelFarthestOff_19 : decode cX4_levelFarthestOff 19 = .ok (.iconst 2, 1) := by decide +kernel
theorem dX4_levelFarthestOff_20 : decode cX4_levelFarthestOff 20 = .ok (.if_icmp .ge 39, 3) := by decide +kernel
theorem dX4_levelFarthestOff_23 : decode cX4_levelFarthestOff 23 = .ok (.aload_n 0, 1) := by decide +kernel
theorem dX4_levelFarthestOff_24 : decode cX4_levelFarthestOff 24 = .ok (.getfield 34, 3) := by decide +kernel
theorem dX4_levelFarthestOff_27 : decode cX4_levelFarthestOff 27 = .ok (.getfield 258, 3) := by decide +kernel
theorem dX4_levelFarthestOff_30 : decode cX4_levelFarthestOff 30 = .ok (.iload_n 1, 1) := by decide +kernel
theorem dX4_levelFarthestOff_31 : decode cX4_levelFarthestOff 31 = .ok (.iload 4, 2) := by decide +kernel
theorem dX4_levelFarthestOff_33 : decode cX4_levelFarthestOff 33 = .ok (.iload 5, 2) := by decide +kernel
theorem dX4_levelFarthestOff_35 : decode cX4_levelFarthestOff 35 = .ok (.invokestatic 166, 3) := by decide +kernel
theorem dX4_levelFarthestOff_38 : decode cX4_levelFarthestOff 38 = .ok (.iaload, 1) := by decide +kernel
theorem dX4_levelFarthestOff_39 : decode cX4_levelFarthestOff 39 = .ok (.istore 6, 2) := by decide +kernel
theorem dX4_levelFarthestOff_41 : decode cX4_levelFarthestOff 41 = .ok (.iload 6, 2) := by decide +kernel
theorem dX4_levelFarthestOff_43 : decode cX4_levelFarthestOff 43 = .ok (.iload_n 2, 1) := by decide +kernel
theorem dX4_levelFarthestOff_44 : decode cX4_levelFarthestOff 44 = .ok (.if_icmp .le 9, 3) := by decide +kernel
theorem dX4_levelFarthestOff_47 : decode cX4_levelFarthestOff 47 = .ok (.iload 6, 2) := by decide +kernel
theorem dX4_levelFarthestOff_49 : decode cX4_levelFarthestOff 49 = .ok (.istore_n 2, 1) := by decide +kernel
theorem dX4_levelFarthestOff_50 : decode cX4_levelFarthestOff 50 = .ok (.iload 4, 2) := by decide +kernel
theorem dX4_levelFarthestOff_52 : decode cX4_levelFarthestOff 52 = .ok (.istore_n 3, 1) := by decide +kernel
theorem dX4_levelFarthestOff_53 : decode cX4_levelFarthestOff 53 = .ok (.iinc 5 1, 3) := by decide +kernel
theorem dX4_levelFarthestOff_56 : decode cX4_levelFarthestOff 56 = .ok (.goto (-39), 3) := by decide +kernel
theorem dX4_levelFarthestOff_59 : decode cX4_levelFarthestOff 59 = .ok (.iinc 4 1, 3) := by decide +kernel
theorem dX4_levelFarthestOff_62 : decode cX4_levelFarthestOff 62 = .ok (.goto (-55), 3) := by decide +kernel
theorem dX4_levelFarthestOff_65 : decode cX4_levelFarthestOff 65 = .ok (.iload_n 3, 1) := by decide +kernel
theorem dX4_levelFarthestOff_66 : decode cX4_levelFarthestOff 66 = .ok (.ireturn, 1) := by decide +kernel
theorem dX4_toldTogether_0 : decode cX4_toldTogether 0 = .ok (.iconst 0, 1) := by decide +kernel
theorem dX4_toldTogether_1 : decode cX4_toldTogether 1 = .ok (.istore 5, 2) := by decide +kernel
theorem dX4_toldTogether_3 : decode cX4_toldTogether 3 = .ok (.iload_n 3, 1) := by decide +kernel
theorem dX4_toldTogether_4 : decode cX4_toldTogether 4 = .ok (.istore 6, 2) := by decide +kernel
theorem dX4_toldTogether_6 : decode cX4_toldTogether 6 = .ok (.iload 6, 2) := by decide +kernel
theorem dX4_toldTogether_8 : decode cX4_toldTogether 8 = .ok (.iload 4, 2) := by decide +kernel
theorem dX4_toldTogether_10 : decode cX4_toldTogether 10 = .ok (.if_icmp .gt 29, 3) := by decide +kernel
theorem dX4_toldTogether_13 : decode cX4_toldTogether 13 = .ok (.iload 5, 2) := by decide +kernel
theorem dX4_toldTogether_15 : decode cX4_toldTogether 15 = .ok (.aload_n 0, 1) := by decide +kernel
theorem dX4_toldTogether_16 : decode cX4_toldTogether 16 = .ok (.getfield 34, 3) := by decide +kernel
theorem dX4_toldTogether_19 : decode cX4_toldTogether 19 = .ok (.getfield 169, 3) := by decide +kernel
theorem dX4_toldTogether_22 : decode cX4_toldTogether 22 = .ok (.iload_n 1, 1) := by decide +kernel
theorem dX4_toldTogether_23 : decode cX4_toldTogether 23 = .ok (.iload 6, 2) := by decide +kernel
theorem dX4_toldTogether_25 : decode cX4_toldTogether 25 = .ok (.iload_n 2, 1) := by decide +kernel
theorem dX4_toldTogether_26 : decode cX4_toldTogether 26 = .ok (.invokestatic 166, 3) := by decide +kernel
theorem dX4_toldTogether_29 : decode cX4_toldTogether 29 = .ok (.iaload, 1) := by decide +kernel
theorem dX4_toldTogether_30 : decode cX4_toldTogether 30 = .ok (.iadd, 1) := by decide +kernel
theorem dX4_toldTogether_31 : decode cX4_toldTogether 31 = .ok (.istore 5, 2) := by decide +kernel
theorem dX4_toldTogether_33 : decode cX4_toldTogether 33 = .ok (.iinc 6 1, 3) := by decide +kernel
theorem dX4_toldTogether_36 : decode cX4_toldTogether 36 = .ok (.goto (-30), 3) := by decide +kernel
theorem dX4_toldTogether_39 : decode cX4_toldTogether 39 = .ok (.iload 5, 2) := by decide +kernel
theorem dX4_toldTogether_41 : decode cX4_toldTogether 41 = .ok (.ireturn, 1) := by decide +kernel
theorem dX4_slidBetween_0 : decode cX4_slidBetween 0 = .ok (.aload_n 0, 1) := by decide +kernel
theorem dX4_slidBetween_1 : decode cX4_slidBetween 1 = .ok (.getfield 34, 3) := by decide +kernel
theorem dX4_slidBetween_4 : decode cX4_slidBetween 4 = .ok (.getfield 169, 3) := by decide +kernel
theorem dX4_slidBetween_7 : decode cX4_slidBetween 7 = .ok (.iload_n 2, 1) := by decide +kernel
theorem dX4_slidBetween_8 : decode cX4_slidBetween 8 = .ok (.iload_n 3, 1) := by decide +kernel
theorem dX4_slidBetween_9 : decode cX4_slidBetween 9 = .ok (.iload 4, 2) := by decide +kernel
theorem dX4_slidBetween_11 : decode cX4_slidBetween 11 = .ok (.invokestatic 166, 3) := by decide +kernel
theorem dX4_slidBetween_14 : decode cX4_slidBetween 14 = .ok (.iaload, 1) := by decide +kernel
theorem dX4_slidBetween_15 : decode cX4_slidBetween 15 = .ok (.aload_n 0, 1) := by decide +kernel
theorem dX4_slidBetween_16 : decode cX4_slidBetween 16 = .ok (.getfield 34, 3) := by decide +kernel
theorem dX4_slidBetween_19 : decode cX4_slidBetween 19 = .ok (.getfield 169, 3) := by decide +kernel
theorem dX4_slidBetween_22 : decode cX4_slidBetween 22 = .ok (.iload_n 1, 1) := by decide +kernel
theorem dX4_slidBetween_23 : decode cX4_slidBetween 23 = .ok (.iload_n 3, 1) := by decide +kernel
theorem dX4_slidBetween_24 : decode cX4_slidBetween 24 = .ok (.iload 4, 2) := by decide +kernel
theorem dX4_slidBetween_26 : decode cX4_slidBetween 26 = .ok (.invokestatic 166, 3) := by decide +kernel
theorem dX4_slidBetween_29 : decode cX4_slidBetween 29 = .ok (.iaload, 1) := by decide +kernel
theorem dX4_slidBetween_30 : decode cX4_slidBetween 30 = .ok (.isub, 1) := by decide +kernel
theorem dX4_slidBetween_31 : decode cX4_slidBetween 31 = .ok (.ireturn, 1) := by decide +kernel
theorem dX4_movedUpTo_0 : decode cX4_movedUpTo 0 = .ok (.aload_n 0, 1) := by decide +kernel
theorem dX4_movedUpTo_1 : decode cX4_movedUpTo 1 = .ok (.iload_n 2, 1) := by decide +kernel
theorem dX4_movedUpTo_2 : decode cX4_movedUpTo 2 = .ok (.iload 4, 2) := by decide +kernel
theorem dX4_movedUpTo_4 : decode cX4_movedUpTo 4 = .ok (.iconst 0, 1) := by decide +kernel
theorem dX4_movedUpTo_5 : decode cX4_movedUpTo 5 = .ok (.iload_n 3, 1) := by decide +kernel
theorem dX4_movedUpTo_6 : decode cX4_movedUpTo 6 = .ok (.invokevirtual 181, 3) := by decide +kernel
theorem dX4_movedUpTo_9 : decode cX4_movedUpTo 9 = .ok (.aload_n 0, 1) := by decide +kernel
theorem dX4_movedUpTo_10 : decode cX4_movedUpTo 10 = .ok (.iload_n 1, 1) := by decide +kernel
theorem dX4_movedUpTo_11 : decode cX4_movedUpTo 11 = .ok (.iload 4, 2) := by decide +kernel
theorem dX4_movedUpTo_13 : decode cX4_movedUpTo 13 = .ok (.iconst 0, 1) := by decide +kernel
theorem dX4_movedUpTo_14 : decode cX4_movedUpTo 14 = .ok (.iload_n 3, 1) := by decide +kernel
theorem dX4_movedUpTo_15 : decode cX4_movedUpTo 15 = .ok (.invokevirtual 181, 3) := by decide +kernel
theorem dX4_movedUpTo_18 : decode cX4_movedUpTo 18 = .ok (.isub, 1) := by decide +kernel
theorem dX4_movedUpTo_19 : decode cX4_movedUpTo 19 = .ok (.ireturn, 1) := by decide +kernel
