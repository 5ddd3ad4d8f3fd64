theorem dX0_init_0 : decode cX0_init 0 = .ok (.aload_n 0, 1) := by decide +kernel
theorem dX0_init_1 : decode cX0_init 1 = .ok (.invokespecial 3, 3) := by decide +kernel
theorem dX0_init_4 : decode cX0_init 4 = .ok (.aload_n 0, 1) := by decide +kernel
theorem dX0_init_5 : decode cX0_init 5 = .ok (.bipush 12, 2) := by decide +kernel
theorem dX0_init_7 : decode cX0_init 7 = .ok (.newarray .int, 2) := by decide +kernel
theorem dX0_init_9 : decode cX0_init 9 = .ok (.putfield 9, 3) := by decide +kernel
theorem dX0_init_12 : decode cX0_init 12 = .ok (.aload_n 0, 1) := by decide +kernel
theorem dX0_init_13 : decode cX0_init 13 = .ok (.sipush 192, 3) := by decide +kernel
theorem dX0_init_16 : decode cX0_init 16 = .ok (.newarray .int, 2) := by decide +kernel
theorem dX0_init_18 : decode cX0_init 18 = .ok (.putfield 15, 3) := by decide +kernel
theorem dX0_init_21 : decode cX0_init 21 = .ok (.aload_n 0, 1) := by decide +kernel
theorem dX0_init_22 : decode cX0_init 22 = .ok (.sipush 192, 3) := by decide +kernel
theorem dX0_init_25 : decode cX0_init 25 = .ok (.newarray .int, 2) := by decide +kernel
theorem dX0_init_27 : decode cX0_init 27 = .ok (.putfield 18, 3) := by decide +kernel
theorem dX0_init_30 : decode cX0_init 30 = .ok (.aload_n 0, 1) := by decide +kernel
theorem dX0_init_31 : decode cX0_init 31 = .ok (.sipush 192, 3) := by decide +kernel
theorem dX0_init_34 : decode cX0_init 34 = .ok (.newarray .int, 2) := by decide +kernel
theorem dX0_init_36 : decode cX0_init 36 = .ok (.putfield 21, 3) := by decide +kernel
theorem dX0_init_39 : decode cX0_init 39 = .ok (.aload_n 0, 1) := by decide +kernel
theorem dX0_init_40 : decode cX0_init 40 = .ok (.bipush 16, 2) := by decide +kernel
theorem dX0_init_42 : decode cX0_init 42 = .ok (.newarray .int, 2) := by decide +kernel
theorem dX0_init_44 : decode cX0_init 44 = .ok (.putfield 24, 3) := by decide +kernel
theorem dX0_init_47 : decode cX0_init 47 = .ok (.aload_n 0, 1) := by decide +kernel
theorem dX0_init_48 : decode cX0_init 48 = .ok (.iconst 0, 1) := by decide +kernel
theorem dX0_init_49 : decode cX0_init 49 = .ok (.putfield 27, 3) := by decide +kernel
theorem dX0_init_52 : decode cX0_init 52 = .ok (.return_, 1) := by decide +kernel
theorem dX0_workOut_0 : decode cX0_workOut 0 = .ok (.aload_n 0, 1) := by decide +kernel
theorem dX0_workOut_1 : decode cX0_workOut 1 = .ok (.getfield 27, 3) := by decide +kernel
theorem dX0_workOut_4 : decode cX0_workOut 4 = .ok (.ifCond .eq 4, 3) := by decide +kernel
theorem dX0_workOut_7 : decode cX0_workOut 7 = .ok (.return_, 1) := by decide +kernel
theorem dX0_workOut_8 : decode cX0_workOut 8 = .ok (.iconst 0, 1) := by decide +kernel
theorem dX0_workOut_9 : decode cX0_workOut 9 = .ok (.istore_n 2, 1) := by decide +kernel
theorem dX0_workOut_10 : decode cX0_workOut 10 = .ok (.iload_n 2, 1) := by decide +kernel
theorem dX0_workOut_11 : decode cX0_workOut 11 = .ok (.aload_n 1, 1) := by decide +kernel
theorem dX0_workOut_12 : decode cX0_workOut 12 = .ok (.getfield 31, 3) := by decide +kernel
theorem dX0_workOut_15 : decode cX0_workOut 15 = .ok (.if_icmp .ge 135, 3) := by decide +kernel
theorem dX0_workOut_18 : decode cX0_workOut 18 = .ok (.iconst 0, 1) := by decide +kernel
theorem dX0_workOut_19 : decode cX0_workOut 19 = .ok (.istore_n 3, 1) := by decide +kernel
theorem dX0_workOut_20 : decode cX0_workOut 20 = .ok (.iload_n 3, 1) := by decide +kernel
theorem dX0_workOut_21 : decode cX0_workOut 21 = .ok (.iconst 2, 1) := by decide +kernel
theorem dX0_workOut_22 : decode cX0_workOut 22 = .ok (.if_icmp .ge 26, 3) := by decide +kernel
theorem dX0_workOut_25 : decode cX0_workOut 25 = .ok (.aload_n 0, 1) := by decide +kernel
theorem dX0_workOut_26 : decode cX0_workOut 26 = .ok (.getfield 9, 3) := by decide +kernel
theorem dX0_workOut_29 : decode cX0_workOut 29 = .ok (.iload_n 2, 1) := by decide +kernel
theorem dX0_workOut_30 : decode cX0_workOut 30 = .ok (.iconst 2, 1) := by decide +kernel
theorem dX0_workOut_31 : decode cX0_workOut 31 = .ok (.imul, 1) := by decide +kernel
theorem dX0_workOut_32 : decode cX0_workOut 32 = .ok (.iload_n 3, 1) := by decide +kernel
theorem dX0_workOut_33 : decode cX0_workOut 33 = .ok (.iadd, 1) := by decide +kernel
theorem dX0_workOut_34 : decode cX0_workOut 34 = .ok (.aload_n 0, 1) := by decide +kernel
theorem dX0_workOut_35 : decode cX0_workOut 35 = .ok (.aload_n 1, 1) := by decide +kernel
theorem dX0_workOut_36 : decode cX0_workOut 36 = .ok (.iload_n 2, 1) := by decide +kernel
theorem dX0_workOut_37 : decode cX0_workOut 37 = .ok (.iload_n 3, 1) := by decide +kernel
theorem dX0_workOut_38 : decode cX0_workOut 38 = .ok (.invokevirtual 37, 3) := by decide +kernel
theorem dX0_workOut_41 : decode cX0_workOut 41 = .ok (.iastore, 1) := by decide +kernel
theorem dX0_workOut_42 : decode cX0_workOut 42 = .ok (.iinc 3 1, 3) := by decide +kernel
theorem dX0_workOut_45 : decode cX0_workOut 45 = .ok (.goto (-25), 3) := by decide +kernel
theorem dX0_workOut_48 : decode cX0_workOut 48 = .ok (.iconst 0, 1) := by decide +kernel
theorem dX0_workOut_49 : decode cX0_workOut 49 = .ok (.istore_n 3, 1) := by decide +kernel
theorem dX0_workOut_50 : decode cX0_workOut 50 = .ok (.iload_n 3, 1) := by decide +kernel
theorem dX0_workOut_51 : decode cX0_workOut 51 = .ok (.bipush 16, 2) := by decide +kernel
theorem dX0_workOut_53 : decode cX0_workOut 53 = .ok (.if_icmp .ge 91, 3) := by decide +kernel
theorem dX0_workOut_56 : decode cX0_workOut 56 = .ok (.iconst 0, 1) := by decide +kernel
theorem dX0_workOut_57 : decode cX0_workOut 57 = .ok (.istore 4, 2) := by decide +kernel
theorem dX0_workOut_59 : decode cX0_workOut 59 = .ok (.iload 4, 2) := by decide +kernel
theorem dX0_workOut_61 : decode cX0_workOut 61 = .ok (.iconst 2, 1) := by decide +kernel
theorem dX0_workOut_62 : decode cX0_workOut 62 = .ok (.if_icmp .ge 69, 3) := by decide +kernel
theorem dX0_workOut_65 : decode cX0_workOut 65 = .ok (.aload_n 0, 1) := by decide +kernel
theorem dX0_workOut_66 : decode cX0_workOut 66 = .ok (.getfield 9, 3) := by decide +kernel
theorem dX0_workOut_69 : decode cX0_workOut 69 = .ok (.iload_n 2, 1) := by decide +kernel
theorem dX0_workOut_70 : decode cX0_workOut 70 = .ok (.iconst 2, 1) := by decide +kernel
theorem dX0_workOut_71 : decode cX0_workOut 71 = .ok (.imul, 1) := by decide +kernel
theorem dX0_workOut_72 : decode cX0_workOut 72 = .ok (.iload 4, 2) := by decide +kernel
theorem dX0_workOut_74 : decode cX0_workOut 74 = .ok (.iadd, 1) := by decide +kernel
theorem dX0_workOut_75 : decode cX0_workOut 75 = .ok (.iaload, 1) := by decide +kernel
theorem dX0_workOut_76 : decode cX0_workOut 76 = .ok (.istore 5, 2) := by decide +kernel
theorem dX0_workOut_78 : decode cX0_workOut 78 = .ok (.aload_n 0, 1) := by decide +kernel
theorem dX0_workOut_79 : decode cX0_workOut 79 = .ok (.getfield 15, 3) := by decide +kernel
theorem dX0_workOut_82 : decode cX0_workOut 82 = .ok (.iload_n 2, 1) := by decide +kernel
theorem dX0_workOut_83 : decode cX0_workOut 83 = .ok (.iload_n 3, 1) := by decide +kernel
theorem dX0_workOut_84 : decode cX0_workOut 84 = .ok (.iload 4, 2) := by decide +kernel
theorem dX0_workOut_86 : decode cX0_workOut 86 = .ok (.invokestatic 41, 3) := by decide +kernel
theorem dX0_workOut_89 : decode cX0_workOut 89 = .ok (.aload_n 1, 1) := by decide +kernel
theorem dX0_workOut_90 : decode cX0_workOut 90 = .ok (.iload_n 2, 1) := by decide +kernel
theorem dX0_workOut_91 : decode cX0_workOut 91 = .ok (.iload_n 3, 1) := by decide +kernel
theorem dX0_workOut_92 : decode cX0_workOut 92 = .ok (.iload 4, 2) := by decide +kernel
theorem dX0_workOut_94 : decode cX0_workOut 94 = .ok (.invokestatic 45, 3) := by decide +kernel
theorem dX0_workOut_97 : decode cX0_workOut 97 = .ok (.iload 5, 2) := by decide +kernel
theorem dX0_workOut_99 : decode cX0_workOut 99 = .ok (.isub, 1) := by decide +kernel
theorem dX0_workOut_100 : decode cX0_workOut 100 = .ok (.invokestatic 49, 3) := by decide +kernel
theorem dX0_workOut_103 : decode cX0_workOut 103 = .ok (.iastore, 1) := by decide +kernel
theorem dX0_workOut_104 : decode cX0_workOut 104 = .ok (.aload_n 0, 1) := by decide +kernel
theorem dX0_workOut_105 : decode cX0_workOut 105 = .ok (.getfield 18, 3) := by decide +kernel
theorem dX0_workOut_108 : decode cX0_workOut 108 = .ok (.iload_n 2, 1) := by decide +kernel
theorem dX0_workOut_109 : decode cX0_workOut 109 = .ok (.iload_n 3, 1) := by decide +kernel
theorem dX0_workOut_110 : decode cX0_workOut 110 = .ok (.iload 4, 2) := by decide +kernel
theorem dX0_workOut_112 : decode cX0_workOut 112 = .ok (.invokestatic 41, 3) := by decide +kernel
theorem dX0_workOut_115 : decode cX0_workOut 115 = .ok (.aload_n 0, 1) := by decide +kernel
theorem dX0_workOut_116 : decode cX0_workOut 116 = .ok (.aload_n 1, 1) := by decide +kernel
theorem dX0_workOut_117 : decode cX0_workOut 117 = .ok (.iload_n 2, 1) := by decide +kernel
theorem dX0_workOut_118 : decode cX0_workOut 118 = .ok (.iload_n 3, 1) := by decide +kernel
theorem dX0_workOut_119 : decode cX0_workOut 119 = .ok (.iload 4, 2) := by decide +kernel
theorem dX0_workOut_121 : decode cX0_workOut 121 = .ok (.invokevirtual 55, 3) := by decide +kernel
theorem dX0_workOut_124 : decode cX0_workOut 124 = .ok (.iastore, 1) := by decide +kernel
theorem dX0_workOut_125 : decode cX0_workOut 125 = .ok (.iinc 4 1, 3) := by decide +kernel
theorem dX0_workOut_128 : decode cX0_workOut 128 = .ok (.goto (-69), 3) := by decide +kernel
theorem dX0_workOut_131 : decode cX0_workOut 131 = .ok (.aload_n 0, 1) := by decide +kernel
theorem dX0_workOut_132 : decode cX0_workOut 132 = .ok (.aload_n 1, 1) := by decide +kernel
theorem dX0_workOut_133 : decode cX0_workOut 133 = .ok (.iload_n 2, 1) := by decide +kernel
theorem dX0_workOut_134 : decode cX0_workOut 134 = .ok (.iload_n 3, 1) := by decide +kernel
theorem dX0_workOut_135 : decode cX0_workOut 135 = .ok (.invokevirtual 58, 3) := by decide +kernel
theorem dX0_workOut_138 : decode cX0_workOut 138 = .ok (.iinc 3 1, 3) := by decide +kernel
theorem dX0_workOut_141 : decode cX0_workOut 141 = .ok (.goto (-91), 3) := by decide +kernel
theorem dX0_workOut_144 : decode cX0_workOut 144 = .ok (.iinc 2 1, 3) := by decide +kernel
theorem dX0_workOut_147 : decode cX0_workOut 147 = .ok (.goto (-137), 3) := by decide +kernel
theorem dX0_workOut_150 : decode cX0_workOut 150 = .ok (.aload_n 0, 1) := by decide +kernel
theorem dX0_workOut_151 : decode cX0_workOut 151 = .ok (.iconst 1, 1) := by decide +kernel
theorem dX0_workOut_152 : decode cX0_workOut 152 = .ok (.putfield 27, 3) := by decide +kernel
theorem dX0_workOut_155 : decode cX0_workOut 155 = .ok (.return_, 1) := by decide +kernel
theorem dX0_commonCheck_0 : decode cX0_commonCheck 0 = .ok (.iconst 0, 1) := by decide +kernel
theorem dX0_commonCheck_1 : decode cX0_commonCheck 1 = .ok (.istore 4, 2) := by decide +kernel
theorem dX0_commonCheck_3 : decode cX0_commonCheck 3 = .ok (.iload 4, 2) := by decide +kernel
theorem dX0_commonCheck_5 : decode cX0_commonCheck 5 = .ok (.bipush 16, 2) := by decide +kernel
theorem dX0_commonCheck_7 : decode cX0_commonCheck 7 = .ok (.if_icmp .ge 73, 3) := by decide +kernel
theorem dX0_commonCheck_10 : decode cX0_commonCheck 10 = .ok (.aload_n 1, 1) := by decide +kernel
theorem dX0_commonCheck_11 : decode cX0_commonCheck 11 = .ok (.iload_n 2, 1) := by decide +kernel
theorem dX0_commonCheck_12 : decode cX0_commonCheck 12 = .ok (.iload 4, 2) := by decide +kernel
theorem dX0_commonCheck_14 : decode cX0_commonCheck 14 = .ok (.iload_n 3, 1) := by decide +kernel
theorem dX0_commonCheck_15 : decode cX0_commonCheck 15 = .ok (.invokestatic 45, 3) := by decide +kernel
theorem dX0_commonCheck_18 : decode cX0_commonCheck 18 = .ok (.istore 5, 2) := by decide +kernel
theorem dX0_commonCheck_20 : decode cX0_commonCheck 20 = .ok (.iload 4, 2) := by decide +kernel
theorem dX0_commonCheck_22 : decode cX0_commonCheck 22 = .ok (.istore 6, 2) := by decide +kernel
theorem dX0_commonCheck_24 : decode cX0_commonCheck 24 = .ok (.iload 6, 2) := by decide +kernel
theorem dX0_commonCheck_26 : decode cX0_commonCheck 26 = .ok (.ifCond .le 39, 3) := by decide +kernel
theorem dX0_commonCheck_29 : decode cX0_commonCheck 29 = .ok (.aload_n 0, 1) := by decide +kernel
theorem dX0_commonCheck_30 : decode cX0_commonCheck 30 = .ok (.getfield 24, 3) := by decide +kernel
theorem dX0_commonCheck_33 : decode cX0_commonCheck 33 = .ok (.iload 6, 2) := by decide +kernel
theorem dX0_commonCheck_35 : decode cX0_commonCheck 35 = .ok (.iconst 1, 1) := by decide +kernel
theorem dX0_commonCheck_36 : decode cX0_commonCheck 36 = .ok (.isub, 1) := by decide +kernel
theorem dX0_commonCheck_37 : decode cX0_commonCheck 37 = .ok (.iaload, 1) := by decide +kernel
theorem dX0_commonCheck_38 : decode cX0_commonCheck 38 = .ok (.iload 5, 2) := by decide +kernel
theorem dX0_commonCheck_40 : decode cX0_commonCheck 40 = .ok (.if_icmp .le 25, 3) := by decide +kernel
theorem dX0_commonCheck_43 : decode cX0_commonCheck 43 = .ok (.aload_n 0, 1) := by decide +kernel
theorem dX0_commonCheck_44 : decode cX0_commonCheck 44 = .ok (.getfield 24, 3) := by decide +kernel
theorem dX0_commonCheck_47 : decode cX0_commonCheck 47 = .ok (.iload 6, 2) := by decide +kernel
theorem dX0_commonCheck_49 : decode cX0_commonCheck 49 = .ok (.aload_n 0, 1) := by decide +kernel
theorem dX0_commonCheck_50 : decode cX0_commonCheck 50 = .ok (.getfield 24, 3) := by decide +kernel
theorem dX0_commonCheck_53 : decode cX0_commonCheck 53 = .ok (.iload 6, 2) := by decide +kernel
theorem dX0_commonCheck_55 : decode cX0_commonCheck 55 = .ok (.iconst 1, 1) := by decide +kernel
theorem dX0_commonCheck_56 : decode cX0_commonCheck 56 = .ok (.isub, 1) := by decide +kernel
theorem dX0_commonCheck_57 : decode cX0_commonCheck 57 = .ok (.iaload, 1) := by decide +kernel
theorem dX0_commonCheck_58 : decode cX0_commonCheck 58 = .ok (.iastore, 1) := by decide +kernel
theorem dX0_commonCheck_59 : decode cX0_commonCheck 59 = .ok (.iinc 6 (-1), 3) := by decide +kernel
theorem dX0_commonCheck_62 : decode cX0_commonCheck 62 = .ok (.goto (-38), 3) := by decide +kernel
theorem dX0_commonCheck_65 : decode cX0_commonCheck 65 = .ok (.aload_n 0, 1) := by decide +kernel
theorem dX0_commonCheck_66 : decode cX0_commonCheck 66 = .ok (.getfield 24, 3) := by decide +kernel
theorem dX0_commonCheck_69 : decode cX0_commonCheck 69 = .ok (.iload 6, 2) := by decide +kernel
theorem dX0_commonCheck_71 : decode cX0_commonCheck 71 = .ok (.iload 5, 2) := by decide +kernel
theorem dX0_commonCheck_73 : decode cX0_commonCheck 73 = .ok (.iastore, 1) := by decide +kernel
theorem dX0_commonCheck_74 : decode cX0_commonCheck 74 = .ok (.iinc 4 1, 3) := by decide +kernel
theorem dX0_commonCheck_77 : decode cX0_commonCheck 77 = .ok (.goto (-74), 3) := by decide +kernel
theorem dX0_commonCheck_80 : decode cX0_commonCheck 80 = .ok (.aload_n 0, 1) := by decide +kernel
theorem dX0_commonCheck_81 : decode cX0_commonCheck 81 = .ok (.getfield 24, 3) := by decide +kernel
theorem dX0_commonCheck_84 : decode cX0_commonCheck 84 = .ok (.bipush 7, 2) := by decide +kernel
theorem dX0_commonCheck_86 : decode cX0_commonCheck 86 = .ok (.iaload, 1) := by decide +kernel
theorem dX0_commonCheck_87 : decode cX0_commonCheck 87 = .ok (.ireturn, 1) := by decide +kernel
theorem dX0_isSuspicious_0 : decode cX0_isSuspicious 0 = .ok (.aload_n 0, 1) := by decide +kernel
theorem dX0_isSuspicious_1 : decode cX0_isSuspicious 1 = .ok (.getfield 15, 3) := by decide +kernel
theorem dX0_isSuspicious_4 : decode cX0_isSuspicious 4 = .ok (.iload_n 2, 1) := by decide +kernel
theorem dX0_isSuspicious_5 : decode cX0_isSuspicious 5 = .ok (.iload_n 3, 1) := by decide +kernel
theorem dX0_isSuspicious_6 : decode cX0_isSuspicious 6 = .ok (.iload 4, 2) := by decide +kernel
theorem dX0_isSuspicious_8 : decode cX0_isSuspicious 8 = .ok (.invokestatic 41, 3) := by decide +kernel
theorem dX0_isSuspicious_11 : decode cX0_isSuspicious 11 = .ok (.iaload, 1) := by decide +kernel
theorem dX0_isSuspicious_12 : decode cX0_isSuspicious 12 = .ok (.aload_n 1, 1) := by decide +kernel
theorem dX0_isSuspicious_13 : decode cX0_isSuspicious 13 = .ok (.getfield 62, 3) := by decide +kernel
theorem dX0_isSuspicious_16 : decode cX0_isSuspicious 16 = .ok (.iconst 0, 1) := by decide +kernel
theorem dX0_isSuspicious_17 : decode cX0_isSuspicious 17 = .ok (.iaload, 1) := by decide +kernel
theorem dX0_isSuspicious_18 : decode cX0_isSuspicious 18 = .ok (.if_icmp .le 7, 3) := by decide +kernel
theorem dX0_isSuspicious_21 : decode cX0_isSuspicious 21 = .ok (.iconst 1, 1) := by decide +kernel
theorem dX0_isSuspicious_22 : decode cX0_isSuspicious 22 = .ok (.goto 4, 3) := by decide +kernel
theorem dX0_isSuspicious_25 : decode cX0_isSuspicious 25 = .ok (.iconst 0, 1) := by decide +kernel
theorem dX0_isSuspicious_26 : decode cX0_isSuspicious 26 = .ok (.ireturn, 1) := by decide +kernel
theorem dX0_tiltRead_0 : decode cX0_tiltRead 0 = .ok (.iload_n 2, 1) := by decide +kernel
theorem dX0_tiltRead_1 : decode cX0_tiltRead 1 = .ok (.iload_n 3, 1) := by decide +kernel
theorem dX0_tiltRead_2 : decode cX0_tiltRead 2 = .ok (.iload 4, 2) := by decide +kernel
theorem dX0_tiltRead_4 : decode cX0_tiltRead 4 = .ok (.iconst 0, 1) := by decide +kernel
theorem dX0_tiltRead_5 : decode cX0_tiltRead 5 = .ok (.invokestatic 65, 3) := by decide +kernel
theorem dX0_tiltRead_8 : decode cX0_tiltRead 8 = .ok (.istore 5, 2) := by decide +kernel
theorem dX0_tiltRead_10 : decode cX0_tiltRead 10 = .ok (.aload_n 1, 1) := by decide +kernel
theorem dX0_tiltRead_11 : decode cX0_tiltRead 11 = .ok (.getfield 69, 3) := by decide +kernel
theorem dX0_tiltRead_14 : decode cX0_tiltRead 14 = .ok (.iload 5, 2) := by decide +kernel
theorem dX0_tiltRead_16 : decode cX0_tiltRead 16 = .ok (.iaload, 1) := by decide +kernel
theorem dX0_tiltRead_17 : decode cX0_tiltRead 17 = .ok (.istore 6, 2) := by decide +kernel
theorem dX0_tiltRead_19 : decode cX0_tiltRead 19 = .ok (.aload_n 1, 1) := by decide +kernel
theorem dX0_tiltRead_20 : decode cX0_tiltRead 20 = .ok (.getfield 69, 3) := by decide +kernel
theorem dX0_tiltRead_23 : decode cX0_tiltRead 23 = .ok (.iload 5, 2) := by decide +kernel
theorem dX0_tiltRead_25 : decode cX0_tiltRead 25 = .ok (.iconst 1, 1) := by decide +kernel
theorem dX0_tiltRead_26 : decode cX0_tiltRead 26 = .ok (.iadd, 1) := by decide +kernel
theorem dX0_tiltRead_27 : decode cX0_tiltRead 27 = .ok (.iaload, 1) := by decide +kernel
theorem dX0_tiltRead_28 : decode cX0_tiltRead 28 = .ok (.istore 7, 2) := by decide +kernel
theorem dX0_tiltRead_30 : decode cX0_tiltRead 30 = .ok (.aload_n 1, 1) := by decide +kernel
theorem dX0_tiltRead_31 : decode cX0_tiltRead 31 = .ok (.getfield 62, 3) := by decide +kernel
theorem dX0_tiltRead_34 : decode cX0_tiltRead 34 = .ok (.iconst 1, 1) := by decide +kernel
theorem dX0_tiltRead_35 : decode cX0_tiltRead 35 = .ok (.iaload, 1) := by decide +kernel
theorem dX0_tiltRead_36 : decode cX0_tiltRead 36 = .ok (.iconst 1, 1) := by decide +kernel
theorem dX0_tiltRead_37 : decode cX0_tiltRead 37 = .ok (.if_icmp .ne 15, 3) := by decide +kernel
theorem dX0_tiltRead_40 : decode cX0_tiltRead 40 = .ok (.aload_n 0, 1) := by decide +kernel
theorem dX0_tiltRead_41 : decode cX0_tiltRead 41 = .ok (.aload_n 1, 1) := by decide +kernel
theorem dX0_tiltRead_42 : decode cX0_tiltRead 42 = .ok (.iload_n 2, 1) := by decide +kernel
theorem dX0_tiltRead_43 : decode cX0_tiltRead 43 = .ok (.iload_n 3, 1) := by decide +kernel
theorem dX0_tiltRead_44 : decode cX0_tiltRead 44 = .ok (.iload 4, 2) := by decide +kernel
theorem dX0_tiltRead_46 : decode cX0_tiltRead 46 = .ok (.invokevirtual 72, 3) := by decide +kernel
theorem dX0_tiltRead_49 : decode cX0_tiltRead 49 = .ok (.ifCond .ne 11, 3) := by decide +kernel
theorem dX0_tiltRead_52 : decode cX0_tiltRead 52 = .ok (.iload 6, 2) := by decide +kernel
theorem dX0_tiltRead_54 : decode cX0_tiltRead 54 = .ok (.iload 7, 2) := by decide +kernel
theorem dX0_tiltRead_56 : decode cX0_tiltRead 56 = .ok (.isub, 1) := by decide +kernel
theorem dX0_tiltRead_57 : decode cX0_tiltRead 57 = .ok (.iconst 2, 1) := by decide +kernel
theorem dX0_tiltRead_58 : decode cX0_tiltRead 58 = .ok (.idiv, 1) := by decide +kernel
theorem dX0_tiltRead_59 : decode cX0_tiltRead 59 = .ok (.ireturn, 1) := by decide +kernel
theorem dX0_tiltRead_60 : decode cX0_tiltRead 60 = .ok (.aload_n 0, 1) := by decide +kernel
theorem dX0_tiltRead_61 : decode cX0_tiltRead 61 = .ok (.getfield 9, 3) := by decide +kernel
theorem dX0_tiltRead_64 : decode cX0_tiltRead 64 = .ok (.iload_n 2, 1) := by decide +kernel
theorem dX0_tiltRead_65 : decode cX0_tiltRead 65 = .ok (.iconst 2, 1) := by decide +kernel
theorem dX0_tiltRead_66 : decode cX0_tiltRead 66 = .ok (.imul, 1) := by decide +kernel
theorem dX0_tiltRead_67 : decode cX0_tiltRead 67 = .ok (.iload 4, 2) := by decide +kernel
theorem dX0_tiltRead_69 : decode cX0_tiltRead 69 = .ok (.iadd, 1) := by decide +kernel
theorem dX0_tiltRead_70 : decode cX0_tiltRead 70 = .ok (.iaload, 1) := by decide +kernel
theorem dX0_tiltRead_71 : decode cX0_tiltRead 71 = .ok (.iconst 2, 1) := by decide +kernel
theorem dX0_tiltRead_72 : decode cX0_tiltRead 72 = .ok (.idiv, 1) := by decide +kernel
theorem dX0_tiltRead_73 : decode cX0_tiltRead 73 = .ok (.istore 8, 2) := by decide +kernel
theorem dX0_tiltRead_75 : decode cX0_tiltRead 75 = .ok (.iload 6, 2) := by decide +kernel
theorem dX0_tiltRead_77 : decode cX0_tiltRead 77 = .ok (.iload 8, 2) := by decide +kernel
theorem dX0_tiltRead_79 : decode cX0_tiltRead 79 = .ok (.isub, 1) := by decide +kernel
theorem dX0_tiltRead_80 : decode cX0_tiltRead 80 = .ok (.istore 9, 2) := by decide +kernel
theorem dX0_tiltRead_82 : decode cX0_tiltRead 82 = .ok (.iload 8, 2) := by decide +kernel
theorem dX0_tiltRead_84 : decode cX0_tiltRead 84 = .ok (.iload 7, 2) := by decide +kernel
theorem dX0_tiltRead_86 : decode cX0_tiltRead 86 = .ok (.isub, 1) := by decide +kernel
theorem dX0_tiltRead_87 : decode cX0_tiltRead 87 = .ok (.istore 10, 2) := by decide +kernel
theorem dX0_tiltRead_89 : decode cX0_tiltRead 89 = .ok (.iload_n 2, 1) := by decide +kernel
theorem dX0_tiltRead_90 : decode cX0_tiltRead 90 = .ok (.ifCond .ne 6, 3) := by decide +kernel
theorem dX0_tiltRead_93 : decode cX0_tiltRead 93 = .ok (.iload 9, 2) := by decide +kernel
theorem dX0_tiltRead_95 : decode cX0_tiltRead 95 = .ok (.ireturn, 1) := by decide +kernel
theorem dX0_tiltRead_96 : decode cX0_tiltRead 96 = .ok (.aload_n 0, 1) := by decide +kernel
theorem dX0_tiltRead_97 : decode cX0_tiltRead 97 = .ok (.getfield 18, 3) := by decide +kernel
theorem dX0_tiltRead_100 : decode cX0_tiltRead 100 = .ok (.iload_n 2, 1) := by decide +kernel
theorem dX0_tiltRead_101 : decode cX0_tiltRead 101 = .ok (.iconst 1, 1) := by decide +kernel
theorem dX0_tiltRead_102 : decode cX0_tiltRead 102 = .ok (.isub, 1) := by decide +kernel
theorem dX0_tiltRead_103 : decode cX0_tiltRead 103 = .ok (.iload_n 3, 1) := by decide +kernel
theorem dX0_tiltRead_104 : decode cX0_tiltRead 104 = .ok (.iload 4, 2) := by decide +kernel
theorem dX0_tiltRead_106 : decode cX0_tiltRead 106 = .ok (.invokestatic 41, 3) := by decide +kernel
theorem dX0_tiltRead_109 : decode cX0_tiltRead 109 = .ok (.iaload, 1) := by decide +kernel
theorem dX0_tiltRead_110 : decode cX0_tiltRead 110 = .ok (.istore 11, 2) := by decide +kernel
theorem dX0_tiltRead_112 : decode cX0_tiltRead 112 = .ok (.iload 10, 2) := by decide +kernel
theorem dX0_tiltRead_114 : decode cX0_tiltRead 114 = .ok (.iload 11, 2) := by decide +kernel
theorem dX0_tiltRead_116 : decode cX0_tiltRead 116 = .ok (.isub, 1) := by decide +kernel
theorem dX0_tiltRead_117 : decode cX0_tiltRead 117 = .ok (.invokestatic 49, 3) := by decide +kernel
theorem dX0_tiltRead_120 : decode cX0_tiltRead 120 = .ok (.iload 9, 2) := by decide +kernel
theorem dX0_tiltRead_122 : decode cX0_tiltRead 122 = .ok (.iload 11, 2) := by decide +kernel
theorem dX0_tiltRead_124 : decode cX0_tiltRead 124 = .ok (.isub, 1) := by decide +kernel
theorem dX0_tiltRead_125 : decode cX0_tiltRead 125 = .ok (.invokestatic 49, 3) := by decide +kernel
theorem dX0_tiltRead_128 : decode cX0_tiltRead 128 = .ok (.if_icmp .ge 8, 3) := by decide +kernel
theorem dX0_tiltRead_131 : decode cX0_tiltRead 131 = .ok (.iload 10, 2) := by decide +kernel
theorem dX0_tiltRead_133 : decode cX0_tiltRead 133 = .ok (.goto 5, 3) := by decide +kernel
theorem dX0_tiltRead_136 : decode cX0_tiltRead 136 = .ok (.iload 9, 2) := by decide +kernel
theorem dX0_tiltRead_138 : decode cX0_tiltRead 138 = .ok (.ireturn, 1) := by decide +kernel
theorem dX0_tellLevel_0 : decode cX0_tellLevel 0 = .ok (.aload_n 1, 1) := by decide +kernel
theorem dX0_tellLevel_1 : decode cX0_tellLevel 1 = .ok (.getfield 62, 3) := by decide +kernel
theorem dX0_tellLevel_4 : decode cX0_tellLevel 4 = .ok (.iconst 2, 1) := by decide +kernel
theorem dX0_tellLevel_5 : decode cX0_tellLevel 5 = .ok (.iaload, 1) := by decide +kernel
theorem dX0_tellLevel_6 : decode cX0_tellLevel 6 = .ok (.iconst 1, 1) := by decide +kernel
theorem dX0_tellLevel_7 : decode cX0_tellLevel 7 = .ok (.if_icmp .ne 16, 3) := by decide +kernel
theorem dX0_tellLevel_10 : decode cX0_tellLevel 10 = .ok (.iconst 4, 1) := by decide +kernel
theorem dX0_tellLevel_11 : decode cX0_tellLevel 11 = .ok (.aload_n 1, 1) := by decide +kernel
theorem dX0_tellLevel_12 : decode cX0_tellLevel 12 = .ok (.getfield 76, 3) := by decide +kernel
theorem dX0_tellLevel_15 : decode cX0_tellLevel 15 = .ok (.iload_n 3, 1) := by decide +kernel
theorem dX0_tellLevel_16 : decode cX0_tellLevel 16 = .ok (.iaload, 1) := by decide +kernel
theorem dX0_tellLevel_17 : decode cX0_tellLevel 17 = .ok (.isub, 1) := by decide +kernel
theorem dX0_tellLevel_18 : decode cX0_tellLevel 18 = .ok (.iconst 4, 1) := by decide +kernel
theorem dX0_tellLevel_19 : decode cX0_tellLevel 19 = .ok (.irem, 1) := by decide +kernel
theorem dX0_tellLevel_20 : decode cX0_tellLevel 20 = .ok (.goto 4, 3) := by decide +kernel
theorem dX0_tellLevel_23 : decode cX0_tellLevel 23 = .ok (.iconst 0, 1) := by decide +kernel
theorem dX0_tellLevel_24 : decode cX0_tellLevel 24 = .ok (.istore 4, 2) := by decide +kernel
theorem dX0_tellLevel_26 : decode cX0_tellLevel 26 = .ok (.iload_n 2, 1) := by decide +kernel
theorem dX0_tellLevel_27 : decode cX0_tellLevel 27 = .ok (.iload_n 3, 1) := by decide +kernel
theorem dX0_tellLevel_28 : decode cX0_tellLevel 28 = .ok (.iconst 0, 1) := by decide +kernel
theorem dX0_tellLevel_29 : decode cX0_tellLevel 29 = .ok (.invokestatic 41, 3) := by decide +kernel
theorem dX0_tellLevel_32 : decode cX0_tellLevel 32 = .ok (.istore 5, 2) := by decide +kernel
theorem dX0_tellLevel_34 : decode cX0_tellLevel 34 = .ok (.iconst 0, 1) := by decide +kernel
theorem dX0_tellLevel_35 : decode cX0_tellLevel 35 = .ok (.istore 6, 2) := by decide +kernel
theorem dX0_tellLevel_37 : decode cX0_tellLevel 37 = .ok (.iload 6, 2) := by decide +kernel
theorem dX0_tellLevel_39 : decode cX0_tellLevel 39 = .ok (.iconst 2, 1) := by decide +kernel
theorem dX0_tellLevel_40 : decode cX0_tellLevel 40 = .ok (.if_icmp .ge 42, 3) := by decide +kernel
theorem dX0_tellLevel_43 : decode cX0_tellLevel 43 = .ok (.aload_n 0, 1) := by decide +kernel
theorem dX0_tellLevel_44 : decode cX0_tellLevel 44 = .ok (.getfield 21, 3) := by decide +kernel
theorem dX0_tellLevel_47 : decode cX0_tellLevel 47 = .ok (.iload 5, 2) := by decide +kernel
theorem dX0_tellLevel_49 : decode cX0_tellLevel 49 = .ok (.iload 6, 2) := by decide +kernel
theorem dX0_tellLevel_51 : decode cX0_tellLevel 51 = .ok (.iadd, 1) := by decide +kernel
theorem dX0_tellLevel_52 : decode cX0_tellLevel 52 = .ok (.iload 4, 2) := by decide +kernel
theorem dX0_tellLevel_54 : decode cX0_tellLevel 54 = .ok (.aload_n 0, 1) := by decide +kernel
theorem dX0_tellLevel_55 : decode cX0_tellLevel 55 = .ok (.getfield 18, 3) := by decide +kernel
theorem dX0_tellLevel_58 : decode cX0_tellLevel 58 = .ok (.iload 5, 2) := by decide +kernel
theorem dX0_tellLevel_60 : decode cX0_tellLevel 60 = .ok (.iaload, 1) := by decide +kernel
theorem dX0_tellLevel_61 : decode cX0_tellLevel 61 = .ok (.aload_n 0, 1) := by decide +kernel
theorem dX0_tellLevel_62 : decode cX0_tellLevel 62 = .ok (.getfield 18, 3) := by decide +kernel
theorem dX0_tellLevel_65 : decode cX0_tellLevel 65 = .ok (.iload 5, 2) := by decide +kernel
theorem dX0_tellLevel_67 : decode cX0_tellLevel 67 = .ok (.iconst 1, 1) := by decide +kernel
theorem dX0_tellLevel_68 : decode cX0_tellLevel 68 = .ok (.iadd, 1) := by decide +kernel
theorem dX0_tellLevel_69 : decode cX0_tellLevel 69 = .ok (.iaload, 1) := by decide +kernel
theorem dX0_tellLevel_70 : decode cX0_tellLevel 70 = .ok (.iload 6, 2) := by decide +kernel
theorem dX0_tellLevel_72 : decode cX0_tellLevel 72 = .ok (.invokestatic 79, 3) := by decide +kernel
theorem dX0_tellLevel_75 : decode cX0_tellLevel 75 = .ok (.iastore, 1) := by decide +kernel
theorem dX0_tellLevel_76 : decode cX0_tellLevel 76 = .ok (.iinc 6 1, 3) := by decide +kernel
theorem dX0_tellLevel_79 : decode cX0_tellLevel 79 = .ok (.goto (-42), 3) := by decide +kernel
theorem dX0_tellLevel_82 : decode cX0_tellLevel 82 = .ok (.return_, 1) := by decide +kernel
theorem dX1_init_0 : decode cX1_init 0 = .ok (.aload_n 0, 1) := by decide +kernel
theorem dX1_init_1 : decode cX1_init 1 = .ok (.invokespecial 3, 3) := by decide +kernel
theorem dX1_init_4 : decode cX1_init 4 = .ok (.aload_n 0, 1) := by decide +kernel
theorem dX1_init_5 : decode cX1_init 5 = .ok (.bipush 6, 2) := by decide +kernel
theorem dX1_init_7 : decode cX1_init 7 = .ok (.anewarray 9, 3) := by decide +kernel
theorem dX1_init_10 : decode cX1_init 10 = .ok (.putfield 11, 3) := by decide +kernel
theorem dX1_init_13 : decode cX1_init 13 = .ok (.iconst 0, 1) := by decide +kernel
theorem dX1_init_14 : decode cX1_init 14 = .ok (.istore_n 1, 1) := by decide +kernel
theorem dX1_init_15 : decode cX1_init 15 = .ok (.iload_n 1, 1) := by decide +kernel
theorem dX1_init_16 : decode cX1_init 16 = .ok (.bipush 6, 2) := by decide +kernel
theorem dX1_init_18 : decode cX1_init 18 = .ok (.if_icmp .ge 22, 3) := by decide +kernel
theorem dX1_init_21 : decode cX1_init 21 = .ok (.aload_n 0, 1) := by decide +kernel
theorem dX1_init_22 : decode cX1_init 22 = .ok (.getfield 11, 3) := by decide +kernel
theorem dX1_init_25 : decode cX1_init 25 = .ok (.iload_n 1, 1) := by decide +kernel
theorem dX1_init_26 : decode cX1_init 26 = .ok (.new 9, 3) := by decide +kernel
theorem dX1_init_29 : decode cX1_init 29 = .ok (.dup, 1) := by decide +kernel
theorem dX1_init_30 : decode cX1_init 30 = .ok (.invokespecial 17, 3) := by decide +kernel
theorem dX1_init_33 : decode cX1_init 33 = .ok (.aastore, 1) := by decide +kernel
theorem dX1_init_34 : decode cX1_init 34 = .ok (.iinc 1 1, 3) := by decide +kernel
theorem dX1_init_37 : decode cX1_init 37 = .ok (.goto (-22), 3) := by decide +kernel
theorem dX1_init_40 : decode cX1_init 40 = .ok (.aload_n 0, 1) := by decide +kernel
theorem dX1_init_41 : decode cX1_init 41 = .ok (.iconst 0, 1) := by decide +kernel
theorem dX1_init_42 : decode cX1_init 42 = .ok (.putfield 18, 3) := by decide +kernel
theorem dX1_init_45 : decode cX1_init 45 = .ok (.aload_n 0, 1) := by decide +kernel
theorem dX1_init_46 : decode cX1_init 46 = .ok (.iconst 0, 1) := by decide +kernel
theorem dX1_init_47 : decode cX1_init 47 = .ok (.putfield 22, 3) := by decide +kernel
theorem dX1_init_50 : decode cX1_init 50 = .ok (.return_, 1) := by decide +kernel
theorem dX1_save_0 : decode cX1_save 0 = .ok (.aload_n 0, 1) := by decide +kernel
theorem dX1_save_1 : decode cX1_save 1 = .ok (.getfield 22, 3) := by decide +kernel
theorem dX1_save_4 : decode cX1_save 4 = .ok (.bipush 6, 2) := by decide +kernel
theorem dX1_save_6 : decode cX1_save 6 = .ok (.if_icmp .ne 26, 3) := by decide +kernel
theorem dX1_save_9 : decode cX1_save 9 = .ok (.aload_n 0, 1) := by decide +kernel
theorem dX1_save_10 : decode cX1_save 10 = .ok (.aload_n 0, 1) := by decide +kernel
theorem dX1_save_11 : decode cX1_save 11 = .ok (.getfield 18, 3) := by decide +kernel
theorem dX1_save_14 : decode cX1_save 14 = .ok (.iconst 1, 1) := by decide +kernel
theorem dX1_save_15 : decode cX1_save 15 = .ok (.iadd, 1) := by decide +kernel
theorem dX1_save_16 : decode cX1_save 16 = .ok (.bipush 6, 2) := by decide +kernel
theorem dX1_save_18 : decode cX1_save 18 = .ok (.irem, 1) := by decide +kernel
theorem dX1_save_19 : decode cX1_save 19 = .ok (.putfield 18, 3) := by decide +kernel
theorem dX1_save_22 : decode cX1_save 22 = .ok (.aload_n 0, 1) := by decide +kernel
theorem dX1_save_23 : decode cX1_save 23 = .ok (.dup, 1) := by decide +kernel
theorem dX1_save_24 : decode cX1_save 24 = .ok (.getfield 22, 3) := by decide +kernel
theorem dX1_save_27 : decode cX1_save 27 = .ok (.iconst 1, 1) := by decide +kernel
theorem dX1_save_28 : decode cX1_save 28 = .ok (.isub, 1) := by decide +kernel
theorem dX1_save_29 : decode cX1_save 29 = .ok (.putfield 22, 3) := by decide +kernel
theorem dX1_save_32 : decode cX1_save 32 = .ok (.aload_n 0, 1) := by decide +kernel
theorem dX1_save_33 : decode cX1_save 33 = .ok (.getfield 11, 3) := by decide +kernel
theorem dX1_save_36 : decode cX1_save 36 = .ok (.aload_n 0, 1) := by decide +kernel
theorem dX1_save_37 : decode cX1_save 37 = .ok (.getfield 18, 3) := by decide +kernel
theorem dX1_save_40 : decode cX1_save 40 = .ok (.aload_n 0, 1) := by decide +kernel
theorem dX1_save_41 : decode cX1_save 41 = .ok (.getfield 22, 3) := by decide +kernel
theorem dX1_save_44 : decode cX1_save 44 = .ok (.iadd, 1) := by decide +kernel
theorem dX1_save_45 : decode cX1_save 45 = .ok (.bipush 6, 2) := by decide +kernel
theorem dX1_save_47 : decode cX1_save 47 = .ok (.irem, 1) := by decide +kernel
theorem dX1_save_48 : decode cX1_save 48 = .ok (.aaload, 1) := by decide +kernel
theorem dX1_save_49 : decode cX1_save 49 = .ok (.aload_n 1, 1) := by decide +kernel
theorem dX1_save_50 : decode cX1_save 50 = .ok (.invokevirtual 25, 3) := by decide +kernel
theorem dX1_save_53 : decode cX1_save 53 = .ok (.aload_n 0, 1) := by decide +kernel
theorem dX1_save_54 : decode cX1_save 54 = .ok (.dup, 1) := by decide +kernel
theorem dX1_save_55 : decode cX1_save 55 = .ok (.getfield 22, 3) := by decide +kernel
theorem dX1_save_58 : decode cX1_save 58 = .ok (.iconst 1, 1) := by decide +kernel
theorem dX1_save_59 : decode cX1_save 59 = .ok (.iadd, 1) := by decide +kernel
theorem dX1_save_60 : decode cX1_save 60 = .ok (.putfield 22, 3) := by decide +kernel
theorem dX1_save_63 : decode cX1_save 63 = .ok (.return_, 1) := by decide +kernel
theorem dX1_bringBack_0 : decode cX1_bringBack 0 = .ok (.aload_n 0, 1) := by decide +kernel
theorem dX1_bringBack_1 : decode cX1_bringBack 1 = .ok (.dup, 1) := by decide +kernel
theorem dX1_bringBack_2 : decode cX1_bringBack 2 = .ok (.getfield 22, 3) := by decide +kernel
theorem dX1_bringBack_5 : decode cX1_bringBack 5 = .ok (.iconst 1, 1) := by decide +kernel
theorem dX1_bringBack_6 : decode cX1_bringBack 6 = .ok (.isub, 1) := by decide +kernel
theorem dX1_bringBack_7 : decode cX1_bringBack 7 = .ok (.putfield 22, 3) := by decide +kernel
theorem dX1_bringBack_10 : decode cX1_bringBack 10 = .ok (.aload_n 1, 1) := by decide +kernel
theorem dX1_bringBack_11 : decode cX1_bringBack 11 = .ok (.aload_n 0, 1) := by decide +kernel
theorem dX1_bringBack_12 : decode cX1_bringBack 12 = .ok (.getfield 11, 3) := by decide +kernel
theorem dX1_bringBack_15 : decode cX1_bringBack 15 = .ok (.aload_n 0, 1) := by decide +kernel
theorem dX1_bringBack_16 : decode cX1_bringBack 16 = .ok (.getfield 18, 3) := by decide +kernel
theorem dX1_bringBack_19 : decode cX1_bringBack 19 = .ok (.aload_n 0, 1) := by decide +kernel
theorem dX1_bringBack_20 : decode cX1_bringBack 20 = .ok (.getfield 22, 3) := by decide +kernel
theorem dX1_bringBack_23 : decode cX1_bringBack 23 = .ok (.iadd, 1) := by decide +kernel
theorem dX1_bringBack_24 : decode cX1_bringBack 24 = .ok (.bipush 6, 2) := by decide +kernel
theorem dX1_bringBack_26 : decode cX1_bringBack 26 = .ok (.irem, 1) := by decide +kernel
theorem dX1_bringBack_27 : decode cX1_bringBack 27 = .ok (.aaload, 1) := by decide +kernel
theorem dX1_bringBack_28 : decode cX1_bringBack 28 = .ok (.invokevirtual 25, 3) := by decide +kernel
theorem dX1_bringBack_31 : decode cX1_bringBack 31 = .ok (.return_, 1) := by decide +kernel
theorem dX2_init_0 : decode cX2_init 0 = .ok (.aload_n 0, 1) := by decide +kernel
theorem dX2_init_1 : decode cX2_init 1 = .ok (.invokespecial 3, 3) := by decide +kernel
theorem dX2_init_4 : decode cX2_init 4 = .ok (.aload_n 0, 1) := by decide +kernel
theorem dX2_init_5 : decode cX2_init 5 = .ok (.bipush 32, 2) := by decide +kernel
theorem dX2_init_7 : decode cX2_init 7 = .ok (.newarray .int, 2) := by decide +kernel
theorem dX2_init_9 : decode cX2_init 9 = .ok (.putfield 9, 3) := by decide +kernel
theorem dX2_init_12 : decode cX2_init 12 = .ok (.aload_n 0, 1) := by decide +kernel
theorem dX2_init_13 : decode cX2_init 13 = .ok (.bipush 16, 2) := by decide +kernel
theorem dX2_init_15 : decode cX2_init 15 = .ok (.newarray .int, 2) := by decide +kernel
theorem dX2_init_17 : decode cX2_init 17 = .ok (.putfield 15, 3) := by decide +kernel
theorem dX2_init_20 : decode cX2_init 20 = .ok (.aload_n 0, 1) := by decide +kernel
theorem dX2_init_21 : decode cX2_init 21 = .ok (.iconst 2, 1) := by decide +kernel
theorem dX2_init_22 : decode cX2_init 22 = .ok (.newarray .int, 2) := by decide +kernel
theorem dX2_init_24 : decode cX2_init 24 = .ok (.putfield 18, 3) := by decide +kernel
theorem dX2_init_27 : decode cX2_init 27 = .ok (.aload_n 0, 1) := by decide +kernel
theorem dX2_init_28 : decode cX2_init 28 = .ok (.iconst 3, 1) := by decide +kernel
theorem dX2_init_29 : decode cX2_init 29 = .ok (.newarray .int, 2) := by decide +kernel
theorem dX2_init_31 : decode cX2_init 31 = .ok (.putfield 21, 3) := by decide +kernel
theorem dX2_init_34 : decode cX2_init 34 = .ok (.aload_n 0, 1) := by decide +kernel
theorem dX2_init_35 : decode cX2_init 35 = .ok (.getfield 21, 3) := by decide +kernel
theorem dX2_init_38 : decode cX2_init 38 = .ok (.iconst 0, 1) := by decide +kernel
theorem dX2_init_39 : decode cX2_init 39 = .ok (.iconst 2, 1) := by decide +kernel
theorem dX2_init_40 : decode cX2_init 40 = .ok (.iastore, 1) := by decide +kernel
theorem dX2_init_41 : decode cX2_init 41 = .ok (.aload_n 0, 1) := by decide +kernel
theorem dX2_init_42 : decode cX2_init 42 = .ok (.getfield 21, 3) := by decide +kernel
theorem dX2_init_45 : decode cX2_init 45 = .ok (.iconst 1, 1) := by decide +kernel
theorem dX2_init_46 : decode cX2_init 46 = .ok (.iconst 1, 1) := by decide +kernel
theorem dX2_init_47 : decode cX2_init 47 = .ok (.iastore, 1) := by decide +kernel
theorem dX2_init_48 : decode cX2_init 48 = .ok (.aload_n 0, 1) := by decide +kernel
theorem dX2_init_49 : decode cX2_init 49 = .ok (.getfield 21, 3) := by decide +kernel
theorem dX2_init_52 : decode cX2_init 52 = .ok (.iconst 2, 1) := by decide +kernel
theorem dX2_init_53 : decode cX2_init 53 = .ok (.iconst 1, 1) := by decide +kernel
theorem dX2_init_54 : decode cX2_init 54 = .ok (.iastore, 1) := by decide +kernel
theorem dX2_init_55 : decode cX2_init 55 = .ok (.aload_n 0, 1) := by decide +kernel
theorem dX2_init_56 : decode cX2_init 56 = .ok (.sipush 384, 3) := by decide +kernel
theorem dX2_init_59 : decode cX2_init 59 = .ok (.newarray .int, 2) := by decide +kernel
theorem dX2_init_61 : decode cX2_init 61 = .ok (.putfield 24, 3) := by decide +kernel
theorem dX2_init_64 : decode cX2_init 64 = .ok (.aload_n 0, 1) := by decide +kernel
theorem dX2_init_65 : decode cX2_init 65 = .ok (.bipush 6, 2) := by decide +kernel
theorem dX2_init_67 : decode cX2_init 67 = .ok (.newarray .int, 2) := by decide +kernel
theorem dX2_init_69 : decode cX2_init 69 = .ok (.putfield 27, 3) := by decide +kernel
theorem dX2_init_72 : decode cX2_init 72 = .ok (.aload_n 0, 1) := by decide +kernel
theorem dX2_init_73 : decode cX2_init 73 = .ok (.iconst 0, 1) := by decide +kernel
theorem dX2_init_74 : decode cX2_init 74 = .ok (.putfield 30, 3) := by decide +kernel
theorem dX2_init_77 : decode cX2_init 77 = .ok (.aload_n 0, 1) := by decide +kernel
theorem dX2_init_78 : decode cX2_init 78 = .ok (.iconst 0, 1) := by decide +kernel
theorem dX2_init_79 : decode cX2_init 79 = .ok (.putfield 34, 3) := by decide +kernel
theorem dX2_init_82 : decode cX2_init 82 = .ok (.aload_n 0, 1) := by decide +kernel
theorem dX2_init_83 : decode cX2_init 83 = .ok (.iconst 0, 1) := by decide +kernel
theorem dX2_init_84 : decode cX2_init 84 = .ok (.putfield 37, 3) := by decide +kernel
theorem dX2_init_87 : decode cX2_init 87 = .ok (.aload_n 0, 1) := by decide +kernel
theorem dX2_init_88 : decode cX2_init 88 = .ok (.iconst 0, 1) := by decide +kernel
theorem dX2_init_89 : decode cX2_init 89 = .ok (.putfield 40, 3) := by decide +kernel
theorem dX2_init_92 : decode cX2_init 92 = .ok (.return_, 1) := by decide +kernel
theorem dX2_become_0 : decode cX2_become 0 = .ok (.aload_n 1, 1) := by decide +kernel
theorem dX2_become_1 : decode cX2_become 1 = .ok (.getfield 9, 3) := by decide +kernel
theorem dX2_become_4 : decode cX2_become 4 = .ok (.iconst 0, 1) := by decide +kernel
theorem dX2_become_5 : decode cX2_become 5 = .ok (.aload_n 0, 1) := by decide +kernel
theorem dX2_become_6 : decode cX2_become 6 = .ok (.getfield 9, 3) := by decide +kernel
theorem dX2_become_9 : decode cX2_become 9 = .ok (.iconst 0, 1) := by decide +kernel
theorem dX2_become_10 : decode cX2_become 10 = .ok (.bipush 32, 2) := by decide +kernel
theorem dX2_become_12 : decode cX2_become 12 = .ok (.invokestatic 43, 3) := by decide +kernel
theorem dX2_become_15 : decode cX2_become 15 = .ok (.aload_n 1, 1) := by decide +kernel
theorem dX2_become_16 : decode cX2_become 16 = .ok (.getfield 15, 3) := by decide +kernel
theorem dX2_become_19 : decode cX2_become 19 = .ok (.iconst 0, 1) := by decide +kernel
theorem dX2_become_20 : decode cX2_become 20 = .ok (.aload_n 0, 1) := by decide +kernel
theorem dX2_become_21 : decode cX2_become 21 = .ok (.getfield 15, 3) := by decide +kernel
theorem dX2_become_24 : decode cX2_become 24 = .ok (.iconst 0, 1) := by decide +kernel
theorem dX2_become_25 : decode cX2_become 25 = .ok (.bipush 16, 2) := by decide +kernel
theorem dX2_become_27 : decode cX2_become 27 = .ok (.invokestatic 43, 3) := by decide +kernel
theorem dX2_become_30 : decode cX2_become 30 = .ok (.aload_n 1, 1) := by decide +kernel
theorem dX2_become_31 : decode cX2_become 31 = .ok (.getfield 18, 3) := by decide +kernel
theorem dX2_become_34 : decode cX2_become 34 = .ok (.iconst 0, 1) := by decide +kernel
theorem dX2_become_35 : decode cX2_become 35 = .ok (.aload_n 0, 1) := by decide +kernel
theorem dX2_become_36 : decode cX2_become 36 = .ok (.getfield 18, 3) := by decide +kernel
theorem dX2_become_39 : decode cX2_become 39 = .ok (.iconst 0, 1) := by decide +kernel
theorem dX2_become_40 : decode cX2_become 40 = .ok (.iconst 2, 1) := by decide +kernel
theorem dX2_become_41 : decode cX2_become 41 = .ok (.invokestatic 43, 3) := by decide +kernel
theorem dX2_become_44 : decode cX2_become 44 = .ok (.aload_n 1, 1) := by decide +kernel
theorem dX2_become_45 : decode cX2_become 45 = .ok (.getfield 21, 3) := by decide +kernel
theorem dX2_become_48 : decode cX2_become 48 = .ok (.iconst 0, 1) := by decide +kernel
theorem dX2_become_49 : decode cX2_become 49 = .ok (.aload_n 0, 1) := by decide +kernel
theorem dX2_become_50 : decode cX2_become 50 = .ok (.getfield 21, 3) := by decide +kernel
theorem dX2_become_53 : decode cX2_become 53 = .ok (.iconst 0, 1) := by decide +kernel
theorem dX2_become_54 : decode cX2_become 54 = .ok (.iconst 3, 1) := by decide +kernel
theorem dX2_become_55 : decode cX2_become 55 = .ok (.invokestatic 43, 3) := by decide +kernel
theorem dX2_become_58 : decode cX2_become 58 = .ok (.aload_n 1, 1) := by decide +kernel
theorem dX2_become_59 : decode cX2_become 59 = .ok (.getfield 24, 3) := by decide +kernel
theorem dX2_become_62 : decode cX2_become 62 = .ok (.iconst 0, 1) := by decide +kernel
theorem dX2_become_63 : decode cX2_become 63 = .ok (.aload_n 0, 1) := by decide +kernel
theorem dX2_become_64 : decode cX2_become 64 = .ok (.getfield 24, 3) := by decide +kernel
theorem dX2_become_67 : decode cX2_become 67 = .ok (.iconst 0, 1) := by decide +kernel
theorem dX2_become_68 : decode cX2_become 68 = .ok (.sipush 384, 3) := by decide +kernel
theorem dX2_become_71 : decode cX2_become 71 = .ok (.invokestatic 43, 3) := by decide +kernel
theorem dX2_become_74 : decode cX2_become 74 = .ok (.aload_n 1, 1) := by decide +kernel
theorem dX2_become_75 : decode cX2_become 75 = .ok (.getfield 27, 3) := by decide +kernel
theorem dX2_become_78 : decode cX2_become 78 = .ok (.iconst 0, 1) := by decide +kernel
theorem dX2_become_79 : decode cX2_become 79 = .ok (.aload_n 0, 1) := by decide +kernel
theorem dX2_become_80 : decode cX2_become 80 = .ok (.getfield 27, 3) := by decide +kernel
theorem dX2_become_83 : decode cX2_become 83 = .ok (.iconst 0, 1) := by decide +kernel
theorem dX2_become_84 : decode cX2_become 84 = .ok (.bipush 6, 2) := by decide +kernel
theorem dX2_become_86 : decode cX2_become 86 = .ok (.invokestatic 43, 3) := by decide +kernel
theorem dX2_become_89 : decode cX2_become 89 = .ok (.aload_n 0, 1) := by decide +kernel
theorem dX2_become_90 : decode cX2_become 90 = .ok (.aload_n 1, 1) := by decide +kernel
theorem dX2_become_91 : decode cX2_become 91 = .ok (.getfield 30, 3) := by decide +kernel
theorem dX2_become_94 : decode cX2_become 94 = .ok (.putfield 30, 3) := by decide +kernel
theorem dX2_become_97 : decode cX2_become 97 = .ok (.aload_n 0, 1) := by decide +kernel
theorem dX2_become_98 : decode cX2_become 98 = .ok (.aload_n 1, 1) := by decide +kernel
theorem dX2_become_99 : decode cX2_become 99 = .ok (.getfield 34, 3) := by decide +kernel
theorem dX2_become_102 : decode cX2_become 102 = .ok (.putfield 34, 3) := by decide +kernel
theorem dX2_become_105 : decode cX2_become 105 = .ok (.aload_n 0, 1) := by decide +kernel
theorem dX2_become_106 : decode cX2_become 106 = .ok (.aload_n 1, 1) := by decide +kernel
theorem dX2_become_107 : decode cX2_become 107 = .ok (.getfield 37, 3) := by decide +kernel
theorem dX2_become_110 : decode cX2_become 110 = .ok (.putfield 37, 3) := by decide +kernel
theorem dX2_become_113 : decode cX2_become 113 = .ok (.aload_n 0, 1) := by decide +kernel
theorem dX2_become_114 : decode cX2_become 114 = .ok (.aload_n 1, 1) := by decide +kernel
theorem dX2_become_115 : decode cX2_become 115 = .ok (.getfield 40, 3) := by decide +kernel
theorem dX2_become_118 : decode cX2_become 118 = .ok (.putfield 40, 3) := by decide +kernel
theorem dX2_become_121 : decode cX2_become 121 = .ok (.return_, 1) := by decide +kernel
theorem dX3_init_0 : decode cX3_init 0 = .ok (.aload_n 0, 1) := by decide +kernel
theorem dX3_init_1 : decode cX3_init 1 = .ok (.invokespecial 3, 3) := by decide +kernel
theorem dX3_init_4 : decode cX3_init 4 = .ok (.aload_n 0, 1) := by decide +kernel
theorem dX3_init_5 : decode cX3_init 5 = .ok (.iconst 0, 1) := by decide +kernel
theorem dX3_init_6 : decode cX3_init 6 = .ok (.putfield 11, 3) := by decide +kernel
theorem dX3_init_9 : decode cX3_init 9 = .ok (.aload_n 0, 1) := by decide +kernel
theorem dX3_init_10 : decode cX3_init 10 = .ok (.iconst 0, 1) := by decide +kernel
theorem dX3_init_11 : decode cX3_init 11 = .ok (.putfield 15, 3) := by decide +kernel
theorem dX3_init_14 : decode cX3_init 14 = .ok (.aload_n 0, 1) := by decide +kernel
theorem dX3_init_15 : decode cX3_init 15 = .ok (.iconst 0, 1) := by decide +kernel
theorem dX3_init_16 : decode cX3_init 16 = .ok (.putfield 18, 3) := by decide +kernel
theorem dX3_init_19 : decode cX3_init 19 = .ok (.aload_n 0, 1) := by decide +kernel
theorem dX3_init_20 : decode cX3_init 20 = .ok (.iconst 0, 1) := by decide +kernel
theorem dX3_init_21 : decode cX3_init 21 = .ok (.putfield 21, 3) := by decide +kernel
theorem dX3_init_24 : decode cX3_init 24 = .ok (.aload_n 0, 1) := by decide +kernel
theorem dX3_init_25 : decode cX3_init 25 = .ok (.iconst 0, 1) := by decide +kernel
theorem dX3_init_26 : decode cX3_init 26 = .ok (.putfield 24, 3) := by decide +kernel
theorem dX3_init_29 : decode cX3_init 29 = .ok (.aload_n 0, 1) := by decide +kernel
theorem dX3_init_30 : decode cX3_init 30 = .ok (.iconst 0, 1) := by decide +kernel
theorem dX3_init_31 : decode cX3_init 31 = .ok (.putfield 27, 3) := by decide +kernel
theorem dX3_init_34 : decode cX3_init 34 = .ok (.return_, 1) := by decide +kernel
theorem dX3_begin_0 : decode cX3_begin 0 = .ok (.aload_n 0, 1) := by decide +kernel
theorem dX3_begin_1 : decode cX3_begin 1 = .ok (.iconst 0, 1) := by decide +kernel
theorem dX3_begin_2 : decode cX3_begin 2 = .ok (.putfield 11, 3) := by decide +kernel
theorem dX3_begin_5 : decode cX3_begin 5 = .ok (.return_, 1) := by decide +kernel
theorem dX3_mayEnd_0 : decode cX3_mayEnd 0 = .ok (.aload_n 0, 1) := by decide +kernel
theorem dX3_mayEnd_1 : decode cX3_mayEnd 1 = .ok (.getfield 11, 3) := by decide +kernel
theorem dX3_mayEnd_4 : decode cX3_mayEnd 4 = .ok (.bipush 6, 2) := by decide +kernel
theorem dX3_mayEnd_6 : decode cX3_mayEnd 6 = .ok (.if_icmp .ne 7, 3) := by decide +kernel
theorem dX3_mayEnd_9 : decode cX3_mayEnd 9 = .ok (.iconst 1, 1) := by decide +kernel
theorem dX3_mayEnd_10 : decode cX3_mayEnd 10 = .ok (.goto 4, 3) := by decide +kernel
theorem dX3_mayEnd_13 : decode cX3_mayEnd 13 = .ok (.iconst 0, 1) := by decide +kernel
theorem dX3_mayEnd_14 : decode cX3_mayEnd 14 = .ok (.ireturn, 1) := by decide +kernel
theorem dX3_readingTold_0 : decode cX3_readingTold 0 = .ok (.aload_n 0, 1) := by decide +kernel
theorem dX3_readingTold_1 : decode cX3_readingTold 1 = .ok (.getfield 27, 3) := by decide +kernel
theorem dX3_readingTold_4 : decode cX3_readingTold 4 = .ok (.ifCond .eq 11, 3) := by decide +kernel
theorem dX3_readingTold_7 : decode cX3_readingTold 7 = .ok (.aload_n 0, 1) := by decide +kernel
theorem dX3_readingTold_8 : decode cX3_readingTold 8 = .ok (.getfield 24, 3) := by decide +kernel
theorem dX3_readingTold_11 : decode cX3_readingTold 11 = .ok (.ineg, 1) := by decide +kernel
theorem dX3_readingTold_12 : decode cX3_readingTold 12 = .ok (.goto 7, 3) := by decide +kernel
theorem dX3_readingTold_15 : decode cX3_readingTold 15 = .ok (.aload_n 0, 1) := by decide +kernel
theorem dX3_readingTold_16 : decode cX3_readingTold 16 = .ok (.getfield 24, 3) := by decide +kernel
theorem dX3_readingTold_19 : decode cX3_readingTold 19 = .ok (.ireturn, 1) := by decide +kernel
theorem dX3_takes_0 : decode cX3_takes 0 = .ok (.aload_n 0, 1) := by decide +kernel
theorem dX3_takes_1 : decode cX3_takes 1 = .ok (.getfield 11, 3) := by decide +kernel
theorem dX3_takes_4 : decode cX3_takes 4 = .ok (.tableswitch 90 0 5 #[40, 46, 52, 58, 64, 70], 40) := by decide +kernel
theorem dX3_takes_44 : decode cX3_takes 44 = .ok (.aload_n 0, 1) := by decide +kernel
theorem dX3_takes_45 : decode cX3_takes 45 = .ok (.iload_n 1, 1) := by decide +kernel
theorem dX3_takes_46 : decode cX3_takes 46 = .ok (.invokevirtual 31, 3) := by decide +kernel
theorem dX3_takes_49 : decode cX3_takes 49 = .ok (.ireturn, 1) := by decide +kernel
theorem dX3_takes_50 : decode cX3_takes 50 = .ok (.aload_n 0, 1) := by decide +kernel
theorem dX3_takes_51 : decode cX3_takes 51 = .ok (.iload_n 1, 1) := by decide +kernel
theorem dX3_takes_52 : decode cX3_takes 52 = .ok (.invokevirtual 35, 3) := by decide +kernel
theorem dX3_takes_55 : decode cX3_takes 55 = .ok (.ireturn, 1) := by decide +kernel
theorem dX3_takes_56 : decode cX3_takes 56 = .ok (.aload_n 0, 1) := by decide +kernel
theorem dX3_takes_57 : decode cX3_takes 57 = .ok (.iload_n 1, 1) := by decide +kernel
theorem dX3_takes_58 : decode cX3_takes 58 = .ok (.invokevirtual 38, 3) := by decide +kernel
theorem dX3_takes_61 : decode cX3_takes 61 = .ok (.ireturn, 1) := by decide +kernel
theorem dX3_takes_62 : decode cX3_takes 62 = .ok (.aload_n 0, 1) := by decide +kernel
theorem dX3_takes_63 : decode cX3_takes 63 = .ok (.iload_n 1, 1) := by decide +kernel
theorem dX3_takes_64 : decode cX3_takes 64 = .ok (.invokevirtual 41, 3) := by decide +kernel
theorem dX3_takes_67 : decode cX3_takes 67 = .ok (.ireturn, 1) := by decide +kernel
theorem dX3_takes_68 : decode cX3_takes 68 = .ok (.aload_n 0, 1) := by decide +kernel
theorem dX3_takes_69 : decode cX3_takes 69 = .ok (.iload_n 1, 1) := by decide +kernel
theorem dX3_takes_70 : decode cX3_takes 70 = .ok (.invokevirtual 44, 3) := by decide +kernel
theorem dX3_takes_73 : decode cX3_takes 73 = .ok (.ireturn, 1) := by decide +kernel
theorem dX3_takes_74 : decode cX3_takes 74 = .ok (.iload_n 1, 1) := by decide +kernel
theorem dX3_takes_75 : decode cX3_takes 75 = .ok (.bipush 48, 2) := by decide +kernel
theorem dX3_takes_77 : decode cX3_takes 77 = .ok (.if_icmp .eq 15, 3) := by decide +kernel
theorem dX3_takes_80 : decode cX3_takes 80 = .ok (.aload_n 0, 1) := by decide +kernel
theorem dX3_takes_81 : decode cX3_takes 81 = .ok (.iload_n 1, 1) := by decide +kernel
theorem dX3_takes_82 : decode cX3_takes 82 = .ok (.invokevirtual 47, 3) := by decide +kernel
theorem dX3_takes_85 : decode cX3_takes 85 = .ok (.ifCond .eq 7, 3) := by decide +kernel
theorem dX3_takes_88 : decode cX3_takes 88 = .ok (.iconst 1, 1) := by decide +kernel
theorem dX3_takes_89 : decode cX3_takes 89 = .ok (.goto 4, 3) := by decide +kernel
theorem dX3_takes_92 : decode cX3_takes 92 = .ok (.iconst 0, 1) := by decide +kernel
theorem dX3_takes_93 : decode cX3_takes 93 = .ok (.ireturn, 1) := by decide +kernel
theorem dX3_takes_94 : decode cX3_takes 94 = .ok (.aload_n 0, 1) := by decide +kernel
theorem dX3_takes_95 : decode cX3_takes 95 = .ok (.iload_n 1, 1) := by decide +kernel
theorem dX3_takes_96 : decode cX3_takes 96 = .ok (.invokevirtual 50, 3) := by decide +kernel
theorem dX3_takes_99 : decode cX3_takes 99 = .ok (.ireturn, 1) := by decide +kernel
theorem dX3_isDigit_0 : decode cX3_isDigit 0 = .ok (.iload_n 0, 1) := by decide +kernel
theorem dX3_isDigit_1 : decode cX3_isDigit 1 = .ok (.bipush 48, 2) := by decide +kernel
theorem dX3_isDigit_3 : decode cX3_isDigit 3 = .ok (.if_icmp .lt 13, 3) := by decide +kernel
theorem dX3_isDigit_6 : decode cX3_isDigit 6 = .ok (.iload_n 0, 1) := by decide +kernel
theorem dX3_isDigit_7 : decode cX3_isDigit 7 = .ok (.bipush 57, 2) := by decide +kernel
theorem dX3_isDigit_9 : decode cX3_isDigit 9 = .ok (.if_icmp .gt 7, 3) := by decide +kernel
theorem dX3_isDigit_12 : decode cX3_isDigit 12 = .ok (.iconst 1, 1) := by decide +kernel
theorem dX3_isDigit_13 : decode cX3_isDigit 13 = .ok (.goto 4, 3) := by decide +kernel
theorem dX3_isDigit_16 : decode cX3_isDigit 16 = .ok (.iconst 0, 1) := by decide +kernel
theorem dX3_isDigit_17 : decode cX3_isDigit 17 = .ok (.ireturn, 1) := by decide +kernel
theorem dX3_takesFirstOfLevel_0 : decode cX3_takesFirstOfLevel 0 = .ok (.iload_n 1, 1) := by decide +kernel
theorem dX3_takesFirstOfLevel_1 : decode cX3_takesFirstOfLevel 1 = .ok (.invokestatic 53, 3) := by decide +kernel
theorem dX3_takesFirstOfLevel_4 : decode cX3_takesFirstOfLevel 4 = .ok (.ifCond .ne 5, 3) := by decide +kernel
theorem dX3_takesFirstOfLevel_7 : decode cX3_takesFirstOfLevel 7 = .ok (.iconst 0, 1) := by decide +kernel
theorem dX3_takesFirstOfLevel_8 : decode cX3_takesFirstOfLevel 8 = .ok (.ireturn, 1) := by decide +kernel
theorem dX3_takesFirstOfLevel_9 : decode cX3_takesFirstOfLevel 9 = .ok (.aload_n 0, 1) := by decide +kernel
theorem dX3_takesFirstOfLevel_10 : decode cX3_takesFirstOfLevel 10 = .ok (.iload_n 1, 1) := by decide +kernel
theorem dX3_takesFirstOfLevel_11 : decode cX3_takesFirstOfLevel 11 = .ok (.bipush 48, 2) := by decide +kernel
theorem dX3_takesFirstOfLevel_13 : decode cX3_takesFirstOfLevel 13 = .ok (.isub, 1) := by decide +kernel
theorem dX3_takesFirstOfLevel_14 : decode cX3_takesFirstOfLevel 14 = .ok (.putfield 15, 3) := by decide +kernel
theorem dX3_takesFirstOfLevel_17 : decode cX3_takesFirstOfLevel 17 = .ok (.aload_n 0, 1) := by decide +kernel
theorem dX3_takesFirstOfLevel_18 : decode cX3_takesFirstOfLevel 18 = .ok (.iconst 1, 1) := by decide +kernel
theorem dX3_takesFirstOfLevel_19 : decode cX3_takesFirstOfLevel 19 = .ok (.putfield 11, 3) := by decide +kernel
theorem dX3_takesFirstOfLevel_22 : decode cX3_takesFirstOfLevel 22 = .ok (.iconst 1, 1) := by decide +kernel
theorem dX3_takesFirstOfLevel_23 : decode cX3_takesFirstOfLevel 23 = .ok (.ireturn, 1) := by decide +kernel
theorem dX3_takesInLevel_0 : decode cX3_takesInLevel 0 = .ok (.iload_n 1, 1) := by decide +kernel
theorem dX3_takesInLevel_1 : decode cX3_takesInLevel 1 = .ok (.bipush 97, 2) := by decide +kernel
theorem dX3_takesInLevel_3 : decode cX3_takesInLevel 3 = .ok (.if_icmp .eq 9, 3) := by decide +kernel
theorem dX3_takesInLevel_6 : decode cX3_takesInLevel 6 = .ok (.iload_n 1, 1) := by decide +kernel
theorem dX3_takesInLevel_7 : decode cX3_takesInLevel 7 = .ok (.bipush 98, 2) := by decide +kernel
theorem dX3_takesInLevel_9 : decode cX3_takesInLevel 9 = .ok (.if_icmp .ne 18, 3) := by decide +kernel
theorem dX3_takesInLevel_12 : decode cX3_takesInLevel 12 = .ok (.aload_n 0, 1) := by decide +kernel
theorem dX3_takesInLevel_13 : decode cX3_takesInLevel 13 = .ok (.iload_n 1, 1) := by decide +kernel
theorem dX3_takesInLevel_14 : decode cX3_takesInLevel 14 = .ok (.bipush 97, 2) := by decide +kernel
theorem dX3_takesInLevel_16 : decode cX3_takesInLevel 16 = .ok (.isub, 1) := by decide +kernel
theorem dX3_takesInLevel_17 : decode cX3_takesInLevel 17 = .ok (.putfield 18, 3) := by decide +kernel
theorem dX3_takesInLevel_20 : decode cX3_takesInLevel 20 = .ok (.aload_n 0, 1) := by decide +kernel
theorem dX3_takesInLevel_21 : decode cX3_takesInLevel 21 = .ok (.iconst 2, 1) := by decide +kernel
theorem dX3_takesInLevel_22 : decode cX3_takesInLevel 22 = .ok (.putfield 11, 3) := by decide +kernel
theorem dX3_takesInLevel_25 : decode cX3_takesInLevel 25 = .ok (.iconst 1, 1) := by decide +kernel
theorem dX3_takesInLevel_26 : decode cX3_takesInLevel 26 = .ok (.ireturn, 1) := by decide +kernel
theorem dX3_takesInLevel_27 : decode cX3_takesInLevel 27 = .ok (.iload_n 1, 1) := by decide +kernel
theorem dX3_takesInLevel_28 : decode cX3_takesInLevel 28 = .ok (.invokestatic 53, 3) := by decide +kernel
theorem dX3_takesInLevel_31 : decode cX3_takesInLevel 31 = .ok (.ifCond .eq 27, 3) := by decide +kernel
theorem dX3_takesInLevel_34 : decode cX3_takesInLevel 34 = .ok (.aload_n 0, 1) := by decide +kernel
theorem dX3_takesInLevel_35 : decode cX3_takesInLevel 35 = .ok (.getfield 15, 3) := by decide +kernel
theorem dX3_takesInLevel_38 : decode cX3_takesInLevel 38 = .ok (.ifCond .eq 20, 3) := by decide +kernel
theorem dX3_takesInLevel_41 : decode cX3_takesInLevel 41 = .ok (.aload_n 0, 1) := by decide +kernel
theorem dX3_takesInLevel_42 : decode cX3_takesInLevel 42 = .ok (.getfield 15, 3) := by decide +kernel
theorem dX3_takesInLevel_45 : decode cX3_takesInLevel 45 = .ok (.bipush 10, 2) := by decide +kernel
theorem dX3_takesInLevel_47 : decode cX3_takesInLevel 47 = .ok (.imul, 1) := by decide +kernel
theorem dX3_takesInLevel_48 : decode cX3_takesInLevel 48 = .ok (.iload_n 1, 1) := by decide +kernel
theorem dX3_takesInLevel_49 : decode cX3_takesInLevel 49 = .ok (.bipush 48, 2) := by decide +kernel
theorem dX3_takesInLevel_51 : decode cX3_takesInLevel 51 = .ok (.isub, 1) := by decide +kernel
theorem dX3_takesInLevel_52 : decode cX3_takesInLevel 52 = .ok (.iadd, 1) := by decide +kernel
theorem dX3_takesInLevel_53 : decode cX3_takesInLevel 53 = .ok (.bipush 16, 2) := by decide +kernel
theorem dX3_takesInLevel_55 : decode cX3_takesInLevel 55 = .ok (.if_icmp .lt 5, 3) := by decide +kernel
theorem dX3_takesInLevel_58 : decode cX3_takesInLevel 58 = .ok (.iconst 0, 1) := by decide +kernel
theorem dX3_takesInLevel_59 : decode cX3_takesInLevel 59 = .ok (.ireturn, 1) := by decide +kernel
theorem dX3_takesInLevel_60 : decode cX3_takesInLevel 60 = .ok (.aload_n 0, 1) := by decide +kernel
theorem dX3_takesInLevel_61 : decode cX3_takesInLevel 61 = .ok (.aload_n 0, 1) := by decide +kernel
theorem dX3_takesInLevel_62 : decode cX3_takesInLevel 62 = .ok (.getfield 15, 3) := by decide +kernel
theorem dX3_takesInLevel_65 : decode cX3_takesInLevel 65 = .ok (.bipush 10, 2) := by decide +kernel
theorem dX3_takesInLevel_67 : decode cX3_takesInLevel 67 = .ok (.imul, 1) := by decide +kernel
theorem dX3_takesInLevel_68 : decode cX3_takesInLevel 68 = .ok (.iload_n 1, 1) := by decide +kernel
theorem dX3_takesInLevel_69 : decode cX3_takesInLevel 69 = .ok (.bipush 48, 2) := by decide +kernel
theorem dX3_takesInLevel_71 : decode cX3_takesInLevel 71 = .ok (.isub, 1) := by decide +kernel
theorem dX3_takesInLevel_72 : decode cX3_takesInLevel 72 = .ok (.iadd, 1) := by decide +kernel
theorem dX3_takesInLevel_73 : decode cX3_takesInLevel 73 = .ok (.putfield 15, 3) := by decide +kernel
theorem dX3_takesInLevel_76 : decode cX3_takesInLevel 76 = .ok (.iconst 1, 1) := by decide +kernel
theorem dX3_takesInLevel_77 : decode cX3_takesInLevel 77 = .ok (.ireturn, 1) := by decide +kernel
theorem dX3_takesFace_0 : decode cX3_takesFace 0 = .ok (.iload_n 1, 1) := by decide +kernel
theorem dX3_takesFace_1 : decode cX3_takesFace 1 = .ok (.bipush 43, 2) := by decide +kernel
theorem dX3_takesFace_3 : decode cX3_takesFace 3 = .ok (.if_icmp .eq 11, 3) := by decide +kernel
theorem dX3_takesFace_6 : decode cX3_takesFace 6 = .ok (.iload_n 1, 1) := by decide +kernel
theorem dX3_takesFace_7 : decode cX3_takesFace 7 = .ok (.bipush 45, 2) := by decide +kernel
theorem dX3_takesFace_9 : decode cX3_takesFace 9 = .ok (.if_icmp .eq 5, 3) := by decide +kernel
theorem dX3_takesFace_12 : decode cX3_takesFace 12 = .ok (.iconst 0, 1) := by decide +kernel
theorem dX3_takesFace_13 : decode cX3_takesFace 13 = .ok (.ireturn, 1) := by decide +kernel
theorem dX3_takesFace_14 : decode cX3_takesFace 14 = .ok (.aload_n 0, 1) := by decide +kernel
theorem dX3_takesFace_15 : decode cX3_takesFace 15 = .ok (.iload_n 1, 1) := by decide +kernel
theorem dX3_takesFace_16 : decode cX3_takesFace 16 = .ok (.bipush 43, 2) := by decide +kernel
theorem dX3_takesFace_18 : decode cX3_takesFace 18 = .ok (.if_icmp .ne 7, 3) := by decide +kernel
theorem dX3_takesFace_21 : decode cX3_takesFace 21 = .ok (.iconst 0, 1) := by decide +kernel
theorem dX3_takesFace_22 : decode cX3_takesFace 22 = .ok (.goto 4, 3) := by decide +kernel
theorem dX3_takesFace_25 : decode cX3_takesFace 25 = .ok (.iconst 1, 1) := by decide +kernel
theorem dX3_takesFace_26 : decode cX3_takesFace 26 = .ok (.putfield 21, 3) := by decide +kernel
theorem dX3_takesFace_29 : decode cX3_takesFace 29 = .ok (.aload_n 0, 1) := by decide +kernel
theorem dX3_takesFace_30 : decode cX3_takesFace 30 = .ok (.iconst 3, 1) := by decide +kernel
theorem dX3_takesFace_31 : decode cX3_takesFace 31 = .ok (.putfield 11, 3) := by decide +kernel
theorem dX3_takesFace_34 : decode cX3_takesFace 34 = .ok (.iconst 1, 1) := by decide +kernel
theorem dX3_takesFace_35 : decode cX3_takesFace 35 = .ok (.ireturn, 1) := by decide +kernel
theorem dX3_takesEquals_0 : decode cX3_takesEquals 0 = .ok (.iload_n 1, 1) := by decide +kernel
theorem dX3_takesEquals_1 : decode cX3_takesEquals 1 = .ok (.bipush 61, 2) := by decide +kernel
theorem dX3_takesEquals_3 : decode cX3_takesEquals 3 = .ok (.if_icmp .eq 5, 3) := by decide +kernel
theorem dX3_takesEquals_6 : decode cX3_takesEquals 6 = .ok (.iconst 0, 1) := by decide +kernel
theorem dX3_takesEquals_7 : decode cX3_takesEquals 7 = .ok (.ireturn, 1) := by decide +kernel
theorem dX3_takesEquals_8 : decode cX3_takesEquals 8 = .ok (.aload_n 0, 1) := by decide +kernel
theorem dX3_takesEquals_9 : decode cX3_takesEquals 9 = .ok (.iconst 4, 1) := by decide +kernel
theorem dX3_takesEquals_10 : decode cX3_takesEquals 10 = .ok (.putfield 11, 3) := by decide +kernel
theorem dX3_takesEquals_13 : decode cX3_takesEquals 13 = .ok (.iconst 1, 1) := by decide +kernel
theorem dX3_takesEquals_14 : decode cX3_takesEquals 14 = .ok (.ireturn, 1) := by decide +kernel
theorem dX3_takesFirstOfReading_0 : decode cX3_takesFirstOfReading 0 = .ok (.aload_n 0, 1) := by decide +kernel
theorem dX3_takesFirstOfReading_1 : decode cX3_takesFirstOfReading 1 = .ok (.iload_n 1, 1) := by decide +kernel
theorem dX3_takesFirstOfReading_2 : decode cX3_takesFirstOfReading 2 = .ok (.bipush 45, 2) := by decide +kernel
theorem dX3_takesFirstOfReading_4 : decode cX3_takesFirstOfReading 4 = .ok (.if_icmp .ne 7, 3) := by decide +kernel
theorem dX3_takesFirstOfReading_7 : decode cX3_takesFirstOfReading 7 = .ok (.iconst 1, 1) := by decide +kernel
theorem dX3_takesFirstOfReading_8 : decode cX3_takesFirstOfReading 8 = .ok (.goto 4, 3) := by decide +kernel
theorem dX3_takesFirstOfReading_11 : decode cX3_takesFirstOfReading 11 = .ok (.iconst 0, 1) := by decide +kernel
theorem dX3_takesFirstOfReading_12 : decode cX3_takesFirstOfReading 12 = .ok (.putfield 27, 3) := by decide +kernel
theorem dX3_takesFirstOfReading_15 : decode cX3_takesFirstOfReading 15 = .ok (.aload_n 0, 1) := by decide +kernel
theorem dX3_takesFirstOfReading_16 : decode cX3_takesFirstOfReading 16 = .ok (.getfield 27, 3) := by decide +kernel
theorem dX3_takesFirstOfReading_19 : decode cX3_takesFirstOfReading 19 = .ok (.ifCond .eq 10, 3) := by decide +kernel
theorem dX3_takesFirstOfReading_22 : decode cX3_takesFirstOfReading 22 = .ok (.aload_n 0, 1) := by decide +kernel
theorem dX3_takesFirstOfReading_23 : decode cX3_takesFirstOfReading 23 = .ok (.iconst 5, 1) := by decide +kernel
theorem dX3_takesFirstOfReading_24 : decode cX3_takesFirstOfReading 24 = .ok (.putfield 11, 3) := by decide +kernel
theorem dX3_takesFirstOfReading_27 : decode cX3_takesFirstOfReading 27 = .ok (.iconst 1, 1) := by decide +kernel
theorem dX3_takesFirstOfReading_28 : decode cX3_takesFirstOfReading 28 = .ok (.ireturn, 1) := by decide +kernel
theorem dX3_takesFirstOfReading_29 : decode cX3_takesFirstOfReading 29 = .ok (.aload_n 0, 1) := by decide +kernel
theorem dX3_takesFirstOfReading_30 : decode cX3_takesFirstOfReading 30 = .ok (.iload_n 1, 1) := by decide +kernel
theorem dX3_takesFirstOfReading_31 : decode cX3_takesFirstOfReading 31 = .ok (.invokevirtual 47, 3) := by decide +kernel
theorem dX3_takesFirstOfReading_34 : decode cX3_takesFirstOfReading 34 = .ok (.ireturn, 1) := by decide +kernel
theorem dX3_takesFirstOfNumber_0 : decode cX3_takesFirstOfNumber 0 = .ok (.iload_n 1, 1) := by decide +kernel
theorem dX3_takesFirstOfNumber_1 : decode cX3_takesFirstOfNumber 1 = .ok (.invokestatic 53, 3) := by decide +kernel
theorem dX3_takesFirstOfNumber_4 : decode cX3_takesFirstOfNumber 4 = .ok (.ifCond .ne 5, 3) := by decide +kernel
theorem dX3_takesFirstOfNumber_7 : decode cX3_takesFirstOfNumber 7 = .ok (.iconst 0, 1) := by decide +kernel
theorem dX3_takesFirstOfNumber_8 : decode cX3_takesFirstOfNumber 8 = .ok (.ireturn, 1) := by decide +kernel
theorem dX3_takesFirstOfNumber_9 : decode cX3_takesFirstOfNumber 9 = .ok (.aload_n 0, 1) := by decide +kernel
theorem dX3_takesFirstOfNumber_10 : decode cX3_takesFirstOfNumber 10 = .ok (.iload_n 1, 1) := by decide +kernel
theorem dX3_takesFirstOfNumber_11 : decode cX3_takesFirstOfNumber 11 = .ok (.bipush 48, 2) := by decide +kernel
theorem dX3_takesFirstOfNumber_13 : decode cX3_takesFirstOfNumber 13 = .ok (.isub, 1) := by decide +kernel
theorem dX3_takesFirstOfNumber_14 : decode cX3_takesFirstOfNumber 14 = .ok (.putfield 24, 3) := by decide +kernel
theorem dX3_takesFirstOfNumber_17 : decode cX3_takesFirstOfNumber 17 = .ok (.aload_n 0, 1) := by decide +kernel
theorem dX3_takesFirstOfNumber_18 : decode cX3_takesFirstOfNumber 18 = .ok (.bipush 6, 2) := by decide +kernel
theorem dX3_takesFirstOfNumber_20 : decode cX3_takesFirstOfNumber 20 = .ok (.putfield 11, 3) := by decide +kernel
theorem dX3_takesFirstOfNumber_23 : decode cX3_takesFirstOfNumber 23 = .ok (.iconst 1, 1) := by decide +kernel
theorem dX3_takesFirstOfNumber_24 : decode cX3_takesFirstOfNumber 24 = .ok (.ireturn, 1) := by decide +kernel
theorem dX3_takesInNumber_0 : decode cX3_takesInNumber 0 = .ok (.iload_n 1, 1) := by decide +kernel
theorem dX3_takesInNumber_1 : decode cX3_takesInNumber 1 = .ok (.bipush 59, 2) := by decide +kernel
theorem dX3_takesInNumber_3 : decode cX3_takesInNumber 3 = .ok (.if_icmp .ne 10, 3) := by decide +kernel
theorem dX3_takesInNumber_6 : decode cX3_takesInNumber 6 = .ok (.aload_n 0, 1) := by decide +kernel
theorem dX3_takesInNumber_7 : decode cX3_takesInNumber 7 = .ok (.iconst 0, 1) := by decide +kernel
theorem dX3_takesInNumber_8 : decode cX3_takesInNumber 8 = .ok (.putfield 11, 3) := by decide +kernel
theorem dX3_takesInNumber_11 : decode cX3_takesInNumber 11 = .ok (.iconst 1, 1) := by decide +kernel
theorem dX3_takesInNumber_12 : decode cX3_takesInNumber 12 = .ok (.ireturn, 1) := by decide +kernel
theorem dX3_takesInNumber_13 : decode cX3_takesInNumber 13 = .ok (.iload_n 1, 1) := by decide +kernel
theorem dX3_takesInNumber_14 : decode cX3_takesInNumber 14 = .ok (.invokestatic 53, 3) := by decide +kernel
theorem dX3_takesInNumber_17 : decode cX3_takesInNumber 17 = .ok (.ifCond .eq 28, 3) := by decide +kernel
theorem dX3_takesInNumber_20 : decode cX3_takesInNumber 20 = .ok (.aload_n 0, 1) := by decide +kernel
theorem dX3_takesInNumber_21 : decode cX3_takesInNumber 21 = .ok (.getfield 24, 3) := by decide +kernel
theorem dX3_takesInNumber_24 : decode cX3_takesInNumber 24 = .ok (.ifCond .eq 21, 3) := by decide +kernel
theorem dX3_takesInNumber_27 : decode cX3_takesInNumber 27 = .ok (.aload_n 0, 1) := by decide +kernel
theorem dX3_takesInNumber_28 : decode cX3_takesInNumber 28 = .ok (.getfield 24, 3) := by decide +kernel
theorem dX3_takesInNumber_31 : decode cX3_takesInNumber 31 = .ok (.bipush 10, 2) := by decide +kernel
theorem dX3_takesInNumber_33 : decode cX3_takesInNumber 33 = .ok (.imul, 1) := by decide +kernel
theorem dX3_takesInNumber_34 : decode cX3_takesInNumber 34 = .ok (.iload_n 1, 1) := by decide +kernel
theorem dX3_takesInNumber_35 : decode cX3_takesInNumber 35 = .ok (.bipush 48, 2) := by decide +kernel
theorem dX3_takesInNumber_37 : decode cX3_takesInNumber 37 = .ok (.isub, 1) := by decide +kernel
theorem dX3_takesInNumber_38 : decode cX3_takesInNumber 38 = .ok (.iadd, 1) := by decide +kernel
theorem dX3_takesInNumber_39 : decode cX3_takesInNumber 39 = .ok (.sipush 200, 3) := by decide +kernel
theorem dX3_takesInNumber_42 : decode cX3_takesInNumber 42 = .ok (.if_icmp .le 5, 3) := by decide +kernel
theorem dX3_takesInNumber_45 : decode cX3_takesInNumber 45 = .ok (.iconst 0, 1) := by decide +kernel
theorem dX3_takesInNumber_46 : decode cX3_takesInNumber 46 = .ok (.ireturn, 1) := by decide +kernel
theorem dX3_takesInNumber_47 : decode cX3_takesInNumber 47 = .ok (.aload_n 0, 1) := by decide +kernel
theorem dX3_takesInNumber_48 : decode cX3_takesInNumber 48 = .ok (.aload_n 0, 1) := by decide +kernel
theorem dX3_takesInNumber_49 : decode cX3_takesInNumber 49 = .ok (.getfield 24, 3) := by decide +kernel
theorem dX3_takesInNumber_52 : decode cX3_takesInNumber 52 = .ok (.bipush 10, 2) := by decide +kernel
theorem dX3_takesInNumber_54 : decode cX3_takesInNumber 54 = .ok (.imul, 1) := by decide +kernel
theorem dX3_takesInNumber_55 : decode cX3_takesInNumber 55 = .ok (.iload_n 1, 1) := by decide +kernel
theorem dX3_takesInNumber_56 : decode cX3_takesInNumber 56 = .ok (.bipush 48, 2) := by decide +kernel
theorem dX3_takesInNumber_58 : decode cX3_takesInNumber 58 = .ok (.isub, 1) := by decide +kernel
theorem dX3_takesInNumber_59 : decode cX3_takesInNumber 59 = .ok (.iadd, 1) := by decide +kernel
theorem dX3_takesInNumber_60 : decode cX3_takesInNumber 60 = .ok (.putfield 24, 3) := by decide +kernel
theorem dX3_takesInNumber_63 : decode cX3_takesInNumber 63 = .ok (.iconst 1, 1) := by decide +kernel
theorem dX3_takesInNumber_64 : decode cX3_takesInNumber 64 = .ok (.ireturn, 1) := by decide +kernel
theorem dX4_init_0 : decode cX4_init 0 = .ok (.aload_n 0, 1) := by decide +kernel
theorem dX4_init_1 : decode cX4_init 1 = .ok (.invokespecial 3, 3) := by decide +kernel
theorem dX4_init_4 : decode cX4_init 4 = .ok (.aload_n 0, 1) := by decide +kernel
theorem dX4_init_5 : decode cX4_init 5 = .ok (.new 9, 3) := by decide +kernel
theorem dX4_init_8 : decode cX4_init 8 = .ok (.dup, 1) := by decide +kernel
theorem dX4_init_9 : decode cX4_init 9 = .ok (.invokespecial 11, 3) := by decide +kernel
theorem dX4_init_12 : decode cX4_init 12 = .ok (.putfield 12, 3) := by decide +kernel
theorem dX4_init_15 : decode cX4_init 15 = .ok (.aload_n 0, 1) := by decide +kernel
theorem dX4_init_16 : decode cX4_init 16 = .ok (.iconst 2, 1) := by decide +kernel
theorem dX4_init_17 : decode cX4_init 17 = .ok (.anewarray 9, 3) := by decide +kernel
theorem dX4_init_20 : decode cX4_init 20 = .ok (.putfield 16, 3) := by decide +kernel
theorem dX4_init_23 : decode cX4_init 23 = .ok (.iconst 0, 1) := by decide +kernel
theorem dX4_init_24 : decode cX4_init 24 = .ok (.istore_n 1, 1) := by decide +kernel
theorem dX4_init_25 : decode cX4_init 25 = .ok (.iload_n 1, 1) := by decide +kernel
theorem dX4_init_26 : decode cX4_init 26 = .ok (.iconst 2, 1) := by decide +kernel
theorem dX4_init_27 : decode cX4_init 27 = .ok (.if_icmp .ge 22, 3) := by decide +kernel
theorem dX4_init_30 : decode cX4_init 30 = .ok (.aload_n 0, 1) := by decide +kernel
theorem dX4_init_31 : decode cX4_init 31 = .ok (.getfield 16, 3) := by decide +kernel
theorem dX4_init_34 : decode cX4_init 34 = .ok (.iload_n 1, 1) := by decide +kernel
theorem dX4_init_35 : decode cX4_init 35 = .ok (.new 9, 3) := by decide +kernel
theorem dX4_init_38 : decode cX4_init 38 = .ok (.dup, 1) := by decide +kernel
theorem dX4_init_39 : decode cX4_init 39 = .ok (.invokespecial 11, 3) := by decide +kernel
theorem dX4_init_42 : decode cX4_init 42 = .ok (.aastore, 1) := by decide +kernel
theorem dX4_init_43 : decode cX4_init 43 = .ok (.iinc 1 1, 3) := by decide +kernel
theorem dX4_init_46 : decode cX4_init 46 = .ok (.goto (-21), 3) := by decide +kernel
theorem dX4_init_49 : decode cX4_init 49 = .ok (.aload_n 0, 1) := by decide +kernel
theorem dX4_init_50 : decode cX4_init 50 = .ok (.iconst 2, 1) := by decide +kernel
theorem dX4_init_51 : decode cX4_init 51 = .ok (.newarray .boolean, 2) := by decide +kernel
theorem dX4_init_53 : decode cX4_init 53 = .ok (.putfield 20, 3) := by decide +kernel
theorem dX4_init_56 : decode cX4_init 56 = .ok (.aload_n 0, 1) := by decide +kernel
theorem dX4_init_57 : decode cX4_init 57 = .ok (.new 24, 3) := by decide +kernel
theorem dX4_init_60 : decode cX4_init 60 = .ok (.dup, 1) := by decide +kernel
theorem dX4_init_61 : decode cX4_init 61 = .ok (.invokespecial 26, 3) := by decide +kernel
theorem dX4_init_64 : decode cX4_init 64 = .ok (.putfield 27, 3) := by decide +kernel
theorem dX4_init_67 : decode cX4_init 67 = .ok (.aload_n 0, 1) := by decide +kernel
theorem dX4_init_68 : decode cX4_init 68 = .ok (.new 31, 3) := by decide +kernel
theorem dX4_init_71 : decode cX4_init 71 = .ok (.dup, 1) := by decide +kernel
theorem dX4_init_72 : decode cX4_init 72 = .ok (.invokespecial 33, 3) := by decide +kernel
theorem dX4_init_75 : decode cX4_init 75 = .ok (.putfield 34, 3) := by decide +kernel
theorem dX4_init_78 : decode cX4_init 78 = .ok (.aload_n 0, 1) := by decide +kernel
theorem dX4_init_79 : decode cX4_init 79 = .ok (.new 38, 3) := by decide +kernel
theorem dX4_init_82 : decode cX4_init 82 = .ok (.dup, 1) := by decide +kernel
theorem dX4_init_83 : decode cX4_init 83 = .ok (.invokespecial 40, 3) := by decide +kernel
theorem dX4_init_86 : decode cX4_init 86 = .ok (.putfield 41, 3) := by decide +kernel
theorem dX4_init_89 : decode cX4_init 89 = .ok (.aload_n 0, 1) := by decide +kernel
theorem dX4_init_90 : decode cX4_init 90 = .ok (.bipush 60, 2) := by decide +kernel
theorem dX4_init_92 : decode cX4_init 92 = .ok (.newarray .char, 2) := by decide +kernel
theorem dX4_init_94 : decode cX4_init 94 = .ok (.putfield 45, 3) := by decide +kernel
theorem dX4_init_97 : decode cX4_init 97 = .ok (.aload_n 0, 1) := by decide +kernel
theorem dX4_init_98 : decode cX4_init 98 = .ok (.iconst 0, 1) := by decide +kernel
theorem dX4_init_99 : decode cX4_init 99 = .ok (.putfield 49, 3) := by decide +kernel
theorem dX4_init_102 : decode cX4_init 102 = .ok (.return_, 1) := by decide +kernel
theorem dX4_bend_0 : decode cX4_bend 0 = .ok (.iload_n 1, 1) := by decide +kernel
theorem dX4_bend_1 : decode cX4_bend 1 = .ok (.bipush 16, 2) := by decide +kernel
theorem dX4_bend_3 : decode cX4_bend 3 = .ok (.invokestatic 53, 3) := by decide +kernel
theorem dX4_bend_6 : decode cX4_bend 6 = .ok (.iload_n 2, 1) := by decide +kernel
theorem dX4_bend_7 : decode cX4_bend 7 = .ok (.iconst 2, 1) := by decide +kernel
theorem dX4_bend_8 : decode cX4_bend 8 = .ok (.invokestatic 53, 3) := by decide +kernel
theorem dX4_bend_11 : decode cX4_bend 11 = .ok (.iload_n 3, 1) := by decide +kernel
theorem dX4_bend_12 : decode cX4_bend 12 = .ok (.bipush (-99), 2) := by decide +kernel
theorem dX4_bend_14 : decode cX4_bend 14 = .ok (.bipush 99, 2) := by decide +kernel
theorem dX4_bend_16 : decode cX4_bend 16 = .ok (.invokestatic 57, 3) := by decide +kernel
theorem dX4_bend_19 : decode cX4_bend 19 = .ok (.aload_n 0, 1) := by decide +kernel
theorem dX4_bend_20 : decode cX4_bend 20 = .ok (.invokevirtual 61, 3) := by decide +kernel
theorem dX4_bend_23 : decode cX4_bend 23 = .ok (.aload_n 0, 1) := by decide +kernel
theorem dX4_bend_24 : decode cX4_bend 24 = .ok (.getfield 12, 3) := by decide +kernel
theorem dX4_bend_27 : decode cX4_bend 27 = .ok (.getfield 64, 3) := by decide +kernel
theorem dX4_bend_30 : decode cX4_bend 30 = .ok (.iload_n 1, 1) := by decide +kernel
theorem dX4_bend_31 : decode cX4_bend 31 = .ok (.iconst 2, 1) := by decide +kernel
theorem dX4_bend_32 : decode cX4_bend 32 = .ok (.imul, 1) := by decide +kernel
theorem dX4_bend_33 : decode cX4_bend 33 = .ok (.iload_n 2, 1) := by decide +kernel
theorem dX4_bend_34 : decode cX4_bend 34 = .ok (.iadd, 1) := by decide +kernel
theorem dX4_bend_35 : decode cX4_bend 35 = .ok (.iaload, 1) := by decide +kernel
theorem dX4_bend_36 : decode cX4_bend 36 = .ok (.istore 4, 2) := by decide +kernel
theorem dX4_bend_38 : decode cX4_bend 38 = .ok (.aload_n 0, 1) := by decide +kernel
theorem dX4_bend_39 : decode cX4_bend 39 = .ok (.getfield 12, 3) := by decide +kernel
theorem dX4_bend_42 : decode cX4_bend 42 = .ok (.getfield 64, 3) := by decide +kernel
theorem dX4_bend_45 : decode cX4_bend 45 = .ok (.iload_n 1, 1) := by decide +kernel
theorem dX4_bend_46 : decode cX4_bend 46 = .ok (.iconst 2, 1) := by decide +kernel
theorem dX4_bend_47 : decode cX4_bend 47 = .ok (.imul, 1) := by decide +kernel
theorem dX4_bend_48 : decode cX4_bend 48 = .ok (.iload_n 2, 1) := by decide +kernel
theorem dX4_bend_49 : decode cX4_bend 49 = .ok (.iadd, 1) := by decide +kernel
theorem dX4_bend_50 : decode cX4_bend 50 = .ok (.iload_n 3, 1) := by decide +kernel
theorem dX4_bend_51 : decode cX4_bend 51 = .ok (.iastore, 1) := by decide +kernel
theorem dX4_bend_52 : decode cX4_bend 52 = .ok (.iload 4, 2) := by decide +kernel
theorem dX4_bend_54 : decode cX4_bend 54 = .ok (.ireturn, 1) := by decide +kernel
theorem dX4_slide_0 : decode cX4_slide 0 = .ok (.iload_n 1, 1) := by decide +kernel
theorem dX4_slide_1 : decode cX4_slide 1 = .ok (.bipush 16, 2) := by decide +kernel
theorem dX4_slide_3 : decode cX4_slide 3 = .ok (.invokestatic 53, 3) := by decide +kernel
theorem dX4_slide_6 : decode cX4_slide 6 = .ok (.iload_n 2, 1) := by decide +kernel
theorem dX4_slide_7 : decode cX4_slide 7 = .ok (.iconst 2, 1) := by decide +kernel
theorem dX4_slide_8 : decode cX4_slide 8 = .ok (.invokestatic 53, 3) := by decide +kernel
theorem dX4_slide_11 : decode cX4_slide 11 = .ok (.iload_n 3, 1) := by decide +kernel
theorem dX4_slide_12 : decode cX4_slide 12 = .ok (.bipush (-99), 2) := by decide +kernel
theorem dX4_slide_14 : decode cX4_slide 14 = .ok (.bipush 99, 2) := by decide +kernel
theorem dX4_slide_16 : decode cX4_slide 16 = .ok (.invokestatic 57, 3) := by decide +kernel
theorem dX4_slide_19 : decode cX4_slide 19 = .ok (.aload_n 0, 1) := by decide +kernel
theorem dX4_slide_20 : decode cX4_slide 20 = .ok (.invokevirtual 61, 3) := by decide +kernel
theorem dX4_slide_23 : decode cX4_slide 23 = .ok (.aload_n 0, 1) := by decide +kernel
theorem dX4_slide_24 : decode cX4_slide 24 = .ok (.getfield 12, 3) := by decide +kernel
theorem dX4_slide_27 : decode cX4_slide 27 = .ok (.getfield 64, 3) := by decide +kernel
theorem dX4_slide_30 : decode cX4_slide 30 = .ok (.iload_n 1, 1) := by decide +kernel
theorem dX4_slide_31 : decode cX4_slide 31 = .ok (.iconst 2, 1) := by decide +kernel
theorem dX4_slide_32 : decode cX4_slide 32 = .ok (.imul, 1) := by decide +kernel
theorem dX4_slide_33 : decode cX4_slide 33 = .ok (.iload_n 2, 1) := by decide +kernel
theorem dX4_slide_34 : decode cX4_slide 34 = .ok (.iadd, 1) := by decide +kernel
theorem dX4_slide_35 : decode cX4_slide 35 = .ok (.iaload, 1) := by decide +kernel
theorem dX4_slide_36 : decode cX4_slide 36 = .ok (.iload_n 3, 1) := by decide +kernel
theorem dX4_slide_37 : decode cX4_slide 37 = .ok (.iadd, 1) := by decide +kernel
theorem dX4_slide_38 : decode cX4_slide 38 = .ok (.istore 4, 2) := by decide +kernel
theorem dX4_slide_40 : decode cX4_slide 40 = .ok (.bipush (-99), 2) := by decide +kernel
theorem dX4_slide_42 : decode cX4_slide 42 = .ok (.bipush 99, 2) := by decide +kernel
theorem dX4_slide_44 : decode cX4_slide 44 = .ok (.iload 4, 2) := by decide +kernel
theorem dX4_slide_46 : decode cX4_slide 46 = .ok (.invokestatic 68, 3) := by decide +kernel
theorem dX4_slide_49 : decode cX4_slide 49 = .ok (.invokestatic 74, 3) := by decide +kernel
theorem dX4_slide_52 : decode cX4_slide 52 = .ok (.istore 5, 2) := by decide +kernel
theorem dX4_slide_54 : decode cX4_slide 54 = .ok (.aload_n 0, 1) := by decide +kernel
theorem dX4_slide_55 : decode cX4_slide 55 = .ok (.getfield 12, 3) := by decide +kernel
theorem dX4_slide_58 : decode cX4_slide 58 = .ok (.getfield 64, 3) := by decide +kernel
theorem dX4_slide_61 : decode cX4_slide 61 = .ok (.iload_n 1, 1) := by decide +kernel
theorem dX4_slide_62 : decode cX4_slide 62 = .ok (.iconst 2, 1) := by decide +kernel
theorem dX4_slide_63 : decode cX4_slide 63 = .ok (.imul, 1) := by decide +kernel
theorem dX4_slide_64 : decode cX4_slide 64 = .ok (.iload_n 2, 1) := by decide +kernel
theorem dX4_slide_65 : decode cX4_slide 65 = .ok (.iadd, 1) := by decide +kernel
theorem dX4_slide_66 : decode cX4_slide 66 = .ok (.iload 5, 2) := by decide +kernel
theorem dX4_slide_68 : decode cX4_slide 68 = .ok (.iastore, 1) := by decide +kernel
theorem dX4_slide_69 : decode cX4_slide 69 = .ok (.iload 5, 2) := by decide +kernel
theorem dX4_slide_71 : decode cX4_slide 71 = .ok (.ireturn, 1) := by decide +kernel
theorem dX4_turn_0 : decode cX4_turn 0 = .ok (.iload_n 1, 1) := by decide +kernel
theorem dX4_turn_1 : decode cX4_turn 1 = .ok (.bipush 16, 2) := by decide +kernel
theorem dX4_turn_3 : decode cX4_turn 3 = .ok (.invokestatic 53, 3) := by decide +kernel
theorem dX4_turn_6 : decode cX4_turn 6 = .ok (.iload_n 2, 1) := by decide +kernel
theorem dX4_turn_7 : decode cX4_turn 7 = .ok (.iconst 0, 1) := by decide +kernel
theorem dX4_turn_8 : decode cX4_turn 8 = .ok (.iconst 3, 1) := by decide +kernel
theorem dX4_turn_9 : decode cX4_turn 9 = .ok (.invokestatic 57, 3) := by decide +kernel
theorem dX4_turn_12 : decode cX4_turn 12 = .ok (.aload_n 0, 1) := by decide +kernel
theorem dX4_turn_13 : decode cX4_turn 13 = .ok (.invokevirtual 61, 3) := by decide +kernel
theorem dX4_turn_16 : decode cX4_turn 16 = .ok (.aload_n 0, 1) := by decide +kernel
theorem dX4_turn_17 : decode cX4_turn 17 = .ok (.getfield 12, 3) := by decide +kernel
theorem dX4_turn_20 : decode cX4_turn 20 = .ok (.getfield 77, 3) := by decide +kernel
theorem dX4_turn_23 : decode cX4_turn 23 = .ok (.iload_n 1, 1) := by decide +kernel
theorem dX4_turn_24 : decode cX4_turn 24 = .ok (.iaload, 1) := by decide +kernel
theorem dX4_turn_25 : decode cX4_turn 25 = .ok (.istore_n 3, 1) := by decide +kernel
theorem dX4_turn_26 : decode cX4_turn 26 = .ok (.aload_n 0, 1) := by decide +kernel
theorem dX4_turn_27 : decode cX4_turn 27 = .ok (.getfield 12, 3) := by decide +kernel
theorem dX4_turn_30 : decode cX4_turn 30 = .ok (.getfield 77, 3) := by decide +kernel
theorem dX4_turn_33 : decode cX4_turn 33 = .ok (.iload_n 1, 1) := by decide +kernel
theorem dX4_turn_34 : decode cX4_turn 34 = .ok (.iload_n 2, 1) := by decide +kernel
theorem dX4_turn_35 : decode cX4_turn 35 = .ok (.iastore, 1) := by decide +kernel
theorem dX4_turn_36 : decode cX4_turn 36 = .ok (.iload_n 3, 1) := by decide +kernel
theorem dX4_turn_37 : decode cX4_turn 37 = .ok (.ireturn, 1) := by decide +kernel
theorem dX4_bias_0 : decode cX4_bias 0 = .ok (.iload_n 1, 1) := by decide +kernel
theorem dX4_bias_1 : decode cX4_bias 1 = .ok (.iconst 2, 1) := by decide +kernel
theorem dX4_bias_2 : decode cX4_bias 2 = .ok (.invokestatic 53, 3) := by decide +kernel
theorem dX4_bias_5 : decode cX4_bias 5 = .ok (.iload_n 2, 1) := by decide +kernel
theorem dX4_bias_6 : decode cX4_bias 6 = .ok (.bipush (-50), 2) := by decide +kernel
theorem dX4_bias_8 : decode cX4_bias 8 = .ok (.bipush 50, 2) := by decide +kernel
theorem dX4_bias_10 : decode cX4_bias 10 = .ok (.invokestatic 57, 3) := by decide +kernel
theorem dX4_bias_13 : decode cX4_bias 13 = .ok (.aload_n 0, 1) := by decide +kernel
theorem dX4_bias_14 : decode cX4_bias 14 = .ok (.invokevirtual 61, 3) := by decide +kernel
theorem dX4_bias_17 : decode cX4_bias 17 = .ok (.aload_n 0, 1) := by decide +kernel
theorem dX4_bias_18 : decode cX4_bias 18 = .ok (.getfield 12, 3) := by decide +kernel
theorem dX4_bias_21 : decode cX4_bias 21 = .ok (.getfield 80, 3) := by decide +kernel
theorem dX4_bias_24 : decode cX4_bias 24 = .ok (.iload_n 1, 1) := by decide +kernel
theorem dX4_bias_25 : decode cX4_bias 25 = .ok (.iaload, 1) := by decide +kernel
theorem dX4_bias_26 : decode cX4_bias 26 = .ok (.istore_n 3, 1) := by decide +kernel
theorem dX4_bias_27 : decode cX4_bias 27 = .ok (.aload_n 0, 1) := by decide +kernel
theorem dX4_bias_28 : decode cX4_bias 28 = .ok (.getfield 12, 3) := by decide +kernel
theorem dX4_bias_31 : decode cX4_bias 31 = .ok (.getfield 80, 3) := by decide +kernel
theorem dX4_bias_34 : decode cX4_bias 34 = .ok (.iload_n 1, 1) := by decide +kernel
theorem dX4_bias_35 : decode cX4_bias 35 = .ok (.iload_n 2, 1) := by decide +kernel
theorem dX4_bias_36 : decode cX4_bias 36 = .ok (.iastore, 1) := by decide +kernel
theorem dX4_bias_37 : decode cX4_bias 37 = .ok (.iload_n 3, 1) := by decide +kernel
theorem dX4_bias_38 : decode cX4_bias 38 = .ok (.ireturn, 1) := by decide +kernel
theorem dX4_set_0 : decode cX4_set 0 = .ok (.iload_n 1, 1) := by decide +kernel
theorem dX4_set_1 : decode cX4_set 1 = .ok (.iconst 3, 1) := by decide +kernel
theorem dX4_set_2 : decode cX4_set 2 = .ok (.invokestatic 53, 3) := by decide +kernel
theorem dX4_set_5 : decode cX4_set 5 = .ok (.iload_n 2, 1) := by decide +kernel
theorem dX4_set_6 : decode cX4_set 6 = .ok (.iconst 0, 1) := by decide +kernel
theorem dX4_set_7 : decode cX4_set 7 = .ok (.iload_n 1, 1) := by decide +kernel
theorem dX4_set_8 : decode cX4_set 8 = .ok (.ifCond .ne 8, 3) := by decide +kernel
theorem dX4_set_11 : decode cX4_set 11 = .ok (.bipush 99, 2) := by decide +kernel
theorem dX4_set_13 : decode cX4_set 13 = .ok (.goto 4, 3) := by decide +kernel
theorem dX4_set_16 : decode cX4_set 16 = .ok (.iconst 1, 1) := by decide +kernel
theorem dX4_set_17 : decode cX4_set 17 = .ok (.invokestatic 57, 3) := by decide +kernel
theorem dX4_set_20 : decode cX4_set 20 = .ok (.aload_n 0, 1) := by decide +kernel
theorem dX4_set_21 : decode cX4_set 21 = .ok (.invokevirtual 61, 3) := by decide +kernel
theorem dX4_set_24 : decode cX4_set 24 = .ok (.aload_n 0, 1) := by decide +kernel
theorem dX4_set_25 : decode cX4_set 25 = .ok (.getfield 12, 3) := by decide +kernel
theorem dX4_set_28 : decode cX4_set 28 = .ok (.getfield 83, 3) := by decide +kernel
theorem dX4_set_31 : decode cX4_set 31 = .ok (.iload_n 1, 1) := by decide +kernel
theorem dX4_set_32 : decode cX4_set 32 = .ok (.iaload, 1) := by decide +kernel
theorem dX4_set_33 : decode cX4_set 33 = .ok (.istore_n 3, 1) := by decide +kernel
theorem dX4_set_34 : decode cX4_set 34 = .ok (.aload_n 0, 1) := by decide +kernel
theorem dX4_set_35 : decode cX4_set 35 = .ok (.getfield 12, 3) := by decide +kernel
theorem dX4_set_38 : decode cX4_set 38 = .ok (.getfield 83, 3) := by decide +kernel
theorem dX4_set_41 : decode cX4_set 41 = .ok (.iload_n 1, 1) := by decide +kernel
theorem dX4_set_42 : decode cX4_set 42 = .ok (.iload_n 2, 1) := by decide +kernel
theorem dX4_set_43 : decode cX4_set 43 = .ok (.iastore, 1) := by decide +kernel
theorem dX4_set_44 : decode cX4_set 44 = .ok (.iload_n 3, 1) := by decide +kernel
theorem dX4_set_45 : decode cX4_set 45 = .ok (.ireturn, 1) := by decide +kernel
theorem dX4_pass_0 : decode cX4_pass 0 = .ok (.iload_n 1, 1) := by decide +kernel
theorem dX4_pass_1 : decode cX4_pass 1 = .ok (.iconst 1, 1) := by decide +kernel
theorem dX4_pass_2 : decode cX4_pass 2 = .ok (.bipush 99, 2) := by decide +kernel
theorem dX4_pass_4 : decode cX4_pass 4 = .ok (.invokestatic 57, 3) := by decide +kernel
theorem dX4_pass_7 : decode cX4_pass 7 = .ok (.aload_n 0, 1) := by decide +kernel
theorem dX4_pass_8 : decode cX4_pass 8 = .ok (.getfield 12, 3) := by decide +kernel
theorem dX4_pass_11 : decode cX4_pass 11 = .ok (.getfield 86, 3) := by decide +kernel
theorem dX4_pass_14 : decode cX4_pass 14 = .ok (.iload_n 1, 1) := by decide +kernel
theorem dX4_pass_15 : decode cX4_pass 15 = .ok (.iadd, 1) := by decide +kernel
theorem dX4_pass_16 : decode cX4_pass 16 = .ok (.sipush 9999, 3) := by decide +kernel
theorem dX4_pass_19 : decode cX4_pass 19 = .ok (.if_icmp .gt 7, 3) := by decide +kernel
theorem dX4_pass_22 : decode cX4_pass 22 = .ok (.iconst 1, 1) := by decide +kernel
theorem dX4_pass_23 : decode cX4_pass 23 = .ok (.goto 4, 3) := by decide +kernel
theorem dX4_pass_26 : decode cX4_pass 26 = .ok (.iconst 0, 1) := by decide +kernel
theorem dX4_pass_27 : decode cX4_pass 27 = .ok (.invokestatic 89, 3) := by decide +kernel
theorem dX4_pass_30 : decode cX4_pass 30 = .ok (.aload_n 0, 1) := by decide +kernel
theorem dX4_pass_31 : decode cX4_pass 31 = .ok (.invokevirtual 61, 3) := by decide +kernel
theorem dX4_pass_34 : decode cX4_pass 34 = .ok (.aload_n 0, 1) := by decide +kernel
theorem dX4_pass_35 : decode cX4_pass 35 = .ok (.getfield 12, 3) := by decide +kernel
theorem dX4_pass_38 : decode cX4_pass 38 = .ok (.dup, 1) := by decide +kernel
theorem dX4_pass_39 : decode cX4_pass 39 = .ok (.getfield 86, 3) := by decide +kernel
theorem dX4_pass_42 : decode cX4_pass 42 = .ok (.iload_n 1, 1) := by decide +kernel
theorem dX4_pass_43 : decode cX4_pass 43 = .ok (.iadd, 1) := by decide +kernel
theorem dX4_pass_44 : decode cX4_pass 44 = .ok (.putfield 86, 3) := by decide +kernel
theorem dX4_pass_47 : decode cX4_pass 47 = .ok (.aload_n 0, 1) := by decide +kernel
theorem dX4_pass_48 : decode cX4_pass 48 = .ok (.getfield 12, 3) := by decide +kernel
theorem dX4_pass_51 : decode cX4_pass 51 = .ok (.getfield 86, 3) := by decide +kernel
theorem dX4_pass_54 : decode cX4_pass 54 = .ok (.ireturn, 1) := by decide +kernel
theorem dX4_survey_0 : decode cX4_survey 0 = .ok (.aload_n 0, 1) := by decide +kernel
theorem dX4_survey_1 : decode cX4_survey 1 = .ok (.getfield 12, 3) := by decide +kernel
theorem dX4_survey_4 : decode cX4_survey 4 = .ok (.getfield 93, 3) := by decide +kernel
theorem dX4_survey_7 : decode cX4_survey 7 = .ok (.bipush 6, 2) := by decide +kernel
theorem dX4_survey_9 : decode cX4_survey 9 = .ok (.if_icmp .ge 7, 3) := by decide +kernel
theorem dX4_survey_12 : decode cX4_survey 12 = .ok (.iconst 1, 1) := by decide +kernel
theorem dX4_survey_13 : decode cX4_survey 13 = .ok (.goto 4, 3) := by decide +kernel
theorem dX4_survey_16 : decode cX4_survey 16 = .ok (.iconst 0, 1) := by decide +kernel
theorem dX4_survey_17 : decode cX4_survey 17 = .ok (.invokestatic 89, 3) := by decide +kernel
theorem dX4_survey_20 : decode cX4_survey 20 = .ok (.aload_n 0, 1) := by decide +kernel
theorem dX4_survey_21 : decode cX4_survey 21 = .ok (.invokevirtual 61, 3) := by decide +kernel
theorem dX4_survey_24 : decode cX4_survey 24 = .ok (.aload_n 0, 1) := by decide +kernel
theorem dX4_survey_25 : decode cX4_survey 25 = .ok (.getfield 12, 3) := by decide +kernel
theorem dX4_survey_28 : decode cX4_survey 28 = .ok (.getfield 93, 3) := by decide +kernel
theorem dX4_survey_31 : decode cX4_survey 31 = .ok (.istore_n 1, 1) := by decide +kernel
theorem dX4_survey_32 : decode cX4_survey 32 = .ok (.iconst 0, 1) := by decide +kernel
theorem dX4_survey_33 : decode cX4_survey 33 = .ok (.istore_n 2, 1) := by decide +kernel
theorem dX4_survey_34 : decode cX4_survey 34 = .ok (.iload_n 2, 1) := by decide +kernel
theorem dX4_survey_35 : decode cX4_survey 35 = .ok (.bipush 16, 2) := by decide +kernel
theorem dX4_survey_37 : decode cX4_survey 37 = .ok (.if_icmp .ge 61, 3) := by decide +kernel
theorem dX4_survey_40 : decode cX4_survey 40 = .ok (.iconst 0, 1) := by decide +kernel
theorem dX4_survey_41 : decode cX4_survey 41 = .ok (.istore_n 3, 1) := by decide +kernel
theorem dX4_survey_42 : decode cX4_survey 42 = .ok (.iload_n 3, 1) := by decide +kernel
theorem dX4_survey_43 : decode cX4_survey 43 = .ok (.iconst 2, 1) := by decide +kernel
theorem dX4_survey_44 : decode cX4_survey 44 = .ok (.if_icmp .ge 48, 3) := by decide +kernel
theorem dX4_survey_47 : decode cX4_survey 47 = .ok (.iconst 0, 1) := by decide +kernel
theorem dX4_survey_48 : decode cX4_survey 48 = .ok (.istore 4, 2) := by decide +kernel
theorem dX4_survey_50 : decode cX4_survey 50 = .ok (.iload 4, 2) := by decide +kernel
theorem dX4_survey_52 : decode cX4_survey 52 = .ok (.iconst 2, 1) := by decide +kernel
theorem dX4_survey_53 : decode cX4_survey 53 = .ok (.if_icmp .ge 33, 3) := by decide +kernel
theorem dX4_survey_56 : decode cX4_survey 56 = .ok (.aload_n 0, 1) := by decide +kernel
theorem dX4_survey_57 : decode cX4_survey 57 = .ok (.getfield 12, 3) := by decide +kernel
theorem dX4_survey_60 : decode cX4_survey 60 = .ok (.getfield 96, 3) := by decide +kernel
theorem dX4_survey_63 : decode cX4_survey 63 = .ok (.iload_n 1, 1) := by decide +kernel
theorem dX4_survey_64 : decode cX4_survey 64 = .ok (.iload_n 2, 1) := by decide +kernel
theorem dX4_survey_65 : decode cX4_survey 65 = .ok (.iload_n 3, 1) := by decide +kernel
theorem dX4_survey_66 : decode cX4_survey 66 = .ok (.iload 4, 2) := by decide +kernel
theorem dX4_survey_68 : decode cX4_survey 68 = .ok (.invokestatic 99, 3) := by decide +kernel
theorem dX4_survey_71 : decode cX4_survey 71 = .ok (.aload_n 0, 1) := by decide +kernel
theorem dX4_survey_72 : decode cX4_survey 72 = .ok (.iload_n 2, 1) := by decide +kernel
theorem dX4_survey_73 : decode cX4_survey 73 = .ok (.iload_n 3, 1) := by decide +kernel
theorem dX4_survey_74 : decode cX4_survey 74 = .ok (.iload 4, 2) := by decide +kernel
theorem dX4_survey_76 : decode cX4_survey 76 = .ok (.invokevirtual 103, 3) := by decide +kernel
theorem dX4_survey_79 : decode cX4_survey 79 = .ok (.iastore, 1) := by decide +kernel
theorem dX4_survey_80 : decode cX4_survey 80 = .ok (.iinc 4 1, 3) := by decide +kernel
theorem dX4_survey_83 : decode cX4_survey 83 = .ok (.goto (-33), 3) := by decide +kernel
theorem dX4_survey_86 : decode cX4_survey 86 = .ok (.iinc 3 1, 3) := by decide +kernel
theorem dX4_survey_89 : decode cX4_survey 89 = .ok (.goto (-47), 3) := by decide +kernel
theorem dX4_survey_92 : decode cX4_survey 92 = .ok (.iinc 2 1, 3) := by decide +kernel
theorem dX4_survey_95 : decode cX4_survey 95 = .ok (.goto (-61), 3) := by decide +kernel
theorem dX4_survey_98 : decode cX4_survey 98 = .ok (.aload_n 0, 1) := by decide +kernel
theorem dX4_survey_99 : decode cX4_survey 99 = .ok (.getfield 12, 3) := by decide +kernel
theorem dX4_survey_102 : decode cX4_survey 102 = .ok (.getfield 107, 3) := by decide +kernel
theorem dX4_survey_105 : decode cX4_survey 105 = .ok (.iload_n 1, 1) := by decide +kernel
theorem dX4_survey_106 : decode cX4_survey 106 = .ok (.aload_n 0, 1) := by decide +kernel
theorem dX4_survey_107 : decode cX4_survey 107 = .ok (.getfield 12, 3) := by decide +kernel
theorem dX4_survey_110 : decode cX4_survey 110 = .ok (.getfield 86, 3) := by decide +kernel
theorem dX4_survey_113 : decode cX4_survey 113 = .ok (.iastore, 1) := by decide +kernel
theorem dX4_survey_114 : decode cX4_survey 114 = .ok (.aload_n 0, 1) := by decide +kernel
theorem dX4_survey_115 : decode cX4_survey 115 = .ok (.getfield 12, 3) := by decide +kernel
theorem dX4_survey_118 : decode cX4_survey 118 = .ok (.dup, 1) := by decide +kernel
theorem dX4_survey_119 : decode cX4_survey 119 = .ok (.getfield 93, 3) := by decide +kernel
theorem dX4_survey_122 : decode cX4_survey 122 = .ok (.iconst 1, 1) := by decide +kernel
theorem dX4_survey_123 : decode cX4_survey 123 = .ok (.iadd, 1) := by decide +kernel
theorem dX4_survey_124 : decode cX4_survey 124 = .ok (.putfield 93, 3) := by decide +kernel
theorem dX4_survey_127 : decode cX4_survey 127 = .ok (.aload_n 0, 1) := by decide +kernel
theorem dX4_survey_128 : decode cX4_survey 128 = .ok (.getfield 12, 3) := by decide +kernel
theorem dX4_survey_131 : decode cX4_survey 131 = .ok (.dup, 1) := by decide +kernel
theorem dX4_survey_132 : decode cX4_survey 132 = .ok (.getfield 110, 3) := by decide +kernel
theorem dX4_survey_135 : decode cX4_survey 135 = .ok (.iconst 1, 1) := by decide +kernel
theorem dX4_survey_136 : decode cX4_survey 136 = .ok (.iadd, 1) := by decide +kernel
theorem dX4_survey_137 : decode cX4_survey 137 = .ok (.putfield 110, 3) := by decide +kernel
theorem dX4_survey_140 : decode cX4_survey 140 = .ok (.iload_n 1, 1) := by decide +kernel
theorem dX4_survey_141 : decode cX4_survey 141 = .ok (.ireturn, 1) := by decide +kernel
theorem dX4_drop_0 : decode cX4_drop 0 = .ok (.aload_n 0, 1) := by decide +kernel
theorem dX4_drop_1 : decode cX4_drop 1 = .ok (.getfield 12, 3) := by decide +kernel
theorem dX4_drop_4 : decode cX4_drop 4 = .ok (.getfield 93, 3) := by decide +kernel
theorem dX4_drop_7 : decode cX4_drop 7 = .ok (.ifCond .le 7, 3) := by decide +kernel
theorem dX4_drop_10 : decode cX4_drop 10 = .ok (.iconst 1, 1) := by decide +kernel
theorem dX4_drop_11 : decode cX4_drop 11 = .ok (.goto 4, 3) := by decide +kernel
theorem dX4_drop_14 : decode cX4_drop 14 = .ok (.iconst 0, 1) := by decide +kernel
theorem dX4_drop_15 : decode cX4_drop 15 = .ok (.invokestatic 89, 3) := by decide +kernel
theorem dX4_drop_18 : decode cX4_drop 18 = .ok (.aload_n 0, 1) := by decide +kernel
theorem dX4_drop_19 : decode cX4_drop 19 = .ok (.invokevirtual 61, 3) := by decide +kernel
theorem dX4_drop_22 : decode cX4_drop 22 = .ok (.aload_n 0, 1) := by decide +kernel
theorem dX4_drop_23 : decode cX4_drop 23 = .ok (.getfield 12, 3) := by decide +kernel
theorem dX4_drop_26 : decode cX4_drop 26 = .ok (.dup, 1) := by decide +kernel
theorem dX4_drop_27 : decode cX4_drop 27 = .ok (.getfield 93, 3) := by decide +kernel
theorem dX4_drop_30 : decode cX4_drop 30 = .ok (.iconst 1, 1) := by decide +kernel
theorem dX4_drop_31 : decode cX4_drop 31 = .ok (.isub, 1) := by decide +kernel
theorem dX4_drop_32 : decode cX4_drop 32 = .ok (.putfield 93, 3) := by decide +kernel
theorem dX4_drop_35 : decode cX4_drop 35 = .ok (.aload_n 0, 1) := by decide +kernel
theorem dX4_drop_36 : decode cX4_drop 36 = .ok (.getfield 12, 3) := by decide +kernel
theorem dX4_drop_39 : decode cX4_drop 39 = .ok (.getfield 93, 3) := by decide +kernel
theorem dX4_drop_42 : decode cX4_drop 42 = .ok (.ireturn, 1) := by decide +kernel
theorem dX4_spoil_0 : decode cX4_spoil 0 = .ok (.iload_n 1, 1) := by decide +kernel
theorem dX4_spoil_1 : decode cX4_spoil 1 = .ok (.bipush 16, 2) := by decide +kernel
theorem dX4_spoil_3 : decode cX4_spoil 3 = .ok (.invokestatic 53, 3) := by decide +kernel
theorem dX4_spoil_6 : decode cX4_spoil 6 = .ok (.iload_n 2, 1) := by decide +kernel
theorem dX4_spoil_7 : decode cX4_spoil 7 = .ok (.iconst 2, 1) := by decide +kernel
theorem dX4_spoil_8 : decode cX4_spoil 8 = .ok (.invokestatic 53, 3) := by decide +kernel
theorem dX4_spoil_11 : decode cX4_spoil 11 = .ok (.iload_n 3, 1) := by decide +kernel
theorem dX4_spoil_12 : decode cX4_spoil 12 = .ok (.iconst 2, 1) := by decide +kernel
theorem dX4_spoil_13 : decode cX4_spoil 13 = .ok (.invokestatic 53, 3) := by decide +kernel
theorem dX4_spoil_16 : decode cX4_spoil 16 = .ok (.iload 4, 2) := by decide +kernel
theorem dX4_spoil_18 : decode cX4_spoil 18 = .ok (.bipush (-99), 2) := by decide +kernel
theorem dX4_spoil_20 : decode cX4_spoil 20 = .ok (.bipush 99, 2) := by decide +kernel
theorem dX4_spoil_22 : decode cX4_spoil 22 = .ok (.invokestatic 57, 3) := by decide +kernel
theorem dX4_spoil_25 : decode cX4_spoil 25 = .ok (.aload_n 0, 1) := by decide +kernel
theorem dX4_spoil_26 : decode cX4_spoil 26 = .ok (.getfield 12, 3) := by decide +kernel
theorem dX4_spoil_29 : decode cX4_spoil 29 = .ok (.getfield 93, 3) := by decide +kernel
theorem dX4_spoil_32 : decode cX4_spoil 32 = .ok (.ifCond .le 7, 3) := by decide +kernel
theorem dX4_spoil_35 : decode cX4_spoil 35 = .ok (.iconst 1, 1) := by decide +kernel
theorem dX4_spoil_36 : decode cX4_spoil 36 = .ok (.goto 4, 3) := by decide +kernel
theorem dX4_spoil_39 : decode cX4_spoil 39 = .ok (.iconst 0, 1) := by decide +kernel
theorem dX4_spoil_40 : decode cX4_spoil 40 = .ok (.invokestatic 89, 3) := by decide +kernel
theorem dX4_spoil_43 : decode cX4_spoil 43 = .ok (.aload_n 0, 1) := by decide +kernel
theorem dX4_spoil_44 : decode cX4_spoil 44 = .ok (.getfield 12, 3) := by decide +kernel
theorem dX4_spoil_47 : decode cX4_spoil 47 = .ok (.getfield 93, 3) := by decide +kernel
theorem dX4_spoil_50 : decode cX4_spoil 50 = .ok (.iconst 1, 1) := by decide +kernel
theorem dX4_spoil_51 : decode cX4_spoil 51 = .ok (.isub, 1) := by decide +kernel
theorem dX4_spoil_52 : decode cX4_spoil 52 = .ok (.iload_n 1, 1) := by decide +kernel
theorem dX4_spoil_53 : decode cX4_spoil 53 = .ok (.iload_n 2, 1) := by decide +kernel
theorem dX4_spoil_54 : decode cX4_spoil 54 = .ok (.iload_n 3, 1) := by decide +kernel
theorem dX4_spoil_55 : decode cX4_spoil 55 = .ok (.invokestatic 99, 3) := by decide +kernel
theorem dX4_spoil_58 : decode cX4_spoil 58 = .ok (.istore 5, 2) := by decide +kernel
theorem dX4_spoil_60 : decode cX4_spoil 60 = .ok (.aload_n 0, 1) := by decide +kernel
theorem dX4_spoil_61 : decode cX4_spoil 61 = .ok (.getfield 12, 3) := by decide +kernel
theorem dX4_spoil_64 : decode cX4_spoil 64 = .ok (.getfield 96, 3) := by decide +kernel
theorem dX4_spoil_67 : decode cX4_spoil 67 = .ok (.iload 5, 2) := by decide +kernel
theorem dX4_spoil_69 : decode cX4_spoil 69 = .ok (.iaload, 1) := by decide +kernel
theorem dX4_spoil_70 : decode cX4_spoil 70 = .ok (.iload 4, 2) := by decide +kernel
theorem dX4_spoil_72 : decode cX4_spoil 72 = .ok (.iadd, 1) := by decide +kernel
theorem dX4_spoil_73 : decode cX4_spoil 73 = .ok (.istore 6, 2) := by decide +kernel
theorem dX4_spoil_75 : decode cX4_spoil 75 = .ok (.iload 6, 2) := by decide +kernel
theorem dX4_spoil_77 : decode cX4_spoil 77 = .ok (.sipush (-900), 3) := by decide +kernel
theorem dX4_spoil_80 : decode cX4_spoil 80 = .ok (.sipush 900, 3) := by decide +kernel
theorem dX4_spoil_83 : decode cX4_spoil 83 = .ok (.invokestatic 113, 3) := by decide +kernel
theorem dX4_spoil_86 : decode cX4_spoil 86 = .ok (.invokestatic 89, 3) := by decide +kernel
theorem dX4_spoil_89 : decode cX4_spoil 89 = .ok (.aload_n 0, 1) := by decide +kernel
theorem dX4_spoil_90 : decode cX4_spoil 90 = .ok (.invokevirtual 61, 3) := by decide +kernel
theorem dX4_spoil_93 : decode cX4_spoil 93 = .ok (.aload_n 0, 1) := by decide +kernel
theorem dX4_spoil_94 : decode cX4_spoil 94 = .ok (.getfield 12, 3) := by decide +kernel
theorem dX4_spoil_97 : decode cX4_spoil 97 = .ok (.getfield 96, 3) := by decide +kernel
theorem dX4_spoil_100 : decode cX4_spoil 100 = .ok (.iload 5, 2) := by decide +kernel
theorem dX4_spoil_102 : decode cX4_spoil 102 = .ok (.iload 6, 2) := by decide +kernel
theorem dX4_spoil_104 : decode cX4_spoil 104 = .ok (.iastore, 1) := by decide +kernel
theorem dX4_spoil_105 : decode cX4_spoil 105 = .ok (.aload_n 0, 1) := by decide +kernel
theorem dX4_spoil_106 : decode cX4_spoil 106 = .ok (.getfield 12, 3) := by decide +kernel
theorem dX4_spoil_109 : decode cX4_spoil 109 = .ok (.dup, 1) := by decide +kernel
theorem dX4_spoil_110 : decode cX4_spoil 110 = .ok (.getfield 117, 3) := by decide +kernel
theorem dX4_spoil_113 : decode cX4_spoil 113 = .ok (.iconst 1, 1) := by decide +kernel
theorem dX4_spoil_114 : decode cX4_spoil 114 = .ok (.iadd, 1) := by decide +kernel
theorem dX4_spoil_115 : decode cX4_spoil 115 = .ok (.putfield 117, 3) := by decide +kernel
theorem dX4_spoil_118 : decode cX4_spoil 118 = .ok (.iload 6, 2) := by decide +kernel
theorem dX4_spoil_120 : decode cX4_spoil 120 = .ok (.ireturn, 1) := by decide +kernel
theorem dX4_append_0 : decode cX4_append 0 = .ok (.iload_n 1, 1) := by decide +kernel
theorem dX4_append_1 : decode cX4_append 1 = .ok (.bipush 33, 2) := by decide +kernel
theorem dX4_append_3 : decode cX4_append 3 = .ok (.bipush 126, 2) := by decide +kernel
theorem dX4_append_5 : decode cX4_append 5 = .ok (.invokestatic 57, 3) := by decide +kernel
theorem dX4_append_8 : decode cX4_append 8 = .ok (.aload_n 0, 1) := by decide +kernel
theorem dX4_append_9 : decode cX4_append 9 = .ok (.getfield 49, 3) := by decide +kernel
theorem dX4_append_12 : decode cX4_append 12 = .ok (.bipush 60, 2) := by decide +kernel
theorem dX4_append_14 : decode cX4_append 14 = .ok (.if_icmp .ge 7, 3) := by decide +kernel
theorem dX4_append_17 : decode cX4_append 17 = .ok (.iconst 1, 1) := by decide +kernel
theorem dX4_append_18 : decode cX4_append 18 = .ok (.goto 4, 3) := by decide +kernel
theorem dX4_append_21 : decode cX4_append 21 = .ok (.iconst 0, 1) := by decide +kernel
theorem dX4_append_22 : decode cX4_append 22 = .ok (.invokestatic 89, 3) := by decide +kernel
theorem dX4_append_25 : decode cX4_append 25 = .ok (.aload_n 0, 1) := by decide +kernel
theorem dX4_append_26 : decode cX4_append 26 = .ok (.getfield 45, 3) := by decide +kernel
theorem dX4_append_29 : decode cX4_append 29 = .ok (.aload_n 0, 1) := by decide +kernel
theorem dX4_append_30 : decode cX4_append 30 = .ok (.getfield 49, 3) := by decide +kernel
theorem dX4_append_33 : decode cX4_append 33 = .ok (.iload_n 1, 1) := by decide +kernel
theorem dX4_append_34 : decode cX4_append 34 = .ok (.i2c, 1) := by decide +kernel
theorem dX4_append_35 : decode cX4_append 35 = .ok (.castore, 1) := by decide +kernel
theorem dX4_append_36 : decode cX4_append 36 = .ok (.aload_n 0, 1) := by decide +kernel
theorem dX4_append_37 : decode cX4_append 37 = .ok (.dup, 1) := by decide +kernel
theorem dX4_append_38 : decode cX4_append 38 = .ok (.getfield 49, 3) := by decide +kernel
theorem dX4_append_41 : decode cX4_append 41 = .ok (.iconst 1, 1) := by decide +kernel
theorem dX4_append_42 : decode cX4_append 42 = .ok (.iadd, 1) := by decide +kernel
theorem dX4_append_43 : decode cX4_append 43 = .ok (.putfield 49, 3) := by decide +kernel
theorem dX4_append_46 : decode cX4_append 46 = .ok (.aload_n 0, 1) := by decide +kernel
theorem dX4_append_47 : decode cX4_append 47 = .ok (.getfield 49, 3) := by decide +kernel
theorem dX4_append_50 : decode cX4_append 50 = .ok (.ireturn, 1) := by decide +kernel
theorem dX4_clearBuffer_0 : decode cX4_clearBuffer 0 = .ok (.aload_n 0, 1) := by decide +kernel
theorem dX4_clearBuffer_1 : decode cX4_clearBuffer 1 = .ok (.getfield 49, 3) := by decide +kernel
theorem dX4_clearBuffer_4 : decode cX4_clearBuffer 4 = .ok (.istore_n 1, 1) := by decide +kernel
theorem dX4_clearBuffer_5 : decode cX4_clearBuffer 5 = .ok (.aload_n 0, 1) := by decide +kernel
theorem dX4_clearBuffer_6 : decode cX4_clearBuffer 6 = .ok (.iconst 0, 1) := by decide +kernel
theorem dX4_clearBuffer_7 : decode cX4_clearBuffer 7 = .ok (.putfield 49, 3) := by decide +kernel
theorem dX4_clearBuffer_10 : decode cX4_clearBuffer 10 = .ok (.iload_n 1, 1) := by decide +kernel
theorem dX4_clearBuffer_11 : decode cX4_clearBuffer 11 = .ok (.ireturn, 1) := by decide +kernel
theorem dX4_firstError_0 : decode cX4_firstError 0 = .ok (.aload_n 0, 1) := by decide +kernel
theorem dX4_firstError_1 : decode cX4_firstError 1 = .ok (.getfield 41, 3) := by decide +kernel
theorem dX4_firstError_4 : decode cX4_firstError 4 = .ok (.invokevirtual 120, 3) := by decide +kernel
theorem dX4_firstError_7 : decode cX4_firstError 7 = .ok (.iconst 0, 1) := by decide +kernel
theorem dX4_firstError_8 : decode cX4_firstError 8 = .ok (.istore_n 1, 1) := by decide +kernel
theorem dX4_firstError_9 : decode cX4_firstError 9 = .ok (.iload_n 1, 1) := by decide +kernel
theorem dX4_firstError_10 : decode cX4_firstError 10 = .ok (.aload_n 0, 1) := by decide +kernel
theorem dX4_firstError_11 : decode cX4_firstError 11 = .ok (.getfield 49, 3) := by decide +kernel
theorem dX4_firstError_14 : decode cX4_firstError 14 = .ok (.if_icmp .ge 27, 3) := by decide +kernel
theorem dX4_firstError_17 : decode cX4_firstError 17 = .ok (.aload_n 0, 1) := by decide +kernel
theorem dX4_firstError_18 : decode cX4_firstError 18 = .ok (.getfield 41, 3) := by decide +kernel
theorem dX4_firstError_21 : decode cX4_firstError 21 = .ok (.aload_n 0, 1) := by decide +kernel
theorem dX4_firstError_22 : decode cX4_firstError 22 = .ok (.getfield 45, 3) := by decide +kernel
theorem dX4_firstError_25 : decode cX4_firstError 25 = .ok (.iload_n 1, 1) := by decide +kernel
theorem dX4_firstError_26 : decode cX4_firstError 26 = .ok (.caload, 1) := by decide +kernel
theorem dX4_firstError_27 : decode cX4_firstError 27 = .ok (.invokevirtual 123, 3) := by decide +kernel
theorem dX4_firstError_30 : decode cX4_firstError 30 = .ok (.ifCond .ne 5, 3) := by decide +kernel
theorem dX4_firstError_33 : decode cX4_firstError 33 = .ok (.iload_n 1, 1) := by decide +kernel
theorem dX4_firstError_34 : decode cX4_firstError 34 = .ok (.ireturn, 1) := by decide +kernel
theorem dX4_firstError_35 : decode cX4_firstError 35 = .ok (.iinc 1 1, 3) := by decide +kernel
theorem dX4_firstError_38 : decode cX4_firstError 38 = .ok (.goto (-29), 3) := by decide +kernel
theorem dX4_firstError_41 : decode cX4_firstError 41 = .ok (.aload_n 0, 1) := by decide +kernel
theorem dX4_firstError_42 : decode cX4_firstError 42 = .ok (.getfield 49, 3) := by decide +kernel
theorem dX4_firstError_45 : decode cX4_firstError 45 = .ok (.ireturn, 1) := by decide +kernel
theorem dX4_load_0 : decode cX4_load 0 = .ok (.aload_n 0, 1) := by decide +kernel
theorem dX4_load_1 : decode cX4_load 1 = .ok (.getfield 12, 3) := by decide +kernel
theorem dX4_load_4 : decode cX4_load 4 = .ok (.getfield 93, 3) := by decide +kernel
theorem dX4_load_7 : decode cX4_load 7 = .ok (.ifCond .le 7, 3) := by decide +kernel
theorem dX4_load_10 : decode cX4_load 10 = .ok (.iconst 1, 1) := by decide +kernel
theorem dX4_load_11 : decode cX4_load 11 = .ok (.goto 4, 3) := by decide +kernel
theorem dX4_load_14 : decode cX4_load 14 = .ok (.iconst 0, 1) := by decide +kernel
theorem dX4_load_15 : decode cX4_load 15 = .ok (.invokestatic 89, 3) := by decide +kernel
theorem dX4_load_18 : decode cX4_load 18 = .ok (.aload_n 0, 1) := by decide +kernel
theorem dX4_load_19 : decode cX4_load 19 = .ok (.invokevirtual 127, 3) := by decide +kernel
theorem dX4_load_22 : decode cX4_load 22 = .ok (.invokestatic 131, 3) := by decide +kernel
theorem dX4_load_25 : decode cX4_load 25 = .ok (.aload_n 0, 1) := by decide +kernel
theorem dX4_load_26 : decode cX4_load 26 = .ok (.invokevirtual 61, 3) := by decide +kernel
theorem dX4_load_29 : decode cX4_load 29 = .ok (.aload_n 0, 1) := by decide +kernel
theorem dX4_load_30 : decode cX4_load 30 = .ok (.aload_n 0, 1) := by decide +kernel
theorem dX4_load_31 : decode cX4_load 31 = .ok (.getfield 12, 3) := by decide +kernel
theorem dX4_load_34 : decode cX4_load 34 = .ok (.getfield 93, 3) := by decide +kernel
theorem dX4_load_37 : decode cX4_load 37 = .ok (.iconst 1, 1) := by decide +kernel
theorem dX4_load_38 : decode cX4_load 38 = .ok (.isub, 1) := by decide +kernel
theorem dX4_load_39 : decode cX4_load 39 = .ok (.invokevirtual 134, 3) := by decide +kernel
theorem dX4_load_42 : decode cX4_load 42 = .ok (.istore_n 1, 1) := by decide +kernel
theorem dX4_load_43 : decode cX4_load 43 = .ok (.aload_n 0, 1) := by decide +kernel
theorem dX4_load_44 : decode cX4_load 44 = .ok (.getfield 12, 3) := by decide +kernel
theorem dX4_load_47 : decode cX4_load 47 = .ok (.dup, 1) := by decide +kernel
theorem dX4_load_48 : decode cX4_load 48 = .ok (.getfield 117, 3) := by decide +kernel
theorem dX4_load_51 : decode cX4_load 51 = .ok (.iload_n 1, 1) := by decide +kernel
theorem dX4_load_52 : decode cX4_load 52 = .ok (.iadd, 1) := by decide +kernel
theorem dX4_load_53 : decode cX4_load 53 = .ok (.putfield 117, 3) := by decide +kernel
theorem dX4_load_56 : decode cX4_load 56 = .ok (.aload_n 0, 1) := by decide +kernel
theorem dX4_load_57 : decode cX4_load 57 = .ok (.iconst 0, 1) := by decide +kernel
theorem dX4_load_58 : decode cX4_load 58 = .ok (.putfield 49, 3) := by decide +kernel
theorem dX4_load_61 : decode cX4_load 61 = .ok (.iload_n 1, 1) := by decide +kernel
theorem dX4_load_62 : decode cX4_load 62 = .ok (.ireturn, 1) := by decide +kernel
theorem dX4_keep_0 : decode cX4_keep 0 = .ok (.iload_n 1, 1) := by decide +kernel
theorem dX4_keep_1 : decode cX4_keep 1 = .ok (.iconst 0, 1) := by decide +kernel
theorem dX4_keep_2 : decode cX4_keep 2 = .ok (.iconst 1, 1) := by decide +kernel
theorem dX4_keep_3 : decode cX4_keep 3 = .ok (.invokestatic 57, 3) := by decide +kernel
theorem dX4_keep_6 : decode cX4_keep 6 = .ok (.aload_n 0, 1) := by decide +kernel
theorem dX4_keep_7 : decode cX4_keep 7 = .ok (.getfield 16, 3) := by decide +kernel
theorem dX4_keep_10 : decode cX4_keep 10 = .ok (.iload_n 1, 1) := by decide +kernel
theorem dX4_keep_11 : decode cX4_keep 11 = .ok (.aaload, 1) := by decide +kernel
theorem dX4_keep_12 : decode cX4_keep 12 = .ok (.aload_n 0, 1) := by decide +kernel
theorem dX4_keep_13 : decode cX4_keep 13 = .ok (.getfield 12, 3) := by decide +kernel
theorem dX4_keep_16 : decode cX4_keep 16 = .ok (.invokevirtual 138, 3) := by decide +kernel
theorem dX4_keep_19 : decode cX4_keep 19 = .ok (.aload_n 0, 1) := by decide +kernel
theorem dX4_keep_20 : decode cX4_keep 20 = .ok (.getfield 20, 3) := by decide +kernel
theorem dX4_keep_23 : decode cX4_keep 23 = .ok (.iload_n 1, 1) := by decide +kernel
theorem dX4_keep_24 : decode cX4_keep 24 = .ok (.iconst 1, 1) := by decide +kernel
theorem dX4_keep_25 : decode cX4_keep 25 = .ok (.bastore, 1) := by decide +kernel
theorem dX4_keep_26 : decode cX4_keep 26 = .ok (.aload_n 0, 1) := by decide +kernel
theorem dX4_keep_27 : decode cX4_keep 27 = .ok (.getfield 12, 3) := by decide +kernel
theorem dX4_keep_30 : decode cX4_keep 30 = .ok (.getfield 93, 3) := by decide +kernel
theorem dX4_keep_33 : decode cX4_keep 33 = .ok (.ireturn, 1) := by decide +kernel
theorem dX4_goBack_0 : decode cX4_goBack 0 = .ok (.iload_n 1, 1) := by decide +kernel
theorem dX4_goBack_1 : decode cX4_goBack 1 = .ok (.iconst 0, 1) := by decide +kernel
theorem dX4_goBack_2 : decode cX4_goBack 2 = .ok (.iconst 1, 1) := by decide +kernel
theorem dX4_goBack_3 : decode cX4_goBack 3 = .ok (.invokestatic 57, 3) := by decide +kernel
theorem dX4_goBack_6 : decode cX4_goBack 6 = .ok (.aload_n 0, 1) := by decide +kernel
theorem dX4_goBack_7 : decode cX4_goBack 7 = .ok (.getfield 20, 3) := by decide +kernel
theorem dX4_goBack_10 : decode cX4_goBack 10 = .ok (.iload_n 1, 1) := by decide +kernel
theorem dX4_goBack_11 : decode cX4_goBack 11 = .ok (.baload, 1) := by decide +kernel
theorem dX4_goBack_12 : decode cX4_goBack 12 = .ok (.invokestatic 89, 3) := by decide +kernel
theorem dX4_goBack_15 : decode cX4_goBack 15 = .ok (.aload_n 0, 1) := by decide +kernel
theorem dX4_goBack_16 : decode cX4_goBack 16 = .ok (.invokevirtual 61, 3) := by decide +kernel
theorem dX4_goBack_19 : decode cX4_goBack 19 = .ok (.aload_n 0, 1) := by decide +kernel
theorem dX4_goBack_20 : decode cX4_goBack 20 = .ok (.getfield 12, 3) := by decide +kernel
theorem dX4_goBack_23 : decode cX4_goBack 23 = .ok (.aload_n 0, 1) := by decide +kernel
theorem dX4_goBack_24 : decode cX4_goBack 24 = .ok (.getfield 16, 3) := by decide +kernel
theorem dX4_goBack_27 : decode cX4_goBack 27 = .ok (.iload_n 1, 1) := by decide +kernel
theorem dX4_goBack_28 : decode cX4_goBack 28 = .ok (.aaload, 1) := by decide +kernel
theorem dX4_goBack_29 : decode cX4_goBack 29 = .ok (.invokevirtual 138, 3) := by decide +kernel
theorem dX4_goBack_32 : decode cX4_goBack 32 = .ok (.aload_n 0, 1) := by decide +kernel
theorem dX4_goBack_33 : decode cX4_goBack 33 = .ok (.getfield 12, 3) := by decide +kernel
theorem dX4_goBack_36 : decode cX4_goBack 36 = .ok (.getfield 93, 3) := by decide +kernel
theorem dX4_goBack_39 : decode cX4_goBack 39 = .ok (.ireturn, 1) := by decide +kernel
theorem dX4_undo_0 : decode cX4_undo 0 = .ok (.aload_n 0, 1) := by decide +kernel
theorem dX4_undo_1 : decode cX4_undo 1 = .ok (.getfield 27, 3) := by decide +kernel
theorem dX4_undo_4 : decode cX4_undo 4 = .ok (.getfield 142, 3) := by decide +kernel
theorem dX4_undo_7 : decode cX4_undo 7 = .ok (.ifCond .le 7, 3) := by decide +kernel
theorem dX4_undo_10 : decode cX4_undo 10 = .ok (.iconst 1, 1) := by decide +kernel
theorem dX4_undo_11 : decode cX4_undo 11 = .ok (.goto 4, 3) := by decide +kernel
theorem dX4_undo_14 : decode cX4_undo 14 = .ok (.iconst 0, 1) := by decide +kernel
theorem dX4_undo_15 : decode cX4_undo 15 = .ok (.invokestatic 89, 3) := by decide +kernel
theorem dX4_undo_18 : decode cX4_undo 18 = .ok (.aload_n 0, 1) := by decide +kernel
theorem dX4_undo_19 : decode cX4_undo 19 = .ok (.getfield 27, 3) := by decide +kernel
theorem dX4_undo_22 : decode cX4_undo 22 = .ok (.aload_n 0, 1) := by decide +kernel
theorem dX4_undo_23 : decode cX4_undo 23 = .ok (.getfield 12, 3) := by decide +kernel
theorem dX4_undo_26 : decode cX4_undo 26 = .ok (.invokevirtual 145, 3) := by decide +kernel
theorem dX4_undo_29 : decode cX4_undo 29 = .ok (.aload_n 0, 1) := by decide +kernel
theorem dX4_undo_30 : decode cX4_undo 30 = .ok (.getfield 34, 3) := by decide +kernel
theorem dX4_undo_33 : decode cX4_undo 33 = .ok (.iconst 0, 1) := by decide +kernel
theorem dX4_undo_34 : decode cX4_undo 34 = .ok (.putfield 148, 3) := by decide +kernel
theorem dX4_undo_37 : decode cX4_undo 37 = .ok (.aload_n 0, 1) := by decide +kernel
theorem dX4_undo_38 : decode cX4_undo 38 = .ok (.getfield 27, 3) := by decide +kernel
theorem dX4_undo_41 : decode cX4_undo 41 = .ok (.getfield 142, 3) := by decide +kernel
theorem dX4_undo_44 : decode cX4_undo 44 = .ok (.ireturn, 1) := by decide +kernel
theorem dX4_levelOf_0 : decode cX4_levelOf 0 = .ok (.iload_n 1, 1) := by decide +kernel
theorem dX4_levelOf_1 : decode cX4_levelOf 1 = .ok (.bipush 16, 2) := by decide +kernel
theorem dX4_levelOf_3 : decode cX4_levelOf 3 = .ok (.invokestatic 53, 3) := by decide +kernel
theorem dX4_levelOf_6 : decode cX4_levelOf 6 = .ok (.iload_n 2, 1) := by decide +kernel
theorem dX4_levelOf_7 : decode cX4_levelOf 7 = .ok (.iconst 0, 1) := by decide +kernel
theorem dX4_levelOf_8 : decode cX4_levelOf 8 = .ok (.bipush 6, 2) := by decide +kernel
theorem dX4_levelOf_10 : decode cX4_levelOf 10 = .ok (.invokestatic 57, 3) := by decide +kernel
theorem dX4_levelOf_13 : decode cX4_levelOf 13 = .ok (.iload_n 2, 1) := by decide +kernel
theorem dX4_levelOf_14 : decode cX4_levelOf 14 = .ok (.tableswitch 98 0 5 #[38, 50, 64, 74, 82, 90], 38) := by decide +kernel
theorem dX4_levelOf_52 : decode cX4_levelOf 52 = .ok (.aload_n 0, 1) := by decide +kernel
theorem dX4_levelOf_53 : decode cX4_levelOf 53 = .ok (.getfield 12, 3) := by decide +kernel
theorem dX4_levelOf_56 : decode cX4_levelOf 56 = .ok (.getfield 64, 3) := by decide +kernel
theorem dX4_levelOf_59 : decode cX4_levelOf 59 = .ok (.iload_n 1, 1) := by decide +kernel
theorem dX4_levelOf_60 : decode cX4_levelOf 60 = .ok (.iconst 2, 1) := by decide +kernel
theorem dX4_levelOf_61 : decode cX4_levelOf 61 = .ok (.imul, 1) := by decide +kernel
theorem dX4_levelOf_62 : decode cX4_levelOf 62 = .ok (.iaload, 1) := by decide +kernel
theorem dX4_levelOf_63 : decode cX4_levelOf 63 = .ok (.ireturn, 1) := by decide +kernel
theorem dX4_levelOf_64 : decode cX4_levelOf 64 = .ok (.aload_n 0, 1) := by decide +kernel
theorem dX4_levelOf_65 : decode cX4_levelOf 65 = .ok (.getfield 12, 3) := by decide +kernel
theorem dX4_levelOf_68 : decode cX4_levelOf 68 = .ok (.getfield 64, 3) := by decide +kernel
theorem dX4_levelOf_71 : decode cX4_levelOf 71 = .ok (.iload_n 1, 1) := by decide +kernel
theorem dX4_levelOf_72 : decode cX4_levelOf 72 = .ok (.iconst 2, 1) := by decide +kernel
theorem dX4_levelOf_73 : decode cX4_levelOf 73 = .ok (.imul, 1) := by decide +kernel
theorem dX4_levelOf_74 : decode cX4_levelOf 74 = .ok (.iconst 1, 1) := by decide +kernel
theorem dX4_levelOf_75 : decode cX4_levelOf 75 = .ok (.iadd, 1) := by decide +kernel
theorem dX4_levelOf_76 : decode cX4_levelOf 76 = .ok (.iaload, 1) := by decide +kernel
theorem dX4_levelOf_77 : decode cX4_levelOf 77 = .ok (.ireturn, 1) := by decide +kernel
theorem dX4_levelOf_78 : decode cX4_levelOf 78 = .ok (.aload_n 0, 1) := by decide +kernel
theorem dX4_levelOf_79 : decode cX4_levelOf 79 = .ok (.getfield 12, 3) := by decide +kernel
theorem dX4_levelOf_82 : decode cX4_levelOf 82 = .ok (.getfield 77, 3) := by decide +kernel
theorem dX4_levelOf_85 : decode cX4_levelOf 85 = .ok (.iload_n 1, 1) := by decide +kernel
theorem dX4_levelOf_86 : decode cX4_levelOf 86 = .ok (.iaload, 1) := by decide +kernel
theorem dX4_levelOf_87 : decode cX4_levelOf 87 = .ok (.ireturn, 1) := by decide +kernel
theorem dX4_levelOf_88 : decode cX4_levelOf 88 = .ok (.aload_n 0, 1) := by decide +kernel
theorem dX4_levelOf_89 : decode cX4_levelOf 89 = .ok (.iload_n 1, 1) := by decide +kernel
theorem dX4_levelOf_90 : decode cX4_levelOf 90 = .ok (.iconst 0, 1) := by decide +kernel
theorem dX4_levelOf_91 : decode cX4_levelOf 91 = .ok (.iconst 0, 1) := by decide +kernel
theorem dX4_levelOf_92 : decode cX4_levelOf 92 = .ok (.invokevirtual 103, 3) := by decide +kernel
theorem dX4_levelOf_95 : decode cX4_levelOf 95 = .ok (.ireturn, 1) := by decide +kernel
theorem dX4_levelOf_96 : decode cX4_levelOf 96 = .ok (.aload_n 0, 1) := by decide +kernel
theorem dX4_levelOf_97 : decode cX4_levelOf 97 = .ok (.iload_n 1, 1) := by decide +kernel
theorem dX4_levelOf_98 : decode cX4_levelOf 98 = .ok (.iconst 0, 1) := by decide +kernel
theorem dX4_levelOf_99 : decode cX4_levelOf 99 = .ok (.iconst 1, 1) := by decide +kernel
theorem dX4_levelOf_100 : decode cX4_levelOf 100 = .ok (.invokevirtual 103, 3) := by decide +kernel
theorem dX4_levelOf_103 : decode cX4_levelOf 103 = .ok (.ireturn, 1) := by decide +kernel
theorem dX4_levelOf_104 : decode cX4_levelOf 104 = .ok (.aload_n 0, 1) := by decide +kernel
theorem dX4_levelOf_105 : decode cX4_levelOf 105 = .ok (.iload_n 1, 1) := by decide +kernel
theorem dX4_levelOf_106 : decode cX4_levelOf 106 = .ok (.iconst 1, 1) := by decide +kernel
theorem dX4_levelOf_107 : decode cX4_levelOf 107 = .ok (.iconst 0, 1) := by decide +kernel
theorem dX4_levelOf_108 : decode cX4_levelOf 108 = .ok (.invokevirtual 103, 3) := by decide +kernel
theorem dX4_levelOf_111 : decode cX4_levelOf 111 = .ok (.ireturn, 1) := by decide +kernel
theorem dX4_levelOf_112 : decode cX4_levelOf 112 = .ok (.aload_n 0, 1) := by decide +kernel
theorem dX4_levelOf_113 : decode cX4_levelOf 113 = .ok (.iload_n 1, 1) := by decide +kernel
theorem dX4_levelOf_114 : decode cX4_levelOf 114 = .ok (.iconst 1, 1) := by decide +kernel
theorem dX4_levelOf_115 : decode cX4_levelOf 115 = .ok (.iconst 1, 1) := by decide +kernel
theorem dX4_levelOf_116 : decode cX4_levelOf 116 = .ok (.invokevirtual 103, 3) := by decide +kernel
theorem dX4_levelOf_119 : decode cX4_levelOf 119 = .ok (.ireturn, 1) := by decide +kernel
theorem dX4_reading_0 : decode cX4_reading 0 = .ok (.iload_n 1, 1) := by decide +kernel
theorem dX4_reading_1 : decode cX4_reading 1 = .ok (.aload_n 0, 1) := by decide +kernel
theorem dX4_reading_2 : decode cX4_reading 2 = .ok (.getfield 12, 3) := by decide +kernel
theorem dX4_reading_5 : decode cX4_reading 5 = .ok (.getfield 93, 3) := by decide +kernel
theorem dX4_reading_8 : decode cX4_reading 8 = .ok (.invokestatic 53, 3) := by decide +kernel
theorem dX4_reading_11 : decode cX4_reading 11 = .ok (.iload_n 2, 1) := by decide +kernel
theorem dX4_reading_12 : decode cX4_reading 12 = .ok (.bipush 16, 2) := by decide +kernel
theorem dX4_reading_14 : decode cX4_reading 14 = .ok (.invokestatic 53, 3) := by decide +kernel
theorem dX4_reading_17 : decode cX4_reading 17 = .ok (.iload_n 3, 1) := by decide +kernel
theorem dX4_reading_18 : decode cX4_reading 18 = .ok (.iconst 2, 1) := by decide +kernel
theorem dX4_reading_19 : decode cX4_reading 19 = .ok (.invokestatic 53, 3) := by decide +kernel
theorem dX4_reading_22 : decode cX4_reading 22 = .ok (.iload 4, 2) := by decide +kernel
theorem dX4_reading_24 : decode cX4_reading 24 = .ok (.iconst 0, 1) := by decide +kernel
theorem dX4_reading_25 : decode cX4_reading 25 = .ok (.iconst 5, 1) := by decide +kernel
theorem dX4_reading_26 : decode cX4_reading 26 = .ok (.invokestatic 57, 3) := by decide +kernel
theorem dX4_reading_29 : decode cX4_reading 29 = .ok (.aload_n 0, 1) := by decide +kernel
theorem dX4_reading_30 : decode cX4_reading 30 = .ok (.getfield 34, 3) := by decide +kernel
theorem dX4_reading_33 : decode cX4_reading 33 = .ok (.aload_n 0, 1) := by decide +kernel
theorem dX4_reading_34 : decode cX4_reading 34 = .ok (.getfield 12, 3) := by decide +kernel
theorem dX4_reading_37 : decode cX4_reading 37 = .ok (.invokevirtual 152, 3) := by decide +kernel
theorem dX4_reading_40 : decode cX4_reading 40 = .ok (.iload 4, 2) := by decide +kernel
theorem dX4_reading_42 : decode cX4_reading 42 = .ok (.tableswitch 115 0 4 #[34, 50, 66, 77, 100], 34) := by decide +kernel
theorem dX4_reading_76 : decode cX4_reading 76 = .ok (.aload_n 0, 1) := by decide +kernel
theorem dX4_reading_77 : decode cX4_reading 77 = .ok (.getfield 12, 3) := by decide +kernel
theorem dX4_reading_80 : decode cX4_reading 80 = .ok (.getfield 96, 3) := by decide +kernel
theorem dX4_reading_83 : decode cX4_reading 83 = .ok (.iload_n 1, 1) := by decide +kernel
theorem dX4_reading_84 : decode cX4_reading 84 = .ok (.iload_n 2, 1) := by decide +kernel
theorem dX4_reading_85 : decode cX4_reading 85 = .ok (.iload_n 3, 1) := by decide +kernel
theorem dX4_reading_86 : decode cX4_reading 86 = .ok (.iconst 0, 1) := by decide +kernel
theorem dX4_reading_87 : decode cX4_reading 87 = .ok (.invokestatic 99, 3) := by decide +kernel
theorem dX4_reading_90 : decode cX4_reading 90 = .ok (.iaload, 1) := by decide +kernel
theorem dX4_reading_91 : decode cX4_reading 91 = .ok (.ireturn, 1) := by decide +kernel
theorem dX4_reading_92 : decode cX4_reading 92 = .ok (.aload_n 0, 1) := by decide +kernel
theorem dX4_reading_93 : decode cX4_reading 93 = .ok (.getfield 12, 3) := by decide +kernel
theorem dX4_reading_96 : decode cX4_reading 96 = .ok (.getfield 96, 3) := by decide +kernel
theorem dX4_reading_99 : decode cX4_reading 99 = .ok (.iload_n 1, 1) := by decide +kernel
theorem dX4_reading_100 : decode cX4_reading 100 = .ok (.iload_n 2, 1) := by decide +kernel
theorem dX4_reading_101 : decode cX4_reading 101 = .ok (.iload_n 3, 1) := by decide +kernel
theorem dX4_reading_102 : decode cX4_reading 102 = .ok (.iconst 1, 1) := by decide +kernel
theorem dX4_reading_103 : decode cX4_reading 103 = .ok (.invokestatic 99, 3) := by decide +kernel
theorem dX4_reading_106 : decode cX4_reading 106 = .ok (.iaload, 1) := by decide +kernel
theorem dX4_reading_107 : decode cX4_reading 107 = .ok (.ireturn, 1) := by decide +kernel
theorem dX4_reading_108 : decode cX4_reading 108 = .ok (.aload_n 0, 1) := by decide +kernel
theorem dX4_reading_109 : decode cX4_reading 109 = .ok (.getfield 12, 3) := by decide +kernel
theorem dX4_reading_112 : decode cX4_reading 112 = .ok (.iload_n 1, 1) := by decide +kernel
theorem dX4_reading_113 : decode cX4_reading 113 = .ok (.iload_n 2, 1) := by decide +kernel
theorem dX4_reading_114 : decode cX4_reading 114 = .ok (.iload_n 3, 1) := by decide +kernel
theorem dX4_reading_115 : decode cX4_reading 115 = .ok (.invokestatic 155, 3) := by decide +kernel
theorem dX4_reading_118 : decode cX4_reading 118 = .ok (.ireturn, 1) := by decide +kernel
theorem dX4_reading_119 : decode cX4_reading 119 = .ok (.aload_n 0, 1) := by decide +kernel
theorem dX4_reading_120 : decode cX4_reading 120 = .ok (.getfield 34, 3) := by decide +kernel
theorem dX4_reading_123 : decode cX4_reading 123 = .ok (.aload_n 0, 1) := by decide +kernel
theorem dX4_reading_124 : decode cX4_reading 124 = .ok (.getfield 12, 3) := by decide +kernel
theorem dX4_reading_127 : decode cX4_reading 127 = .ok (.iload_n 1, 1) := by decide +kernel
theorem dX4_reading_128 : decode cX4_reading 128 = .ok (.iload_n 2, 1) := by decide +kernel
theorem dX4_reading_129 : decode cX4_reading 129 = .ok (.iload_n 3, 1) := by decide +kernel
theorem dX4_reading_130 : decode cX4_reading 130 = .ok (.invokevirtual 159, 3) := by decide +kernel
theorem dX4_reading_133 : decode cX4_reading 133 = .ok (.ifCond .eq 7, 3) := by decide +kernel
theorem dX4_reading_136 : decode cX4_reading 136 = .ok (.iconst 1, 1) := by decide +kernel
theorem dX4_reading_137 : decode cX4_reading 137 = .ok (.goto 4, 3) := by decide +kernel
theorem dX4_reading_140 : decode cX4_reading 140 = .ok (.iconst 0, 1) := by decide +kernel
theorem dX4_reading_141 : decode cX4_reading 141 = .ok (.ireturn, 1) := by decide +kernel
theorem dX4_reading_142 : decode cX4_reading 142 = .ok (.aload_n 0, 1) := by decide +kernel
theorem dX4_reading_143 : decode cX4_reading 143 = .ok (.getfield 34, 3) := by decide +kernel
theorem dX4_reading_146 : decode cX4_reading 146 = .ok (.getfield 163, 3) := by decide +kernel
theorem dX4_reading_149 : decode cX4_reading 149 = .ok (.iload_n 1, 1) := by decide +kernel
theorem dX4_reading_150 : decode cX4_reading 150 = .ok (.iload_n 2, 1) := by decide +kernel
theorem dX4_reading_151 : decode cX4_reading 151 = .ok (.iload_n 3, 1) := by decide +kernel
theorem dX4_reading_152 : decode cX4_reading 152 = .ok (.invokestatic 166, 3) := by decide +kernel
theorem dX4_reading_155 : decode cX4_reading 155 = .ok (.iaload, 1) := by decide +kernel
theorem dX4_reading_156 : decode cX4_reading 156 = .ok (.ireturn, 1) := by decide +kernel
theorem dX4_reading_157 : decode cX4_reading 157 = .ok (.aload_n 0, 1) := by decide +kernel
theorem dX4_reading_158 : decode cX4_reading 158 = .ok (.getfield 34, 3) := by decide +kernel
theorem dX4_reading_161 : decode cX4_reading 161 = .ok (.getfield 169, 3) := by decide +kernel
theorem dX4_reading_164 : decode cX4_reading 164 = .ok (.iload_n 1, 1) := by decide +kernel
theorem dX4_reading_165 : decode cX4_reading 165 = .ok (.iload_n 2, 1) := by decide +kernel
theorem dX4_reading_166 : decode cX4_reading 166 = .ok (.iload_n 3, 1) := by decide +kernel
theorem dX4_reading_167 : decode cX4_reading 167 = .ok (.invokestatic 166, 3) := by decide +kernel
theorem dX4_reading_170 : decode cX4_reading 170 = .ok (.iaload, 1) := by decide +kernel
theorem dX4_reading_171 : decode cX4_reading 171 = .ok (.ireturn, 1) := by decide +kernel
theorem dX4_surveyOf_0 : decode cX4_surveyOf 0 = .ok (.iload_n 1, 1) := by decide +kernel
theorem dX4_surveyOf_1 : decode cX4_surveyOf 1 = .ok (.aload_n 0, 1) := by decide +kernel
theorem dX4_surveyOf_2 : decode cX4_surveyOf 2 = .ok (.getfield 12, 3) := by decide +kernel
theorem dX4_surveyOf_5 : decode cX4_surveyOf 5 = .ok (.getfield 93, 3) := by decide +kernel
theorem dX4_surveyOf_8 : decode cX4_surveyOf 8 = .ok (.invokestatic 53, 3) := by decide +kernel
theorem dX4_surveyOf_11 : decode cX4_surveyOf 11 = .ok (.iload_n 2, 1) := by decide +kernel
theorem dX4_surveyOf_12 : decode cX4_surveyOf 12 = .ok (.iconst 0, 1) := by decide +kernel
theorem dX4_surveyOf_13 : decode cX4_surveyOf 13 = .ok (.iconst 4, 1) := by decide +kernel
theorem dX4_surveyOf_14 : decode cX4_surveyOf 14 = .ok (.invokestatic 57, 3) := by decide +kernel
theorem dX4_surveyOf_17 : decode cX4_surveyOf 17 = .ok (.aload_n 0, 1) := by decide +kernel
theorem dX4_surveyOf_18 : decode cX4_surveyOf 18 = .ok (.getfield 34, 3) := by decide +kernel
theorem dX4_surveyOf_21 : decode cX4_surveyOf 21 = .ok (.aload_n 0, 1) := by decide +kernel
theorem dX4_surveyOf_22 : decode cX4_surveyOf 22 = .ok (.getfield 12, 3) := by decide +kernel
theorem dX4_surveyOf_25 : decode cX4_surveyOf 25 = .ok (.invokevirtual 152, 3) := by decide +kernel
theorem dX4_surveyOf_28 : decode cX4_surveyOf 28 = .ok (.iload_n 2, 1) := by decide +kernel
theorem dX4_surveyOf_29 : decode cX4_surveyOf 29 = .ok (.tableswitch 73 0 3 #[31, 41, 53, 67], 31) := by decide +kernel
theorem dX4_surveyOf_60 : decode cX4_surveyOf 60 = .ok (.aload_n 0, 1) := by decide +kernel
theorem dX4_surveyOf_61 : decode cX4_surveyOf 61 = .ok (.getfield 12, 3) := by decide +kernel
theorem dX4_surveyOf_64 : decode cX4_surveyOf 64 = .ok (.getfield 107, 3) := by decide +kernel
theorem dX4_surveyOf_67 : decode cX4_surveyOf 67 = .ok (.iload_n 1, 1) := by decide +kernel
theorem dX4_surveyOf_68 : decode cX4_surveyOf 68 = .ok (.iaload, 1) := by decide +kernel
theorem dX4_surveyOf_69 : decode cX4_surveyOf 69 = .ok (.ireturn, 1) := by decide +kernel
theorem dX4_surveyOf_70 : decode cX4_surveyOf 70 = .ok (.aload_n 0, 1) := by decide +kernel
theorem dX4_surveyOf_71 : decode cX4_surveyOf 71 = .ok (.getfield 34, 3) := by decide +kernel
theorem dX4_surveyOf_74 : decode cX4_surveyOf 74 = .ok (.getfield 172, 3) := by decide +kernel
theorem dX4_surveyOf_77 : decode cX4_surveyOf 77 = .ok (.iload_n 1, 1) := by decide +kernel
theorem dX4_surveyOf_78 : decode cX4_surveyOf 78 = .ok (.iconst 2, 1) := by decide +kernel
theorem dX4_surveyOf_79 : decode cX4_surveyOf 79 = .ok (.imul, 1) := by decide +kernel
theorem dX4_surveyOf_80 : decode cX4_surveyOf 80 = .ok (.iaload, 1) := by decide +kernel
theorem dX4_surveyOf_81 : decode cX4_surveyOf 81 = .ok (.ireturn, 1) := by decide +kernel
theorem dX4_surveyOf_82 : decode cX4_surveyOf 82 = .ok (.aload_n 0, 1) := by decide +kernel
theorem dX4_surveyOf_83 : decode cX4_surveyOf 83 = .ok (.getfield 34, 3) := by decide +kernel
theorem dX4_surveyOf_86 : decode cX4_surveyOf 86 = .ok (.getfield 172, 3) := by decide +kernel
theorem dX4_surveyOf_89 : decode cX4_surveyOf 89 = .ok (.iload_n 1, 1) := by decide +kernel
theorem dX4_surveyOf_90 : decode cX4_surveyOf 90 = .ok (.iconst 2, 1) := by decide +kernel
theorem dX4_surveyOf_91 : decode cX4_surveyOf 91 = .ok (.imul, 1) := by decide +kernel
theorem dX4_surveyOf_92 : decode cX4_surveyOf 92 = .ok (.iconst 1, 1) := by decide +kernel
theorem dX4_surveyOf_93 : decode cX4_surveyOf 93 = .ok (.iadd, 1) := by decide +kernel
theorem dX4_surveyOf_94 : decode cX4_surveyOf 94 = .ok (.iaload, 1) := by decide +kernel
theorem dX4_surveyOf_95 : decode cX4_surveyOf 95 = .ok (.ireturn, 1) := by decide +kernel
theorem dX4_surveyOf_96 : decode cX4_surveyOf 96 = .ok (.aload_n 0, 1) := by decide +kernel
theorem dX4_surveyOf_97 : decode cX4_surveyOf 97 = .ok (.iload_n 1, 1) := by decide +kernel
theorem dX4_surveyOf_98 : decode cX4_surveyOf 98 = .ok (.invokevirtual 175, 3) := by decide +kernel
theorem dX4_surveyOf_101 : decode cX4_surveyOf 101 = .ok (.ireturn, 1) := by decide +kernel
theorem dX4_surveyOf_102 : decode cX4_surveyOf 102 = .ok (.aload_n 0, 1) := by decide +kernel
theorem dX4_surveyOf_103 : decode cX4_surveyOf 103 = .ok (.iload_n 1, 1) := by decide +kernel
theorem dX4_surveyOf_104 : decode cX4_surveyOf 104 = .ok (.invokevirtual 178, 3) := by decide +kernel
theorem dX4_surveyOf_107 : decode cX4_surveyOf 107 = .ok (.ireturn, 1) := by decide +kernel
theorem dX4_place_0 : decode cX4_place 0 = .ok (.iload_n 1, 1) := by decide +kernel
theorem dX4_place_1 : decode cX4_place 1 = .ok (.aload_n 0, 1) := by decide +kernel
theorem dX4_place_2 : decode cX4_place 2 = .ok (.getfield 12, 3) := by decide +kernel
theorem dX4_place_5 : decode cX4_place 5 = .ok (.getfield 93, 3) := by decide +kernel
theorem dX4_place_8 : decode cX4_place 8 = .ok (.invokestatic 53, 3) := by decide +kernel
theorem dX4_place_11 : decode cX4_place 11 = .ok (.iload_n 2, 1) := by decide +kernel
theorem dX4_place_12 : decode cX4_place 12 = .ok (.bipush 16, 2) := by decide +kernel
theorem dX4_place_14 : decode cX4_place 14 = .ok (.invokestatic 53, 3) := by decide +kernel
theorem dX4_place_17 : decode cX4_place 17 = .ok (.iload_n 3, 1) := by decide +kernel
theorem dX4_place_18 : decode cX4_place 18 = .ok (.iconst 2, 1) := by decide +kernel
theorem dX4_place_19 : decode cX4_place 19 = .ok (.invokestatic 53, 3) := by decide +kernel
theorem dX4_place_22 : decode cX4_place 22 = .ok (.iload 4, 2) := by decide +kernel
theorem dX4_place_24 : decode cX4_place 24 = .ok (.iconst 0, 1) := by decide +kernel
theorem dX4_place_25 : decode cX4_place 25 = .ok (.iconst 1, 1) := by decide +kernel
theorem dX4_place_26 : decode cX4_place 26 = .ok (.invokestatic 57, 3) := by decide +kernel
theorem dX4_place_29 : decode cX4_place 29 = .ok (.aload_n 0, 1) := by decide +kernel
theorem dX4_place_30 : decode cX4_place 30 = .ok (.getfield 34, 3) := by decide +kernel
theorem dX4_place_33 : decode cX4_place 33 = .ok (.aload_n 0, 1) := by decide +kernel
theorem dX4_place_34 : decode cX4_place 34 = .ok (.getfield 12, 3) := by decide +kernel
theorem dX4_place_37 : decode cX4_place 37 = .ok (.invokevirtual 152, 3) := by decide +kernel
theorem dX4_place_40 : decode cX4_place 40 = .ok (.iload 4, 2) := by decide +kernel
theorem dX4_place_42 : decode cX4_place 42 = .ok (.ifCond .ne 12, 3) := by decide +kernel
theorem dX4_place_45 : decode cX4_place 45 = .ok (.aload_n 0, 1) := by decide +kernel
theorem dX4_place_46 : decode cX4_place 46 = .ok (.iload_n 1, 1) := by decide +kernel
theorem dX4_place_47 : decode cX4_place 47 = .ok (.iload_n 3, 1) := by decide +kernel
theorem dX4_place_48 : decode cX4_place 48 = .ok (.iconst 0, 1) := by decide +kernel
theorem dX4_place_49 : decode cX4_place 49 = .ok (.iload_n 2, 1) := by decide +kernel
theorem dX4_place_50 : decode cX4_place 50 = .ok (.invokevirtual 181, 3) := by decide +kernel
theorem dX4_place_53 : decode cX4_place 53 = .ok (.ireturn, 1) := by decide +kernel
theorem dX4_place_54 : decode cX4_place 54 = .ok (.aload_n 0, 1) := by decide +kernel
theorem dX4_place_55 : decode cX4_place 55 = .ok (.iload_n 1, 1) := by decide +kernel
theorem dX4_place_56 : decode cX4_place 56 = .ok (.iload_n 3, 1) := by decide +kernel
theorem dX4_place_57 : decode cX4_place 57 = .ok (.iconst 0, 1) := by decide +kernel
theorem dX4_place_58 : decode cX4_place 58 = .ok (.bipush 15, 2) := by decide +kernel
theorem dX4_place_60 : decode cX4_place 60 = .ok (.invokevirtual 181, 3) := by decide +kernel
theorem dX4_place_63 : decode cX4_place 63 = .ok (.aload_n 0, 1) := by decide +kernel
theorem dX4_place_64 : decode cX4_place 64 = .ok (.iload_n 1, 1) := by decide +kernel
theorem dX4_place_65 : decode cX4_place 65 = .ok (.iload_n 3, 1) := by decide +kernel
theorem dX4_place_66 : decode cX4_place 66 = .ok (.iload_n 2, 1) := by decide +kernel
theorem dX4_place_67 : decode cX4_place 67 = .ok (.iconst 1, 1) := by decide +kernel
theorem dX4_place_68 : decode cX4_place 68 = .ok (.iadd, 1) := by decide +kernel
theorem dX4_place_69 : decode cX4_place 69 = .ok (.bipush 15, 2) := by decide +kernel
theorem dX4_place_71 : decode cX4_place 71 = .ok (.invokevirtual 181, 3) := by decide +kernel
theorem dX4_place_74 : decode cX4_place 74 = .ok (.isub, 1) := by decide +kernel
theorem dX4_place_75 : decode cX4_place 75 = .ok (.ireturn, 1) := by decide +kernel
theorem dX4_count_0 : decode cX4_count 0 = .ok (.iload_n 1, 1) := by decide +kernel
theorem dX4_count_1 : decode cX4_count 1 = .ok (.iconst 0, 1) := by decide +kernel
theorem dX4_count_2 : decode cX4_count 2 = .ok (.bipush 7, 2) := by decide +kernel
theorem dX4_count_4 : decode cX4_count 4 = .ok (.invokestatic 57, 3) := by decide +kernel
theorem dX4_count_7 : decode cX4_count 7 = .ok (.iload_n 1, 1) := by decide +kernel
theorem dX4_count_8 : decode cX4_count 8 = .ok (.tableswitch 101 0 6 #[44, 52, 60, 70, 80, 88, 96], 44) := by decide +kernel
theorem dX4_count_52 : decode cX4_count 52 = .ok (.aload_n 0, 1) := by decide +kernel
theorem dX4_count_53 : decode cX4_count 53 = .ok (.getfield 12, 3) := by decide +kernel
theorem dX4_count_56 : decode cX4_count 56 = .ok (.getfield 86, 3) := by decide +kernel
theorem dX4_count_59 : decode cX4_count 59 = .ok (.ireturn, 1) := by decide +kernel
theorem dX4_count_60 : decode cX4_count 60 = .ok (.aload_n 0, 1) := by decide +kernel
theorem dX4_count_61 : decode cX4_count 61 = .ok (.getfield 12, 3) := by decide +kernel
theorem dX4_count_64 : decode cX4_count 64 = .ok (.getfield 93, 3) := by decide +kernel
theorem dX4_count_67 : decode cX4_count 67 = .ok (.ireturn, 1) := by decide +kernel
theorem dX4_count_68 : decode cX4_count 68 = .ok (.aload_n 0, 1) := by decide +kernel
theorem dX4_count_69 : decode cX4_count 69 = .ok (.getfield 12, 3) := by decide +kernel
theorem dX4_count_72 : decode cX4_count 72 = .ok (.getfield 80, 3) := by decide +kernel
theorem dX4_count_75 : decode cX4_count 75 = .ok (.iconst 0, 1) := by decide +kernel
theorem dX4_count_76 : decode cX4_count 76 = .ok (.iaload, 1) := by decide +kernel
theorem dX4_count_77 : decode cX4_count 77 = .ok (.ireturn, 1) := by decide +kernel
theorem dX4_count_78 : decode cX4_count 78 = .ok (.aload_n 0, 1) := by decide +kernel
theorem dX4_count_79 : decode cX4_count 79 = .ok (.getfield 12, 3) := by decide +kernel
theorem dX4_count_82 : decode cX4_count 82 = .ok (.getfield 80, 3) := by decide +kernel
theorem dX4_count_85 : decode cX4_count 85 = .ok (.iconst 1, 1) := by decide +kernel
theorem dX4_count_86 : decode cX4_count 86 = .ok (.iaload, 1) := by decide +kernel
theorem dX4_count_87 : decode cX4_count 87 = .ok (.ireturn, 1) := by decide +kernel
theorem dX4_count_88 : decode cX4_count 88 = .ok (.aload_n 0, 1) := by decide +kernel
theorem dX4_count_89 : decode cX4_count 89 = .ok (.getfield 12, 3) := by decide +kernel
theorem dX4_count_92 : decode cX4_count 92 = .ok (.getfield 110, 3) := by decide +kernel
theorem dX4_count_95 : decode cX4_count 95 = .ok (.ireturn, 1) := by decide +kernel
theorem dX4_count_96 : decode cX4_count 96 = .ok (.aload_n 0, 1) := by decide +kernel
theorem dX4_count_97 : decode cX4_count 97 = .ok (.getfield 12, 3) := by decide +kernel
theorem dX4_count_100 : decode cX4_count 100 = .ok (.getfield 117, 3) := by decide +kernel
theorem dX4_count_103 : decode cX4_count 103 = .ok (.ireturn, 1) := by decide +kernel
theorem dX4_count_104 : decode cX4_count 104 = .ok (.aload_n 0, 1) := by decide +kernel
theorem dX4_count_105 : decode cX4_count 105 = .ok (.invokevirtual 184, 3) := by decide +kernel
theorem dX4_count_108 : decode cX4_count 108 = .ok (.ireturn, 1) := by decide +kernel
theorem dX4_count_109 : decode cX4_count 109 = .ok (.aload_n 0, 1) := by decide +kernel
theorem dX4_count_110 : decode cX4_count 110 = .ok (.getfield 27, 3) := by decide +kernel
theorem dX4_count_113 : decode cX4_count 113 = .ok (.getfield 142, 3) := by decide +kernel
theorem dX4_count_116 : decode cX4_count 116 = .ok (.ireturn, 1) := by decide +kernel
theorem dX4_setting_0 : decode cX4_setting 0 = .ok (.iload_n 1, 1) := by decide +kernel
theorem dX4_setting_1 : decode cX4_setting 1 = .ok (.iconst 3, 1) := by decide +kernel
theorem dX4_setting_2 : decode cX4_setting 2 = .ok (.invokestatic 53, 3) := by decide +kernel
theorem dX4_setting_5 : decode cX4_setting 5 = .ok (.aload_n 0, 1) := by decide +kernel
theorem dX4_setting_6 : decode cX4_setting 6 = .ok (.getfield 12, 3) := by decide +kernel
theorem dX4_setting_9 : decode cX4_setting 9 = .ok (.getfield 83, 3) := by decide +kernel
theorem dX4_setting_12 : decode cX4_setting 12 = .ok (.iload_n 1, 1) := by decide +kernel
theorem dX4_setting_13 : decode cX4_setting 13 = .ok (.iaload, 1) := by decide +kernel
theorem dX4_setting_14 : decode cX4_setting 14 = .ok (.ireturn, 1) := by decide +kernel
theorem dX4_moved_0 : decode cX4_moved 0 = .ok (.iload_n 1, 1) := by decide +kernel
theorem dX4_moved_1 : decode cX4_moved 1 = .ok (.aload_n 0, 1) := by decide +kernel
theorem dX4_moved_2 : decode cX4_moved 2 = .ok (.getfield 12, 3) := by decide +kernel
theorem dX4_moved_5 : decode cX4_moved 5 = .ok (.getfield 93, 3) := by decide +kernel
theorem dX4_moved_8 : decode cX4_moved 8 = .ok (.invokestatic 53, 3) := by decide +kernel
theorem dX4_moved_11 : decode cX4_moved 11 = .ok (.iload_n 2, 1) := by decide +kernel
theorem dX4_moved_12 : decode cX4_moved 12 = .ok (.aload_n 0, 1) := by decide +kernel
theorem dX4_moved_13 : decode cX4_moved 13 = .ok (.getfield 12, 3) := by decide +kernel
theorem dX4_moved_16 : decode cX4_moved 16 = .ok (.getfield 93, 3) := by decide +kernel
theorem dX4_moved_19 : decode cX4_moved 19 = .ok (.invokestatic 53, 3) := by decide +kernel
theorem dX4_moved_22 : decode cX4_moved 22 = .ok (.iload_n 3, 1) := by decide +kernel
theorem dX4_moved_23 : decode cX4_moved 23 = .ok (.bipush 16, 2) := by decide +kernel
theorem dX4_moved_25 : decode cX4_moved 25 = .ok (.invokestatic 53, 3) := by decide +kernel
theorem dX4_moved_28 : decode cX4_moved 28 = .ok (.iload 4, 2) := by decide +kernel
theorem dX4_moved_30 : decode cX4_moved 30 = .ok (.iconst 2, 1) := by decide +kernel
theorem dX4_moved_31 : decode cX4_moved 31 = .ok (.invokestatic 53, 3) := by decide +kernel
theorem dX4_moved_34 : decode cX4_moved 34 = .ok (.aload_n 0, 1) := by decide +kernel
theorem dX4_moved_35 : decode cX4_moved 35 = .ok (.getfield 34, 3) := by decide +kernel
theorem dX4_moved_38 : decode cX4_moved 38 = .ok (.aload_n 0, 1) := by decide +kernel
theorem dX4_moved_39 : decode cX4_moved 39 = .ok (.getfield 12, 3) := by decide +kernel
theorem dX4_moved_42 : decode cX4_moved 42 = .ok (.invokevirtual 152, 3) := by decide +kernel
theorem dX4_moved_45 : decode cX4_moved 45 = .ok (.aload_n 0, 1) := by decide +kernel
theorem dX4_moved_46 : decode cX4_moved 46 = .ok (.iload_n 1, 1) := by decide +kernel
theorem dX4_moved_47 : decode cX4_moved 47 = .ok (.iload_n 2, 1) := by decide +kernel
theorem dX4_moved_48 : decode cX4_moved 48 = .ok (.iload_n 3, 1) := by decide +kernel
theorem dX4_moved_49 : decode cX4_moved 49 = .ok (.iload 4, 2) := by decide +kernel
theorem dX4_moved_51 : decode cX4_moved 51 = .ok (.invokevirtual 188, 3) := by decide +kernel
theorem dX4_moved_54 : decode cX4_moved 54 = .ok (.ireturn, 1) := by decide +kernel
theorem dX4_slidesAt_0 : decode cX4_slidesAt 0 = .ok (.iload_n 1, 1) := by decide +kernel
theorem dX4_slidesAt_1 : decode cX4_slidesAt 1 = .ok (.aload_n 0, 1) := by decide +kernel
theorem dX4_slidesAt_2 : decode cX4_slidesAt 2 = .ok (.getfield 12, 3) := by decide +kernel
theorem dX4_slidesAt_5 : decode cX4_slidesAt 5 = .ok (.getfield 93, 3) := by decide +kernel
theorem dX4_slidesAt_8 : decode cX4_slidesAt 8 = .ok (.invokestatic 53, 3) := by decide +kernel
theorem dX4_slidesAt_11 : decode cX4_slidesAt 11 = .ok (.iload_n 2, 1) := by decide +kernel
theorem dX4_slidesAt_12 : decode cX4_slidesAt 12 = .ok (.aload_n 0, 1) := by decide +kernel
theorem dX4_slidesAt_13 : decode cX4_slidesAt 13 = .ok (.getfield 12, 3) := by decide +kernel
theorem dX4_slidesAt_16 : decode cX4_slidesAt 16 = .ok (.getfield 93, 3) := by decide +kernel
theorem dX4_slidesAt_19 : decode cX4_slidesAt 19 = .ok (.invokestatic 53, 3) := by decide +kernel
theorem dX4_slidesAt_22 : decode cX4_slidesAt 22 = .ok (.iload_n 3, 1) := by decide +kernel
theorem dX4_slidesAt_23 : decode cX4_slidesAt 23 = .ok (.iconst 2, 1) := by decide +kernel
theorem dX4_slidesAt_24 : decode cX4_slidesAt 24 = .ok (.invokestatic 53, 3) := by decide +kernel
theorem dX4_slidesAt_27 : decode cX4_slidesAt 27 = .ok (.aload_n 0, 1) := by decide +kernel
theorem dX4_slidesAt_28 : decode cX4_slidesAt 28 = .ok (.getfield 34, 3) := by decide +kernel
theorem dX4_slidesAt_31 : decode cX4_slidesAt 31 = .ok (.aload_n 0, 1) := by decide +kernel
theorem dX4_slidesAt_32 : decode cX4_slidesAt 32 = .ok (.getfield 12, 3) := by decide +kernel
theorem dX4_slidesAt_35 : decode cX4_slidesAt 35 = .ok (.invokevirtual 152, 3) := by decide +kernel
theorem dX4_slidesAt_38 : decode cX4_slidesAt 38 = .ok (.iconst 0, 1) := by decide +kernel
theorem dX4_slidesAt_39 : decode cX4_slidesAt 39 = .ok (.istore 4, 2) := by decide +kernel
theorem dX4_slidesAt_41 : decode cX4_slidesAt 41 = .ok (.iconst (-1), 1) := by decide +kernel
theorem dX4_slidesAt_42 : decode cX4_slidesAt 42 = .ok (.istore 5, 2) := by decide +kernel
theorem dX4_slidesAt_44 : decode cX4_slidesAt 44 = .ok (.iconst 0, 1) := by decide +kernel
theorem dX4_slidesAt_45 : decode cX4_slidesAt 45 = .ok (.istore 6, 2) := by decide +kernel
theorem dX4_slidesAt_47 : decode cX4_slidesAt 47 = .ok (.iload 6, 2) := by decide +kernel
theorem dX4_slidesAt_49 : decode cX4_slidesAt 49 = .ok (.bipush 16, 2) := by decide +kernel
theorem dX4_slidesAt_51 : decode cX4_slidesAt 51 = .ok (.if_icmp .ge 38, 3) := by decide +kernel
theorem dX4_slidesAt_54 : decode cX4_slidesAt 54 = .ok (.aload_n 0, 1) := by decide +kernel
theorem dX4_slidesAt_55 : decode cX4_slidesAt 55 = .ok (.iload_n 1, 1) := by decide +kernel
theorem dX4_slidesAt_56 : decode cX4_slidesAt 56 = .ok (.iload_n 2, 1) := by decide +kernel
theorem dX4_slidesAt_57 : decode cX4_slidesAt 57 = .ok (.iload 6, 2) := by decide +kernel
theorem dX4_slidesAt_59 : decode cX4_slidesAt 59 = .ok (.iload_n 3, 1) := by decide +kernel
theorem dX4_slidesAt_60 : decode cX4_slidesAt 60 = .ok (.invokevirtual 191, 3) := by decide +kernel
theorem dX4_slidesAt_63 : decode cX4_slidesAt 63 = .ok (.invokestatic 194, 3) := by decide +kernel
theorem dX4_slidesAt_66 : decode cX4_slidesAt 66 = .ok (.istore 7, 2) := by decide +kernel
theorem dX4_slidesAt_68 : decode cX4_slidesAt 68 = .ok (.iload 7, 2) := by decide +kernel
theorem dX4_slidesAt_70 : decode cX4_slidesAt 70 = .ok (.iload 4, 2) := by decide +kernel
theorem dX4_slidesAt_72 : decode cX4_slidesAt 72 = .ok (.if_icmp .le 11, 3) := by decide +kernel
theorem dX4_slidesAt_75 : decode cX4_slidesAt 75 = .ok (.iload 7, 2) := by decide +kernel
theorem dX4_slidesAt_77 : decode cX4_slidesAt 77 = .ok (.istore 4, 2) := by decide +kernel
theorem dX4_slidesAt_79 : decode cX4_slidesAt 79 = .ok (.iload 6, 2) := by decide +kernel
theorem dX4_slidesAt_81 : decode cX4_slidesAt 81 = .ok (.istore 5, 2) := by decide +kernel
theorem dX4_slidesAt_83 : decode cX4_slidesAt 83 = .ok (.iinc 6 1, 3) := by decide +kernel
theorem dX4_slidesAt_86 : decode cX4_slidesAt 86 = .ok (.goto (-39), 3) := by decide +kernel
theorem dX4_slidesAt_89 : decode cX4_slidesAt 89 = .ok (.iload 5, 2) := by decide +kernel
theorem dX4_slidesAt_91 : decode cX4_slidesAt 91 = .ok (.ireturn, 1) := by decide +kernel
theorem dX4_firstMoved_0 : decode cX4_firstMoved 0 = .ok (.iload_n 1, 1) := by decide +kernel
theorem dX4_firstMoved_1 : decode cX4_firstMoved 1 = .ok (.aload_n 0, 1) := by decide +kernel
theorem dX4_firstMoved_2 : decode cX4_firstMoved 2 = .ok (.getfield 12, 3) := by decide +kernel
theorem dX4_firstMoved_5 : decode cX4_firstMoved 5 = .ok (.getfield 93, 3) := by decide +kernel
theorem dX4_firstMoved_8 : decode cX4_firstMoved 8 = .ok (.invokestatic 53, 3) := by decide +kernel
theorem dX4_firstMoved_11 : decode cX4_firstMoved 11 = .ok (.iload_n 2, 1) := by decide +kernel
theorem dX4_firstMoved_12 : decode cX4_firstMoved 12 = .ok (.aload_n 0, 1) := by decide +kernel
theorem dX4_firstMoved_13 : decode cX4_firstMoved 13 = .ok (.getfield 12, 3) := by decide +kernel
theorem dX4_firstMoved_16 : decode cX4_firstMoved 16 = .ok (.getfield 93, 3) := by decide +kernel
theorem dX4_firstMoved_19 : decode cX4_firstMoved 19 = .ok (.invokestatic 53, 3) := by decide +kernel
theorem dX4_firstMoved_22 : decode cX4_firstMoved 22 = .ok (.iload_n 3, 1) := by decide +kernel
theorem dX4_firstMoved_23 : decode cX4_firstMoved 23 = .ok (.iconst 2, 1) := by decide +kernel
theorem dX4_firstMoved_24 : decode cX4_firstMoved 24 = .ok (.invokestatic 53, 3) := by decide +kernel
theorem dX4_firstMoved_27 : decode cX4_firstMoved 27 = .ok (.iload 4, 2) := by decide +kernel
theorem dX4_firstMoved_29 : decode cX4_firstMoved 29 = .ok (.iconst 1, 1) := by decide +kernel
theorem dX4_firstMoved_30 : decode cX4_firstMoved 30 = .ok (.sipush 999, 3) := by decide +kernel
theorem dX4_firstMoved_33 : decode cX4_firstMoved 33 = .ok (.invokestatic 57, 3) := by decide +kernel
theorem dX4_firstMoved_36 : decode cX4_firstMoved 36 = .ok (.aload_n 0, 1) := by decide +kernel
theorem dX4_firstMoved_37 : decode cX4_firstMoved 37 = .ok (.getfield 34, 3) := by decide +kernel
theorem dX4_firstMoved_40 : decode cX4_firstMoved 40 = .ok (.aload_n 0, 1) := by decide +kernel
theorem dX4_firstMoved_41 : decode cX4_firstMoved 41 = .ok (.getfield 12, 3) := by decide +kernel
theorem dX4_firstMoved_44 : decode cX4_firstMoved 44 = .ok (.invokevirtual 152, 3) := by decide +kernel
theorem dX4_firstMoved_47 : decode cX4_firstMoved 47 = .ok (.iconst 0, 1) := by decide +kernel
theorem dX4_firstMoved_48 : decode cX4_firstMoved 48 = .ok (.istore 5, 2) := by decide +kernel
theorem dX4_firstMoved_50 : decode cX4_firstMoved 50 = .ok (.iconst 0, 1) := by decide +kernel
theorem dX4_firstMoved_51 : decode cX4_firstMoved 51 = .ok (.istore 6, 2) := by decide +kernel
theorem dX4_firstMoved_53 : decode cX4_firstMoved 53 = .ok (.iload 6, 2) := by decide +kernel
theorem dX4_firstMoved_55 : decode cX4_firstMoved 55 = .ok (.bipush 16, 2) := by decide +kernel
theorem dX4_firstMoved_57 : decode cX4_firstMoved 57 = .ok (.if_icmp .ge 36, 3) := by decide +kernel
theorem dX4_firstMoved_60 : decode cX4_firstMoved 60 = .ok (.iload 5, 2) := by decide +kernel
theorem dX4_firstMoved_62 : decode cX4_firstMoved 62 = .ok (.aload_n 0, 1) := by decide +kernel
theorem dX4_firstMoved_63 : decode cX4_firstMoved 63 = .ok (.iload_n 1, 1) := by decide +kernel
theorem dX4_firstMoved_64 : decode cX4_firstMoved 64 = .ok (.iload_n 2, 1) := by decide +kernel
theorem dX4_firstMoved_65 : decode cX4_firstMoved 65 = .ok (.iload 6, 2) := by decide +kernel
theorem dX4_firstMoved_67 : decode cX4_firstMoved 67 = .ok (.iload_n 3, 1) := by decide +kernel
theorem dX4_firstMoved_68 : decode cX4_firstMoved 68 = .ok (.invokevirtual 191, 3) := by decide +kernel
theorem dX4_firstMoved_71 : decode cX4_firstMoved 71 = .ok (.iadd, 1) := by decide +kernel
theorem dX4_firstMoved_72 : decode cX4_firstMoved 72 = .ok (.istore 5, 2) := by decide +kernel
theorem dX4_firstMoved_74 : decode cX4_firstMoved 74 = .ok (.iload 5, 2) := by decide +kernel
theorem dX4_firstMoved_76 : decode cX4_firstMoved 76 = .ok (.invokestatic 194, 3) := by decide +kernel
theorem dX4_firstMoved_79 : decode cX4_firstMoved 79 = .ok (.iload 4, 2) := by decide +kernel
theorem dX4_firstMoved_81 : decode cX4_firstMoved 81 = .ok (.if_icmp .lt 6, 3) := by decide +kernel
theorem dX4_firstMoved_84 : decode cX4_firstMoved 84 = .ok (.iload 6, 2) := by decide +kernel
theorem dX4_firstMoved_86 : decode cX4_firstMoved 86 = .ok (.ireturn, 1) := by decide +kernel
theorem dX4_firstMoved_87 : decode cX4_firstMoved 87 = .ok (.iinc 6 1, 3) := by decide +kernel
theorem dX4_firstMoved_90 : decode cX4_firstMoved 90 = .ok (.goto (-37), 3) := by decide +kernel
theorem dX4_firstMoved_93 : decode cX4_firstMoved 93 = .ok (.iconst (-1), 1) := by decide +kernel
theorem dX4_firstMoved_94 : decode cX4_firstMoved 94 = .ok (.ireturn, 1) := by decide +kernel
theorem dX4_speed_0 : decode cX4_speed 0 = .ok (.iload_n 1, 1) := by decide +kernel
theorem dX4_speed_1 : decode cX4_speed 1 = .ok (.aload_n 0, 1) := by decide +kernel
theorem dX4_speed_2 : decode cX4_speed 2 = .ok (.getfield 12, 3) := by decide +kernel
theorem dX4_speed_5 : decode cX4_speed 5 = .ok (.getfield 93, 3) := by decide +kernel
theorem dX4_speed_8 : decode cX4_speed 8 = .ok (.invokestatic 53, 3) := by decide +kernel
theorem dX4_speed_11 : decode cX4_speed 11 = .ok (.iload_n 2, 1) := by decide +kernel
theorem dX4_speed_12 : decode cX4_speed 12 = .ok (.aload_n 0, 1) := by decide +kernel
theorem dX4_speed_13 : decode cX4_speed 13 = .ok (.getfield 12, 3) := by decide +kernel
theorem dX4_speed_16 : decode cX4_speed 16 = .ok (.getfield 93, 3) := by decide +kernel
theorem dX4_speed_19 : decode cX4_speed 19 = .ok (.invokestatic 53, 3) := by decide +kernel
theorem dX4_speed_22 : decode cX4_speed 22 = .ok (.iload_n 3, 1) := by decide +kernel
theorem dX4_speed_23 : decode cX4_speed 23 = .ok (.iconst 2, 1) := by decide +kernel
theorem dX4_speed_24 : decode cX4_speed 24 = .ok (.invokestatic 53, 3) := by decide +kernel
theorem dX4_speed_27 : decode cX4_speed 27 = .ok (.aload_n 0, 1) := by decide +kernel
theorem dX4_speed_28 : decode cX4_speed 28 = .ok (.getfield 12, 3) := by decide +kernel
theorem dX4_speed_31 : decode cX4_speed 31 = .ok (.getfield 107, 3) := by decide +kernel
theorem dX4_speed_34 : decode cX4_speed 34 = .ok (.iload_n 2, 1) := by decide +kernel
theorem dX4_speed_35 : decode cX4_speed 35 = .ok (.iaload, 1) := by decide +kernel
theorem dX4_speed_36 : decode cX4_speed 36 = .ok (.aload_n 0, 1) := by decide +kernel
theorem dX4_speed_37 : decode cX4_speed 37 = .ok (.getfield 12, 3) := by decide +kernel
theorem dX4_speed_40 : decode cX4_speed 40 = .ok (.getfield 107, 3) := by decide +kernel
theorem dX4_speed_43 : decode cX4_speed 43 = .ok (.iload_n 1, 1) := by decide +kernel
theorem dX4_speed_44 : decode cX4_speed 44 = .ok (.iaload, 1) := by decide +kernel
theorem dX4_speed_45 : decode cX4_speed 45 = .ok (.isub, 1) := by decide +kernel
theorem dX4_speed_46 : decode cX4_speed 46 = .ok (.istore 4, 2) := by decide +kernel
theorem dX4_speed_48 : decode cX4_speed 48 = .ok (.iload 4, 2) := by decide +kernel
theorem dX4_speed_50 : decode cX4_speed 50 = .ok (.ifCond .ne 5, 3) := by decide +kernel
theorem dX4_speed_53 : decode cX4_speed 53 = .ok (.dconst 0, 1) := by decide +kernel
theorem dX4_speed_54 : decode cX4_speed 54 = .ok (.dreturn, 1) := by decide +kernel
theorem dX4_speed_55 : decode cX4_speed 55 = .ok (.aload_n 0, 1) := by decide +kernel
theorem dX4_speed_56 : decode cX4_speed 56 = .ok (.getfield 34, 3) := by decide +kernel
theorem dX4_speed_59 : decode cX4_speed 59 = .ok (.aload_n 0, 1) := by decide +kernel
theorem dX4_speed_60 : decode cX4_speed 60 = .ok (.getfield 12, 3) := by decide +kernel
theorem dX4_speed_63 : decode cX4_speed 63 = .ok (.invokevirtual 152, 3) := by decide +kernel
theorem dX4_speed_66 : decode cX4_speed 66 = .ok (.aload_n 0, 1) := by decide +kernel
theorem dX4_speed_67 : decode cX4_speed 67 = .ok (.iload_n 1, 1) := by decide +kernel
theorem dX4_speed_68 : decode cX4_speed 68 = .ok (.iload_n 2, 1) := by decide +kernel
theorem dX4_speed_69 : decode cX4_speed 69 = .ok (.bipush 15, 2) := by decide +kernel
theorem dX4_speed_71 : decode cX4_speed 71 = .ok (.iload_n 3, 1) := by decide +kernel
theorem dX4_speed_72 : decode cX4_speed 72 = .ok (.invokevirtual 188, 3) := by decide +kernel
theorem dX4_speed_75 : decode cX4_speed 75 = .ok (.i2d, 1) := by decide +kernel
theorem dX4_speed_76 : decode cX4_speed 76 = .ok (.iload 4, 2) := by decide +kernel
theorem dX4_speed_78 : decode cX4_speed 78 = .ok (.i2d, 1) := by decide +kernel
theorem dX4_speed_79 : decode cX4_speed 79 = .ok (.ddiv, 1) := by decide +kernel
theorem dX4_speed_80 : decode cX4_speed 80 = .ok (.dreturn, 1) := by decide +kernel
theorem dX4_meanCheck_0 : decode cX4_meanCheck 0 = .ok (.iload_n 1, 1) := by decide +kernel
theorem dX4_meanCheck_1 : decode cX4_meanCheck 1 = .ok (.aload_n 0, 1) := by decide +kernel
theorem dX4_meanCheck_2 : decode cX4_meanCheck 2 = .ok (.getfield 12, 3) := by decide +kernel
theorem dX4_meanCheck_5 : decode cX4_meanCheck 5 = .ok (.getfield 93, 3) := by decide +kernel
theorem dX4_meanCheck_8 : decode cX4_meanCheck 8 = .ok (.invokestatic 53, 3) := by decide +kernel
theorem dX4_meanCheck_11 : decode cX4_meanCheck 11 = .ok (.iload_n 2, 1) := by decide +kernel
theorem dX4_meanCheck_12 : decode cX4_meanCheck 12 = .ok (.iconst 2, 1) := by decide +kernel
theorem dX4_meanCheck_13 : decode cX4_meanCheck 13 = .ok (.invokestatic 53, 3) := by decide +kernel
theorem dX4_meanCheck_16 : decode cX4_meanCheck 16 = .ok (.iconst 0, 1) := by decide +kernel
theorem dX4_meanCheck_17 : decode cX4_meanCheck 17 = .ok (.istore_n 3, 1) := by decide +kernel
theorem dX4_meanCheck_18 : decode cX4_meanCheck 18 = .ok (.iconst 0, 1) := by decide +kernel
theorem dX4_meanCheck_19 : decode cX4_meanCheck 19 = .ok (.istore 4, 2) := by decide +kernel
theorem dX4_meanCheck_21 : decode cX4_meanCheck 21 = .ok (.iload 4, 2) := by decide +kernel
theorem dX4_meanCheck_23 : decode cX4_meanCheck 23 = .ok (.bipush 16, 2) := by decide +kernel
theorem dX4_meanCheck_25 : decode cX4_meanCheck 25 = .ok (.if_icmp .ge 23, 3) := by decide +kernel
theorem dX4_meanCheck_28 : decode cX4_meanCheck 28 = .ok (.iload_n 3, 1) := by decide +kernel
theorem dX4_meanCheck_29 : decode cX4_meanCheck 29 = .ok (.aload_n 0, 1) := by decide +kernel
theorem dX4_meanCheck_30 : decode cX4_meanCheck 30 = .ok (.getfield 12, 3) := by decide +kernel
theorem dX4_meanCheck_33 : decode cX4_meanCheck 33 = .ok (.iload_n 1, 1) := by decide +kernel
theorem dX4_meanCheck_34 : decode cX4_meanCheck 34 = .ok (.iload 4, 2) := by decide +kernel
theorem dX4_meanCheck_36 : decode cX4_meanCheck 36 = .ok (.iload_n 2, 1) := by decide +kernel
theorem dX4_meanCheck_37 : decode cX4_meanCheck 37 = .ok (.invokestatic 155, 3) := by decide +kernel
theorem dX4_meanCheck_40 : decode cX4_meanCheck 40 = .ok (.iadd, 1) := by decide +kernel
theorem dX4_meanCheck_41 : decode cX4_meanCheck 41 = .ok (.istore_n 3, 1) := by decide +kernel
theorem dX4_meanCheck_42 : decode cX4_meanCheck 42 = .ok (.iinc 4 1, 3) := by decide +kernel
theorem dX4_meanCheck_45 : decode cX4_meanCheck 45 = .ok (.goto (-24), 3) := by decide +kernel
theorem dX4_meanCheck_48 : decode cX4_meanCheck 48 = .ok (.iload_n 3, 1) := by decide +kernel
theorem dX4_meanCheck_49 : decode cX4_meanCheck 49 = .ok (.i2f, 1) := by decide +kernel
theorem dX4_meanCheck_50 : decode cX4_meanCheck 50 = .ok (.ldc 197, 2) := by decide +kernel
theorem dX4_meanCheck_52 : decode cX4_meanCheck 52 = .ok (.fdiv, 1) := by decide +kernel
theorem dX4_meanCheck_53 : decode cX4_meanCheck 53 = .ok (.freturn, 1) := by decide +kernel
theorem dX4_spread_0 : decode cX4_spread 0 = .ok (.iload_n 1, 1) := by decide +kernel
theorem dX4_spread_1 : decode cX4_spread 1 = .ok (.aload_n 0, 1) := by decide +kernel
theorem dX4_spread_2 : decode cX4_spread 2 = .ok (.getfield 12, 3) := by decide +kernel
theorem dX4_spread_5 : decode cX4_spread 5 = .ok (.getfield 93, 3) := by decide +kernel
theorem dX4_spread_8 : decode cX4_spread 8 = .ok (.invokestatic 53, 3) := by decide +kernel
theorem dX4_spread_11 : decode cX4_spread 11 = .ok (.iload_n 2, 1) := by decide +kernel
theorem dX4_spread_12 : decode cX4_spread 12 = .ok (.iconst 2, 1) := by decide +kernel
theorem dX4_spread_13 : decode cX4_spread 13 = .ok (.invokestatic 53, 3) := by decide +kernel
theorem dX4_spread_16 : decode cX4_spread 16 = .ok (.lconst 0, 1) := by decide +kernel
theorem dX4_spread_17 : decode cX4_spread 17 = .ok (.lstore_n 3, 1) := by decide +kernel
theorem dX4_spread_18 : decode cX4_spread 18 = .ok (.lconst 0, 1) := by decide +kernel
theorem dX4_spread_19 : decode cX4_spread 19 = .ok (.lstore 5, 2) := by decide +kernel
theorem dX4_spread_21 : decode cX4_spread 21 = .ok (.iconst 0, 1) := by decide +kernel
theorem dX4_spread_22 : decode cX4_spread 22 = .ok (.istore 7, 2) := by decide +kernel
theorem dX4_spread_24 : decode cX4_spread 24 = .ok (.iload 7, 2) := by decide +kernel
theorem dX4_spread_26 : decode cX4_spread 26 = .ok (.bipush 16, 2) := by decide +kernel
theorem dX4_spread_28 : decode cX4_spread 28 = .ok (.if_icmp .ge 38, 3) := by decide +kernel
theorem dX4_spread_31 : decode cX4_spread 31 = .ok (.aload_n 0, 1) := by decide +kernel
theorem dX4_spread_32 : decode cX4_spread 32 = .ok (.getfield 12, 3) := by decide +kernel
theorem dX4_spread_35 : decode cX4_spread 35 = .ok (.iload_n 1, 1) := by decide +kernel
theorem dX4_spread_36 : decode cX4_spread 36 = .ok (.iload 7, 2) := by decide +kernel
theorem dX4_spread_38 : decode cX4_spread 38 = .ok (.iload_n 2, 1) := by decide +kernel
theorem dX4_spread_39 : decode cX4_spread 39 = .ok (.invokestatic 155, 3) := by decide +kernel
theorem dX4_spread_42 : decode cX4_spread 42 = .ok (.i2l, 1) := by decide +kernel
theorem dX4_spread_43 : decode cX4_spread 43 = .ok (.lstore 8, 2) := by decide +kernel
theorem dX4_spread_45 : decode cX4_spread 45 = .ok (.lload_n 3, 1) := by decide +kernel
theorem dX4_spread_46 : decode cX4_spread 46 = .ok (.lload 8, 2) := by decide +kernel
theorem dX4_spread_48 : decode cX4_spread 48 = .ok (.ladd, 1) := by decide +kernel
theorem dX4_spread_49 : decode cX4_spread 49 = .ok (.lstore_n 3, 1) := by decide +kernel
theorem dX4_spread_50 : decode cX4_spread 50 = .ok (.lload 5, 2) := by decide +kernel
theorem dX4_spread_52 : decode cX4_spread 52 = .ok (.lload 8, 2) := by decide +kernel
theorem dX4_spread_54 : decode cX4_spread 54 = .ok (.lload 8, 2) := by decide +kernel
theorem dX4_spread_56 : decode cX4_spread 56 = .ok (.lmul, 1) := by decide +kernel
theorem dX4_spread_57 : decode cX4_spread 57 = .ok (.ladd, 1) := by decide +kernel
theorem dX4_spread_58 : decode cX4_spread 58 = .ok (.lstore 5, 2) := by decide +kernel
theorem dX4_spread_60 : decode cX4_spread 60 = .ok (.iinc 7 1, 3) := by decide +kernel
theorem dX4_spread_63 : decode cX4_spread 63 = .ok (.goto (-39), 3) := by decide +kernel
theorem dX4_spread_66 : decode cX4_spread 66 = .ok (.ldc2_w 198, 3) := by decide +kernel
theorem dX4_spread_69 : decode cX4_spread 69 = .ok (.lload 5, 2) := by decide +kernel
theorem dX4_spread_71 : decode cX4_spread 71 = .ok (.lmul, 1) := by decide +kernel
theorem dX4_spread_72 : decode cX4_spread 72 = .ok (.lload_n 3, 1) := by decide +kernel
theorem dX4_spread_73 : decode cX4_spread 73 = .ok (.lload_n 3, 1) := by decide +kernel
theorem dX4_spread_74 : decode cX4_spread 74 = .ok (.lmul, 1) := by decide +kernel
theorem dX4_spread_75 : decode cX4_spread 75 = .ok (.lsub, 1) := by decide +kernel
theorem dX4_spread_76 : decode cX4_spread 76 = .ok (.l2d, 1) := by decide +kernel
theorem dX4_spread_77 : decode cX4_spread 77 = .ok (.ldc2_w 200, 3) := by decide +kernel
theorem dX4_spread_80 : decode cX4_spread 80 = .ok (.ddiv, 1) := by decide +kernel
theorem dX4_spread_81 : decode cX4_spread 81 = .ok (.dreturn, 1) := by decide +kernel
theorem dX4_digest_0 : decode cX4_digest 0 = .ok (.aload_n 0, 1) := by decide +kernel
theorem dX4_digest_1 : decode cX4_digest 1 = .ok (.ldc2_w 202, 3) := by decide +kernel
theorem dX4_digest_4 : decode cX4_digest 4 = .ok (.invokevirtual 204, 3) := by decide +kernel
theorem dX4_digest_7 : decode cX4_digest 7 = .ok (.lstore_n 1, 1) := by decide +kernel
theorem dX4_digest_8 : decode cX4_digest 8 = .ok (.iconst 0, 1) := by decide +kernel
theorem dX4_digest_9 : decode cX4_digest 9 = .ok (.istore_n 3, 1) := by decide +kernel
theorem dX4_digest_10 : decode cX4_digest 10 = .ok (.iload_n 3, 1) := by decide +kernel
theorem dX4_digest_11 : decode cX4_digest 11 = .ok (.aload_n 0, 1) := by decide +kernel
theorem dX4_digest_12 : decode cX4_digest 12 = .ok (.getfield 12, 3) := by decide +kernel
theorem dX4_digest_15 : decode cX4_digest 15 = .ok (.getfield 93, 3) := by decide +kernel
theorem dX4_digest_18 : decode cX4_digest 18 = .ok (.if_icmp .ge 16, 3) := by decide +kernel
theorem dX4_digest_21 : decode cX4_digest 21 = .ok (.aload_n 0, 1) := by decide +kernel
theorem dX4_digest_22 : decode cX4_digest 22 = .ok (.lload_n 1, 1) := by decide +kernel
theorem dX4_digest_23 : decode cX4_digest 23 = .ok (.iload_n 3, 1) := by decide +kernel
theorem dX4_digest_24 : decode cX4_digest 24 = .ok (.invokevirtual 208, 3) := by decide +kernel
theorem dX4_digest_27 : decode cX4_digest 27 = .ok (.lstore_n 1, 1) := by decide +kernel
theorem dX4_digest_28 : decode cX4_digest 28 = .ok (.iinc 3 1, 3) := by decide +kernel
theorem dX4_digest_31 : decode cX4_digest 31 = .ok (.goto (-21), 3) := by decide +kernel
theorem dX4_digest_34 : decode cX4_digest 34 = .ok (.iconst 1, 1) := by decide +kernel
theorem dX4_digest_35 : decode cX4_digest 35 = .ok (.istore_n 3, 1) := by decide +kernel
theorem dX4_digest_36 : decode cX4_digest 36 = .ok (.iload_n 3, 1) := by decide +kernel
theorem dX4_digest_37 : decode cX4_digest 37 = .ok (.aload_n 0, 1) := by decide +kernel
theorem dX4_digest_38 : decode cX4_digest 38 = .ok (.getfield 12, 3) := by decide +kernel
theorem dX4_digest_41 : decode cX4_digest 41 = .ok (.getfield 93, 3) := by decide +kernel
theorem dX4_digest_44 : decode cX4_digest 44 = .ok (.if_icmp .ge 69, 3) := by decide +kernel
theorem dX4_digest_47 : decode cX4_digest 47 = .ok (.iconst 0, 1) := by decide +kernel
theorem dX4_digest_48 : decode cX4_digest 48 = .ok (.istore 4, 2) := by decide +kernel
theorem dX4_digest_50 : decode cX4_digest 50 = .ok (.iload 4, 2) := by decide +kernel
theorem dX4_digest_52 : decode cX4_digest 52 = .ok (.iconst 2, 1) := by decide +kernel
theorem dX4_digest_53 : decode cX4_digest 53 = .ok (.if_icmp .ge 54, 3) := by decide +kernel
theorem dX4_digest_56 : decode cX4_digest 56 = .ok (.lload_n 1, 1) := by decide +kernel
theorem dX4_digest_57 : decode cX4_digest 57 = .ok (.aload_n 0, 1) := by decide +kernel
theorem dX4_digest_58 : decode cX4_digest 58 = .ok (.iconst 0, 1) := by decide +kernel
theorem dX4_digest_59 : decode cX4_digest 59 = .ok (.iload_n 3, 1) := by decide +kernel
theorem dX4_digest_60 : decode cX4_digest 60 = .ok (.iload 4, 2) := by decide +kernel
theorem dX4_digest_62 : decode cX4_digest 62 = .ok (.invokevirtual 212, 3) := by decide +kernel
theorem dX4_digest_65 : decode cX4_digest 65 = .ok (.i2l, 1) := by decide +kernel
theorem dX4_digest_66 : decode cX4_digest 66 = .ok (.invokestatic 215, 3) := by decide +kernel
theorem dX4_digest_69 : decode cX4_digest 69 = .ok (.lstore_n 1, 1) := by decide +kernel
theorem dX4_digest_70 : decode cX4_digest 70 = .ok (.lload_n 1, 1) := by decide +kernel
theorem dX4_digest_71 : decode cX4_digest 71 = .ok (.aload_n 0, 1) := by decide +kernel
theorem dX4_digest_72 : decode cX4_digest 72 = .ok (.iconst 0, 1) := by decide +kernel
theorem dX4_digest_73 : decode cX4_digest 73 = .ok (.iload_n 3, 1) := by decide +kernel
theorem dX4_digest_74 : decode cX4_digest 74 = .ok (.iload 4, 2) := by decide +kernel
theorem dX4_digest_76 : decode cX4_digest 76 = .ok (.iconst 5, 1) := by decide +kernel
theorem dX4_digest_77 : decode cX4_digest 77 = .ok (.invokevirtual 219, 3) := by decide +kernel
theorem dX4_digest_80 : decode cX4_digest 80 = .ok (.i2l, 1) := by decide +kernel
theorem dX4_digest_81 : decode cX4_digest 81 = .ok (.invokestatic 215, 3) := by decide +kernel
theorem dX4_digest_84 : decode cX4_digest 84 = .ok (.lstore_n 1, 1) := by decide +kernel
theorem dX4_digest_85 : decode cX4_digest 85 = .ok (.lload_n 1, 1) := by decide +kernel
theorem dX4_digest_86 : decode cX4_digest 86 = .ok (.aload_n 0, 1) := by decide +kernel
theorem dX4_digest_87 : decode cX4_digest 87 = .ok (.iconst 0, 1) := by decide +kernel
theorem dX4_digest_88 : decode cX4_digest 88 = .ok (.iload_n 3, 1) := by decide +kernel
theorem dX4_digest_89 : decode cX4_digest 89 = .ok (.iload 4, 2) := by decide +kernel
theorem dX4_digest_91 : decode cX4_digest 91 = .ok (.invokevirtual 222, 3) := by decide +kernel
theorem dX4_digest_94 : decode cX4_digest 94 = .ok (.invokestatic 226, 3) := by decide +kernel
theorem dX4_digest_97 : decode cX4_digest 97 = .ok (.invokestatic 215, 3) := by decide +kernel
theorem dX4_digest_100 : decode cX4_digest 100 = .ok (.lstore_n 1, 1) := by decide +kernel
theorem dX4_digest_101 : decode cX4_digest 101 = .ok (.iinc 4 1, 3) := by decide +kernel
theorem dX4_digest_104 : decode cX4_digest 104 = .ok (.goto (-54), 3) := by decide +kernel
theorem dX4_digest_107 : decode cX4_digest 107 = .ok (.iinc 3 1, 3) := by decide +kernel
theorem dX4_digest_110 : decode cX4_digest 110 = .ok (.goto (-74), 3) := by decide +kernel
theorem dX4_digest_113 : decode cX4_digest 113 = .ok (.aload_n 0, 1) := by decide +kernel
theorem dX4_digest_114 : decode cX4_digest 114 = .ok (.lload_n 1, 1) := by decide +kernel
theorem dX4_digest_115 : decode cX4_digest 115 = .ok (.invokevirtual 230, 3) := by decide +kernel
theorem dX4_digest_118 : decode cX4_digest 118 = .ok (.lreturn, 1) := by decide +kernel
theorem dX4_isWithin_0 : decode cX4_isWithin 0 = .ok (.iload_n 0, 1) := by decide +kernel
theorem dX4_isWithin_1 : decode cX4_isWithin 1 = .ok (.iload_n 1, 1) := by decide +kernel
theorem dX4_isWithin_2 : decode cX4_isWithin 2 = .ok (.if_icmp .lt 12, 3) := by decide +kernel
theorem dX4_isWithin_5 : decode cX4_isWithin 5 = .ok (.iload_n 0, 1) := by decide +kernel
theorem dX4_isWithin_6 : decode cX4_isWithin 6 = .ok (.iload_n 2, 1) := by decide +kernel
theorem dX4_isWithin_7 : decode cX4_isWithin 7 = .ok (.if_icmp .gt 7, 3) := by decide +kernel
theorem dX4_isWithin_10 : decode cX4_isWithin 10 = .ok (.iconst 1, 1) := by decide +kernel
theorem dX4_isWithin_11 : decode cX4_isWithin 11 = .ok (.goto 4, 3) := by decide +kernel
theorem dX4_isWithin_14 : decode cX4_isWithin 14 = .ok (.iconst 0, 1) := by decide +kernel
theorem dX4_isWithin_15 : decode cX4_isWithin 15 = .ok (.ireturn, 1) := by decide +kernel
theorem dX4_needIndex_0 : decode cX4_needIndex 0 = .ok (.iload_n 0, 1) := by decide +kernel
theorem dX4_needIndex_1 : decode cX4_needIndex 1 = .ok (.ifCond .lt 8, 3) := by decide +kernel
theorem dX4_needIndex_4 : decode cX4_needIndex 4 = .ok (.iload_n 0, 1) := by decide +kernel
theorem dX4_needIndex_5 : decode cX4_needIndex 5 = .ok (.iload_n 1, 1) := by decide +kernel
theorem dX4_needIndex_6 : decode cX4_needIndex 6 = .ok (.if_icmp .lt 13, 3) := by decide +kernel
theorem dX4_needIndex_9 : decode cX4_needIndex 9 = .ok (.new 233, 3) := by decide +kernel
theorem dX4_needIndex_12 : decode cX4_needIndex 12 = .ok (.dup, 1) := by decide +kernel
theorem dX4_needIndex_13 : decode cX4_needIndex 13 = .ok (.ldc 235, 2) := by decide +kernel
theorem dX4_needIndex_15 : decode cX4_needIndex 15 = .ok (.invokespecial 237, 3) := by decide +kernel
theorem dX4_needIndex_18 : decode cX4_needIndex 18 = .ok (.athrow, 1) := by decide +kernel
theorem dX4_needIndex_19 : decode cX4_needIndex 19 = .ok (.return_, 1) := by decide +kernel
theorem dX4_needRange_0 : decode cX4_needRange 0 = .ok (.iload_n 0, 1) := by decide +kernel
theorem dX4_needRange_1 : decode cX4_needRange 1 = .ok (.iload_n 1, 1) := by decide +kernel
theorem dX4_needRange_2 : decode cX4_needRange 2 = .ok (.iload_n 2, 1) := by decide +kernel
theorem dX4_needRange_3 : decode cX4_needRange 3 = .ok (.invokestatic 113, 3) := by decide +kernel
theorem dX4_needRange_6 : decode cX4_needRange 6 = .ok (.ifCond .ne 13, 3) := by decide +kernel
theorem dX4_needRange_9 : decode cX4_needRange 9 = .ok (.new 240, 3) := by decide +kernel
theorem dX4_needRange_12 : decode cX4_needRange 12 = .ok (.dup, 1) := by decide +kernel
theorem dX4_needRange_13 : decode cX4_needRange 13 = .ok (.ldc 242, 2) := by decide +kernel
theorem dX4_needRange_15 : decode cX4_needRange 15 = .ok (.invokespecial 244, 3) := by decide +kernel
theorem dX4_needRange_18 : decode cX4_needRange 18 = .ok (.athrow, 1) := by decide +kernel
theorem dX4_needRange_19 : decode cX4_needRange 19 = .ok (.return_, 1) := by decide +kernel
theorem dX4_needText_0 : decode cX4_needText 0 = .ok (.iload_n 0, 1) := by decide +kernel
theorem dX4_needText_1 : decode cX4_needText 1 = .ok (.ifCond .ne 13, 3) := by decide +kernel
theorem dX4_needText_4 : decode cX4_needText 4 = .ok (.new 240, 3) := by decide +kernel
theorem dX4_needText_7 : decode cX4_needText 7 = .ok (.dup, 1) := by decide +kernel
theorem dX4_needText_8 : decode cX4_needText 8 = .ok (.ldc 245, 2) := by decide +kernel
theorem dX4_needText_10 : decode cX4_needText 10 = .ok (.invokespecial 244, 3) := by decide +kernel
theorem dX4_needText_13 : decode cX4_needText 13 = .ok (.athrow, 1) := by decide +kernel
theorem dX4_needText_14 : decode cX4_needText 14 = .ok (.return_, 1) := by decide +kernel
theorem dX4_needState_0 : decode cX4_needState 0 = .ok (.iload_n 0, 1) := by decide +kernel
theorem dX4_needState_1 : decode cX4_needState 1 = .ok (.ifCond .ne 13, 3) := by decide +kernel
theorem dX4_needState_4 : decode cX4_needState 4 = .ok (.new 247, 3) := by decide +kernel
theorem dX4_needState_7 : decode cX4_needState 7 = .ok (.dup, 1) := by decide +kernel
theorem dX4_needState_8 : decode cX4_needState 8 = .ok (.ldc 249, 2) := by decide +kernel
theorem dX4_needState_10 : decode cX4_needState 10 = .ok (.invokespecial 251, 3) := by decide +kernel
theorem dX4_needState_13 : decode cX4_needState 13 = .ok (.athrow, 1) := by decide +kernel
theorem dX4_needState_14 : decode cX4_needState 14 = .ok (.return_, 1) := by decide +kernel
theorem dX4_readingAt_0 : decode cX4_readingAt 0 = .ok (.iload_n 0, 1) := by decide +kernel
theorem dX4_readingAt_1 : decode cX4_readingAt 1 = .ok (.bipush 64, 2) := by decide +kernel
theorem dX4_readingAt_3 : decode cX4_readingAt 3 = .ok (.imul, 1) := by decide +kernel
theorem dX4_readingAt_4 : decode cX4_readingAt 4 = .ok (.iload_n 1, 1) := by decide +kernel
theorem dX4_readingAt_5 : decode cX4_readingAt 5 = .ok (.iconst 2, 1) := by decide +kernel
theorem dX4_readingAt_6 : decode cX4_readingAt 6 = .ok (.imul, 1) := by decide +kernel
theorem dX4_readingAt_7 : decode cX4_readingAt 7 = .ok (.iconst 2, 1) := by decide +kernel
theorem dX4_readingAt_8 : decode cX4_readingAt 8 = .ok (.imul, 1) := by decide +kernel
theorem dX4_readingAt_9 : decode cX4_readingAt 9 = .ok (.iadd, 1) := by decide +kernel
theorem dX4_readingAt_10 : decode cX4_readingAt 10 = .ok (.iload_n 2, 1) := by decide +kernel
theorem dX4_readingAt_11 : decode cX4_readingAt 11 = .ok (.iconst 2, 1) := by decide +kernel
theorem dX4_readingAt_12 : decode cX4_readingAt 12 = .ok (.imul, 1) := by decide +kernel
theorem dX4_readingAt_13 : decode cX4_readingAt 13 = .ok (.iadd, 1) := by decide +kernel
theorem dX4_readingAt_14 : decode cX4_readingAt 14 = .ok (.iload_n 3, 1) := by decide +kernel
theorem dX4_readingAt_15 : decode cX4_readingAt 15 = .ok (.iadd, 1) := by decide +kernel
theorem dX4_readingAt_16 : decode cX4_readingAt 16 = .ok (.ireturn, 1) := by decide +kernel
theorem dX4_tiltAt_0 : decode cX4_tiltAt 0 = .ok (.iload_n 0, 1) := by decide +kernel
theorem dX4_tiltAt_1 : decode cX4_tiltAt 1 = .ok (.bipush 32, 2) := by decide +kernel
theorem dX4_tiltAt_3 : decode cX4_tiltAt 3 = .ok (.imul, 1) := by decide +kernel
theorem dX4_tiltAt_4 : decode cX4_tiltAt 4 = .ok (.iload_n 1, 1) := by decide +kernel
theorem dX4_tiltAt_5 : decode cX4_tiltAt 5 = .ok (.iconst 2, 1) := by decide +kernel
theorem dX4_tiltAt_6 : decode cX4_tiltAt 6 = .ok (.imul, 1) := by decide +kernel
theorem dX4_tiltAt_7 : decode cX4_tiltAt 7 = .ok (.iadd, 1) := by decide +kernel
theorem dX4_tiltAt_8 : decode cX4_tiltAt 8 = .ok (.iload_n 2, 1) := by decide +kernel
theorem dX4_tiltAt_9 : decode cX4_tiltAt 9 = .ok (.iadd, 1) := by decide +kernel
theorem dX4_tiltAt_10 : decode cX4_tiltAt 10 = .ok (.ireturn, 1) := by decide +kernel
theorem dX4_beginChange_0 : decode cX4_beginChange 0 = .ok (.aload_n 0, 1) := by decide +kernel
theorem dX4_beginChange_1 : decode cX4_beginChange 1 = .ok (.getfield 27, 3) := by decide +kernel
theorem dX4_beginChange_4 : decode cX4_beginChange 4 = .ok (.aload_n 0, 1) := by decide +kernel
theorem dX4_beginChange_5 : decode cX4_beginChange 5 = .ok (.getfield 12, 3) := by decide +kernel
theorem dX4_beginChange_8 : decode cX4_beginChange 8 = .ok (.invokevirtual 252, 3) := by decide +kernel
theorem dX4_beginChange_11 : decode cX4_beginChange 11 = .ok (.aload_n 0, 1) := by decide +kernel
theorem dX4_beginChange_12 : decode cX4_beginChange 12 = .ok (.getfield 34, 3) := by decide +kernel
theorem dX4_beginChange_15 : decode cX4_beginChange 15 = .ok (.iconst 0, 1) := by decide +kernel
theorem dX4_beginChange_16 : decode cX4_beginChange 16 = .ok (.putfield 148, 3) := by decide +kernel
theorem dX4_beginChange_19 : decode cX4_beginChange 19 = .ok (.return_, 1) := by decide +kernel
theorem dX4_turnedTilt_0 : decode cX4_turnedTilt 0 = .ok (.iload_n 0, 1) := by decide +kernel
theorem dX4_turnedTilt_1 : decode cX4_turnedTilt 1 = .ok (.tableswitch 60 0 2 #[27, 37, 48], 27) := by decide +kernel
theorem dX4_turnedTilt_28 : decode cX4_turnedTilt 28 = .ok (.iload_n 3, 1) := by decide +kernel
theorem dX4_turnedTilt_29 : decode cX4_turnedTilt 29 = .ok (.ifCond .ne 7, 3) := by decide +kernel
theorem dX4_turnedTilt_32 : decode cX4_turnedTilt 32 = .ok (.iload_n 1, 1) := by decide +kernel
theorem dX4_turnedTilt_33 : decode cX4_turnedTilt 33 = .ok (.goto 4, 3) := by decide +kernel
theorem dX4_turnedTilt_36 : decode cX4_turnedTilt 36 = .ok (.iload_n 2, 1) := by decide +kernel
theorem dX4_turnedTilt_37 : decode cX4_turnedTilt 37 = .ok (.ireturn, 1) := by decide +kernel
theorem dX4_turnedTilt_38 : decode cX4_turnedTilt 38 = .ok (.iload_n 3, 1) := by decide +kernel
theorem dX4_turnedTilt_39 : decode cX4_turnedTilt 39 = .ok (.ifCond .ne 7, 3) := by decide +kernel
theorem dX4_turnedTilt_42 : decode cX4_turnedTilt 42 = .ok (.iload_n 2, 1) := by decide +kernel
theorem dX4_turnedTilt_43 : decode cX4_turnedTilt 43 = .ok (.goto 5, 3) := by decide +kernel
theorem dX4_turnedTilt_46 : decode cX4_turnedTilt 46 = .ok (.iload_n 1, 1) := by decide +kernel
theorem dX4_turnedTilt_47 : decode cX4_turnedTilt 47 = .ok (.ineg, 1) := by decide +kernel
theorem dX4_turnedTilt_48 : decode cX4_turnedTilt 48 = .ok (.ireturn, 1) := by decide +kernel
theorem dX4_turnedTilt_49 : decode cX4_turnedTilt 49 = .ok (.iload_n 3, 1) := by decide +kernel
theorem dX4_turnedTilt_50 : decode cX4_turnedTilt 50 = .ok (.ifCond .ne 8, 3) := by decide +kernel
theorem dX4_turnedTilt_53 : decode cX4_turnedTilt 53 = .ok (.iload_n 1, 1) := by decide +kernel
theorem dX4_turnedTilt_54 : decode cX4_turnedTilt 54 = .ok (.ineg, 1) := by decide +kernel
theorem dX4_turnedTilt_55 : decode cX4_turnedTilt 55 = .ok (.goto 5, 3) := by decide +kernel
theorem dX4_turnedTilt_58 : decode cX4_turnedTilt 58 = .ok (.iload_n 2, 1) := by decide +kernel
theorem dX4_turnedTilt_59 : decode cX4_turnedTilt 59 = .ok (.ineg, 1) := by decide +kernel
theorem dX4_turnedTilt_60 : decode cX4_turnedTilt 60 = .ok (.ireturn, 1) := by decide +kernel
theorem dX4_turnedTilt_61 : decode cX4_turnedTilt 61 = .ok (.iload_n 3, 1) := by decide +kernel
theorem dX4_turnedTilt_62 : decode cX4_turnedTilt 62 = .ok (.ifCond .ne 8, 3) := by decide +kernel
theorem dX4_turnedTilt_65 : decode cX4_turnedTilt 65 = .ok (.iload_n 2, 1) := by decide +kernel
theorem dX4_turnedTilt_66 : decode cX4_turnedTilt 66 = .ok (.ineg, 1) := by decide +kernel
theorem dX4_turnedTilt_67 : decode cX4_turnedTilt 67 = .ok (.goto 4, 3) := by decide +kernel
theorem dX4_turnedTilt_70 : decode cX4_turnedTilt 70 = .ok (.iload_n 1, 1) := by decide +kernel
theorem dX4_turnedTilt_71 : decode cX4_turnedTilt 71 = .ok (.ireturn, 1) := by decide +kernel
theorem dX4_probeReads_0 : decode cX4_probeReads 0 = .ok (.iload_n 1, 1) := by decide +kernel
theorem dX4_probeReads_1 : decode cX4_probeReads 1 = .ok (.iconst 2, 1) := by decide +kernel
theorem dX4_probeReads_2 : decode cX4_probeReads 2 = .ok (.imul, 1) := by decide +kernel
theorem dX4_probeReads_3 : decode cX4_probeReads 3 = .ok (.istore 4, 2) := by decide +kernel
theorem dX4_probeReads_5 : decode cX4_probeReads 5 = .ok (.aload_n 0, 1) := by decide +kernel
theorem dX4_probeReads_6 : decode cX4_probeReads 6 = .ok (.getfield 12, 3) := by decide +kernel
theorem dX4_probeReads_9 : decode cX4_probeReads 9 = .ok (.getfield 77, 3) := by decide +kernel
theorem dX4_probeReads_12 : decode cX4_probeReads 12 = .ok (.iload_n 1, 1) := by decide +kernel
theorem dX4_probeReads_13 : decode cX4_probeReads 13 = .ok (.iaload, 1) := by decide +kernel
theorem dX4_probeReads_14 : decode cX4_probeReads 14 = .ok (.aload_n 0, 1) := by decide +kernel
theorem dX4_probeReads_15 : decode cX4_probeReads 15 = .ok (.getfield 12, 3) := by decide +kernel
theorem dX4_probeReads_18 : decode cX4_probeReads 18 = .ok (.getfield 64, 3) := by decide +kernel
theorem dX4_probeReads_21 : decode cX4_probeReads 21 = .ok (.iload 4, 2) := by decide +kernel
theorem dX4_probeReads_23 : decode cX4_probeReads 23 = .ok (.iaload, 1) := by decide +kernel
theorem dX4_probeReads_24 : decode cX4_probeReads 24 = .ok (.aload_n 0, 1) := by decide +kernel
theorem dX4_probeReads_25 : decode cX4_probeReads 25 = .ok (.getfield 12, 3) := by decide +kernel
theorem dX4_probeReads_28 : decode cX4_probeReads 28 = .ok (.getfield 64, 3) := by decide +kernel
theorem dX4_probeReads_31 : decode cX4_probeReads 31 = .ok (.iload 4, 2) := by decide +kernel
theorem dX4_probeReads_33 : decode cX4_probeReads 33 = .ok (.iconst 1, 1) := by decide +kernel
theorem dX4_probeReads_34 : decode cX4_probeReads 34 = .ok (.iadd, 1) := by decide +kernel
theorem dX4_probeReads_35 : decode cX4_probeReads 35 = .ok (.iaload, 1) := by decide +kernel
theorem dX4_probeReads_36 : decode cX4_probeReads 36 = .ok (.iload_n 2, 1) := by decide +kernel
theorem dX4_probeReads_37 : decode cX4_probeReads 37 = .ok (.invokestatic 255, 3) := by decide +kernel
theorem dX4_probeReads_40 : decode cX4_probeReads 40 = .ok (.istore 5, 2) := by decide +kernel
theorem dX4_probeReads_42 : decode cX4_probeReads 42 = .ok (.iload_n 3, 1) := by decide +kernel
theorem dX4_probeReads_43 : decode cX4_probeReads 43 = .ok (.ifCond .ne 18, 3) := by decide +kernel
theorem dX4_probeReads_46 : decode cX4_probeReads 46 = .ok (.aload_n 0, 1) := by decide +kernel
theorem dX4_probeReads_47 : decode cX4_probeReads 47 = .ok (.getfield 12, 3) := by decide +kernel
theorem dX4_probeReads_50 : decode cX4_probeReads 50 = .ok (.getfield 80, 3) := by decide +kernel
theorem dX4_probeReads_53 : decode cX4_probeReads 53 = .ok (.iload_n 2, 1) := by decide +kernel
theorem dX4_probeReads_54 : decode cX4_probeReads 54 = .ok (.iaload, 1) := by decide +kernel
theorem dX4_probeReads_55 : decode cX4_probeReads 55 = .ok (.iload 5, 2) := by decide +kernel
theorem dX4_probeReads_57 : decode cX4_probeReads 57 = .ok (.iadd, 1) := by decide +kernel
theorem dX4_probeReads_58 : decode cX4_probeReads 58 = .ok (.goto 15, 3) := by decide +kernel
theorem dX4_probeReads_61 : decode cX4_probeReads 61 = .ok (.aload_n 0, 1) := by decide +kernel
theorem dX4_probeReads_62 : decode cX4_probeReads 62 = .ok (.getfield 12, 3) := by decide +kernel
theorem dX4_probeReads_65 : decode cX4_probeReads 65 = .ok (.getfield 80, 3) := by decide +kernel
theorem dX4_probeReads_68 : decode cX4_probeReads 68 = .ok (.iload_n 2, 1) := by decide +kernel
theorem dX4_probeReads_69 : decode cX4_probeReads 69 = .ok (.iaload, 1) := by decide +kernel
theorem dX4_probeReads_70 : decode cX4_probeReads 70 = .ok (.iload 5, 2) := by decide +kernel
theorem dX4_probeReads_72 : decode cX4_probeReads 72 = .ok (.isub, 1) := by decide +kernel
theorem dX4_probeReads_73 : decode cX4_probeReads 73 = .ok (.ireturn, 1) := by decide +kernel
theorem dX4_checkOf_0 : decode cX4_checkOf 0 = .ok (.iload_n 1, 1) := by decide +kernel
theorem dX4_checkOf_1 : decode cX4_checkOf 1 = .ok (.iload_n 2, 1) := by decide +kernel
theorem dX4_checkOf_2 : decode cX4_checkOf 2 = .ok (.iload_n 3, 1) := by decide +kernel
theorem dX4_checkOf_3 : decode cX4_checkOf 3 = .ok (.iconst 0, 1) := by decide +kernel
theorem dX4_checkOf_4 : decode cX4_checkOf 4 = .ok (.invokestatic 99, 3) := by decide +kernel
theorem dX4_checkOf_7 : decode cX4_checkOf 7 = .ok (.istore 4, 2) := by decide +kernel
theorem dX4_checkOf_9 : decode cX4_checkOf 9 = .ok (.aload_n 0, 1) := by decide +kernel
theorem dX4_checkOf_10 : decode cX4_checkOf 10 = .ok (.getfield 96, 3) := by decide +kernel
theorem dX4_checkOf_13 : decode cX4_checkOf 13 = .ok (.iload 4, 2) := by decide +kernel
theorem dX4_checkOf_15 : decode cX4_checkOf 15 = .ok (.iaload, 1) := by decide +kernel
theorem dX4_checkOf_16 : decode cX4_checkOf 16 = .ok (.aload_n 0, 1) := by decide +kernel
theorem dX4_checkOf_17 : decode cX4_checkOf 17 = .ok (.getfield 96, 3) := by decide +kernel
theorem dX4_checkOf_20 : decode cX4_checkOf 20 = .ok (.iload 4, 2) := by decide +kernel
theorem dX4_checkOf_22 : decode cX4_checkOf 22 = .ok (.iconst 1, 1) := by decide +kernel
theorem dX4_checkOf_23 : decode cX4_checkOf 23 = .ok (.iadd, 1) := by decide +kernel
theorem dX4_checkOf_24 : decode cX4_checkOf 24 = .ok (.iaload, 1) := by decide +kernel
theorem dX4_checkOf_25 : decode cX4_checkOf 25 = .ok (.iadd, 1) := by decide +kernel
theorem dX4_checkOf_26 : decode cX4_checkOf 26 = .ok (.ireturn, 1) := by decide +kernel
theorem dX4_turnedLevels_0 : decode cX4_turnedLevels 0 = .ok (.iconst 0, 1) := by decide +kernel
theorem dX4_turnedLevels_1 : decode cX4_turnedLevels 1 = .ok (.istore_n 1, 1) := by decide +kernel
theorem dX4_turnedLevels_2 : decode cX4_turnedLevels 2 = .ok (.iconst 0, 1) := by decide +kernel
theorem dX4_turnedLevels_3 : decode cX4_turnedLevels 3 = .ok (.istore_n 2, 1) := by decide +kernel
theorem dX4_turnedLevels_4 : decode cX4_turnedLevels 4 = .ok (.iload_n 2, 1) := by decide +kernel
theorem dX4_turnedLevels_5 : decode cX4_turnedLevels 5 = .ok (.bipush 16, 2) := by decide +kernel
theorem dX4_turnedLevels_7 : decode cX4_turnedLevels 7 = .ok (.if_icmp .ge 24, 3) := by decide +kernel
theorem dX4_turnedLevels_10 : decode cX4_turnedLevels 10 = .ok (.aload_n 0, 1) := by decide +kernel
theorem dX4_turnedLevels_11 : decode cX4_turnedLevels 11 = .ok (.getfield 12, 3) := by decide +kernel
theorem dX4_turnedLevels_14 : decode cX4_turnedLevels 14 = .ok (.getfield 77, 3) := by decide +kernel
theorem dX4_turnedLevels_17 : decode cX4_turnedLevels 17 = .ok (.iload_n 2, 1) := by decide +kernel
theorem dX4_turnedLevels_18 : decode cX4_turnedLevels 18 = .ok (.iaload, 1) := by decide +kernel
theorem dX4_turnedLevels_19 : decode cX4_turnedLevels 19 = .ok (.ifCond .eq 6, 3) := by decide +kernel
theorem dX4_turnedLevels_22 : decode cX4_turnedLevels 22 = .ok (.iinc 1 1, 3) := by decide +kernel
theorem dX4_turnedLevels_25 : decode cX4_turnedLevels 25 = .ok (.iinc 2 1, 3) := by decide +kernel
theorem dX4_turnedLevels_28 : decode cX4_turnedLevels 28 = .ok (.goto (-24), 3) := by decide +kernel
theorem dX4_turnedLevels_31 : decode cX4_turnedLevels 31 = .ok (.iload_n 1, 1) := by decide +kernel
theorem dX4_turnedLevels_32 : decode cX4_turnedLevels 32 = .ok (.ireturn, 1) := by decide +kernel
theorem dX4_suspiciousTilts_0 : decode cX4_suspiciousTilts 0 = .ok (.iconst 0, 1) := by decide +kernel
theorem dX4_suspiciousTilts_1 : decode cX4_suspiciousTilts 1 = .ok (.istore_n 2, 1) := by decide +kernel
theorem dX4_suspiciousTilts_2 : decode cX4_suspiciousTilts 2 = .ok (.iconst 0, 1) := by decide +kernel
theorem dX4_suspiciousTilts_3 : decode cX4_suspiciousTilts 3 = .ok (.istore_n 3, 1) := by decide +kernel
theorem dX4_suspiciousTilts_4 : decode cX4_suspiciousTilts 4 = .ok (.iload_n 3, 1) := by decide +kernel
theorem dX4_suspiciousTilts_5 : decode cX4_suspiciousTilts 5 = .ok (.bipush 16, 2) := by decide +kernel
theorem dX4_suspiciousTilts_7 : decode cX4_suspiciousTilts 7 = .ok (.if_icmp .ge 45, 3) := by decide +kernel
theorem dX4_suspiciousTilts_10 : decode cX4_suspiciousTilts 10 = .ok (.iconst 0, 1) := by decide +kernel
theorem dX4_suspiciousTilts_11 : decode cX4_suspiciousTilts 11 = .ok (.istore 4, 2) := by decide +kernel
theorem dX4_suspiciousTilts_13 : decode cX4_suspiciousTilts 13 = .ok (.iload 4, 2) := by decide +kernel
theorem dX4_suspiciousTilts_15 : decode cX4_suspiciousTilts 15 = .ok (.iconst 2, 1) := by decide +kernel
theorem dX4_suspiciousTilts_16 : decode cX4_suspiciousTilts 16 = .ok (.if_icmp .ge 30, 3) := by decide +kernel
theorem dX4_suspiciousTilts_19 : decode cX4_suspiciousTilts 19 = .ok (.aload_n 0, 1) := by decide +kernel
theorem dX4_suspiciousTilts_20 : decode cX4_suspiciousTilts 20 = .ok (.getfield 34, 3) := by decide +kernel
theorem dX4_suspiciousTilts_23 : decode cX4_suspiciousTilts 23 = .ok (.aload_n 0, 1) := by decide +kernel
theorem dX4_suspiciousTilts_24 : decode cX4_suspiciousTilts 24 = .ok (.getfield 12, 3) := by decide +kernel
theorem dX4_suspiciousTilts_27 : decode cX4_suspiciousTilts 27 = .ok (.iload_n 1, 1) := by decide +kernel
theorem dX4_suspiciousTilts_28 : decode cX4_suspiciousTilts 28 = .ok (.iload_n 3, 1) := by decide +kernel
theorem dX4_suspiciousTilts_29 : decode cX4_suspiciousTilts 29 = .ok (.iload 4, 2) := by decide +kernel
theorem dX4_suspiciousTilts_31 : decode cX4_suspiciousTilts 31 = .ok (.invokevirtual 159, 3) := by decide +kernel
theorem dX4_suspiciousTilts_34 : decode cX4_suspiciousTilts 34 = .ok (.ifCond .eq 6, 3) := by decide +kernel
theorem dX4_suspiciousTilts_37 : decode cX4_suspiciousTilts 37 = .ok (.iinc 2 1, 3) := by decide +kernel
theorem dX4_suspiciousTilts_40 : decode cX4_suspiciousTilts 40 = .ok (.iinc 4 1, 3) := by decide +kernel
theorem dX4_suspiciousTilts_43 : decode cX4_suspiciousTilts 43 = .ok (.goto (-30), 3) := by decide +kernel
theorem dX4_suspiciousTilts_46 : decode cX4_suspiciousTilts 46 = .ok (.iinc 3 1, 3) := by decide +kernel
theorem dX4_suspiciousTilts_49 : decode cX4_suspiciousTilts 49 = .ok (.goto (-45), 3) := by decide +kernel
theorem dX4_suspiciousTilts_52 : decode cX4_suspiciousTilts 52 = .ok (.iload_n 2, 1) := by decide +kernel
theorem dX4_suspiciousTilts_53 : decode cX4_suspiciousTilts 53 = .ok (.ireturn, 1) := by decide +kernel
theorem dX4_levelFarthestOff_0 : decode cX4_levelFarthestOff 0 = .ok (.iconst 0, 1) := by decide +kernel
theorem dX4_levelFarthestOff_1 : decode cX4_levelFarthestOff 1 = .ok (.istore_n 2, 1) := by decide +kernel
theorem dX4_levelFarthestOff_2 : decode cX4_levelFarthestOff 2 = .ok (.iconst 0, 1) := by decide +kernel
theorem dX4_levelFarthestOff_3 : decode cX4_levelFarthestOff 3 = .ok (.istore_n 3, 1) := by decide +kernel
theorem dX4_levelFarthestOff_4 : decode cX4_levelFarthestOff 4 = .ok (.iconst 0, 1) := by decide +kernel
theorem dX4_levelFarthestOff_5 : decode cX4_levelFarthestOff 5 = .ok (.istore 4, 2) := by decide +kernel
theorem dX4_levelFarthestOff_7 : decode cX4_levelFarthestOff 7 = .ok (.iload 4, 2) := by decide +kernel
theorem dX4_levelFarthestOff_9 : decode cX4_levelFarthestOff 9 = .ok (.bipush 16, 2) := by decide +kernel
theorem dX4_levelFarthestOff_11 : decode cX4_levelFarthestOff 11 = .ok (.if_icmp .ge 54, 3) := by decide +kernel
theorem dX4_levelFarthestOff_14 : decode cX4_levelFarthestOff 14 = .ok (.iconst 0, 1) := by decide +kernel
theorem dX4_levelFarthestOff_15 : decode cX4_levelFarthestOff 15 = .ok (.istore 5, 2) := by decide +kernel
theorem dX4_levelFarthestOff_17 : decode cX4_levelFarthestOff 17 = .ok (.iload 5, 2) := by decide +kernel
theorem dX4_levelFarthestOff_19 : decode cX4_levelFarthestOff 19 = .ok (.iconst 2, 1) := by decide +kernel
theorem dX4_levelFarthestOff_20 : decode cX4_levelFarthestOff 20 = .ok (.if_icmp .ge 39, 3) := by decide +kernel
theorem dX4_levelFarthestOff_23 : decode cX4_levelFarthestOff 23 = .ok (.aload_n 0, 1) := by decide +kernel
theorem dX4_levelFarthestOff_24 : decode cX4_levelFarthestOff 24 = .ok (.getfield 34, 3) := by decide +kernel
theorem dX4_levelFarthestOff_27 : decode cX4_levelFarthestOff 27 = .ok (.getfield 258, 3) := by decide +kernel
theorem dX4_levelFarthestOff_30 : decode cX4_levelFarthestOff 30 = .ok (.iload_n 1, 1) := by decide +kernel
theorem dX4_levelFarthestOff_31 : decode cX4_levelFarthestOff 31 = .ok (.iload 4, 2) := by decide +kernel
theorem dX4_levelFarthestOff_33 : decode cX4_levelFarthestOff 33 = .ok (.iload 5, 2) := by decide +kernel
theorem dX4_levelFarthestOff_35 : decode cX4_levelFarthestOff 35 = .ok (.invokestatic 166, 3) := by decide +kernel
theorem dX4_levelFarthestOff_38 : decode cX4_levelFarthestOff 38 = .ok (.iaload, 1) := by decide +kernel
theorem dX4_levelFarthestOff_39 : decode cX4_levelFarthestOff 39 = .ok (.istore 6, 2) := by decide +kernel
theorem dX4_levelFarthestOff_41 : decode cX4_levelFarthestOff 41 = .ok (.iload 6, 2) := by decide +kernel
theorem dX4_levelFarthestOff_43 : decode cX4_levelFarthestOff 43 = .ok (.iload_n 2, 1) := by decide +kernel
theorem dX4_levelFarthestOff_44 : decode cX4_levelFarthestOff 44 = .ok (.if_icmp .le 9, 3) := by decide +kernel
theorem dX4_levelFarthestOff_47 : decode cX4_levelFarthestOff 47 = .ok (.iload 6, 2) := by decide +kernel
theorem dX4_levelFarthestOff_49 : decode cX4_levelFarthestOff 49 = .ok (.istore_n 2, 1) := by decide +kernel
theorem dX4_levelFarthestOff_50 : decode cX4_levelFarthestOff 50 = .ok (.iload 4, 2) := by decide +kernel
theorem dX4_levelFarthestOff_52 : decode cX4_levelFarthestOff 52 = .ok (.istore_n 3, 1) := by decide +kernel
theorem dX4_levelFarthestOff_53 : decode cX4_levelFarthestOff 53 = .ok (.iinc 5 1, 3) := by decide +kernel
theorem dX4_levelFarthestOff_56 : decode cX4_levelFarthestOff 56 = .ok (.goto (-39), 3) := by decide +kernel
theorem dX4_levelFarthestOff_59 : decode cX4_levelFarthestOff 59 = .ok (.iinc 4 1, 3) := by decide +kernel
theorem dX4_levelFarthestOff_62 : decode cX4_levelFarthestOff 62 = .ok (.goto (-55), 3) := by decide +kernel
theorem dX4_levelFarthestOff_65 : decode cX4_levelFarthestOff 65 = .ok (.iload_n 3, 1) := by decide +kernel
theorem dX4_levelFarthestOff_66 : decode cX4_levelFarthestOff 66 = .ok (.ireturn, 1) := by decide +kernel
theorem dX4_toldTogether_0 : decode cX4_toldTogether 0 = .ok (.iconst 0, 1) := by decide +kernel
theorem dX4_toldTogether_1 : decode cX4_toldTogether 1 = .ok (.istore 5, 2) := by decide +kernel
theorem dX4_toldTogether_3 : decode cX4_toldTogether 3 = .ok (.iload_n 3, 1) := by decide +kernel
theorem dX4_toldTogether_4 : decode cX4_toldTogether 4 = .ok (.istore 6, 2) := by decide +kernel
theorem dX4_toldTogether_6 : decode cX4_toldTogether 6 = .ok (.iload 6, 2) := by decide +kernel
theorem dX4_toldTogether_8 : decode cX4_toldTogether 8 = .ok (.iload 4, 2) := by decide +kernel
theorem dX4_toldTogether_10 : decode cX4_toldTogether 10 = .ok (.if_icmp .gt 29, 3) := by decide +kernel
theorem dX4_toldTogether_13 : decode cX4_toldTogether 13 = .ok (.iload 5, 2) := by decide +kernel
theorem dX4_toldTogether_15 : decode cX4_toldTogether 15 = .ok (.aload_n 0, 1) := by decide +kernel
theorem dX4_toldTogether_16 : decode cX4_toldTogether 16 = .ok (.getfield 34, 3) := by decide +kernel
theorem dX4_toldTogether_19 : decode cX4_toldTogether 19 = .ok (.getfield 169, 3) := by decide +kernel
theorem dX4_toldTogether_22 : decode cX4_toldTogether 22 = .ok (.iload_n 1, 1) := by decide +kernel
theorem dX4_toldTogether_23 : decode cX4_toldTogether 23 = .ok (.iload 6, 2) := by decide +kernel
theorem dX4_toldTogether_25 : decode cX4_toldTogether 25 = .ok (.iload_n 2, 1) := by decide +kernel
theorem dX4_toldTogether_26 : decode cX4_toldTogether 26 = .ok (.invokestatic 166, 3) := by decide +kernel
theorem dX4_toldTogether_29 : decode cX4_toldTogether 29 = .ok (.iaload, 1) := by decide +kernel
theorem dX4_toldTogether_30 : decode cX4_toldTogether 30 = .ok (.iadd, 1) := by decide +kernel
theorem dX4_toldTogether_31 : decode cX4_toldTogether 31 = .ok (.istore 5, 2) := by decide +kernel
theorem dX4_toldTogether_33 : decode cX4_toldTogether 33 = .ok (.iinc 6 1, 3) := by decide +kernel
theorem dX4_toldTogether_36 : decode cX4_toldTogether 36 = .ok (.goto (-30), 3) := by decide +kernel
theorem dX4_toldTogether_39 : decode cX4_toldTogether 39 = .ok (.iload 5, 2) := by decide +kernel
theorem dX4_toldTogether_41 : decode cX4_toldTogether 41 = .ok (.ireturn, 1) := by decide +kernel
theorem dX4_slidBetween_0 : decode cX4_slidBetween 0 = .ok (.aload_n 0, 1) := by decide +kernel
theorem dX4_slidBetween_1 : decode cX4_slidBetween 1 = .ok (.getfield 34, 3) := by decide +kernel
theorem dX4_slidBetween_4 : decode cX4_slidBetween 4 = .ok (.getfield 169, 3) := by decide +kernel
theorem dX4_slidBetween_7 : decode cX4_slidBetween 7 = .ok (.iload_n 2, 1) := by decide +kernel
theorem dX4_slidBetween_8 : decode cX4_slidBetween 8 = .ok (.iload_n 3, 1) := by decide +kernel
theorem dX4_slidBetween_9 : decode cX4_slidBetween 9 = .ok (.iload 4, 2) := by decide +kernel
theorem dX4_slidBetween_11 : decode cX4_slidBetween 11 = .ok (.invokestatic 166, 3) := by decide +kernel
theorem dX4_slidBetween_14 : decode cX4_slidBetween 14 = .ok (.iaload, 1) := by decide +kernel
theorem dX4_slidBetween_15 : decode cX4_slidBetween 15 = .ok (.aload_n 0, 1) := by decide +kernel
theorem dX4_slidBetween_16 : decode cX4_slidBetween 16 = .ok (.getfield 34, 3) := by decide +kernel
theorem dX4_slidBetween_19 : decode cX4_slidBetween 19 = .ok (.getfield 169, 3) := by decide +kernel
theorem dX4_slidBetween_22 : decode cX4_slidBetween 22 = .ok (.iload_n 1, 1) := by decide +kernel
theorem dX4_slidBetween_23 : decode cX4_slidBetween 23 = .ok (.iload_n 3, 1) := by decide +kernel
theorem dX4_slidBetween_24 : decode cX4_slidBetween 24 = .ok (.iload 4, 2) := by decide +kernel
theorem dX4_slidBetween_26 : decode cX4_slidBetween 26 = .ok (.invokestatic 166, 3) := by decide +kernel
theorem dX4_slidBetween_29 : decode cX4_slidBetween 29 = .ok (.iaload, 1) := by decide +kernel
theorem dX4_slidBetween_30 : decode cX4_slidBetween 30 = .ok (.isub, 1) := by decide +kernel
theorem dX4_slidBetween_31 : decode cX4_slidBetween 31 = .ok (.ireturn, 1) := by decide +kernel
theorem dX4_movedUpTo_0 : decode cX4_movedUpTo 0 = .ok (.aload_n 0, 1) := by decide +kernel
theorem dX4_movedUpTo_1 : decode cX4_movedUpTo 1 = .ok (.iload_n 2, 1) := by decide +kernel
theorem dX4_movedUpTo_2 : decode cX4_movedUpTo 2 = .ok (.iload 4, 2) := by decide +kernel
theorem dX4_movedUpTo_4 : decode cX4_movedUpTo 4 = .ok (.iconst 0, 1) := by decide +kernel
theorem dX4_movedUpTo_5 : decode cX4_movedUpTo 5 = .ok (.iload_n 3, 1) := by decide +kernel
theorem dX4_movedUpTo_6 : decode cX4_movedUpTo 6 = .ok (.invokevirtual 181, 3) := by decide +kernel
theorem dX4_movedUpTo_9 : decode cX4_movedUpTo 9 = .ok (.aload_n 0, 1) := by decide +kernel
theorem dX4_movedUpTo_10 : decode cX4_movedUpTo 10 = .ok (.iload_n 1, 1) := by decide +kernel
theorem dX4_movedUpTo_11 : decode cX4_movedUpTo 11 = .ok (.iload 4, 2) := by decide +kernel
theorem dX4_movedUpTo_13 : decode cX4_movedUpTo 13 = .ok (.iconst 0, 1) := by decide +kernel
theorem dX4_movedUpTo_14 : decode cX4_movedUpTo 14 = .ok (.iload_n 3, 1) := by decide +kernel
theorem dX4_movedUpTo_15 : decode cX4_movedUpTo 15 = .ok (.invokevirtual 181, 3) := by decide +kernel
theorem dX4_movedUpTo_18 : decode cX4_movedUpTo 18 = .ok (.isub, 1) := by decide +kernel
theorem dX4_movedUpTo_19 : decode cX4_movedUpTo 19 = .ok (.ireturn, 1) := by decide +kernel
theorem dX4_bufferTellsReadings_0 : decode cX4_bufferTellsReadings 0 = .ok (.aload_n 0, 1) := by decide +kernel
theorem dX4_bufferTellsReadings_1 : decode cX4_bufferTellsReadings 1 = .ok (.invokevirtual 261, 3) := by decide +kernel
theorem dX4_bufferTellsReadings_4 : decode cX4_bufferTellsReadings 4 = .ok (.aload_n 0, 1) := by decide +kernel
theorem dX4_bufferTellsReadings_5 : decode cX4_bufferTellsReadings 5 = .ok (.getfield 49, 3) := by decide +kernel
theorem dX4_bufferTellsReadings_8 : decode cX4_bufferTellsReadings 8 = .ok (.if_icmp .ne 17, 3) := by decide +kernel
theorem dX4_bufferTellsReadings_11 : decode cX4_bufferTellsReadings 11 = .ok (.aload_n 0, 1) := by decide +kernel
theorem dX4_bufferTellsReadings_12 : decode cX4_bufferTellsReadings 12 = .ok (.getfield 41, 3) := by decide +kernel
theorem dX4_bufferTellsReadings_15 : decode cX4_bufferTellsReadings 15 = .ok (.invokevirtual 264, 3) := by decide +kernel
theorem dX4_bufferTellsReadings_18 : decode cX4_bufferTellsReadings 18 = .ok (.ifCond .eq 7, 3) := by decide +kernel
theorem dX4_bufferTellsReadings_21 : decode cX4_bufferTellsReadings 21 = .ok (.iconst 1, 1) := by decide +kernel
theorem dX4_bufferTellsReadings_22 : decode cX4_bufferTellsReadings 22 = .ok (.goto 4, 3) := by decide +kernel
theorem dX4_bufferTellsReadings_25 : decode cX4_bufferTellsReadings 25 = .ok (.iconst 0, 1) := by decide +kernel
theorem dX4_bufferTellsReadings_26 : decode cX4_bufferTellsReadings 26 = .ok (.ireturn, 1) := by decide +kernel
theorem dX4_putReadings_0 : decode cX4_putReadings 0 = .ok (.iconst 0, 1) := by decide +kernel
theorem dX4_putReadings_1 : decode cX4_putReadings 1 = .ok (.istore_n 2, 1) := by decide +kernel
theorem dX4_putReadings_2 : decode cX4_putReadings 2 = .ok (.aload_n 0, 1) := by decide +kernel
theorem dX4_putReadings_3 : decode cX4_putReadings 3 = .ok (.getfield 41, 3) := by decide +kernel
theorem dX4_putReadings_6 : decode cX4_putReadings 6 = .ok (.invokevirtual 120, 3) := by decide +kernel
theorem dX4_putReadings_9 : decode cX4_putReadings 9 = .ok (.iconst 0, 1) := by decide +kernel
theorem dX4_putReadings_10 : decode cX4_putReadings 10 = .ok (.istore_n 3, 1) := by decide +kernel
theorem dX4_putReadings_11 : decode cX4_putReadings 11 = .ok (.iload_n 3, 1) := by decide +kernel
theorem dX4_putReadings_12 : decode cX4_putReadings 12 = .ok (.aload_n 0, 1) := by decide +kernel
theorem dX4_putReadings_13 : decode cX4_putReadings 13 = .ok (.getfield 49, 3) := by decide +kernel
theorem dX4_putReadings_16 : decode cX4_putReadings 16 = .ok (.if_icmp .ge 89, 3) := by decide +kernel
theorem dX4_putReadings_19 : decode cX4_putReadings 19 = .ok (.aload_n 0, 1) := by decide +kernel
theorem dX4_putReadings_20 : decode cX4_putReadings 20 = .ok (.getfield 41, 3) := by decide +kernel
theorem dX4_putReadings_23 : decode cX4_putReadings 23 = .ok (.aload_n 0, 1) := by decide +kernel
theorem dX4_putReadings_24 : decode cX4_putReadings 24 = .ok (.getfield 45, 3) := by decide +kernel
theorem dX4_putReadings_27 : decode cX4_putReadings 27 = .ok (.iload_n 3, 1) := by decide +kernel
theorem dX4_putReadings_28 : decode cX4_putReadings 28 = .ok (.caload, 1) := by decide +kernel
theorem dX4_putReadings_29 : decode cX4_putReadings 29 = .ok (.invokevirtual 123, 3) := by decide +kernel
theorem dX4_putReadings_32 : decode cX4_putReadings 32 = .ok (.pop, 1) := by decide +kernel
theorem dX4_putReadings_33 : decode cX4_putReadings 33 = .ok (.iload_n 3, 1) := by decide +kernel
theorem dX4_putReadings_34 : decode cX4_putReadings 34 = .ok (.iconst 1, 1) := by decide +kernel
theorem dX4_putReadings_35 : decode cX4_putReadings 35 = .ok (.iadd, 1) := by decide +kernel
theorem dX4_putReadings_36 : decode cX4_putReadings 36 = .ok (.aload_n 0, 1) := by decide +kernel
theorem dX4_putReadings_37 : decode cX4_putReadings 37 = .ok (.getfield 49, 3) := by decide +kernel
theorem dX4_putReadings_40 : decode cX4_putReadings 40 = .ok (.if_icmp .eq 16, 3) := by decide +kernel
theorem dX4_putReadings_43 : decode cX4_putReadings 43 = .ok (.aload_n 0, 1) := by decide +kernel
theorem dX4_putReadings_44 : decode cX4_putReadings 44 = .ok (.getfield 45, 3) := by decide +kernel
theorem dX4_putReadings_47 : decode cX4_putReadings 47 = .ok (.iload_n 3, 1) := by decide +kernel
theorem dX4_putReadings_48 : decode cX4_putReadings 48 = .ok (.iconst 1, 1) := by decide +kernel
theorem dX4_putReadings_49 : decode cX4_putReadings 49 = .ok (.iadd, 1) := by decide +kernel
theorem dX4_putReadings_50 : decode cX4_putReadings 50 = .ok (.caload, 1) := by decide +kernel
theorem dX4_putReadings_51 : decode cX4_putReadings 51 = .ok (.bipush 59, 2) := by decide +kernel
theorem dX4_putReadings_53 : decode cX4_putReadings 53 = .ok (.if_icmp .ne 46, 3) := by decide +kernel
theorem dX4_putReadings_56 : decode cX4_putReadings 56 = .ok (.aload_n 0, 1) := by decide +kernel
theorem dX4_putReadings_57 : decode cX4_putReadings 57 = .ok (.getfield 12, 3) := by decide +kernel
theorem dX4_putReadings_60 : decode cX4_putReadings 60 = .ok (.getfield 96, 3) := by decide +kernel
theorem dX4_putReadings_63 : decode cX4_putReadings 63 = .ok (.iload_n 1, 1) := by decide +kernel
theorem dX4_putReadings_64 : decode cX4_putReadings 64 = .ok (.aload_n 0, 1) := by decide +kernel
theorem dX4_putReadings_65 : decode cX4_putReadings 65 = .ok (.getfield 41, 3) := by decide +kernel
theorem dX4_putReadings_68 : decode cX4_putReadings 68 = .ok (.getfield 267, 3) := by decide +kernel
theorem dX4_putReadings_71 : decode cX4_putReadings 71 = .ok (.aload_n 0, 1) := by decide +kernel
theorem dX4_putReadings_72 : decode cX4_putReadings 72 = .ok (.getfield 41, 3) := by decide +kernel
theorem dX4_putReadings_75 : decode cX4_putReadings 75 = .ok (.getfield 270, 3) := by decide +kernel
theorem dX4_putReadings_78 : decode cX4_putReadings 78 = .ok (.aload_n 0, 1) := by decide +kernel
theorem dX4_putReadings_79 : decode cX4_putReadings 79 = .ok (.getfield 41, 3) := by decide +kernel
theorem dX4_putReadings_82 : decode cX4_putReadings 82 = .ok (.getfield 273, 3) := by decide +kernel
theorem dX4_putReadings_85 : decode cX4_putReadings 85 = .ok (.invokestatic 99, 3) := by decide +kernel
theorem dX4_putReadings_88 : decode cX4_putReadings 88 = .ok (.aload_n 0, 1) := by decide +kernel
theorem dX4_putReadings_89 : decode cX4_putReadings 89 = .ok (.getfield 41, 3) := by decide +kernel
theorem dX4_putReadings_92 : decode cX4_putReadings 92 = .ok (.invokevirtual 276, 3) := by decide +kernel
theorem dX4_putReadings_95 : decode cX4_putReadings 95 = .ok (.iastore, 1) := by decide +kernel
theorem dX4_putReadings_96 : decode cX4_putReadings 96 = .ok (.iinc 2 1, 3) := by decide +kernel
theorem dX4_putReadings_99 : decode cX4_putReadings 99 = .ok (.iinc 3 1, 3) := by decide +kernel
theorem dX4_putReadings_102 : decode cX4_putReadings 102 = .ok (.goto (-91), 3) := by decide +kernel
theorem dX4_putReadings_105 : decode cX4_putReadings 105 = .ok (.iload_n 2, 1) := by decide +kernel
theorem dX4_putReadings_106 : decode cX4_putReadings 106 = .ok (.ireturn, 1) := by decide +kernel
theorem dX4_mixed_0 : decode cX4_mixed 0 = .ok (.ldc2_w 279, 3) := by decide +kernel
theorem dX4_mixed_3 : decode cX4_mixed 3 = .ok (.lload_n 0, 1) := by decide +kernel
theorem dX4_mixed_4 : decode cX4_mixed 4 = .ok (.lmul, 1) := by decide +kernel
theorem dX4_mixed_5 : decode cX4_mixed 5 = .ok (.lload_n 2, 1) := by decide +kernel
theorem dX4_mixed_6 : decode cX4_mixed 6 = .ok (.ladd, 1) := by decide +kernel
theorem dX4_mixed_7 : decode cX4_mixed 7 = .ok (.lreturn, 1) := by decide +kernel
theorem dX4_digestOfCasing_0 : decode cX4_digestOfCasing 0 = .ok (.lload_n 1, 1) := by decide +kernel
theorem dX4_digestOfCasing_1 : decode cX4_digestOfCasing 1 = .ok (.lstore_n 3, 1) := by decide +kernel
theorem dX4_digestOfCasing_2 : decode cX4_digestOfCasing 2 = .ok (.iconst 0, 1) := by decide +kernel
theorem dX4_digestOfCasing_3 : decode cX4_digestOfCasing 3 = .ok (.istore 5, 2) := by decide +kernel
theorem dX4_digestOfCasing_5 : decode cX4_digestOfCasing 5 = .ok (.iload 5, 2) := by decide +kernel
theorem dX4_digestOfCasing_7 : decode cX4_digestOfCasing 7 = .ok (.bipush 8, 2) := by decide +kernel
theorem dX4_digestOfCasing_9 : decode cX4_digestOfCasing 9 = .ok (.if_icmp .ge 21, 3) := by decide +kernel
theorem dX4_digestOfCasing_12 : decode cX4_digestOfCasing 12 = .ok (.lload_n 3, 1) := by decide +kernel
theorem dX4_digestOfCasing_13 : decode cX4_digestOfCasing 13 = .ok (.aload_n 0, 1) := by decide +kernel
theorem dX4_digestOfCasing_14 : decode cX4_digestOfCasing 14 = .ok (.iload 5, 2) := by decide +kernel
theorem dX4_digestOfCasing_16 : decode cX4_digestOfCasing 16 = .ok (.invokevirtual 281, 3) := by decide +kernel
theorem dX4_digestOfCasing_19 : decode cX4_digestOfCasing 19 = .ok (.i2l, 1) := by decide +kernel
theorem dX4_digestOfCasing_20 : decode cX4_digestOfCasing 20 = .ok (.invokestatic 215, 3) := by decide +kernel
theorem dX4_digestOfCasing_23 : decode cX4_digestOfCasing 23 = .ok (.lstore_n 3, 1) := by decide +kernel
theorem dX4_digestOfCasing_24 : decode cX4_digestOfCasing 24 = .ok (.iinc 5 1, 3) := by decide +kernel
theorem dX4_digestOfCasing_27 : decode cX4_digestOfCasing 27 = .ok (.goto (-22), 3) := by decide +kernel
theorem dX4_digestOfCasing_30 : decode cX4_digestOfCasing 30 = .ok (.iconst 0, 1) := by decide +kernel
theorem dX4_digestOfCasing_31 : decode cX4_digestOfCasing 31 = .ok (.istore 5, 2) := by decide +kernel
theorem dX4_digestOfCasing_33 : decode cX4_digestOfCasing 33 = .ok (.iload 5, 2) := by decide +kernel
theorem dX4_digestOfCasing_35 : decode cX4_digestOfCasing 35 = .ok (.iconst 3, 1) := by decide +kernel
theorem dX4_digestOfCasing_36 : decode cX4_digestOfCasing 36 = .ok (.if_icmp .ge 25, 3) := by decide +kernel
theorem dX4_digestOfCasing_39 : decode cX4_digestOfCasing 39 = .ok (.lload_n 3, 1) := by decide +kernel
theorem dX4_digestOfCasing_40 : decode cX4_digestOfCasing 40 = .ok (.aload_n 0, 1) := by decide +kernel
theorem dX4_digestOfCasing_41 : decode cX4_digestOfCasing 41 = .ok (.getfield 12, 3) := by decide +kernel
theorem dX4_digestOfCasing_44 : decode cX4_digestOfCasing 44 = .ok (.getfield 83, 3) := by decide +kernel
theorem dX4_digestOfCasing_47 : decode cX4_digestOfCasing 47 = .ok (.iload 5, 2) := by decide +kernel
theorem dX4_digestOfCasing_49 : decode cX4_digestOfCasing 49 = .ok (.iaload, 1) := by decide +kernel
theorem dX4_digestOfCasing_50 : decode cX4_digestOfCasing 50 = .ok (.i2l, 1) := by decide +kernel
theorem dX4_digestOfCasing_51 : decode cX4_digestOfCasing 51 = .ok (.invokestatic 215, 3) := by decide +kernel
theorem dX4_digestOfCasing_54 : decode cX4_digestOfCasing 54 = .ok (.lstore_n 3, 1) := by decide +kernel
theorem dX4_digestOfCasing_55 : decode cX4_digestOfCasing 55 = .ok (.iinc 5 1, 3) := by decide +kernel
theorem dX4_digestOfCasing_58 : decode cX4_digestOfCasing 58 = .ok (.goto (-25), 3) := by decide +kernel
theorem dX4_digestOfCasing_61 : decode cX4_digestOfCasing 61 = .ok (.iconst 0, 1) := by decide +kernel
theorem dX4_digestOfCasing_62 : decode cX4_digestOfCasing 62 = .ok (.istore 5, 2) := by decide +kernel
theorem dX4_digestOfCasing_64 : decode cX4_digestOfCasing 64 = .ok (.iload 5, 2) := by decide +kernel
theorem dX4_digestOfCasing_66 : decode cX4_digestOfCasing 66 = .ok (.bipush 16, 2) := by decide +kernel
theorem dX4_digestOfCasing_68 : decode cX4_digestOfCasing 68 = .ok (.if_icmp .ge 39, 3) := by decide +kernel
theorem dX4_digestOfCasing_71 : decode cX4_digestOfCasing 71 = .ok (.iconst 0, 1) := by decide +kernel
theorem dX4_digestOfCasing_72 : decode cX4_digestOfCasing 72 = .ok (.istore 6, 2) := by decide +kernel
theorem dX4_digestOfCasing_74 : decode cX4_digestOfCasing 74 = .ok (.iload 6, 2) := by decide +kernel
theorem dX4_digestOfCasing_76 : decode cX4_digestOfCasing 76 = .ok (.bipush 7, 2) := by decide +kernel
theorem dX4_digestOfCasing_78 : decode cX4_digestOfCasing 78 = .ok (.if_icmp .ge 23, 3) := by decide +kernel
theorem dX4_digestOfCasing_81 : decode cX4_digestOfCasing 81 = .ok (.lload_n 3, 1) := by decide +kernel
theorem dX4_digestOfCasing_82 : decode cX4_digestOfCasing 82 = .ok (.aload_n 0, 1) := by decide +kernel
theorem dX4_digestOfCasing_83 : decode cX4_digestOfCasing 83 = .ok (.iload 5, 2) := by decide +kernel
theorem dX4_digestOfCasing_85 : decode cX4_digestOfCasing 85 = .ok (.iload 6, 2) := by decide +kernel
theorem dX4_digestOfCasing_87 : decode cX4_digestOfCasing 87 = .ok (.invokevirtual 284, 3) := by decide +kernel
theorem dX4_digestOfCasing_90 : decode cX4_digestOfCasing 90 = .ok (.i2l, 1) := by decide +kernel
theorem dX4_digestOfCasing_91 : decode cX4_digestOfCasing 91 = .ok (.invokestatic 215, 3) := by decide +kernel
theorem dX4_digestOfCasing_94 : decode cX4_digestOfCasing 94 = .ok (.lstore_n 3, 1) := by decide +kernel
theorem dX4_digestOfCasing_95 : decode cX4_digestOfCasing 95 = .ok (.iinc 6 1, 3) := by decide +kernel
theorem dX4_digestOfCasing_98 : decode cX4_digestOfCasing 98 = .ok (.goto (-24), 3) := by decide +kernel
theorem dX4_digestOfCasing_101 : decode cX4_digestOfCasing 101 = .ok (.iinc 5 1, 3) := by decide +kernel
theorem dX4_digestOfCasing_104 : decode cX4_digestOfCasing 104 = .ok (.goto (-40), 3) := by decide +kernel
theorem dX4_digestOfCasing_107 : decode cX4_digestOfCasing 107 = .ok (.lload_n 3, 1) := by decide +kernel
theorem dX4_digestOfCasing_108 : decode cX4_digestOfCasing 108 = .ok (.lreturn, 1) := by decide +kernel
theorem dX4_digestOfSurvey_0 : decode cX4_digestOfSurvey 0 = .ok (.lload_n 1, 1) := by decide +kernel
theorem dX4_digestOfSurvey_1 : decode cX4_digestOfSurvey 1 = .ok (.lstore 4, 2) := by decide +kernel
theorem dX4_digestOfSurvey_3 : decode cX4_digestOfSurvey 3 = .ok (.iconst 0, 1) := by decide +kernel
theorem dX4_digestOfSurvey_4 : decode cX4_digestOfSurvey 4 = .ok (.istore 6, 2) := by decide +kernel
theorem dX4_digestOfSurvey_6 : decode cX4_digestOfSurvey 6 = .ok (.iload 6, 2) := by decide +kernel
theorem dX4_digestOfSurvey_8 : decode cX4_digestOfSurvey 8 = .ok (.iconst 5, 1) := by decide +kernel
theorem dX4_digestOfSurvey_9 : decode cX4_digestOfSurvey 9 = .ok (.if_icmp .ge 24, 3) := by decide +kernel
theorem dX4_digestOfSurvey_12 : decode cX4_digestOfSurvey 12 = .ok (.lload 4, 2) := by decide +kernel
theorem dX4_digestOfSurvey_14 : decode cX4_digestOfSurvey 14 = .ok (.aload_n 0, 1) := by decide +kernel
theorem dX4_digestOfSurvey_15 : decode cX4_digestOfSurvey 15 = .ok (.iload_n 3, 1) := by decide +kernel
theorem dX4_digestOfSurvey_16 : decode cX4_digestOfSurvey 16 = .ok (.iload 6, 2) := by decide +kernel
theorem dX4_digestOfSurvey_18 : decode cX4_digestOfSurvey 18 = .ok (.invokevirtual 287, 3) := by decide +kernel
theorem dX4_digestOfSurvey_21 : decode cX4_digestOfSurvey 21 = .ok (.i2l, 1) := by decide +kernel
theorem dX4_digestOfSurvey_22 : decode cX4_digestOfSurvey 22 = .ok (.invokestatic 215, 3) := by decide +kernel
theorem dX4_digestOfSurvey_25 : decode cX4_digestOfSurvey 25 = .ok (.lstore 4, 2) := by decide +kernel
theorem dX4_digestOfSurvey_27 : decode cX4_digestOfSurvey 27 = .ok (.iinc 6 1, 3) := by decide +kernel
theorem dX4_digestOfSurvey_30 : decode cX4_digestOfSurvey 30 = .ok (.goto (-24), 3) := by decide +kernel
theorem dX4_digestOfSurvey_33 : decode cX4_digestOfSurvey 33 = .ok (.iconst 0, 1) := by decide +kernel
theorem dX4_digestOfSurvey_34 : decode cX4_digestOfSurvey 34 = .ok (.istore 6, 2) := by decide +kernel
theorem dX4_digestOfSurvey_36 : decode cX4_digestOfSurvey 36 = .ok (.iload 6, 2) := by decide +kernel
theorem dX4_digestOfSurvey_38 : decode cX4_digestOfSurvey 38 = .ok (.bipush 16, 2) := by decide +kernel
theorem dX4_digestOfSurvey_40 : decode cX4_digestOfSurvey 40 = .ok (.if_icmp .ge 95, 3) := by decide +kernel
theorem dX4_digestOfSurvey_43 : decode cX4_digestOfSurvey 43 = .ok (.iconst 0, 1) := by decide +kernel
theorem dX4_digestOfSurvey_44 : decode cX4_digestOfSurvey 44 = .ok (.istore 7, 2) := by decide +kernel
theorem dX4_digestOfSurvey_46 : decode cX4_digestOfSurvey 46 = .ok (.iload 7, 2) := by decide +kernel
theorem dX4_digestOfSurvey_48 : decode cX4_digestOfSurvey 48 = .ok (.iconst 2, 1) := by decide +kernel
theorem dX4_digestOfSurvey_49 : decode cX4_digestOfSurvey 49 = .ok (.if_icmp .ge 80, 3) := by decide +kernel
theorem dX4_digestOfSurvey_52 : decode cX4_digestOfSurvey 52 = .ok (.iconst 0, 1) := by decide +kernel
theorem dX4_digestOfSurvey_53 : decode cX4_digestOfSurvey 53 = .ok (.istore 8, 2) := by decide +kernel
theorem dX4_digestOfSurvey_55 : decode cX4_digestOfSurvey 55 = .ok (.iload 8, 2) := by decide +kernel
theorem dX4_digestOfSurvey_57 : decode cX4_digestOfSurvey 57 = .ok (.bipush 6, 2) := by decide +kernel
theorem dX4_digestOfSurvey_59 : decode cX4_digestOfSurvey 59 = .ok (.if_icmp .ge 28, 3) := by decide +kernel
theorem dX4_digestOfSurvey_62 : decode cX4_digestOfSurvey 62 = .ok (.lload 4, 2) := by decide +kernel
theorem dX4_digestOfSurvey_64 : decode cX4_digestOfSurvey 64 = .ok (.aload_n 0, 1) := by decide +kernel
theorem dX4_digestOfSurvey_65 : decode cX4_digestOfSurvey 65 = .ok (.iload_n 3, 1) := by decide +kernel
theorem dX4_digestOfSurvey_66 : decode cX4_digestOfSurvey 66 = .ok (.iload 6, 2) := by decide +kernel
theorem dX4_digestOfSurvey_68 : decode cX4_digestOfSurvey 68 = .ok (.iload 7, 2) := by decide +kernel
theorem dX4_digestOfSurvey_70 : decode cX4_digestOfSurvey 70 = .ok (.iload 8, 2) := by decide +kernel
theorem dX4_digestOfSurvey_72 : decode cX4_digestOfSurvey 72 = .ok (.invokevirtual 290, 3) := by decide +kernel
theorem dX4_digestOfSurvey_75 : decode cX4_digestOfSurvey 75 = .ok (.i2l, 1) := by decide +kernel
theorem dX4_digestOfSurvey_76 : decode cX4_digestOfSurvey 76 = .ok (.invokestatic 215, 3) := by decide +kernel
theorem dX4_digestOfSurvey_79 : decode cX4_digestOfSurvey 79 = .ok (.lstore 4, 2) := by decide +kernel
theorem dX4_digestOfSurvey_81 : decode cX4_digestOfSurvey 81 = .ok (.iinc 8 1, 3) := by decide +kernel
theorem dX4_digestOfSurvey_84 : decode cX4_digestOfSurvey 84 = .ok (.goto (-29), 3) := by decide +kernel
theorem dX4_digestOfSurvey_87 : decode cX4_digestOfSurvey 87 = .ok (.lload 4, 2) := by decide +kernel
theorem dX4_digestOfSurvey_89 : decode cX4_digestOfSurvey 89 = .ok (.aload_n 0, 1) := by decide +kernel
theorem dX4_digestOfSurvey_90 : decode cX4_digestOfSurvey 90 = .ok (.iload_n 3, 1) := by decide +kernel
theorem dX4_digestOfSurvey_91 : decode cX4_digestOfSurvey 91 = .ok (.iload 6, 2) := by decide +kernel
theorem dX4_digestOfSurvey_93 : decode cX4_digestOfSurvey 93 = .ok (.iload 7, 2) := by decide +kernel
theorem dX4_digestOfSurvey_95 : decode cX4_digestOfSurvey 95 = .ok (.iconst 0, 1) := by decide +kernel
theorem dX4_digestOfSurvey_96 : decode cX4_digestOfSurvey 96 = .ok (.invokevirtual 293, 3) := by decide +kernel
theorem dX4_digestOfSurvey_99 : decode cX4_digestOfSurvey 99 = .ok (.i2l, 1) := by decide +kernel
theorem dX4_digestOfSurvey_100 : decode cX4_digestOfSurvey 100 = .ok (.invokestatic 215, 3) := by decide +kernel
theorem dX4_digestOfSurvey_103 : decode cX4_digestOfSurvey 103 = .ok (.lstore 4, 2) := by decide +kernel
theorem dX4_digestOfSurvey_105 : decode cX4_digestOfSurvey 105 = .ok (.lload 4, 2) := by decide +kernel
theorem dX4_digestOfSurvey_107 : decode cX4_digestOfSurvey 107 = .ok (.aload_n 0, 1) := by decide +kernel
theorem dX4_digestOfSurvey_108 : decode cX4_digestOfSurvey 108 = .ok (.iload_n 3, 1) := by decide +kernel
theorem dX4_digestOfSurvey_109 : decode cX4_digestOfSurvey 109 = .ok (.iload 6, 2) := by decide +kernel
theorem dX4_digestOfSurvey_111 : decode cX4_digestOfSurvey 111 = .ok (.iload 7, 2) := by decide +kernel
theorem dX4_digestOfSurvey_113 : decode cX4_digestOfSurvey 113 = .ok (.iconst 1, 1) := by decide +kernel
theorem dX4_digestOfSurvey_114 : decode cX4_digestOfSurvey 114 = .ok (.invokevirtual 293, 3) := by decide +kernel
theorem dX4_digestOfSurvey_117 : decode cX4_digestOfSurvey 117 = .ok (.i2l, 1) := by decide +kernel
theorem dX4_digestOfSurvey_118 : decode cX4_digestOfSurvey 118 = .ok (.invokestatic 215, 3) := by decide +kernel
theorem dX4_digestOfSurvey_121 : decode cX4_digestOfSurvey 121 = .ok (.lstore 4, 2) := by decide +kernel
theorem dX4_digestOfSurvey_123 : decode cX4_digestOfSurvey 123 = .ok (.iinc 7 1, 3) := by decide +kernel
theorem dX4_digestOfSurvey_126 : decode cX4_digestOfSurvey 126 = .ok (.goto (-80), 3) := by decide +kernel
theorem dX4_digestOfSurvey_129 : decode cX4_digestOfSurvey 129 = .ok (.iinc 6 1, 3) := by decide +kernel
theorem dX4_digestOfSurvey_132 : decode cX4_digestOfSurvey 132 = .ok (.goto (-96), 3) := by decide +kernel
theorem dX4_digestOfSurvey_135 : decode cX4_digestOfSurvey 135 = .ok (.iconst 0, 1) := by decide +kernel
theorem dX4_digestOfSurvey_136 : decode cX4_digestOfSurvey 136 = .ok (.istore 6, 2) := by decide +kernel
theorem dX4_digestOfSurvey_138 : decode cX4_digestOfSurvey 138 = .ok (.iload 6, 2) := by decide +kernel
theorem dX4_digestOfSurvey_140 : decode cX4_digestOfSurvey 140 = .ok (.iconst 2, 1) := by decide +kernel
theorem dX4_digestOfSurvey_141 : decode cX4_digestOfSurvey 141 = .ok (.if_icmp .ge 44, 3) := by decide +kernel
theorem dX4_digestOfSurvey_144 : decode cX4_digestOfSurvey 144 = .ok (.lload 4, 2) := by decide +kernel
theorem dX4_digestOfSurvey_146 : decode cX4_digestOfSurvey 146 = .ok (.aload_n 0, 1) := by decide +kernel
theorem dX4_digestOfSurvey_147 : decode cX4_digestOfSurvey 147 = .ok (.iload_n 3, 1) := by decide +kernel
theorem dX4_digestOfSurvey_148 : decode cX4_digestOfSurvey 148 = .ok (.iload 6, 2) := by decide +kernel
theorem dX4_digestOfSurvey_150 : decode cX4_digestOfSurvey 150 = .ok (.invokevirtual 296, 3) := by decide +kernel
theorem dX4_digestOfSurvey_153 : decode cX4_digestOfSurvey 153 = .ok (.invokestatic 300, 3) := by decide +kernel
theorem dX4_digestOfSurvey_156 : decode cX4_digestOfSurvey 156 = .ok (.i2l, 1) := by decide +kernel
theorem dX4_digestOfSurvey_157 : decode cX4_digestOfSurvey 157 = .ok (.invokestatic 215, 3) := by decide +kernel
theorem dX4_digestOfSurvey_160 : decode cX4_digestOfSurvey 160 = .ok (.lstore 4, 2) := by decide +kernel
theorem dX4_digestOfSurvey_162 : decode cX4_digestOfSurvey 162 = .ok (.lload 4, 2) := by decide +kernel
theorem dX4_digestOfSurvey_164 : decode cX4_digestOfSurvey 164 = .ok (.aload_n 0, 1) := by decide +kernel
theorem dX4_digestOfSurvey_165 : decode cX4_digestOfSurvey 165 = .ok (.iload_n 3, 1) := by decide +kernel
theorem dX4_digestOfSurvey_166 : decode cX4_digestOfSurvey 166 = .ok (.iload 6, 2) := by decide +kernel
theorem dX4_digestOfSurvey_168 : decode cX4_digestOfSurvey 168 = .ok (.invokevirtual 304, 3) := by decide +kernel
theorem dX4_digestOfSurvey_171 : decode cX4_digestOfSurvey 171 = .ok (.invokestatic 226, 3) := by decide +kernel
theorem dX4_digestOfSurvey_174 : decode cX4_digestOfSurvey 174 = .ok (.invokestatic 215, 3) := by decide +kernel
theorem dX4_digestOfSurvey_177 : decode cX4_digestOfSurvey 177 = .ok (.lstore 4, 2) := by decide +kernel
theorem dX4_digestOfSurvey_179 : decode cX4_digestOfSurvey 179 = .ok (.iinc 6 1, 3) := by decide +kernel
theorem dX4_digestOfSurvey_182 : decode cX4_digestOfSurvey 182 = .ok (.goto (-44), 3) := by decide +kernel
theorem dX4_digestOfSurvey_185 : decode cX4_digestOfSurvey 185 = .ok (.lload 4, 2) := by decide +kernel
theorem dX4_digestOfSurvey_187 : decode cX4_digestOfSurvey 187 = .ok (.lreturn, 1) := by decide +kernel
theorem dX4_digestOfTexts_0 : decode cX4_digestOfTexts 0 = .ok (.lload_n 1, 1) := by decide +kernel
theorem dX4_digestOfTexts_1 : decode cX4_digestOfTexts 1 = .ok (.lstore_n 3, 1) := by decide +kernel
theorem dX4_digestOfTexts_2 : decode cX4_digestOfTexts 2 = .ok (.iconst 0, 1) := by decide +kernel
theorem dX4_digestOfTexts_3 : decode cX4_digestOfTexts 3 = .ok (.istore 5, 2) := by decide +kernel
theorem dX4_digestOfTexts_5 : decode cX4_digestOfTexts 5 = .ok (.iload 5, 2) := by decide +kernel
theorem dX4_digestOfTexts_7 : decode cX4_digestOfTexts 7 = .ok (.iconst 2, 1) := by decide +kernel
theorem dX4_digestOfTexts_8 : decode cX4_digestOfTexts 8 = .ok (.if_icmp .ge 29, 3) := by decide +kernel
theorem dX4_digestOfTexts_11 : decode cX4_digestOfTexts 11 = .ok (.lload_n 3, 1) := by decide +kernel
theorem dX4_digestOfTexts_12 : decode cX4_digestOfTexts 12 = .ok (.aload_n 0, 1) := by decide +kernel
theorem dX4_digestOfTexts_13 : decode cX4_digestOfTexts 13 = .ok (.getfield 20, 3) := by decide +kernel
theorem dX4_digestOfTexts_16 : decode cX4_digestOfTexts 16 = .ok (.iload 5, 2) := by decide +kernel
theorem dX4_digestOfTexts_18 : decode cX4_digestOfTexts 18 = .ok (.baload, 1) := by decide +kernel
theorem dX4_digestOfTexts_19 : decode cX4_digestOfTexts 19 = .ok (.ifCond .eq 7, 3) := by decide +kernel
theorem dX4_digestOfTexts_22 : decode cX4_digestOfTexts 22 = .ok (.lconst 1, 1) := by decide +kernel
theorem dX4_digestOfTexts_23 : decode cX4_digestOfTexts 23 = .ok (.goto 4, 3) := by decide +kernel
theorem dX4_digestOfTexts_26 : decode cX4_digestOfTexts 26 = .ok (.lconst 0, 1) := by decide +kernel
theorem dX4_digestOfTexts_27 : decode cX4_digestOfTexts 27 = .ok (.invokestatic 215, 3) := by decide +kernel
theorem dX4_digestOfTexts_30 : decode cX4_digestOfTexts 30 = .ok (.lstore_n 3, 1) := by decide +kernel
theorem dX4_digestOfTexts_31 : decode cX4_digestOfTexts 31 = .ok (.iinc 5 1, 3) := by decide +kernel
theorem dX4_digestOfTexts_34 : decode cX4_digestOfTexts 34 = .ok (.goto (-29), 3) := by decide +kernel
theorem dX4_digestOfTexts_37 : decode cX4_digestOfTexts 37 = .ok (.lload_n 3, 1) := by decide +kernel
theorem dX4_digestOfTexts_38 : decode cX4_digestOfTexts 38 = .ok (.aload_n 0, 1) := by decide +kernel
theorem dX4_digestOfTexts_39 : decode cX4_digestOfTexts 39 = .ok (.getfield 49, 3) := by decide +kernel
theorem dX4_digestOfTexts_42 : decode cX4_digestOfTexts 42 = .ok (.i2l, 1) := by decide +kernel
theorem dX4_digestOfTexts_43 : decode cX4_digestOfTexts 43 = .ok (.invokestatic 215, 3) := by decide +kernel
theorem dX4_digestOfTexts_46 : decode cX4_digestOfTexts 46 = .ok (.lstore_n 3, 1) := by decide +kernel
theorem dX4_digestOfTexts_47 : decode cX4_digestOfTexts 47 = .ok (.iconst 0, 1) := by decide +kernel
theorem dX4_digestOfTexts_48 : decode cX4_digestOfTexts 48 = .ok (.istore 5, 2) := by decide +kernel
theorem dX4_digestOfTexts_50 : decode cX4_digestOfTexts 50 = .ok (.iload 5, 2) := by decide +kernel
theorem dX4_digestOfTexts_52 : decode cX4_digestOfTexts 52 = .ok (.aload_n 0, 1) := by decide +kernel
theorem dX4_digestOfTexts_53 : decode cX4_digestOfTexts 53 = .ok (.getfield 49, 3) := by decide +kernel
theorem dX4_digestOfTexts_56 : decode cX4_digestOfTexts 56 = .ok (.if_icmp .ge 22, 3) := by decide +kernel
theorem dX4_digestOfTexts_59 : decode cX4_digestOfTexts 59 = .ok (.lload_n 3, 1) := by decide +kernel
theorem dX4_digestOfTexts_60 : decode cX4_digestOfTexts 60 = .ok (.aload_n 0, 1) := by decide +kernel
theorem dX4_digestOfTexts_61 : decode cX4_digestOfTexts 61 = .ok (.getfield 45, 3) := by decide +kernel
theorem dX4_digestOfTexts_64 : decode cX4_digestOfTexts 64 = .ok (.iload 5, 2) := by decide +kernel
theorem dX4_digestOfTexts_66 : decode cX4_digestOfTexts 66 = .ok (.caload, 1) := by decide +kernel
theorem dX4_digestOfTexts_67 : decode cX4_digestOfTexts 67 = .ok (.i2l, 1) := by decide +kernel
theorem dX4_digestOfTexts_68 : decode cX4_digestOfTexts 68 = .ok (.invokestatic 215, 3) := by decide +kernel
theorem dX4_digestOfTexts_71 : decode cX4_digestOfTexts 71 = .ok (.lstore_n 3, 1) := by decide +kernel
theorem dX4_digestOfTexts_72 : decode cX4_digestOfTexts 72 = .ok (.iinc 5 1, 3) := by decide +kernel
theorem dX4_digestOfTexts_75 : decode cX4_digestOfTexts 75 = .ok (.goto (-25), 3) := by decide +kernel
theorem dX4_digestOfTexts_78 : decode cX4_digestOfTexts 78 = .ok (.lload_n 3, 1) := by decide +kernel
theorem dX4_digestOfTexts_79 : decode cX4_digestOfTexts 79 = .ok (.lreturn, 1) := by decide +kernel
theorem dX4_bitsOfDouble_0 : decode cX4_bitsOfDouble 0 = .ok (.dload_n 0, 1) := by decide +kernel
theorem dX4_bitsOfDouble_1 : decode cX4_bitsOfDouble 1 = .ok (.dconst 0, 1) := by decide +kernel
theorem dX4_bitsOfDouble_2 : decode cX4_bitsOfDouble 2 = .ok (.dcmp .g, 1) := by decide +kernel
theorem dX4_bitsOfDouble_3 : decode cX4_bitsOfDouble 3 = .ok (.ifCond .ge 18, 3) := by decide +kernel
theorem dX4_bitsOfDouble_6 : decode cX4_bitsOfDouble 6 = .ok (.ldc2_w 310, 3) := by decide +kernel
theorem dX4_bitsOfDouble_9 : decode cX4_bitsOfDouble 9 = .ok (.dload_n 0, 1) := by decide +kernel
theorem dX4_bitsOfDouble_10 : decode cX4_bitsOfDouble 10 = .ok (.dneg, 1) := by decide +kernel
theorem dX4_bitsOfDouble_11 : decode cX4_bitsOfDouble 11 = .ok (.sipush 1023, 3) := by decide +kernel
theorem dX4_bitsOfDouble_14 : decode cX4_bitsOfDouble 14 = .ok (.bipush 52, 2) := by decide +kernel
theorem dX4_bitsOfDouble_16 : decode cX4_bitsOfDouble 16 = .ok (.invokestatic 312, 3) := by decide +kernel
theorem dX4_bitsOfDouble_19 : decode cX4_bitsOfDouble 19 = .ok (.lor, 1) := by decide +kernel
theorem dX4_bitsOfDouble_20 : decode cX4_bitsOfDouble 20 = .ok (.lreturn, 1) := by decide +kernel
theorem dX4_bitsOfDouble_21 : decode cX4_bitsOfDouble 21 = .ok (.dload_n 0, 1) := by decide +kernel
theorem dX4_bitsOfDouble_22 : decode cX4_bitsOfDouble 22 = .ok (.sipush 1023, 3) := by decide +kernel
theorem dX4_bitsOfDouble_25 : decode cX4_bitsOfDouble 25 = .ok (.bipush 52, 2) := by decide +kernel
theorem dX4_bitsOfDouble_27 : decode cX4_bitsOfDouble 27 = .ok (.invokestatic 312, 3) := by decide +kernel
theorem dX4_bitsOfDouble_30 : decode cX4_bitsOfDouble 30 = .ok (.lreturn, 1) := by decide +kernel
theorem dX4_bitsOfFloat_0 : decode cX4_bitsOfFloat 0 = .ok (.fload_n 0, 1) := by decide +kernel
theorem dX4_bitsOfFloat_1 : decode cX4_bitsOfFloat 1 = .ok (.fconst 0, 1) := by decide +kernel
theorem dX4_bitsOfFloat_2 : decode cX4_bitsOfFloat 2 = .ok (.fcmp .g, 1) := by decide +kernel
theorem dX4_bitsOfFloat_3 : decode cX4_bitsOfFloat 3 = .ok (.ifCond .ge 19, 3) := by decide +kernel
theorem dX4_bitsOfFloat_6 : decode cX4_bitsOfFloat 6 = .ok (.ldc_w 318, 3) := by decide +kernel
theorem dX4_bitsOfFloat_9 : decode cX4_bitsOfFloat 9 = .ok (.fload_n 0, 1) := by decide +kernel
theorem dX4_bitsOfFloat_10 : decode cX4_bitsOfFloat 10 = .ok (.fneg, 1) := by decide +kernel
theorem dX4_bitsOfFloat_11 : decode cX4_bitsOfFloat 11 = .ok (.f2d, 1) := by decide +kernel
theorem dX4_bitsOfFloat_12 : decode cX4_bitsOfFloat 12 = .ok (.bipush 127, 2) := by decide +kernel
theorem dX4_bitsOfFloat_14 : decode cX4_bitsOfFloat 14 = .ok (.bipush 23, 2) := by decide +kernel
theorem dX4_bitsOfFloat_16 : decode cX4_bitsOfFloat 16 = .ok (.invokestatic 312, 3) := by decide +kernel
theorem dX4_bitsOfFloat_19 : decode cX4_bitsOfFloat 19 = .ok (.l2i, 1) := by decide +kernel
theorem dX4_bitsOfFloat_20 : decode cX4_bitsOfFloat 20 = .ok (.ior, 1) := by decide +kernel
theorem dX4_bitsOfFloat_21 : decode cX4_bitsOfFloat 21 = .ok (.ireturn, 1) := by decide +kernel
theorem dX4_bitsOfFloat_22 : decode cX4_bitsOfFloat 22 = .ok (.fload_n 0, 1) := by decide +kernel
theorem dX4_bitsOfFloat_23 : decode cX4_bitsOfFloat 23 = .ok (.f2d, 1) := by decide +kernel
theorem dX4_bitsOfFloat_24 : decode cX4_bitsOfFloat 24 = .ok (.bipush 127, 2) := by decide +kernel
theorem dX4_bitsOfFloat_26 : decode cX4_bitsOfFloat 26 = .ok (.bipush 23, 2) := by decide +kernel
theorem dX4_bitsOfFloat_28 : decode cX4_bitsOfFloat 28 = .ok (.invokestatic 312, 3) := by decide +kernel
theorem dX4_bitsOfFloat_31 : decode cX4_bitsOfFloat 31 = .ok (.l2i, 1) := by decide +kernel
theorem dX4_bitsOfFloat_32 : decode cX4_bitsOfFloat 32 = .ok (.ireturn, 1) := by decide +kernel
theorem dX4_bitsOfMagnitude_0 : decode cX4_bitsOfMagnitude 0 = .ok (.dload_n 0, 1) := by decide +kernel
theorem dX4_bitsOfMagnitude_1 : decode cX4_bitsOfMagnitude 1 = .ok (.dconst 0, 1) := by decide +kernel
theorem dX4_bitsOfMagnitude_2 : decode cX4_bitsOfMagnitude 2 = .ok (.dcmp .g, 1) := by decide +kernel
theorem dX4_bitsOfMagnitude_3 : decode cX4_bitsOfMagnitude 3 = .ok (.ifCond .gt 5, 3) := by decide +kernel
theorem dX4_bitsOfMagnitude_6 : decode cX4_bitsOfMagnitude 6 = .ok (.lconst 0, 1) := by decide +kernel
theorem dX4_bitsOfMagnitude_7 : decode cX4_bitsOfMagnitude 7 = .ok (.lreturn, 1) := by decide +kernel
theorem dX4_bitsOfMagnitude_8 : decode cX4_bitsOfMagnitude 8 = .ok (.dload_n 0, 1) := by decide +kernel
theorem dX4_bitsOfMagnitude_9 : decode cX4_bitsOfMagnitude 9 = .ok (.dstore 4, 2) := by decide +kernel
theorem dX4_bitsOfMagnitude_11 : decode cX4_bitsOfMagnitude 11 = .ok (.iload_n 2, 1) := by decide +kernel
theorem dX4_bitsOfMagnitude_12 : decode cX4_bitsOfMagnitude 12 = .ok (.i2l, 1) := by decide +kernel
theorem dX4_bitsOfMagnitude_13 : decode cX4_bitsOfMagnitude 13 = .ok (.lstore 6, 2) := by decide +kernel
theorem dX4_bitsOfMagnitude_15 : decode cX4_bitsOfMagnitude 15 = .ok (.iconst 0, 1) := by decide +kernel
theorem dX4_bitsOfMagnitude_16 : decode cX4_bitsOfMagnitude 16 = .ok (.istore 8, 2) := by decide +kernel
theorem dX4_bitsOfMagnitude_18 : decode cX4_bitsOfMagnitude 18 = .ok (.iload 8, 2) := by decide +kernel
theorem dX4_bitsOfMagnitude_20 : decode cX4_bitsOfMagnitude 20 = .ok (.bipush 100, 2) := by decide +kernel
theorem dX4_bitsOfMagnitude_22 : decode cX4_bitsOfMagnitude 22 = .ok (.if_icmp .ge 32, 3) := by decide +kernel
theorem dX4_bitsOfMagnitude_25 : decode cX4_bitsOfMagnitude 25 = .ok (.dload 4, 2) := by decide +kernel
theorem dX4_bitsOfMagnitude_27 : decode cX4_bitsOfMagnitude 27 = .ok (.ldc2_w 319, 3) := by decide +kernel
theorem dX4_bitsOfMagnitude_30 : decode cX4_bitsOfMagnitude 30 = .ok (.dcmp .l, 1) := by decide +kernel
theorem dX4_bitsOfMagnitude_31 : decode cX4_bitsOfMagnitude 31 = .ok (.ifCond .lt 23, 3) := by decide +kernel
theorem dX4_bitsOfMagnitude_34 : decode cX4_bitsOfMagnitude 34 = .ok (.dload 4, 2) := by decide +kernel
theorem dX4_bitsOfMagnitude_36 : decode cX4_bitsOfMagnitude 36 = .ok (.ldc2_w 319, 3) := by decide +kernel
theorem dX4_bitsOfMagnitude_39 : decode cX4_bitsOfMagnitude 39 = .ok (.ddiv, 1) := by decide +kernel
theorem dX4_bitsOfMagnitude_40 : decode cX4_bitsOfMagnitude 40 = .ok (.dstore 4, 2) := by decide +kernel
theorem dX4_bitsOfMagnitude_42 : decode cX4_bitsOfMagnitude 42 = .ok (.lload 6, 2) := by decide +kernel
theorem dX4_bitsOfMagnitude_44 : decode cX4_bitsOfMagnitude 44 = .ok (.lconst 1, 1) := by decide +kernel
theorem dX4_bitsOfMagnitude_45 : decode cX4_bitsOfMagnitude 45 = .ok (.ladd, 1) := by decide +kernel
theorem dX4_bitsOfMagnitude_46 : decode cX4_bitsOfMagnitude 46 = .ok (.lstore 6, 2) := by decide +kernel
theorem dX4_bitsOfMagnitude_48 : decode cX4_bitsOfMagnitude 48 = .ok (.iinc 8 1, 3) := by decide +kernel
theorem dX4_bitsOfMagnitude_51 : decode cX4_bitsOfMagnitude 51 = .ok (.goto (-33), 3) := by decide +kernel
theorem dX4_bitsOfMagnitude_54 : decode cX4_bitsOfMagnitude 54 = .ok (.iconst 0, 1) := by decide +kernel
theorem dX4_bitsOfMagnitude_55 : decode cX4_bitsOfMagnitude 55 = .ok (.istore 8, 2) := by decide +kernel
theorem dX4_bitsOfMagnitude_57 : decode cX4_bitsOfMagnitude 57 = .ok (.iload 8, 2) := by decide +kernel
theorem dX4_bitsOfMagnitude_59 : decode cX4_bitsOfMagnitude 59 = .ok (.bipush 100, 2) := by decide +kernel
theorem dX4_bitsOfMagnitude_61 : decode cX4_bitsOfMagnitude 61 = .ok (.if_icmp .ge 30, 3) := by decide +kernel
theorem dX4_bitsOfMagnitude_64 : decode cX4_bitsOfMagnitude 64 = .ok (.dload 4, 2) := by decide +kernel
theorem dX4_bitsOfMagnitude_66 : decode cX4_bitsOfMagnitude 66 = .ok (.dconst 1, 1) := by decide +kernel
theorem dX4_bitsOfMagnitude_67 : decode cX4_bitsOfMagnitude 67 = .ok (.dcmp .g, 1) := by decide +kernel
theorem dX4_bitsOfMagnitude_68 : decode cX4_bitsOfMagnitude 68 = .ok (.ifCond .ge 23, 3) := by decide +kernel
theorem dX4_bitsOfMagnitude_71 : decode cX4_bitsOfMagnitude 71 = .ok (.dload 4, 2) := by decide +kernel
theorem dX4_bitsOfMagnitude_73 : decode cX4_bitsOfMagnitude 73 = .ok (.ldc2_w 319, 3) := by decide +kernel
theorem dX4_bitsOfMagnitude_76 : decode cX4_bitsOfMagnitude 76 = .ok (.dmul, 1) := by decide +kernel
theorem dX4_bitsOfMagnitude_77 : decode cX4_bitsOfMagnitude 77 = .ok (.dstore 4, 2) := by decide +kernel
theorem dX4_bitsOfMagnitude_79 : decode cX4_bitsOfMagnitude 79 = .ok (.lload 6, 2) := by decide +kernel
theorem dX4_bitsOfMagnitude_81 : decode cX4_bitsOfMagnitude 81 = .ok (.lconst 1, 1) := by decide +kernel
theorem dX4_bitsOfMagnitude_82 : decode cX4_bitsOfMagnitude 82 = .ok (.lsub, 1) := by decide +kernel
theorem dX4_bitsOfMagnitude_83 : decode cX4_bitsOfMagnitude 83 = .ok (.lstore 6, 2) := by decide +kernel
theorem dX4_bitsOfMagnitude_85 : decode cX4_bitsOfMagnitude 85 = .ok (.iinc 8 1, 3) := by decide +kernel
theorem dX4_bitsOfMagnitude_88 : decode cX4_bitsOfMagnitude 88 = .ok (.goto (-31), 3) := by decide +kernel
theorem dX4_bitsOfMagnitude_91 : decode cX4_bitsOfMagnitude 91 = .ok (.lload 6, 2) := by decide +kernel
theorem dX4_bitsOfMagnitude_93 : decode cX4_bitsOfMagnitude 93 = .ok (.iload_n 3, 1) := by decide +kernel
theorem dX4_bitsOfMagnitude_94 : decode cX4_bitsOfMagnitude 94 = .ok (.lshl, 1) := by decide +kernel
theorem dX4_bitsOfMagnitude_95 : decode cX4_bitsOfMagnitude 95 = .ok (.dload 4, 2) := by decide +kernel
theorem dX4_bitsOfMagnitude_97 : decode cX4_bitsOfMagnitude 97 = .ok (.dconst 1, 1) := by decide +kernel
theorem dX4_bitsOfMagnitude_98 : decode cX4_bitsOfMagnitude 98 = .ok (.dsub, 1) := by decide +kernel
theorem dX4_bitsOfMagnitude_99 : decode cX4_bitsOfMagnitude 99 = .ok (.lconst 1, 1) := by decide +kernel
theorem dX4_bitsOfMagnitude_100 : decode cX4_bitsOfMagnitude 100 = .ok (.iload_n 3, 1) := by decide +kernel
theorem dX4_bitsOfMagnitude_101 : decode cX4_bitsOfMagnitude 101 = .ok (.lshl, 1) := by decide +kernel
theorem dX4_bitsOfMagnitude_102 : decode cX4_bitsOfMagnitude 102 = .ok (.l2d, 1) := by decide +kernel
theorem dX4_bitsOfMagnitude_103 : decode cX4_bitsOfMagnitude 103 = .ok (.dmul, 1) := by decide +kernel
theorem dX4_bitsOfMagnitude_104 : decode cX4_bitsOfMagnitude 104 = .ok (.d2l, 1) := by decide +kernel
theorem dX4_bitsOfMagnitude_105 : decode cX4_bitsOfMagnitude 105 = .ok (.ladd, 1) := by decide +kernel
theorem dX4_bitsOfMagnitude_106 : decode cX4_bitsOfMagnitude 106 = .ok (.lreturn, 1) := by decide +kernel
