theorem dX5_init_0 : decode cX5_init 0 = .ok (.aload_n 0, 1) := by decide +kernel
theorem dX5_init_1 : decode cX5_init 1 = .ok (.invokespecial 1, 3) := by decide +kernel
theorem dX5_init_4 : decode cX5_init 4 = .ok (.aload_n 0, 1) := by decide +kernel
theorem dX5_init_5 : decode cX5_init 5 = .ok (.sipush 4023, 3) := by decide +kernel
theorem dX5_init_8 : decode cX5_init 8 = .ok (.newarray .int, 2) := by decide +kernel
theorem dX5_init_10 : decode cX5_init 10 = .ok (.putfield 7, 3) := by decide +kernel
theorem dX5_init_13 : decode cX5_init 13 = .ok (.aload_n 0, 1) := by decide +kernel
theorem dX5_init_14 : decode cX5_init 14 = .ok (.iconst 2, 1) := by decide +kernel
theorem dX5_init_15 : decode cX5_init 15 = .ok (.newarray .boolean, 2) := by decide +kernel
theorem dX5_init_17 : decode cX5_init 17 = .ok (.putfield 13, 3) := by decide +kernel
theorem dX5_init_20 : decode cX5_init 20 = .ok (.aload_n 0, 1) := by decide +kernel
theorem dX5_init_21 : decode cX5_init 21 = .ok (.bipush 60, 2) := by decide +kernel
theorem dX5_init_23 : decode cX5_init 23 = .ok (.newarray .int, 2) := by decide +kernel
theorem dX5_init_25 : decode cX5_init 25 = .ok (.putfield 17, 3) := by decide +kernel
theorem dX5_init_28 : decode cX5_init 28 = .ok (.aload_n 0, 1) := by decide +kernel
theorem dX5_init_29 : decode cX5_init 29 = .ok (.getfield 7, 3) := by decide +kernel
theorem dX5_init_32 : decode cX5_init 32 = .ok (.bipush 6, 2) := by decide +kernel
theorem dX5_init_34 : decode cX5_init 34 = .ok (.iconst 2, 1) := by decide +kernel
theorem dX5_init_35 : decode cX5_init 35 = .ok (.iastore, 1) := by decide +kernel
theorem dX5_init_36 : decode cX5_init 36 = .ok (.aload_n 0, 1) := by decide +kernel
theorem dX5_init_37 : decode cX5_init 37 = .ok (.getfield 7, 3) := by decide +kernel
theorem dX5_init_40 : decode cX5_init 40 = .ok (.bipush 7, 2) := by decide +kernel
theorem dX5_init_42 : decode cX5_init 42 = .ok (.iconst 1, 1) := by decide +kernel
theorem dX5_init_43 : decode cX5_init 43 = .ok (.iastore, 1) := by decide +kernel
theorem dX5_init_44 : decode cX5_init 44 = .ok (.aload_n 0, 1) := by decide +kernel
theorem dX5_init_45 : decode cX5_init 45 = .ok (.getfield 7, 3) := by decide +kernel
theorem dX5_init_48 : decode cX5_init 48 = .ok (.bipush 8, 2) := by decide +kernel
theorem dX5_init_50 : decode cX5_init 50 = .ok (.iconst 1, 1) := by decide +kernel
theorem dX5_init_51 : decode cX5_init 51 = .ok (.iastore, 1) := by decide +kernel
theorem dX5_init_52 : decode cX5_init 52 = .ok (.return_, 1) := by decide +kernel
theorem dX5_thrown_0 : decode cX5_thrown 0 = .ok (.aload_n 0, 1) := by decide +kernel
theorem dX5_thrown_1 : decode cX5_thrown 1 = .ok (.getfield 20, 3) := by decide +kernel
theorem dX5_thrown_4 : decode cX5_thrown 4 = .ok (.ireturn, 1) := by decide +kernel
theorem dX5_in_0 : decode cX5_in 0 = .ok (.iload_n 0, 1) := by decide +kernel
theorem dX5_in_1 : decode cX5_in 1 = .ok (.iload_n 1, 1) := by decide +kernel
theorem dX5_in_2 : decode cX5_in 2 = .ok (.if_icmp .lt 12, 3) := by decide +kernel
theorem dX5_in_5 : decode cX5_in 5 = .ok (.iload_n 0, 1) := by decide +kernel
theorem dX5_in_6 : decode cX5_in 6 = .ok (.iload_n 2, 1) := by decide +kernel
theorem dX5_in_7 : decode cX5_in 7 = .ok (.if_icmp .gt 7, 3) := by decide +kernel
theorem dX5_in_10 : decode cX5_in 10 = .ok (.iconst 1, 1) := by decide +kernel
theorem dX5_in_11 : decode cX5_in 11 = .ok (.goto 4, 3) := by decide +kernel
theorem dX5_in_14 : decode cX5_in 14 = .ok (.iconst 0, 1) := by decide +kernel
theorem dX5_in_15 : decode cX5_in 15 = .ok (.ireturn, 1) := by decide +kernel
theorem dX5_holds_0 : decode cX5_holds 0 = .ok (.aload_n 0, 1) := by decide +kernel
theorem dX5_holds_1 : decode cX5_holds 1 = .ok (.iload_n 1, 1) := by decide +kernel
theorem dX5_holds_2 : decode cX5_holds 2 = .ok (.putfield 20, 3) := by decide +kernel
theorem dX5_holds_5 : decode cX5_holds 5 = .ok (.iload_n 1, 1) := by decide +kernel
theorem dX5_holds_6 : decode cX5_holds 6 = .ok (.ifCond .ne 7, 3) := by decide +kernel
theorem dX5_holds_9 : decode cX5_holds 9 = .ok (.iconst 1, 1) := by decide +kernel
theorem dX5_holds_10 : decode cX5_holds 10 = .ok (.goto 4, 3) := by decide +kernel
theorem dX5_holds_13 : decode cX5_holds 13 = .ok (.iconst 0, 1) := by decide +kernel
theorem dX5_holds_14 : decode cX5_holds 14 = .ok (.ireturn, 1) := by decide +kernel
theorem dX5_isLevel_0 : decode cX5_isLevel 0 = .ok (.iload_n 0, 1) := by decide +kernel
theorem dX5_isLevel_1 : decode cX5_isLevel 1 = .ok (.iconst 0, 1) := by decide +kernel
theorem dX5_isLevel_2 : decode cX5_isLevel 2 = .ok (.bipush 15, 2) := by decide +kernel
theorem dX5_isLevel_4 : decode cX5_isLevel 4 = .ok (.invokestatic 24, 3) := by decide +kernel
theorem dX5_isLevel_7 : decode cX5_isLevel 7 = .ok (.ireturn, 1) := by decide +kernel
theorem dX5_isSide_0 : decode cX5_isSide 0 = .ok (.iload_n 0, 1) := by decide +kernel
theorem dX5_isSide_1 : decode cX5_isSide 1 = .ok (.iconst 0, 1) := by decide +kernel
theorem dX5_isSide_2 : decode cX5_isSide 2 = .ok (.iconst 1, 1) := by decide +kernel
theorem dX5_isSide_3 : decode cX5_isSide 3 = .ok (.invokestatic 24, 3) := by decide +kernel
theorem dX5_isSide_6 : decode cX5_isSide 6 = .ok (.ireturn, 1) := by decide +kernel
theorem dX5_isSurvey_0 : decode cX5_isSurvey 0 = .ok (.iload_n 1, 1) := by decide +kernel
theorem dX5_isSurvey_1 : decode cX5_isSurvey 1 = .ok (.iconst 0, 1) := by decide +kernel
theorem dX5_isSurvey_2 : decode cX5_isSurvey 2 = .ok (.aload_n 0, 1) := by decide +kernel
theorem dX5_isSurvey_3 : decode cX5_isSurvey 3 = .ok (.getfield 7, 3) := by decide +kernel
theorem dX5_isSurvey_6 : decode cX5_isSurvey 6 = .ok (.iconst 1, 1) := by decide +kernel
theorem dX5_isSurvey_7 : decode cX5_isSurvey 7 = .ok (.iaload, 1) := by decide +kernel
theorem dX5_isSurvey_8 : decode cX5_isSurvey 8 = .ok (.iconst 1, 1) := by decide +kernel
theorem dX5_isSurvey_9 : decode cX5_isSurvey 9 = .ok (.isub, 1) := by decide +kernel
theorem dX5_isSurvey_10 : decode cX5_isSurvey 10 = .ok (.invokestatic 24, 3) := by decide +kernel
theorem dX5_isSurvey_13 : decode cX5_isSurvey 13 = .ok (.ireturn, 1) := by decide +kernel
theorem dX5_size_0 : decode cX5_size 0 = .ok (.iload_n 0, 1) := by decide +kernel
theorem dX5_size_1 : decode cX5_size 1 = .ok (.ifCond .ge 8, 3) := by decide +kernel
theorem dX5_size_4 : decode cX5_size 4 = .ok (.iload_n 0, 1) := by decide +kernel
theorem dX5_size_5 : decode cX5_size 5 = .ok (.ineg, 1) := by decide +kernel
theorem dX5_size_6 : decode cX5_size 6 = .ok (.goto 4, 3) := by decide +kernel
theorem dX5_size_9 : decode cX5_size 9 = .ok (.iload_n 0, 1) := by decide +kernel
theorem dX5_size_10 : decode cX5_size 10 = .ok (.ireturn, 1) := by decide +kernel
theorem dX5_tilt_0 : decode cX5_tilt 0 = .ok (.aload_n 0, 1) := by decide +kernel
theorem dX5_tilt_1 : decode cX5_tilt 1 = .ok (.getfield 7, 3) := by decide +kernel
theorem dX5_tilt_4 : decode cX5_tilt 4 = .ok (.bipush 9, 2) := by decide +kernel
theorem dX5_tilt_6 : decode cX5_tilt 6 = .ok (.iconst 3, 1) := by decide +kernel
theorem dX5_tilt_7 : decode cX5_tilt 7 = .ok (.iload_n 1, 1) := by decide +kernel
theorem dX5_tilt_8 : decode cX5_tilt 8 = .ok (.imul, 1) := by decide +kernel
theorem dX5_tilt_9 : decode cX5_tilt 9 = .ok (.iadd, 1) := by decide +kernel
theorem dX5_tilt_10 : decode cX5_tilt 10 = .ok (.iload_n 2, 1) := by decide +kernel
theorem dX5_tilt_11 : decode cX5_tilt 11 = .ok (.iadd, 1) := by decide +kernel
theorem dX5_tilt_12 : decode cX5_tilt 12 = .ok (.iaload, 1) := by decide +kernel
theorem dX5_tilt_13 : decode cX5_tilt 13 = .ok (.ireturn, 1) := by decide +kernel
theorem dX5_turnOf_0 : decode cX5_turnOf 0 = .ok (.aload_n 0, 1) := by decide +kernel
theorem dX5_turnOf_1 : decode cX5_turnOf 1 = .ok (.getfield 7, 3) := by decide +kernel
theorem dX5_turnOf_4 : decode cX5_turnOf 4 = .ok (.bipush 9, 2) := by decide +kernel
theorem dX5_turnOf_6 : decode cX5_turnOf 6 = .ok (.iconst 3, 1) := by decide +kernel
theorem dX5_turnOf_7 : decode cX5_turnOf 7 = .ok (.iload_n 1, 1) := by decide +kernel
theorem dX5_turnOf_8 : decode cX5_turnOf 8 = .ok (.imul, 1) := by decide +kernel
theorem dX5_turnOf_9 : decode cX5_turnOf 9 = .ok (.iadd, 1) := by decide +kernel
theorem dX5_turnOf_10 : decode cX5_turnOf 10 = .ok (.iconst 2, 1) := by decide +kernel
theorem dX5_turnOf_11 : decode cX5_turnOf 11 = .ok (.iadd, 1) := by decide +kernel
theorem dX5_turnOf_12 : decode cX5_turnOf 12 = .ok (.iaload, 1) := by decide +kernel
theorem dX5_turnOf_13 : decode cX5_turnOf 13 = .ok (.ireturn, 1) := by decide +kernel
theorem dX5_ownTilt_0 : decode cX5_ownTilt 0 = .ok (.aload_n 0, 1) := by decide +kernel
theorem dX5_ownTilt_1 : decode cX5_ownTilt 1 = .ok (.iload_n 1, 1) := by decide +kernel
theorem dX5_ownTilt_2 : decode cX5_ownTilt 2 = .ok (.invokevirtual 28, 3) := by decide +kernel
theorem dX5_ownTilt_5 : decode cX5_ownTilt 5 = .ok (.iload_n 2, 1) := by decide +kernel
theorem dX5_ownTilt_6 : decode cX5_ownTilt 6 = .ok (.iadd, 1) := by decide +kernel
theorem dX5_ownTilt_7 : decode cX5_ownTilt 7 = .ok (.istore_n 3, 1) := by decide +kernel
theorem dX5_ownTilt_8 : decode cX5_ownTilt 8 = .ok (.aload_n 0, 1) := by decide +kernel
theorem dX5_ownTilt_9 : decode cX5_ownTilt 9 = .ok (.iload_n 1, 1) := by decide +kernel
theorem dX5_ownTilt_10 : decode cX5_ownTilt 10 = .ok (.iload_n 3, 1) := by decide +kernel
theorem dX5_ownTilt_11 : decode cX5_ownTilt 11 = .ok (.iconst 2, 1) := by decide +kernel
theorem dX5_ownTilt_12 : decode cX5_ownTilt 12 = .ok (.irem, 1) := by decide +kernel
theorem dX5_ownTilt_13 : decode cX5_ownTilt 13 = .ok (.invokevirtual 32, 3) := by decide +kernel
theorem dX5_ownTilt_16 : decode cX5_ownTilt 16 = .ok (.istore 4, 2) := by decide +kernel
theorem dX5_ownTilt_18 : decode cX5_ownTilt 18 = .ok (.iload_n 3, 1) := by decide +kernel
theorem dX5_ownTilt_19 : decode cX5_ownTilt 19 = .ok (.iconst 4, 1) := by decide +kernel
theorem dX5_ownTilt_20 : decode cX5_ownTilt 20 = .ok (.irem, 1) := by decide +kernel
theorem dX5_ownTilt_21 : decode cX5_ownTilt 21 = .ok (.iconst 2, 1) := by decide +kernel
theorem dX5_ownTilt_22 : decode cX5_ownTilt 22 = .ok (.if_icmp .ge 8, 3) := by decide +kernel
theorem dX5_ownTilt_25 : decode cX5_ownTilt 25 = .ok (.iload 4, 2) := by decide +kernel
theorem dX5_ownTilt_27 : decode cX5_ownTilt 27 = .ok (.goto 6, 3) := by decide +kernel
theorem dX5_ownTilt_30 : decode cX5_ownTilt 30 = .ok (.iload 4, 2) := by decide +kernel
theorem dX5_ownTilt_32 : decode cX5_ownTilt 32 = .ok (.ineg, 1) := by decide +kernel
theorem dX5_ownTilt_33 : decode cX5_ownTilt 33 = .ok (.ireturn, 1) := by decide +kernel
theorem dX5_wouldRead_0 : decode cX5_wouldRead 0 = .ok (.aload_n 0, 1) := by decide +kernel
theorem dX5_wouldRead_1 : decode cX5_wouldRead 1 = .ok (.getfield 7, 3) := by decide +kernel
theorem dX5_wouldRead_4 : decode cX5_wouldRead 4 = .ok (.iconst 2, 1) := by decide +kernel
theorem dX5_wouldRead_5 : decode cX5_wouldRead 5 = .ok (.iload_n 2, 1) := by decide +kernel
theorem dX5_wouldRead_6 : decode cX5_wouldRead 6 = .ok (.iadd, 1) := by decide +kernel
theorem dX5_wouldRead_7 : decode cX5_wouldRead 7 = .ok (.iaload, 1) := by decide +kernel
theorem dX5_wouldRead_8 : decode cX5_wouldRead 8 = .ok (.iload_n 3, 1) := by decide +kernel
theorem dX5_wouldRead_9 : decode cX5_wouldRead 9 = .ok (.ifCond .ne 12, 3) := by decide +kernel
theorem dX5_wouldRead_12 : decode cX5_wouldRead 12 = .ok (.aload_n 0, 1) := by decide +kernel
theorem dX5_wouldRead_13 : decode cX5_wouldRead 13 = .ok (.iload_n 1, 1) := by decide +kernel
theorem dX5_wouldRead_14 : decode cX5_wouldRead 14 = .ok (.iload_n 2, 1) := by decide +kernel
theorem dX5_wouldRead_15 : decode cX5_wouldRead 15 = .ok (.invokevirtual 36, 3) := by decide +kernel
theorem dX5_wouldRead_18 : decode cX5_wouldRead 18 = .ok (.goto 10, 3) := by decide +kernel
theorem dX5_wouldRead_21 : decode cX5_wouldRead 21 = .ok (.aload_n 0, 1) := by decide +kernel
theorem dX5_wouldRead_22 : decode cX5_wouldRead 22 = .ok (.iload_n 1, 1) := by decide +kernel
theorem dX5_wouldRead_23 : decode cX5_wouldRead 23 = .ok (.iload_n 2, 1) := by decide +kernel
theorem dX5_wouldRead_24 : decode cX5_wouldRead 24 = .ok (.invokevirtual 36, 3) := by decide +kernel
theorem dX5_wouldRead_27 : decode cX5_wouldRead 27 = .ok (.ineg, 1) := by decide +kernel
theorem dX5_wouldRead_28 : decode cX5_wouldRead 28 = .ok (.iadd, 1) := by decide +kernel
theorem dX5_wouldRead_29 : decode cX5_wouldRead 29 = .ok (.ireturn, 1) := by decide +kernel
theorem dX5_placeOf_0 : decode cX5_placeOf 0 = .ok (.iconst 1, 1) := by decide +kernel
theorem dX5_placeOf_1 : decode cX5_placeOf 1 = .ok (.iconst 4, 1) := by decide +kernel
theorem dX5_placeOf_2 : decode cX5_placeOf 2 = .ok (.iload_n 0, 1) := by decide +kernel
theorem dX5_placeOf_3 : decode cX5_placeOf 3 = .ok (.imul, 1) := by decide +kernel
theorem dX5_placeOf_4 : decode cX5_placeOf 4 = .ok (.iadd, 1) := by decide +kernel
theorem dX5_placeOf_5 : decode cX5_placeOf 5 = .ok (.iconst 2, 1) := by decide +kernel
theorem dX5_placeOf_6 : decode cX5_placeOf 6 = .ok (.iload_n 1, 1) := by decide +kernel
theorem dX5_placeOf_7 : decode cX5_placeOf 7 = .ok (.imul, 1) := by decide +kernel
theorem dX5_placeOf_8 : decode cX5_placeOf 8 = .ok (.iadd, 1) := by decide +kernel
theorem dX5_placeOf_9 : decode cX5_placeOf 9 = .ok (.iload_n 2, 1) := by decide +kernel
theorem dX5_placeOf_10 : decode cX5_placeOf 10 = .ok (.iadd, 1) := by decide +kernel
theorem dX5_placeOf_11 : decode cX5_placeOf 11 = .ok (.ireturn, 1) := by decide +kernel
theorem dX5_read_0 : decode cX5_read 0 = .ok (.aload_n 0, 1) := by decide +kernel
theorem dX5_read_1 : decode cX5_read 1 = .ok (.getfield 7, 3) := by decide +kernel
theorem dX5_read_4 : decode cX5_read 4 = .ok (.bipush 57, 2) := by decide +kernel
theorem dX5_read_6 : decode cX5_read 6 = .ok (.bipush 65, 2) := by decide +kernel
theorem dX5_read_8 : decode cX5_read 8 = .ok (.iload_n 1, 1) := by decide +kernel
theorem dX5_read_9 : decode cX5_read 9 = .ok (.imul, 1) := by decide +kernel
theorem dX5_read_10 : decode cX5_read 10 = .ok (.iadd, 1) := by decide +kernel
theorem dX5_read_11 : decode cX5_read 11 = .ok (.iload_n 2, 1) := by decide +kernel
theorem dX5_read_12 : decode cX5_read 12 = .ok (.iload_n 3, 1) := by decide +kernel
theorem dX5_read_13 : decode cX5_read 13 = .ok (.iload 4, 2) := by decide +kernel
theorem dX5_read_15 : decode cX5_read 15 = .ok (.invokestatic 39, 3) := by decide +kernel
theorem dX5_read_18 : decode cX5_read 18 = .ok (.iadd, 1) := by decide +kernel
theorem dX5_read_19 : decode cX5_read 19 = .ok (.iaload, 1) := by decide +kernel
theorem dX5_read_20 : decode cX5_read 20 = .ok (.ireturn, 1) := by decide +kernel
theorem dX5_check_0 : decode cX5_check 0 = .ok (.aload_n 0, 1) := by decide +kernel
theorem dX5_check_1 : decode cX5_check 1 = .ok (.iload_n 1, 1) := by decide +kernel
theorem dX5_check_2 : decode cX5_check 2 = .ok (.iload_n 2, 1) := by decide +kernel
theorem dX5_check_3 : decode cX5_check 3 = .ok (.iload_n 3, 1) := by decide +kernel
theorem dX5_check_4 : decode cX5_check 4 = .ok (.iconst 0, 1) := by decide +kernel
theorem dX5_check_5 : decode cX5_check 5 = .ok (.invokevirtual 43, 3) := by decide +kernel
theorem dX5_check_8 : decode cX5_check 8 = .ok (.aload_n 0, 1) := by decide +kernel
theorem dX5_check_9 : decode cX5_check 9 = .ok (.iload_n 1, 1) := by decide +kernel
theorem dX5_check_10 : decode cX5_check 10 = .ok (.iload_n 2, 1) := by decide +kernel
theorem dX5_check_11 : decode cX5_check 11 = .ok (.iload_n 3, 1) := by decide +kernel
theorem dX5_check_12 : decode cX5_check 12 = .ok (.iconst 1, 1) := by decide +kernel
theorem dX5_check_13 : decode cX5_check 13 = .ok (.invokevirtual 43, 3) := by decide +kernel
theorem dX5_check_16 : decode cX5_check 16 = .ok (.iadd, 1) := by decide +kernel
theorem dX5_check_17 : decode cX5_check 17 = .ok (.ireturn, 1) := by decide +kernel
theorem dX5_common_0 : decode cX5_common 0 = .ok (.iconst 0, 1) := by decide +kernel
theorem dX5_common_1 : decode cX5_common 1 = .ok (.istore_n 3, 1) := by decide +kernel
theorem dX5_common_2 : decode cX5_common 2 = .ok (.iconst 0, 1) := by decide +kernel
theorem dX5_common_3 : decode cX5_common 3 = .ok (.istore 4, 2) := by decide +kernel
theorem dX5_common_5 : decode cX5_common 5 = .ok (.iload 4, 2) := by decide +kernel
theorem dX5_common_7 : decode cX5_common 7 = .ok (.bipush 16, 2) := by decide +kernel
theorem dX5_common_9 : decode cX5_common 9 = .ok (.if_icmp .ge 108, 3) := by decide +kernel
theorem dX5_common_12 : decode cX5_common 12 = .ok (.aload_n 0, 1) := by decide +kernel
theorem dX5_common_13 : decode cX5_common 13 = .ok (.iload_n 1, 1) := by decide +kernel
theorem dX5_common_14 : decode cX5_common 14 = .ok (.iload 4, 2) := by decide +kernel
theorem dX5_common_16 : decode cX5_common 16 = .ok (.iload_n 2, 1) := by decide +kernel
theorem dX5_common_17 : decode cX5_common 17 = .ok (.invokevirtual 47, 3) := by decide +kernel
theorem dX5_common_20 : decode cX5_common 20 = .ok (.istore 5, 2) := by decide +kernel
theorem dX5_common_22 : decode cX5_common 22 = .ok (.iconst 0, 1) := by decide +kernel
theorem dX5_common_23 : decode cX5_common 23 = .ok (.istore 6, 2) := by decide +kernel
theorem dX5_common_25 : decode cX5_common 25 = .ok (.iconst 0, 1) := by decide +kernel
theorem dX5_common_26 : decode cX5_common 26 = .ok (.istore 7, 2) := by decide +kernel
theorem dX5_common_28 : decode cX5_common 28 = .ok (.iconst 0, 1) := by decide +kernel
theorem dX5_common_29 : decode cX5_common 29 = .ok (.istore 8, 2) := by decide +kernel
theorem dX5_common_31 : decode cX5_common 31 = .ok (.iload 8, 2) := by decide +kernel
theorem dX5_common_33 : decode cX5_common 33 = .ok (.bipush 16, 2) := by decide +kernel
theorem dX5_common_35 : decode cX5_common 35 = .ok (.if_icmp .ge 55, 3) := by decide +kernel
theorem dX5_common_38 : decode cX5_common 38 = .ok (.iload 6, 2) := by decide +kernel
theorem dX5_common_40 : decode cX5_common 40 = .ok (.aload_n 0, 1) := by decide +kernel
theorem dX5_common_41 : decode cX5_common 41 = .ok (.iload_n 1, 1) := by decide +kernel
theorem dX5_common_42 : decode cX5_common 42 = .ok (.iload 8, 2) := by decide +kernel
theorem dX5_common_44 : decode cX5_common 44 = .ok (.iload_n 2, 1) := by decide +kernel
theorem dX5_common_45 : decode cX5_common 45 = .ok (.invokevirtual 47, 3) := by decide +kernel
theorem dX5_common_48 : decode cX5_common 48 = .ok (.iload 5, 2) := by decide +kernel
theorem dX5_common_50 : decode cX5_common 50 = .ok (.if_icmp .ge 7, 3) := by decide +kernel
theorem dX5_common_53 : decode cX5_common 53 = .ok (.iconst 1, 1) := by decide +kernel
theorem dX5_common_54 : decode cX5_common 54 = .ok (.goto 4, 3) := by decide +kernel
theorem dX5_common_57 : decode cX5_common 57 = .ok (.iconst 0, 1) := by decide +kernel
theorem dX5_common_58 : decode cX5_common 58 = .ok (.iadd, 1) := by decide +kernel
theorem dX5_common_59 : decode cX5_common 59 = .ok (.istore 6, 2) := by decide +kernel
theorem dX5_common_61 : decode cX5_common 61 = .ok (.iload 7, 2) := by decide +kernel
theorem dX5_common_63 : decode cX5_common 63 = .ok (.aload_n 0, 1) := by decide +kernel
theorem dX5_common_64 : decode cX5_common 64 = .ok (.iload_n 1, 1) := by decide +kernel
theorem dX5_common_65 : decode cX5_common 65 = .ok (.iload 8, 2) := by decide +kernel
theorem dX5_common_67 : decode cX5_common 67 = .ok (.iload_n 2, 1) := by decide +kernel
theorem dX5_common_68 : decode cX5_common 68 = .ok (.invokevirtual 47, 3) := by decide +kernel
theorem dX5_common_71 : decode cX5_common 71 = .ok (.iload 5, 2) := by decide +kernel
theorem dX5_common_73 : decode cX5_common 73 = .ok (.if_icmp .gt 7, 3) := by decide +kernel
theorem dX5_common_76 : decode cX5_common 76 = .ok (.iconst 1, 1) := by decide +kernel
theorem dX5_common_77 : decode cX5_common 77 = .ok (.goto 4, 3) := by decide +kernel
theorem dX5_common_80 : decode cX5_common 80 = .ok (.iconst 0, 1) := by decide +kernel
theorem dX5_common_81 : decode cX5_common 81 = .ok (.iadd, 1) := by decide +kernel
theorem dX5_common_82 : decode cX5_common 82 = .ok (.istore 7, 2) := by decide +kernel
theorem dX5_common_84 : decode cX5_common 84 = .ok (.iinc 8 1, 3) := by decide +kernel
theorem dX5_common_87 : decode cX5_common 87 = .ok (.goto (-56), 3) := by decide +kernel
theorem dX5_common_90 : decode cX5_common 90 = .ok (.iload 6, 2) := by decide +kernel
theorem dX5_common_92 : decode cX5_common 92 = .ok (.bipush 8, 2) := by decide +kernel
theorem dX5_common_94 : decode cX5_common 94 = .ok (.if_icmp .ge 15, 3) := by decide +kernel
theorem dX5_common_97 : decode cX5_common 97 = .ok (.iload 7, 2) := by decide +kernel
theorem dX5_common_99 : decode cX5_common 99 = .ok (.bipush 8, 2) := by decide +kernel
theorem dX5_common_101 : decode cX5_common 101 = .ok (.if_icmp .lt 8, 3) := by decide +kernel
theorem dX5_common_104 : decode cX5_common 104 = .ok (.iload 5, 2) := by decide +kernel
theorem dX5_common_106 : decode cX5_common 106 = .ok (.goto 4, 3) := by decide +kernel
theorem dX5_common_109 : decode cX5_common 109 = .ok (.iload_n 3, 1) := by decide +kernel
theorem dX5_common_110 : decode cX5_common 110 = .ok (.istore_n 3, 1) := by decide +kernel
theorem dX5_common_111 : decode cX5_common 111 = .ok (.iinc 4 1, 3) := by decide +kernel
theorem dX5_common_114 : decode cX5_common 114 = .ok (.goto (-109), 3) := by decide +kernel
theorem dX5_common_117 : decode cX5_common 117 = .ok (.iload_n 3, 1) := by decide +kernel
theorem dX5_common_118 : decode cX5_common 118 = .ok (.ireturn, 1) := by decide +kernel
theorem dX5_isSuspicious_0 : decode cX5_isSuspicious 0 = .ok (.aload_n 0, 1) := by decide +kernel
theorem dX5_isSuspicious_1 : decode cX5_isSuspicious 1 = .ok (.iload_n 1, 1) := by decide +kernel
theorem dX5_isSuspicious_2 : decode cX5_isSuspicious 2 = .ok (.iload_n 2, 1) := by decide +kernel
theorem dX5_isSuspicious_3 : decode cX5_isSuspicious 3 = .ok (.iload_n 3, 1) := by decide +kernel
theorem dX5_isSuspicious_4 : decode cX5_isSuspicious 4 = .ok (.invokevirtual 47, 3) := by decide +kernel
theorem dX5_isSuspicious_7 : decode cX5_isSuspicious 7 = .ok (.aload_n 0, 1) := by decide +kernel
theorem dX5_isSuspicious_8 : decode cX5_isSuspicious 8 = .ok (.iload_n 1, 1) := by decide +kernel
theorem dX5_isSuspicious_9 : decode cX5_isSuspicious 9 = .ok (.iload_n 3, 1) := by decide +kernel
theorem dX5_isSuspicious_10 : decode cX5_isSuspicious 10 = .ok (.invokevirtual 50, 3) := by decide +kernel
theorem dX5_isSuspicious_13 : decode cX5_isSuspicious 13 = .ok (.isub, 1) := by decide +kernel
theorem dX5_isSuspicious_14 : decode cX5_isSuspicious 14 = .ok (.invokestatic 53, 3) := by decide +kernel
theorem dX5_isSuspicious_17 : decode cX5_isSuspicious 17 = .ok (.aload_n 0, 1) := by decide +kernel
theorem dX5_isSuspicious_18 : decode cX5_isSuspicious 18 = .ok (.getfield 7, 3) := by decide +kernel
theorem dX5_isSuspicious_21 : decode cX5_isSuspicious 21 = .ok (.bipush 6, 2) := by decide +kernel
theorem dX5_isSuspicious_23 : decode cX5_isSuspicious 23 = .ok (.iaload, 1) := by decide +kernel
theorem dX5_isSuspicious_24 : decode cX5_isSuspicious 24 = .ok (.if_icmp .le 7, 3) := by decide +kernel
theorem dX5_isSuspicious_27 : decode cX5_isSuspicious 27 = .ok (.iconst 1, 1) := by decide +kernel
theorem dX5_isSuspicious_28 : decode cX5_isSuspicious 28 = .ok (.goto 4, 3) := by decide +kernel
theorem dX5_isSuspicious_31 : decode cX5_isSuspicious 31 = .ok (.iconst 0, 1) := by decide +kernel
theorem dX5_isSuspicious_32 : decode cX5_isSuspicious 32 = .ok (.ireturn, 1) := by decide +kernel
theorem dX5_tiltRead_0 : decode cX5_tiltRead 0 = .ok (.iconst 0, 1) := by decide +kernel
theorem dX5_tiltRead_1 : decode cX5_tiltRead 1 = .ok (.istore 4, 2) := by decide +kernel
theorem dX5_tiltRead_3 : decode cX5_tiltRead 3 = .ok (.iconst 0, 1) := by decide +kernel
theorem dX5_tiltRead_4 : decode cX5_tiltRead 4 = .ok (.istore 5, 2) := by decide +kernel
theorem dX5_tiltRead_6 : decode cX5_tiltRead 6 = .ok (.iload 5, 2) := by decide +kernel
theorem dX5_tiltRead_8 : decode cX5_tiltRead 8 = .ok (.iload_n 1, 1) := by decide +kernel
theorem dX5_tiltRead_9 : decode cX5_tiltRead 9 = .ok (.if_icmp .gt 134, 3) := by decide +kernel
theorem dX5_tiltRead_12 : decode cX5_tiltRead 12 = .ok (.aload_n 0, 1) := by decide +kernel
theorem dX5_tiltRead_13 : decode cX5_tiltRead 13 = .ok (.iload 5, 2) := by decide +kernel
theorem dX5_tiltRead_15 : decode cX5_tiltRead 15 = .ok (.iload_n 2, 1) := by decide +kernel
theorem dX5_tiltRead_16 : decode cX5_tiltRead 16 = .ok (.iload_n 3, 1) := by decide +kernel
theorem dX5_tiltRead_17 : decode cX5_tiltRead 17 = .ok (.iconst 0, 1) := by decide +kernel
theorem dX5_tiltRead_18 : decode cX5_tiltRead 18 = .ok (.invokevirtual 43, 3) := by decide +kernel
theorem dX5_tiltRead_21 : decode cX5_tiltRead 21 = .ok (.istore 6, 2) := by decide +kernel
theorem dX5_tiltRead_23 : decode cX5_tiltRead 23 = .ok (.aload_n 0, 1) := by decide +kernel
theorem dX5_tiltRead_24 : decode cX5_tiltRead 24 = .ok (.iload 5, 2) := by decide +kernel
theorem dX5_tiltRead_26 : decode cX5_tiltRead 26 = .ok (.iload_n 2, 1) := by decide +kernel
theorem dX5_tiltRead_27 : decode cX5_tiltRead 27 = .ok (.iload_n 3, 1) := by decide +kernel
theorem dX5_tiltRead_28 : decode cX5_tiltRead 28 = .ok (.iconst 1, 1) := by decide +kernel
theorem dX5_tiltRead_29 : decode cX5_tiltRead 29 = .ok (.invokevirtual 43, 3) := by decide +kernel
theorem dX5_tiltRead_32 : decode cX5_tiltRead 32 = .ok (.istore 7, 2) := by decide +kernel
theorem dX5_tiltRead_34 : decode cX5_tiltRead 34 = .ok (.iload 4, 2) := by decide +kernel
theorem dX5_tiltRead_36 : decode cX5_tiltRead 36 = .ok (.istore 8, 2) := by decide +kernel
theorem dX5_tiltRead_38 : decode cX5_tiltRead 38 = .ok (.iload 6, 2) := by decide +kernel
theorem dX5_tiltRead_40 : decode cX5_tiltRead 40 = .ok (.iload 7, 2) := by decide +kernel
theorem dX5_tiltRead_42 : decode cX5_tiltRead 42 = .ok (.isub, 1) := by decide +kernel
theorem dX5_tiltRead_43 : decode cX5_tiltRead 43 = .ok (.iconst 2, 1) := by decide +kernel
theorem dX5_tiltRead_44 : decode cX5_tiltRead 44 = .ok (.idiv, 1) := by decide +kernel
theorem dX5_tiltRead_45 : decode cX5_tiltRead 45 = .ok (.istore 4, 2) := by decide +kernel
theorem dX5_tiltRead_47 : decode cX5_tiltRead 47 = .ok (.aload_n 0, 1) := by decide +kernel
theorem dX5_tiltRead_48 : decode cX5_tiltRead 48 = .ok (.getfield 7, 3) := by decide +kernel
theorem dX5_tiltRead_51 : decode cX5_tiltRead 51 = .ok (.bipush 7, 2) := by decide +kernel
theorem dX5_tiltRead_53 : decode cX5_tiltRead 53 = .ok (.iaload, 1) := by decide +kernel
theorem dX5_tiltRead_54 : decode cX5_tiltRead 54 = .ok (.iconst 1, 1) := by decide +kernel
theorem dX5_tiltRead_55 : decode cX5_tiltRead 55 = .ok (.if_icmp .ne 82, 3) := by decide +kernel
theorem dX5_tiltRead_58 : decode cX5_tiltRead 58 = .ok (.aload_n 0, 1) := by decide +kernel
theorem dX5_tiltRead_59 : decode cX5_tiltRead 59 = .ok (.iload 5, 2) := by decide +kernel
theorem dX5_tiltRead_61 : decode cX5_tiltRead 61 = .ok (.iload_n 2, 1) := by decide +kernel
theorem dX5_tiltRead_62 : decode cX5_tiltRead 62 = .ok (.iload_n 3, 1) := by decide +kernel
theorem dX5_tiltRead_63 : decode cX5_tiltRead 63 = .ok (.invokevirtual 56, 3) := by decide +kernel
theorem dX5_tiltRead_66 : decode cX5_tiltRead 66 = .ok (.ifCond .eq 71, 3) := by decide +kernel
theorem dX5_tiltRead_69 : decode cX5_tiltRead 69 = .ok (.aload_n 0, 1) := by decide +kernel
theorem dX5_tiltRead_70 : decode cX5_tiltRead 70 = .ok (.iload 5, 2) := by decide +kernel
theorem dX5_tiltRead_72 : decode cX5_tiltRead 72 = .ok (.iload_n 3, 1) := by decide +kernel
theorem dX5_tiltRead_73 : decode cX5_tiltRead 73 = .ok (.invokevirtual 50, 3) := by decide +kernel
theorem dX5_tiltRead_76 : decode cX5_tiltRead 76 = .ok (.iconst 2, 1) := by decide +kernel
theorem dX5_tiltRead_77 : decode cX5_tiltRead 77 = .ok (.idiv, 1) := by decide +kernel
theorem dX5_tiltRead_78 : decode cX5_tiltRead 78 = .ok (.istore 9, 2) := by decide +kernel
theorem dX5_tiltRead_80 : decode cX5_tiltRead 80 = .ok (.iload 5, 2) := by decide +kernel
theorem dX5_tiltRead_82 : decode cX5_tiltRead 82 = .ok (.ifCond .le 32, 3) := by decide +kernel
theorem dX5_tiltRead_85 : decode cX5_tiltRead 85 = .ok (.iload 9, 2) := by decide +kernel
theorem dX5_tiltRead_87 : decode cX5_tiltRead 87 = .ok (.iload 7, 2) := by decide +kernel
theorem dX5_tiltRead_89 : decode cX5_tiltRead 89 = .ok (.isub, 1) := by decide +kernel
theorem dX5_tiltRead_90 : decode cX5_tiltRead 90 = .ok (.iload 8, 2) := by decide +kernel
theorem dX5_tiltRead_92 : decode cX5_tiltRead 92 = .ok (.isub, 1) := by decide +kernel
theorem dX5_tiltRead_93 : decode cX5_tiltRead 93 = .ok (.invokestatic 53, 3) := by decide +kernel
theorem dX5_tiltRead_96 : decode cX5_tiltRead 96 = .ok (.iload 6, 2) := by decide +kernel
theorem dX5_tiltRead_98 : decode cX5_tiltRead 98 = .ok (.iload 9, 2) := by decide +kernel
theorem dX5_tiltRead_100 : decode cX5_tiltRead 100 = .ok (.isub, 1) := by decide +kernel
theorem dX5_tiltRead_101 : decode cX5_tiltRead 101 = .ok (.iload 8, 2) := by decide +kernel
theorem dX5_tiltRead_103 : decode cX5_tiltRead 103 = .ok (.isub, 1) := by decide +kernel
theorem dX5_tiltRead_104 : decode cX5_tiltRead 104 = .ok (.invokestatic 53, 3) := by decide +kernel
theorem dX5_tiltRead_107 : decode cX5_tiltRead 107 = .ok (.if_icmp .ge 7, 3) := by decide +kernel
theorem dX5_tiltRead_110 : decode cX5_tiltRead 110 = .ok (.iconst 1, 1) := by decide +kernel
theorem dX5_tiltRead_111 : decode cX5_tiltRead 111 = .ok (.goto 4, 3) := by decide +kernel
theorem dX5_tiltRead_114 : decode cX5_tiltRead 114 = .ok (.iconst 0, 1) := by decide +kernel
theorem dX5_tiltRead_115 : decode cX5_tiltRead 115 = .ok (.istore 10, 2) := by decide +kernel
theorem dX5_tiltRead_117 : decode cX5_tiltRead 117 = .ok (.iload 10, 2) := by decide +kernel
theorem dX5_tiltRead_119 : decode cX5_tiltRead 119 = .ok (.ifCond .eq 11, 3) := by decide +kernel
theorem dX5_tiltRead_122 : decode cX5_tiltRead 122 = .ok (.iload 9, 2) := by decide +kernel
theorem dX5_tiltRead_124 : decode cX5_tiltRead 124 = .ok (.iload 7, 2) := by decide +kernel
theorem dX5_tiltRead_126 : decode cX5_tiltRead 126 = .ok (.isub, 1) := by decide +kernel
theorem dX5_tiltRead_127 : decode cX5_tiltRead 127 = .ok (.goto 8, 3) := by decide +kernel
theorem dX5_tiltRead_130 : decode cX5_tiltRead 130 = .ok (.iload 6, 2) := by decide +kernel
theorem dX5_tiltRead_132 : decode cX5_tiltRead 132 = .ok (.iload 9, 2) := by decide +kernel
theorem dX5_tiltRead_134 : decode cX5_tiltRead 134 = .ok (.isub, 1) := by decide +kernel
theorem dX5_tiltRead_135 : decode cX5_tiltRead 135 = .ok (.istore 4, 2) := by decide +kernel
theorem dX5_tiltRead_137 : decode cX5_tiltRead 137 = .ok (.iinc 5 1, 3) := by decide +kernel
theorem dX5_tiltRead_140 : decode cX5_tiltRead 140 = .ok (.goto (-134), 3) := by decide +kernel
theorem dX5_tiltRead_143 : decode cX5_tiltRead 143 = .ok (.iload 4, 2) := by decide +kernel
theorem dX5_tiltRead_145 : decode cX5_tiltRead 145 = .ok (.ireturn, 1) := by decide +kernel
theorem dX5_tiltTold_0 : decode cX5_tiltTold 0 = .ok (.aload_n 0, 1) := by decide +kernel
theorem dX5_tiltTold_1 : decode cX5_tiltTold 1 = .ok (.getfield 7, 3) := by decide +kernel
theorem dX5_tiltTold_4 : decode cX5_tiltTold 4 = .ok (.bipush 8, 2) := by decide +kernel
theorem dX5_tiltTold_6 : decode cX5_tiltTold 6 = .ok (.iaload, 1) := by decide +kernel
theorem dX5_tiltTold_7 : decode cX5_tiltTold 7 = .ok (.ifCond .ne 11, 3) := by decide +kernel
theorem dX5_tiltTold_10 : decode cX5_tiltTold 10 = .ok (.aload_n 0, 1) := by decide +kernel
theorem dX5_tiltTold_11 : decode cX5_tiltTold 11 = .ok (.iload_n 1, 1) := by decide +kernel
theorem dX5_tiltTold_12 : decode cX5_tiltTold 12 = .ok (.iload_n 2, 1) := by decide +kernel
theorem dX5_tiltTold_13 : decode cX5_tiltTold 13 = .ok (.iload_n 3, 1) := by decide +kernel
theorem dX5_tiltTold_14 : decode cX5_tiltTold 14 = .ok (.invokevirtual 59, 3) := by decide +kernel
theorem dX5_tiltTold_17 : decode cX5_tiltTold 17 = .ok (.ireturn, 1) := by decide +kernel
theorem dX5_tiltTold_18 : decode cX5_tiltTold 18 = .ok (.aload_n 0, 1) := by decide +kernel
theorem dX5_tiltTold_19 : decode cX5_tiltTold 19 = .ok (.iload_n 2, 1) := by decide +kernel
theorem dX5_tiltTold_20 : decode cX5_tiltTold 20 = .ok (.invokevirtual 28, 3) := by decide +kernel
theorem dX5_tiltTold_23 : decode cX5_tiltTold 23 = .ok (.istore 4, 2) := by decide +kernel
theorem dX5_tiltTold_25 : decode cX5_tiltTold 25 = .ok (.iload 4, 2) := by decide +kernel
theorem dX5_tiltTold_27 : decode cX5_tiltTold 27 = .ok (.iload_n 3, 1) := by decide +kernel
theorem dX5_tiltTold_28 : decode cX5_tiltTold 28 = .ok (.iadd, 1) := by decide +kernel
theorem dX5_tiltTold_29 : decode cX5_tiltTold 29 = .ok (.iconst 2, 1) := by decide +kernel
theorem dX5_tiltTold_30 : decode cX5_tiltTold 30 = .ok (.irem, 1) := by decide +kernel
theorem dX5_tiltTold_31 : decode cX5_tiltTold 31 = .ok (.istore 5, 2) := by decide +kernel
theorem dX5_tiltTold_33 : decode cX5_tiltTold 33 = .ok (.iload 4, 2) := by decide +kernel
theorem dX5_tiltTold_35 : decode cX5_tiltTold 35 = .ok (.iload 5, 2) := by decide +kernel
theorem dX5_tiltTold_37 : decode cX5_tiltTold 37 = .ok (.iadd, 1) := by decide +kernel
theorem dX5_tiltTold_38 : decode cX5_tiltTold 38 = .ok (.iconst 4, 1) := by decide +kernel
theorem dX5_tiltTold_39 : decode cX5_tiltTold 39 = .ok (.irem, 1) := by decide +kernel
theorem dX5_tiltTold_40 : decode cX5_tiltTold 40 = .ok (.iconst 2, 1) := by decide +kernel
theorem dX5_tiltTold_41 : decode cX5_tiltTold 41 = .ok (.if_icmp .ge 14, 3) := by decide +kernel
theorem dX5_tiltTold_44 : decode cX5_tiltTold 44 = .ok (.aload_n 0, 1) := by decide +kernel
theorem dX5_tiltTold_45 : decode cX5_tiltTold 45 = .ok (.iload_n 1, 1) := by decide +kernel
theorem dX5_tiltTold_46 : decode cX5_tiltTold 46 = .ok (.iload_n 2, 1) := by decide +kernel
theorem dX5_tiltTold_47 : decode cX5_tiltTold 47 = .ok (.iload 5, 2) := by decide +kernel
theorem dX5_tiltTold_49 : decode cX5_tiltTold 49 = .ok (.invokevirtual 59, 3) := by decide +kernel
theorem dX5_tiltTold_52 : decode cX5_tiltTold 52 = .ok (.goto 12, 3) := by decide +kernel
theorem dX5_tiltTold_55 : decode cX5_tiltTold 55 = .ok (.aload_n 0, 1) := by decide +kernel
theorem dX5_tiltTold_56 : decode cX5_tiltTold 56 = .ok (.iload_n 1, 1) := by decide +kernel
theorem dX5_tiltTold_57 : decode cX5_tiltTold 57 = .ok (.iload_n 2, 1) := by decide +kernel
theorem dX5_tiltTold_58 : decode cX5_tiltTold 58 = .ok (.iload 5, 2) := by decide +kernel
theorem dX5_tiltTold_60 : decode cX5_tiltTold 60 = .ok (.invokevirtual 59, 3) := by decide +kernel
theorem dX5_tiltTold_63 : decode cX5_tiltTold 63 = .ok (.ineg, 1) := by decide +kernel
theorem dX5_tiltTold_64 : decode cX5_tiltTold 64 = .ok (.ireturn, 1) := by decide +kernel
theorem dX5_placeAt_0 : decode cX5_placeAt 0 = .ok (.iconst 0, 1) := by decide +kernel
theorem dX5_placeAt_1 : decode cX5_placeAt 1 = .ok (.istore 4, 2) := by decide +kernel
theorem dX5_placeAt_3 : decode cX5_placeAt 3 = .ok (.iconst 0, 1) := by decide +kernel
theorem dX5_placeAt_4 : decode cX5_placeAt 4 = .ok (.istore 5, 2) := by decide +kernel
theorem dX5_placeAt_6 : decode cX5_placeAt 6 = .ok (.iload 5, 2) := by decide +kernel
theorem dX5_placeAt_8 : decode cX5_placeAt 8 = .ok (.iload_n 2, 1) := by decide +kernel
theorem dX5_placeAt_9 : decode cX5_placeAt 9 = .ok (.if_icmp .gt 22, 3) := by decide +kernel
theorem dX5_placeAt_12 : decode cX5_placeAt 12 = .ok (.iload 4, 2) := by decide +kernel
theorem dX5_placeAt_14 : decode cX5_placeAt 14 = .ok (.aload_n 0, 1) := by decide +kernel
theorem dX5_placeAt_15 : decode cX5_placeAt 15 = .ok (.iload_n 1, 1) := by decide +kernel
theorem dX5_placeAt_16 : decode cX5_placeAt 16 = .ok (.iload 5, 2) := by decide +kernel
theorem dX5_placeAt_18 : decode cX5_placeAt 18 = .ok (.iload_n 3, 1) := by decide +kernel
theorem dX5_placeAt_19 : decode cX5_placeAt 19 = .ok (.invokevirtual 62, 3) := by decide +kernel
theorem dX5_placeAt_22 : decode cX5_placeAt 22 = .ok (.iadd, 1) := by decide +kernel
theorem dX5_placeAt_23 : decode cX5_placeAt 23 = .ok (.istore 4, 2) := by decide +kernel
theorem dX5_placeAt_25 : decode cX5_placeAt 25 = .ok (.iinc 5 1, 3) := by decide +kernel
theorem dX5_placeAt_28 : decode cX5_placeAt 28 = .ok (.goto (-22), 3) := by decide +kernel
theorem dX5_placeAt_31 : decode cX5_placeAt 31 = .ok (.iload 4, 2) := by decide +kernel
theorem dX5_placeAt_33 : decode cX5_placeAt 33 = .ok (.ireturn, 1) := by decide +kernel
theorem dX5_copies_0 : decode cX5_copies 0 = .ok (.iconst 0, 1) := by decide +kernel
theorem dX5_copies_1 : decode cX5_copies 1 = .ok (.istore_n 3, 1) := by decide +kernel
theorem dX5_copies_2 : decode cX5_copies 2 = .ok (.iload_n 3, 1) := by decide +kernel
theorem dX5_copies_3 : decode cX5_copies 3 = .ok (.sipush 447, 3) := by decide +kernel
theorem dX5_copies_6 : decode cX5_copies 6 = .ok (.if_icmp .ge 33, 3) := by decide +kernel
theorem dX5_copies_9 : decode cX5_copies 9 = .ok (.aload_n 0, 1) := by decide +kernel
theorem dX5_copies_10 : decode cX5_copies 10 = .ok (.getfield 7, 3) := by decide +kernel
theorem dX5_copies_13 : decode cX5_copies 13 = .ok (.sipush 447, 3) := by decide +kernel
theorem dX5_copies_16 : decode cX5_copies 16 = .ok (.iload_n 2, 1) := by decide +kernel
theorem dX5_copies_17 : decode cX5_copies 17 = .ok (.imul, 1) := by decide +kernel
theorem dX5_copies_18 : decode cX5_copies 18 = .ok (.iload_n 3, 1) := by decide +kernel
theorem dX5_copies_19 : decode cX5_copies 19 = .ok (.iadd, 1) := by decide +kernel
theorem dX5_copies_20 : decode cX5_copies 20 = .ok (.aload_n 0, 1) := by decide +kernel
theorem dX5_copies_21 : decode cX5_copies 21 = .ok (.getfield 7, 3) := by decide +kernel
theorem dX5_copies_24 : decode cX5_copies 24 = .ok (.sipush 447, 3) := by decide +kernel
theorem dX5_copies_27 : decode cX5_copies 27 = .ok (.iload_n 1, 1) := by decide +kernel
theorem dX5_copies_28 : decode cX5_copies 28 = .ok (.imul, 1) := by decide +kernel
theorem dX5_copies_29 : decode cX5_copies 29 = .ok (.iload_n 3, 1) := by decide +kernel
theorem dX5_copies_30 : decode cX5_copies 30 = .ok (.iadd, 1) := by decide +kernel
theorem dX5_copies_31 : decode cX5_copies 31 = .ok (.iaload, 1) := by decide +kernel
theorem dX5_copies_32 : decode cX5_copies 32 = .ok (.iastore, 1) := by decide +kernel
theorem dX5_copies_33 : decode cX5_copies 33 = .ok (.iinc 3 1, 3) := by decide +kernel
theorem dX5_copies_36 : decode cX5_copies 36 = .ok (.goto (-34), 3) := by decide +kernel
theorem dX5_copies_39 : decode cX5_copies 39 = .ok (.return_, 1) := by decide +kernel
theorem dX5_save_0 : decode cX5_save 0 = .ok (.iconst 1, 1) := by decide +kernel
theorem dX5_save_1 : decode cX5_save 1 = .ok (.istore_n 1, 1) := by decide +kernel
theorem dX5_save_2 : decode cX5_save 2 = .ok (.iload_n 1, 1) := by decide +kernel
theorem dX5_save_3 : decode cX5_save 3 = .ok (.bipush 6, 2) := by decide +kernel
theorem dX5_save_5 : decode cX5_save 5 = .ok (.if_icmp .ge 26, 3) := by decide +kernel
theorem dX5_save_8 : decode cX5_save 8 = .ok (.aload_n 0, 1) := by decide +kernel
theorem dX5_save_9 : decode cX5_save 9 = .ok (.getfield 65, 3) := by decide +kernel
theorem dX5_save_12 : decode cX5_save 12 = .ok (.bipush 6, 2) := by decide +kernel
theorem dX5_save_14 : decode cX5_save 14 = .ok (.if_icmp .ne 17, 3) := by decide +kernel
theorem dX5_save_17 : decode cX5_save 17 = .ok (.aload_n 0, 1) := by decide +kernel
theorem dX5_save_18 : decode cX5_save 18 = .ok (.iload_n 1, 1) := by decide +kernel
theorem dX5_save_19 : decode cX5_save 19 = .ok (.iconst 1, 1) := by decide +kernel
theorem dX5_save_20 : decode cX5_save 20 = .ok (.iadd, 1) := by decide +kernel
theorem dX5_save_21 : decode cX5_save 21 = .ok (.iload_n 1, 1) := by decide +kernel
theorem dX5_save_22 : decode cX5_save 22 = .ok (.invokevirtual 68, 3) := by decide +kernel
theorem dX5_save_25 : decode cX5_save 25 = .ok (.iinc 1 1, 3) := by decide +kernel
theorem dX5_save_28 : decode cX5_save 28 = .ok (.goto (-26), 3) := by decide +kernel
theorem dX5_save_31 : decode cX5_save 31 = .ok (.aload_n 0, 1) := by decide +kernel
theorem dX5_save_32 : decode cX5_save 32 = .ok (.dup, 1) := by decide +kernel
theorem dX5_save_33 : decode cX5_save 33 = .ok (.getfield 65, 3) := by decide +kernel
theorem dX5_save_36 : decode cX5_save 36 = .ok (.aload_n 0, 1) := by decide +kernel
theorem dX5_save_37 : decode cX5_save 37 = .ok (.getfield 65, 3) := by decide +kernel
theorem dX5_save_40 : decode cX5_save 40 = .ok (.bipush 6, 2) := by decide +kernel
theorem dX5_save_42 : decode cX5_save 42 = .ok (.if_icmp .ge 7, 3) := by decide +kernel
theorem dX5_save_45 : decode cX5_save 45 = .ok (.iconst 1, 1) := by decide +kernel
theorem dX5_save_46 : decode cX5_save 46 = .ok (.goto 4, 3) := by decide +kernel
theorem dX5_save_49 : decode cX5_save 49 = .ok (.iconst 0, 1) := by decide +kernel
theorem dX5_save_50 : decode cX5_save 50 = .ok (.iadd, 1) := by decide +kernel
theorem dX5_save_51 : decode cX5_save 51 = .ok (.putfield 65, 3) := by decide +kernel
theorem dX5_save_54 : decode cX5_save 54 = .ok (.aload_n 0, 1) := by decide +kernel
theorem dX5_save_55 : decode cX5_save 55 = .ok (.iconst 0, 1) := by decide +kernel
theorem dX5_save_56 : decode cX5_save 56 = .ok (.aload_n 0, 1) := by decide +kernel
theorem dX5_save_57 : decode cX5_save 57 = .ok (.getfield 65, 3) := by decide +kernel
theorem dX5_save_60 : decode cX5_save 60 = .ok (.invokevirtual 68, 3) := by decide +kernel
theorem dX5_save_63 : decode cX5_save 63 = .ok (.return_, 1) := by decide +kernel
theorem dX5_changed_0 : decode cX5_changed 0 = .ok (.aload_n 0, 1) := by decide +kernel
theorem dX5_changed_1 : decode cX5_changed 1 = .ok (.invokevirtual 72, 3) := by decide +kernel
theorem dX5_changed_4 : decode cX5_changed 4 = .ok (.aload_n 0, 1) := by decide +kernel
theorem dX5_changed_5 : decode cX5_changed 5 = .ok (.getfield 7, 3) := by decide +kernel
theorem dX5_changed_8 : decode cX5_changed 8 = .ok (.iload_n 1, 1) := by decide +kernel
theorem dX5_changed_9 : decode cX5_changed 9 = .ok (.iaload, 1) := by decide +kernel
theorem dX5_changed_10 : decode cX5_changed 10 = .ok (.istore_n 3, 1) := by decide +kernel
theorem dX5_changed_11 : decode cX5_changed 11 = .ok (.aload_n 0, 1) := by decide +kernel
theorem dX5_changed_12 : decode cX5_changed 12 = .ok (.getfield 7, 3) := by decide +kernel
theorem dX5_changed_15 : decode cX5_changed 15 = .ok (.iload_n 1, 1) := by decide +kernel
theorem dX5_changed_16 : decode cX5_changed 16 = .ok (.iload_n 2, 1) := by decide +kernel
theorem dX5_changed_17 : decode cX5_changed 17 = .ok (.iastore, 1) := by decide +kernel
theorem dX5_changed_18 : decode cX5_changed 18 = .ok (.iload_n 3, 1) := by decide +kernel
theorem dX5_changed_19 : decode cX5_changed 19 = .ok (.ireturn, 1) := by decide +kernel
theorem dX5_bend_0 : decode cX5_bend 0 = .ok (.iload_n 1, 1) := by decide +kernel
theorem dX5_bend_1 : decode cX5_bend 1 = .ok (.invokestatic 75, 3) := by decide +kernel
theorem dX5_bend_4 : decode cX5_bend 4 = .ok (.ifCond .eq 14, 3) := by decide +kernel
theorem dX5_bend_7 : decode cX5_bend 7 = .ok (.iload_n 2, 1) := by decide +kernel
theorem dX5_bend_8 : decode cX5_bend 8 = .ok (.invokestatic 79, 3) := by decide +kernel
theorem dX5_bend_11 : decode cX5_bend 11 = .ok (.ifCond .eq 7, 3) := by decide +kernel
theorem dX5_bend_14 : decode cX5_bend 14 = .ok (.iconst 1, 1) := by decide +kernel
theorem dX5_bend_15 : decode cX5_bend 15 = .ok (.goto 4, 3) := by decide +kernel
theorem dX5_bend_18 : decode cX5_bend 18 = .ok (.iconst 0, 1) := by decide +kernel
theorem dX5_bend_19 : decode cX5_bend 19 = .ok (.istore 4, 2) := by decide +kernel
theorem dX5_bend_21 : decode cX5_bend 21 = .ok (.aload_n 0, 1) := by decide +kernel
theorem dX5_bend_22 : decode cX5_bend 22 = .ok (.iload 4, 2) := by decide +kernel
theorem dX5_bend_24 : decode cX5_bend 24 = .ok (.ifCond .ne 7, 3) := by decide +kernel
theorem dX5_bend_27 : decode cX5_bend 27 = .ok (.iconst 1, 1) := by decide +kernel
theorem dX5_bend_28 : decode cX5_bend 28 = .ok (.goto 19, 3) := by decide +kernel
theorem dX5_bend_31 : decode cX5_bend 31 = .ok (.iload_n 3, 1) := by decide +kernel
theorem dX5_bend_32 : decode cX5_bend 32 = .ok (.bipush (-99), 2) := by decide +kernel
theorem dX5_bend_34 : decode cX5_bend 34 = .ok (.bipush 99, 2) := by decide +kernel
theorem dX5_bend_36 : decode cX5_bend 36 = .ok (.invokestatic 24, 3) := by decide +kernel
theorem dX5_bend_39 : decode cX5_bend 39 = .ok (.ifCond .ne 7, 3) := by decide +kernel
theorem dX5_bend_42 : decode cX5_bend 42 = .ok (.iconst 2, 1) := by decide +kernel
theorem dX5_bend_43 : decode cX5_bend 43 = .ok (.goto 4, 3) := by decide +kernel
theorem dX5_bend_46 : decode cX5_bend 46 = .ok (.iconst 0, 1) := by decide +kernel
theorem dX5_bend_47 : decode cX5_bend 47 = .ok (.invokevirtual 82, 3) := by decide +kernel
theorem dX5_bend_50 : decode cX5_bend 50 = .ok (.ifCond .eq 19, 3) := by decide +kernel
theorem dX5_bend_53 : decode cX5_bend 53 = .ok (.aload_n 0, 1) := by decide +kernel
theorem dX5_bend_54 : decode cX5_bend 54 = .ok (.bipush 9, 2) := by decide +kernel
theorem dX5_bend_56 : decode cX5_bend 56 = .ok (.iconst 3, 1) := by decide +kernel
theorem dX5_bend_57 : decode cX5_bend 57 = .ok (.iload_n 1, 1) := by decide +kernel
theorem dX5_bend_58 : decode cX5_bend 58 = .ok (.imul, 1) := by decide +kernel
theorem dX5_bend_59 : decode cX5_bend 59 = .ok (.iadd, 1) := by decide +kernel
theorem dX5_bend_60 : decode cX5_bend 60 = .ok (.iload_n 2, 1) := by decide +kernel
theorem dX5_bend_61 : decode cX5_bend 61 = .ok (.iadd, 1) := by decide +kernel
theorem dX5_bend_62 : decode cX5_bend 62 = .ok (.iload_n 3, 1) := by decide +kernel
theorem dX5_bend_63 : decode cX5_bend 63 = .ok (.invokevirtual 85, 3) := by decide +kernel
theorem dX5_bend_66 : decode cX5_bend 66 = .ok (.goto 4, 3) := by decide +kernel
theorem dX5_bend_69 : decode cX5_bend 69 = .ok (.iconst 0, 1) := by decide +kernel
theorem dX5_bend_70 : decode cX5_bend 70 = .ok (.ireturn, 1) := by decide +kernel
theorem dX5_slide_0 : decode cX5_slide 0 = .ok (.iload_n 1, 1) := by decide +kernel
theorem dX5_slide_1 : decode cX5_slide 1 = .ok (.invokestatic 75, 3) := by decide +kernel
theorem dX5_slide_4 : decode cX5_slide 4 = .ok (.ifCond .eq 14, 3) := by decide +kernel
theorem dX5_slide_7 : decode cX5_slide 7 = .ok (.iload_n 2, 1) := by decide +kernel
theorem dX5_slide_8 : decode cX5_slide 8 = .ok (.invokestatic 79, 3) := by decide +kernel
theorem dX5_slide_11 : decode cX5_slide 11 = .ok (.ifCond .eq 7, 3) := by decide +kernel
theorem dX5_slide_14 : decode cX5_slide 14 = .ok (.iconst 1, 1) := by decide +kernel
theorem dX5_slide_15 : decode cX5_slide 15 = .ok (.goto 4, 3) := by decide +kernel
theorem dX5_slide_18 : decode cX5_slide 18 = .ok (.iconst 0, 1) := by decide +kernel
theorem dX5_slide_19 : decode cX5_slide 19 = .ok (.istore 4, 2) := by decide +kernel
theorem dX5_slide_21 : decode cX5_slide 21 = .ok (.aload_n 0, 1) := by decide +kernel
theorem dX5_slide_22 : decode cX5_slide 22 = .ok (.iload 4, 2) := by decide +kernel
theorem dX5_slide_24 : decode cX5_slide 24 = .ok (.ifCond .ne 7, 3) := by decide +kernel
theorem dX5_slide_27 : decode cX5_slide 27 = .ok (.iconst 1, 1) := by decide +kernel
theorem dX5_slide_28 : decode cX5_slide 28 = .ok (.goto 19, 3) := by decide +kernel
theorem dX5_slide_31 : decode cX5_slide 31 = .ok (.iload_n 3, 1) := by decide +kernel
theorem dX5_slide_32 : decode cX5_slide 32 = .ok (.bipush (-99), 2) := by decide +kernel
theorem dX5_slide_34 : decode cX5_slide 34 = .ok (.bipush 99, 2) := by decide +kernel
theorem dX5_slide_36 : decode cX5_slide 36 = .ok (.invokestatic 24, 3) := by decide +kernel
theorem dX5_slide_39 : decode cX5_slide 39 = .ok (.ifCond .ne 7, 3) := by decide +kernel
theorem dX5_slide_42 : decode cX5_slide 42 = .ok (.iconst 2, 1) := by decide +kernel
theorem dX5_slide_43 : decode cX5_slide 43 = .ok (.goto 4, 3) := by decide +kernel
theorem dX5_slide_46 : decode cX5_slide 46 = .ok (.iconst 0, 1) := by decide +kernel
theorem dX5_slide_47 : decode cX5_slide 47 = .ok (.invokevirtual 82, 3) := by decide +kernel
theorem dX5_slide_50 : decode cX5_slide 50 = .ok (.ifCond .ne 5, 3) := by decide +kernel
theorem dX5_slide_53 : decode cX5_slide 53 = .ok (.iconst 0, 1) := by decide +kernel
theorem dX5_slide_54 : decode cX5_slide 54 = .ok (.ireturn, 1) := by decide +kernel
theorem dX5_slide_55 : decode cX5_slide 55 = .ok (.aload_n 0, 1) := by decide +kernel
theorem dX5_slide_56 : decode cX5_slide 56 = .ok (.iload_n 1, 1) := by decide +kernel
theorem dX5_slide_57 : decode cX5_slide 57 = .ok (.iload_n 2, 1) := by decide +kernel
theorem dX5_slide_58 : decode cX5_slide 58 = .ok (.invokevirtual 32, 3) := by decide +kernel
theorem dX5_slide_61 : decode cX5_slide 61 = .ok (.iload_n 3, 1) := by decide +kernel
theorem dX5_slide_62 : decode cX5_slide 62 = .ok (.iadd, 1) := by decide +kernel
theorem dX5_slide_63 : decode cX5_slide 63 = .ok (.istore 5, 2) := by decide +kernel
theorem dX5_slide_65 : decode cX5_slide 65 = .ok (.iload 5, 2) := by decide +kernel
theorem dX5_slide_67 : decode cX5_slide 67 = .ok (.bipush 99, 2) := by decide +kernel
theorem dX5_slide_69 : decode cX5_slide 69 = .ok (.if_icmp .le 8, 3) := by decide +kernel
theorem dX5_slide_72 : decode cX5_slide 72 = .ok (.bipush 99, 2) := by decide +kernel
theorem dX5_slide_74 : decode cX5_slide 74 = .ok (.goto 17, 3) := by decide +kernel
theorem dX5_slide_77 : decode cX5_slide 77 = .ok (.iload 5, 2) := by decide +kernel
theorem dX5_slide_79 : decode cX5_slide 79 = .ok (.bipush (-99), 2) := by decide +kernel
theorem dX5_slide_81 : decode cX5_slide 81 = .ok (.if_icmp .ge 8, 3) := by decide +kernel
theorem dX5_slide_84 : decode cX5_slide 84 = .ok (.bipush (-99), 2) := by decide +kernel
theorem dX5_slide_86 : decode cX5_slide 86 = .ok (.goto 5, 3) := by decide +kernel
theorem dX5_slide_89 : decode cX5_slide 89 = .ok (.iload 5, 2) := by decide +kernel
theorem dX5_slide_91 : decode cX5_slide 91 = .ok (.istore 5, 2) := by decide +kernel
theorem dX5_slide_93 : decode cX5_slide 93 = .ok (.aload_n 0, 1) := by decide +kernel
theorem dX5_slide_94 : decode cX5_slide 94 = .ok (.bipush 9, 2) := by decide +kernel
theorem dX5_slide_96 : decode cX5_slide 96 = .ok (.iconst 3, 1) := by decide +kernel
theorem dX5_slide_97 : decode cX5_slide 97 = .ok (.iload_n 1, 1) := by decide +kernel
theorem dX5_slide_98 : decode cX5_slide 98 = .ok (.imul, 1) := by decide +kernel
theorem dX5_slide_99 : decode cX5_slide 99 = .ok (.iadd, 1) := by decide +kernel
theorem dX5_slide_100 : decode cX5_slide 100 = .ok (.iload_n 2, 1) := by decide +kernel
theorem dX5_slide_101 : decode cX5_slide 101 = .ok (.iadd, 1) := by decide +kernel
theorem dX5_slide_102 : decode cX5_slide 102 = .ok (.iload 5, 2) := by decide +kernel
theorem dX5_slide_104 : decode cX5_slide 104 = .ok (.invokevirtual 85, 3) := by decide +kernel
theorem dX5_slide_107 : decode cX5_slide 107 = .ok (.pop, 1) := by decide +kernel
theorem dX5_slide_108 : decode cX5_slide 108 = .ok (.iload 5, 2) := by decide +kernel
theorem dX5_slide_110 : decode cX5_slide 110 = .ok (.ireturn, 1) := by decide +kernel
theorem dX5_turn_0 : decode cX5_turn 0 = .ok (.aload_n 0, 1) := by decide +kernel
theorem dX5_turn_1 : decode cX5_turn 1 = .ok (.iload_n 1, 1) := by decide +kernel
theorem dX5_turn_2 : decode cX5_turn 2 = .ok (.invokestatic 75, 3) := by decide +kernel
theorem dX5_turn_5 : decode cX5_turn 5 = .ok (.ifCond .ne 7, 3) := by decide +kernel
theorem dX5_turn_8 : decode cX5_turn 8 = .ok (.iconst 1, 1) := by decide +kernel
theorem dX5_turn_9 : decode cX5_turn 9 = .ok (.goto 17, 3) := by decide +kernel
theorem dX5_turn_12 : decode cX5_turn 12 = .ok (.iload_n 2, 1) := by decide +kernel
theorem dX5_turn_13 : decode cX5_turn 13 = .ok (.iconst 0, 1) := by decide +kernel
theorem dX5_turn_14 : decode cX5_turn 14 = .ok (.iconst 3, 1) := by decide +kernel
theorem dX5_turn_15 : decode cX5_turn 15 = .ok (.invokestatic 24, 3) := by decide +kernel
theorem dX5_turn_18 : decode cX5_turn 18 = .ok (.ifCond .ne 7, 3) := by decide +kernel
theorem dX5_turn_21 : decode cX5_turn 21 = .ok (.iconst 2, 1) := by decide +kernel
theorem dX5_turn_22 : decode cX5_turn 22 = .ok (.goto 4, 3) := by decide +kernel
theorem dX5_turn_25 : decode cX5_turn 25 = .ok (.iconst 0, 1) := by decide +kernel
theorem dX5_turn_26 : decode cX5_turn 26 = .ok (.invokevirtual 82, 3) := by decide +kernel
theorem dX5_turn_29 : decode cX5_turn 29 = .ok (.ifCond .eq 19, 3) := by decide +kernel
theorem dX5_turn_32 : decode cX5_turn 32 = .ok (.aload_n 0, 1) := by decide +kernel
theorem dX5_turn_33 : decode cX5_turn 33 = .ok (.bipush 9, 2) := by decide +kernel
theorem dX5_turn_35 : decode cX5_turn 35 = .ok (.iconst 3, 1) := by decide +kernel
theorem dX5_turn_36 : decode cX5_turn 36 = .ok (.iload_n 1, 1) := by decide +kernel
theorem dX5_turn_37 : decode cX5_turn 37 = .ok (.imul, 1) := by decide +kernel
theorem dX5_turn_38 : decode cX5_turn 38 = .ok (.iadd, 1) := by decide +kernel
theorem dX5_turn_39 : decode cX5_turn 39 = .ok (.iconst 2, 1) := by decide +kernel
theorem dX5_turn_40 : decode cX5_turn 40 = .ok (.iadd, 1) := by decide +kernel
theorem dX5_turn_41 : decode cX5_turn 41 = .ok (.iload_n 2, 1) := by decide +kernel
theorem dX5_turn_42 : decode cX5_turn 42 = .ok (.invokevirtual 85, 3) := by decide +kernel
theorem dX5_turn_45 : decode cX5_turn 45 = .ok (.goto 4, 3) := by decide +kernel
theorem dX5_turn_48 : decode cX5_turn 48 = .ok (.iconst 0, 1) := by decide +kernel
theorem dX5_turn_49 : decode cX5_turn 49 = .ok (.ireturn, 1) := by decide +kernel
theorem dX5_bias_0 : decode cX5_bias 0 = .ok (.aload_n 0, 1) := by decide +kernel
theorem dX5_bias_1 : decode cX5_bias 1 = .ok (.iload_n 1, 1) := by decide +kernel
theorem dX5_bias_2 : decode cX5_bias 2 = .ok (.invokestatic 79, 3) := by decide +kernel
theorem dX5_bias_5 : decode cX5_bias 5 = .ok (.ifCond .ne 7, 3) := by decide +kernel
theorem dX5_bias_8 : decode cX5_bias 8 = .ok (.iconst 1, 1) := by decide +kernel
theorem dX5_bias_9 : decode cX5_bias 9 = .ok (.goto 19, 3) := by decide +kernel
theorem dX5_bias_12 : decode cX5_bias 12 = .ok (.iload_n 2, 1) := by decide +kernel
theorem dX5_bias_13 : decode cX5_bias 13 = .ok (.bipush (-50), 2) := by decide +kernel
theorem dX5_bias_15 : decode cX5_bias 15 = .ok (.bipush 50, 2) := by decide +kernel
theorem dX5_bias_17 : decode cX5_bias 17 = .ok (.invokestatic 24, 3) := by decide +kernel
theorem dX5_bias_20 : decode cX5_bias 20 = .ok (.ifCond .ne 7, 3) := by decide +kernel
theorem dX5_bias_23 : decode cX5_bias 23 = .ok (.iconst 2, 1) := by decide +kernel
theorem dX5_bias_24 : decode cX5_bias 24 = .ok (.goto 4, 3) := by decide +kernel
theorem dX5_bias_27 : decode cX5_bias 27 = .ok (.iconst 0, 1) := by decide +kernel
theorem dX5_bias_28 : decode cX5_bias 28 = .ok (.invokevirtual 82, 3) := by decide +kernel
theorem dX5_bias_31 : decode cX5_bias 31 = .ok (.ifCond .eq 14, 3) := by decide +kernel
theorem dX5_bias_34 : decode cX5_bias 34 = .ok (.aload_n 0, 1) := by decide +kernel
theorem dX5_bias_35 : decode cX5_bias 35 = .ok (.iconst 2, 1) := by decide +kernel
theorem dX5_bias_36 : decode cX5_bias 36 = .ok (.iload_n 1, 1) := by decide +kernel
theorem dX5_bias_37 : decode cX5_bias 37 = .ok (.iadd, 1) := by decide +kernel
theorem dX5_bias_38 : decode cX5_bias 38 = .ok (.iload_n 2, 1) := by decide +kernel
theorem dX5_bias_39 : decode cX5_bias 39 = .ok (.invokevirtual 85, 3) := by decide +kernel
theorem dX5_bias_42 : decode cX5_bias 42 = .ok (.goto 4, 3) := by decide +kernel
theorem dX5_bias_45 : decode cX5_bias 45 = .ok (.iconst 0, 1) := by decide +kernel
theorem dX5_bias_46 : decode cX5_bias 46 = .ok (.ireturn, 1) := by decide +kernel
theorem dX5_set_0 : decode cX5_set 0 = .ok (.iload_n 1, 1) := by decide +kernel
theorem dX5_set_1 : decode cX5_set 1 = .ok (.iconst 0, 1) := by decide +kernel
theorem dX5_set_2 : decode cX5_set 2 = .ok (.iconst 2, 1) := by decide +kernel
theorem dX5_set_3 : decode cX5_set 3 = .ok (.invokestatic 24, 3) := by decide +kernel
theorem dX5_set_6 : decode cX5_set 6 = .ok (.istore_n 3, 1) := by decide +kernel
theorem dX5_set_7 : decode cX5_set 7 = .ok (.aload_n 0, 1) := by decide +kernel
theorem dX5_set_8 : decode cX5_set 8 = .ok (.iload_n 3, 1) := by decide +kernel
theorem dX5_set_9 : decode cX5_set 9 = .ok (.ifCond .ne 7, 3) := by decide +kernel
theorem dX5_set_12 : decode cX5_set 12 = .ok (.iconst 1, 1) := by decide +kernel
theorem dX5_set_13 : decode cX5_set 13 = .ok (.goto 26, 3) := by decide +kernel
theorem dX5_set_16 : decode cX5_set 16 = .ok (.iload_n 2, 1) := by decide +kernel
theorem dX5_set_17 : decode cX5_set 17 = .ok (.iconst 0, 1) := by decide +kernel
theorem dX5_set_18 : decode cX5_set 18 = .ok (.iload_n 1, 1) := by decide +kernel
theorem dX5_set_19 : decode cX5_set 19 = .ok (.ifCond .ne 8, 3) := by decide +kernel
theorem dX5_set_22 : decode cX5_set 22 = .ok (.bipush 99, 2) := by decide +kernel
theorem dX5_set_24 : decode cX5_set 24 = .ok (.goto 4, 3) := by decide +kernel
theorem dX5_set_27 : decode cX5_set 27 = .ok (.iconst 1, 1) := by decide +kernel
theorem dX5_set_28 : decode cX5_set 28 = .ok (.invokestatic 24, 3) := by decide +kernel
theorem dX5_set_31 : decode cX5_set 31 = .ok (.ifCond .ne 7, 3) := by decide +kernel
theorem dX5_set_34 : decode cX5_set 34 = .ok (.iconst 2, 1) := by decide +kernel
theorem dX5_set_35 : decode cX5_set 35 = .ok (.goto 4, 3) := by decide +kernel
theorem dX5_set_38 : decode cX5_set 38 = .ok (.iconst 0, 1) := by decide +kernel
theorem dX5_set_39 : decode cX5_set 39 = .ok (.invokevirtual 82, 3) := by decide +kernel
theorem dX5_set_42 : decode cX5_set 42 = .ok (.ifCond .eq 15, 3) := by decide +kernel
theorem dX5_set_45 : decode cX5_set 45 = .ok (.aload_n 0, 1) := by decide +kernel
theorem dX5_set_46 : decode cX5_set 46 = .ok (.bipush 6, 2) := by decide +kernel
theorem dX5_set_48 : decode cX5_set 48 = .ok (.iload_n 1, 1) := by decide +kernel
theorem dX5_set_49 : decode cX5_set 49 = .ok (.iadd, 1) := by decide +kernel
theorem dX5_set_50 : decode cX5_set 50 = .ok (.iload_n 2, 1) := by decide +kernel
theorem dX5_set_51 : decode cX5_set 51 = .ok (.invokevirtual 85, 3) := by decide +kernel
theorem dX5_set_54 : decode cX5_set 54 = .ok (.goto 4, 3) := by decide +kernel
theorem dX5_set_57 : decode cX5_set 57 = .ok (.iconst 0, 1) := by decide +kernel
theorem dX5_set_58 : decode cX5_set 58 = .ok (.ireturn, 1) := by decide +kernel
theorem dX5_pass_0 : decode cX5_pass 0 = .ok (.aload_n 0, 1) := by decide +kernel
theorem dX5_pass_1 : decode cX5_pass 1 = .ok (.iload_n 1, 1) := by decide +kernel
theorem dX5_pass_2 : decode cX5_pass 2 = .ok (.iconst 1, 1) := by decide +kernel
theorem dX5_pass_3 : decode cX5_pass 3 = .ok (.bipush 99, 2) := by decide +kernel
theorem dX5_pass_5 : decode cX5_pass 5 = .ok (.invokestatic 24, 3) := by decide +kernel
theorem dX5_pass_8 : decode cX5_pass 8 = .ok (.ifCond .ne 7, 3) := by decide +kernel
theorem dX5_pass_11 : decode cX5_pass 11 = .ok (.iconst 1, 1) := by decide +kernel
theorem dX5_pass_12 : decode cX5_pass 12 = .ok (.goto 22, 3) := by decide +kernel
theorem dX5_pass_15 : decode cX5_pass 15 = .ok (.aload_n 0, 1) := by decide +kernel
theorem dX5_pass_16 : decode cX5_pass 16 = .ok (.getfield 7, 3) := by decide +kernel
theorem dX5_pass_19 : decode cX5_pass 19 = .ok (.iconst 0, 1) := by decide +kernel
theorem dX5_pass_20 : decode cX5_pass 20 = .ok (.iaload, 1) := by decide +kernel
theorem dX5_pass_21 : decode cX5_pass 21 = .ok (.iload_n 1, 1) := by decide +kernel
theorem dX5_pass_22 : decode cX5_pass 22 = .ok (.iadd, 1) := by decide +kernel
theorem dX5_pass_23 : decode cX5_pass 23 = .ok (.sipush 9999, 3) := by decide +kernel
theorem dX5_pass_26 : decode cX5_pass 26 = .ok (.if_icmp .le 7, 3) := by decide +kernel
theorem dX5_pass_29 : decode cX5_pass 29 = .ok (.iconst 2, 1) := by decide +kernel
theorem dX5_pass_30 : decode cX5_pass 30 = .ok (.goto 4, 3) := by decide +kernel
theorem dX5_pass_33 : decode cX5_pass 33 = .ok (.iconst 0, 1) := by decide +kernel
theorem dX5_pass_34 : decode cX5_pass 34 = .ok (.invokevirtual 82, 3) := by decide +kernel
theorem dX5_pass_37 : decode cX5_pass 37 = .ok (.ifCond .ne 5, 3) := by decide +kernel
theorem dX5_pass_40 : decode cX5_pass 40 = .ok (.iconst 0, 1) := by decide +kernel
theorem dX5_pass_41 : decode cX5_pass 41 = .ok (.ireturn, 1) := by decide +kernel
theorem dX5_pass_42 : decode cX5_pass 42 = .ok (.aload_n 0, 1) := by decide +kernel
theorem dX5_pass_43 : decode cX5_pass 43 = .ok (.iconst 0, 1) := by decide +kernel
theorem dX5_pass_44 : decode cX5_pass 44 = .ok (.aload_n 0, 1) := by decide +kernel
theorem dX5_pass_45 : decode cX5_pass 45 = .ok (.getfield 7, 3) := by decide +kernel
theorem dX5_pass_48 : decode cX5_pass 48 = .ok (.iconst 0, 1) := by decide +kernel
theorem dX5_pass_49 : decode cX5_pass 49 = .ok (.iaload, 1) := by decide +kernel
theorem dX5_pass_50 : decode cX5_pass 50 = .ok (.iload_n 1, 1) := by decide +kernel
theorem dX5_pass_51 : decode cX5_pass 51 = .ok (.iadd, 1) := by decide +kernel
theorem dX5_pass_52 : decode cX5_pass 52 = .ok (.invokevirtual 85, 3) := by decide +kernel
theorem dX5_pass_55 : decode cX5_pass 55 = .ok (.pop, 1) := by decide +kernel
theorem dX5_pass_56 : decode cX5_pass 56 = .ok (.aload_n 0, 1) := by decide +kernel
theorem dX5_pass_57 : decode cX5_pass 57 = .ok (.getfield 7, 3) := by decide +kernel
theorem dX5_pass_60 : decode cX5_pass 60 = .ok (.iconst 0, 1) := by decide +kernel
theorem dX5_pass_61 : decode cX5_pass 61 = .ok (.iaload, 1) := by decide +kernel
theorem dX5_pass_62 : decode cX5_pass 62 = .ok (.ireturn, 1) := by decide +kernel
theorem dX5_survey_0 : decode cX5_survey 0 = .ok (.aload_n 0, 1) := by decide +kernel
theorem dX5_survey_1 : decode cX5_survey 1 = .ok (.aload_n 0, 1) := by decide +kernel
theorem dX5_survey_2 : decode cX5_survey 2 = .ok (.getfield 7, 3) := by decide +kernel
theorem dX5_survey_5 : decode cX5_survey 5 = .ok (.iconst 1, 1) := by decide +kernel
theorem dX5_survey_6 : decode cX5_survey 6 = .ok (.iaload, 1) := by decide +kernel
theorem dX5_survey_7 : decode cX5_survey 7 = .ok (.bipush 6, 2) := by decide +kernel
theorem dX5_survey_9 : decode cX5_survey 9 = .ok (.if_icmp .ne 7, 3) := by decide +kernel
theorem dX5_survey_12 : decode cX5_survey 12 = .ok (.iconst 1, 1) := by decide +kernel
theorem dX5_survey_13 : decode cX5_survey 13 = .ok (.goto 4, 3) := by decide +kernel
theorem dX5_survey_16 : decode cX5_survey 16 = .ok (.iconst 0, 1) := by decide +kernel
theorem dX5_survey_17 : decode cX5_survey 17 = .ok (.invokevirtual 82, 3) := by decide +kernel
theorem dX5_survey_20 : decode cX5_survey 20 = .ok (.ifCond .ne 5, 3) := by decide +kernel
theorem dX5_survey_23 : decode cX5_survey 23 = .ok (.iconst 0, 1) := by decide +kernel
theorem dX5_survey_24 : decode cX5_survey 24 = .ok (.ireturn, 1) := by decide +kernel
theorem dX5_survey_25 : decode cX5_survey 25 = .ok (.aload_n 0, 1) := by decide +kernel
theorem dX5_survey_26 : decode cX5_survey 26 = .ok (.invokevirtual 72, 3) := by decide +kernel
theorem dX5_survey_29 : decode cX5_survey 29 = .ok (.bipush 57, 2) := by decide +kernel
theorem dX5_survey_31 : decode cX5_survey 31 = .ok (.bipush 65, 2) := by decide +kernel
theorem dX5_survey_33 : decode cX5_survey 33 = .ok (.aload_n 0, 1) := by decide +kernel
theorem dX5_survey_34 : decode cX5_survey 34 = .ok (.getfield 7, 3) := by decide +kernel
theorem dX5_survey_37 : decode cX5_survey 37 = .ok (.iconst 1, 1) := by decide +kernel
theorem dX5_survey_38 : decode cX5_survey 38 = .ok (.iaload, 1) := by decide +kernel
theorem dX5_survey_39 : decode cX5_survey 39 = .ok (.imul, 1) := by decide +kernel
theorem dX5_survey_40 : decode cX5_survey 40 = .ok (.iadd, 1) := by decide +kernel
theorem dX5_survey_41 : decode cX5_survey 41 = .ok (.istore_n 1, 1) := by decide +kernel
theorem dX5_survey_42 : decode cX5_survey 42 = .ok (.aload_n 0, 1) := by decide +kernel
theorem dX5_survey_43 : decode cX5_survey 43 = .ok (.getfield 7, 3) := by decide +kernel
theorem dX5_survey_46 : decode cX5_survey 46 = .ok (.iload_n 1, 1) := by decide +kernel
theorem dX5_survey_47 : decode cX5_survey 47 = .ok (.aload_n 0, 1) := by decide +kernel
theorem dX5_survey_48 : decode cX5_survey 48 = .ok (.getfield 7, 3) := by decide +kernel
theorem dX5_survey_51 : decode cX5_survey 51 = .ok (.iconst 0, 1) := by decide +kernel
theorem dX5_survey_52 : decode cX5_survey 52 = .ok (.iaload, 1) := by decide +kernel
theorem dX5_survey_53 : decode cX5_survey 53 = .ok (.iastore, 1) := by decide +kernel
theorem dX5_survey_54 : decode cX5_survey 54 = .ok (.iconst 0, 1) := by decide +kernel
theorem dX5_survey_55 : decode cX5_survey 55 = .ok (.istore_n 2, 1) := by decide +kernel
theorem dX5_survey_56 : decode cX5_survey 56 = .ok (.iload_n 2, 1) := by decide +kernel
theorem dX5_survey_57 : decode cX5_survey 57 = .ok (.bipush 64, 2) := by decide +kernel
theorem dX5_survey_59 : decode cX5_survey 59 = .ok (.if_icmp .ge 34, 3) := by decide +kernel
theorem dX5_survey_62 : decode cX5_survey 62 = .ok (.aload_n 0, 1) := by decide +kernel
theorem dX5_survey_63 : decode cX5_survey 63 = .ok (.getfield 7, 3) := by decide +kernel
theorem dX5_survey_66 : decode cX5_survey 66 = .ok (.iload_n 1, 1) := by decide +kernel
theorem dX5_survey_67 : decode cX5_survey 67 = .ok (.iconst 1, 1) := by decide +kernel
theorem dX5_survey_68 : decode cX5_survey 68 = .ok (.iadd, 1) := by decide +kernel
theorem dX5_survey_69 : decode cX5_survey 69 = .ok (.iload_n 2, 1) := by decide +kernel
theorem dX5_survey_70 : decode cX5_survey 70 = .ok (.iadd, 1) := by decide +kernel
theorem dX5_survey_71 : decode cX5_survey 71 = .ok (.aload_n 0, 1) := by decide +kernel
theorem dX5_survey_72 : decode cX5_survey 72 = .ok (.iload_n 2, 1) := by decide +kernel
theorem dX5_survey_73 : decode cX5_survey 73 = .ok (.iconst 4, 1) := by decide +kernel
theorem dX5_survey_74 : decode cX5_survey 74 = .ok (.idiv, 1) := by decide +kernel
theorem dX5_survey_75 : decode cX5_survey 75 = .ok (.iload_n 2, 1) := by decide +kernel
theorem dX5_survey_76 : decode cX5_survey 76 = .ok (.iconst 2, 1) := by decide +kernel
theorem dX5_survey_77 : decode cX5_survey 77 = .ok (.idiv, 1) := by decide +kernel
theorem dX5_survey_78 : decode cX5_survey 78 = .ok (.iconst 2, 1) := by decide +kernel
theorem dX5_survey_79 : decode cX5_survey 79 = .ok (.irem, 1) := by decide +kernel
theorem dX5_survey_80 : decode cX5_survey 80 = .ok (.iload_n 2, 1) := by decide +kernel
theorem dX5_survey_81 : decode cX5_survey 81 = .ok (.iconst 2, 1) := by decide +kernel
theorem dX5_survey_82 : decode cX5_survey 82 = .ok (.irem, 1) := by decide +kernel
theorem dX5_survey_83 : decode cX5_survey 83 = .ok (.invokevirtual 88, 3) := by decide +kernel
theorem dX5_survey_86 : decode cX5_survey 86 = .ok (.iastore, 1) := by decide +kernel
theorem dX5_survey_87 : decode cX5_survey 87 = .ok (.iinc 2 1, 3) := by decide +kernel
theorem dX5_survey_90 : decode cX5_survey 90 = .ok (.goto (-34), 3) := by decide +kernel
theorem dX5_survey_93 : decode cX5_survey 93 = .ok (.aload_n 0, 1) := by decide +kernel
theorem dX5_survey_94 : decode cX5_survey 94 = .ok (.getfield 7, 3) := by decide +kernel
theorem dX5_survey_97 : decode cX5_survey 97 = .ok (.iconst 4, 1) := by decide +kernel
theorem dX5_survey_98 : decode cX5_survey 98 = .ok (.dup2, 1) := by decide +kernel
theorem dX5_survey_99 : decode cX5_survey 99 = .ok (.iaload, 1) := by decide +kernel
theorem dX5_survey_100 : decode cX5_survey 100 = .ok (.iconst 1, 1) := by decide +kernel
theorem dX5_survey_101 : decode cX5_survey 101 = .ok (.iadd, 1) := by decide +kernel
theorem dX5_survey_102 : decode cX5_survey 102 = .ok (.iastore, 1) := by decide +kernel
theorem dX5_survey_103 : decode cX5_survey 103 = .ok (.aload_n 0, 1) := by decide +kernel
theorem dX5_survey_104 : decode cX5_survey 104 = .ok (.getfield 7, 3) := by decide +kernel
theorem dX5_survey_107 : decode cX5_survey 107 = .ok (.iconst 1, 1) := by decide +kernel
theorem dX5_survey_108 : decode cX5_survey 108 = .ok (.dup2, 1) := by decide +kernel
theorem dX5_survey_109 : decode cX5_survey 109 = .ok (.iaload, 1) := by decide +kernel
theorem dX5_survey_110 : decode cX5_survey 110 = .ok (.iconst 1, 1) := by decide +kernel
theorem dX5_survey_111 : decode cX5_survey 111 = .ok (.iadd, 1) := by decide +kernel
theorem dX5_survey_112 : decode cX5_survey 112 = .ok (.iastore, 1) := by decide +kernel
theorem dX5_survey_113 : decode cX5_survey 113 = .ok (.aload_n 0, 1) := by decide +kernel
theorem dX5_survey_114 : decode cX5_survey 114 = .ok (.getfield 7, 3) := by decide +kernel
theorem dX5_survey_117 : decode cX5_survey 117 = .ok (.iconst 1, 1) := by decide +kernel
theorem dX5_survey_118 : decode cX5_survey 118 = .ok (.iaload, 1) := by decide +kernel
theorem dX5_survey_119 : decode cX5_survey 119 = .ok (.iconst 1, 1) := by decide +kernel
theorem dX5_survey_120 : decode cX5_survey 120 = .ok (.isub, 1) := by decide +kernel
theorem dX5_survey_121 : decode cX5_survey 121 = .ok (.ireturn, 1) := by decide +kernel
theorem dX5_drop_0 : decode cX5_drop 0 = .ok (.aload_n 0, 1) := by decide +kernel
theorem dX5_drop_1 : decode cX5_drop 1 = .ok (.aload_n 0, 1) := by decide +kernel
theorem dX5_drop_2 : decode cX5_drop 2 = .ok (.getfield 7, 3) := by decide +kernel
theorem dX5_drop_5 : decode cX5_drop 5 = .ok (.iconst 1, 1) := by decide +kernel
theorem dX5_drop_6 : decode cX5_drop 6 = .ok (.iaload, 1) := by decide +kernel
theorem dX5_drop_7 : decode cX5_drop 7 = .ok (.ifCond .ne 7, 3) := by decide +kernel
theorem dX5_drop_10 : decode cX5_drop 10 = .ok (.iconst 1, 1) := by decide +kernel
theorem dX5_drop_11 : decode cX5_drop 11 = .ok (.goto 4, 3) := by decide +kernel
theorem dX5_drop_14 : decode cX5_drop 14 = .ok (.iconst 0, 1) := by decide +kernel
theorem dX5_drop_15 : decode cX5_drop 15 = .ok (.invokevirtual 82, 3) := by decide +kernel
theorem dX5_drop_18 : decode cX5_drop 18 = .ok (.ifCond .ne 5, 3) := by decide +kernel
theorem dX5_drop_21 : decode cX5_drop 21 = .ok (.iconst 0, 1) := by decide +kernel
theorem dX5_drop_22 : decode cX5_drop 22 = .ok (.ireturn, 1) := by decide +kernel
theorem dX5_drop_23 : decode cX5_drop 23 = .ok (.aload_n 0, 1) := by decide +kernel
theorem dX5_drop_24 : decode cX5_drop 24 = .ok (.iconst 1, 1) := by decide +kernel
theorem dX5_drop_25 : decode cX5_drop 25 = .ok (.aload_n 0, 1) := by decide +kernel
theorem dX5_drop_26 : decode cX5_drop 26 = .ok (.getfield 7, 3) := by decide +kernel
theorem dX5_drop_29 : decode cX5_drop 29 = .ok (.iconst 1, 1) := by decide +kernel
theorem dX5_drop_30 : decode cX5_drop 30 = .ok (.iaload, 1) := by decide +kernel
theorem dX5_drop_31 : decode cX5_drop 31 = .ok (.iconst 1, 1) := by decide +kernel
theorem dX5_drop_32 : decode cX5_drop 32 = .ok (.isub, 1) := by decide +kernel
theorem dX5_drop_33 : decode cX5_drop 33 = .ok (.invokevirtual 85, 3) := by decide +kernel
theorem dX5_drop_36 : decode cX5_drop 36 = .ok (.pop, 1) := by decide +kernel
theorem dX5_drop_37 : decode cX5_drop 37 = .ok (.aload_n 0, 1) := by decide +kernel
theorem dX5_drop_38 : decode cX5_drop 38 = .ok (.getfield 7, 3) := by decide +kernel
theorem dX5_drop_41 : decode cX5_drop 41 = .ok (.iconst 1, 1) := by decide +kernel
theorem dX5_drop_42 : decode cX5_drop 42 = .ok (.iaload, 1) := by decide +kernel
theorem dX5_drop_43 : decode cX5_drop 43 = .ok (.ireturn, 1) := by decide +kernel
theorem dX5_spoil_0 : decode cX5_spoil 0 = .ok (.iload_n 1, 1) := by decide +kernel
theorem dX5_spoil_1 : decode cX5_spoil 1 = .ok (.invokestatic 75, 3) := by decide +kernel
theorem dX5_spoil_4 : decode cX5_spoil 4 = .ok (.ifCond .eq 21, 3) := by decide +kernel
theorem dX5_spoil_7 : decode cX5_spoil 7 = .ok (.iload_n 2, 1) := by decide +kernel
theorem dX5_spoil_8 : decode cX5_spoil 8 = .ok (.invokestatic 79, 3) := by decide +kernel
theorem dX5_spoil_11 : decode cX5_spoil 11 = .ok (.ifCond .eq 14, 3) := by decide +kernel
theorem dX5_spoil_14 : decode cX5_spoil 14 = .ok (.iload_n 3, 1) := by decide +kernel
theorem dX5_spoil_15 : decode cX5_spoil 15 = .ok (.invokestatic 79, 3) := by decide +kernel
theorem dX5_spoil_18 : decode cX5_spoil 18 = .ok (.ifCond .eq 7, 3) := by decide +kernel
theorem dX5_spoil_21 : decode cX5_spoil 21 = .ok (.iconst 1, 1) := by decide +kernel
theorem dX5_spoil_22 : decode cX5_spoil 22 = .ok (.goto 4, 3) := by decide +kernel
theorem dX5_spoil_25 : decode cX5_spoil 25 = .ok (.iconst 0, 1) := by decide +kernel
theorem dX5_spoil_26 : decode cX5_spoil 26 = .ok (.istore 5, 2) := by decide +kernel
theorem dX5_spoil_28 : decode cX5_spoil 28 = .ok (.iload 5, 2) := by decide +kernel
theorem dX5_spoil_30 : decode cX5_spoil 30 = .ok (.ifCond .eq 46, 3) := by decide +kernel
theorem dX5_spoil_33 : decode cX5_spoil 33 = .ok (.aload_n 0, 1) := by decide +kernel
theorem dX5_spoil_34 : decode cX5_spoil 34 = .ok (.getfield 7, 3) := by decide +kernel
theorem dX5_spoil_37 : decode cX5_spoil 37 = .ok (.iconst 1, 1) := by decide +kernel
theorem dX5_spoil_38 : decode cX5_spoil 38 = .ok (.iaload, 1) := by decide +kernel
theorem dX5_spoil_39 : decode cX5_spoil 39 = .ok (.ifCond .le 37, 3) := by decide +kernel
theorem dX5_spoil_42 : decode cX5_spoil 42 = .ok (.aload_n 0, 1) := by decide +kernel
theorem dX5_spoil_43 : decode cX5_spoil 43 = .ok (.aload_n 0, 1) := by decide +kernel
theorem dX5_spoil_44 : decode cX5_spoil 44 = .ok (.getfield 7, 3) := by decide +kernel
theorem dX5_spoil_47 : decode cX5_spoil 47 = .ok (.iconst 1, 1) := by decide +kernel
theorem dX5_spoil_48 : decode cX5_spoil 48 = .ok (.iaload, 1) := by decide +kernel
theorem dX5_spoil_49 : decode cX5_spoil 49 = .ok (.iconst 1, 1) := by decide +kernel
theorem dX5_spoil_50 : decode cX5_spoil 50 = .ok (.isub, 1) := by decide +kernel
theorem dX5_spoil_51 : decode cX5_spoil 51 = .ok (.iload_n 1, 1) := by decide +kernel
theorem dX5_spoil_52 : decode cX5_spoil 52 = .ok (.iload_n 2, 1) := by decide +kernel
theorem dX5_spoil_53 : decode cX5_spoil 53 = .ok (.iload_n 3, 1) := by decide +kernel
theorem dX5_spoil_54 : decode cX5_spoil 54 = .ok (.invokevirtual 43, 3) := by decide +kernel
theorem dX5_spoil_57 : decode cX5_spoil 57 = .ok (.iload 4, 2) := by decide +kernel
theorem dX5_spoil_59 : decode cX5_spoil 59 = .ok (.iadd, 1) := by decide +kernel
theorem dX5_spoil_60 : decode cX5_spoil 60 = .ok (.sipush (-900), 3) := by decide +kernel
theorem dX5_spoil_63 : decode cX5_spoil 63 = .ok (.sipush 900, 3) := by decide +kernel
theorem dX5_spoil_66 : decode cX5_spoil 66 = .ok (.invokestatic 24, 3) := by decide +kernel
theorem dX5_spoil_69 : decode cX5_spoil 69 = .ok (.ifCond .eq 7, 3) := by decide +kernel
theorem dX5_spoil_72 : decode cX5_spoil 72 = .ok (.iconst 1, 1) := by decide +kernel
theorem dX5_spoil_73 : decode cX5_spoil 73 = .ok (.goto 4, 3) := by decide +kernel
theorem dX5_spoil_76 : decode cX5_spoil 76 = .ok (.iconst 0, 1) := by decide +kernel
theorem dX5_spoil_77 : decode cX5_spoil 77 = .ok (.istore 6, 2) := by decide +kernel
theorem dX5_spoil_79 : decode cX5_spoil 79 = .ok (.aload_n 0, 1) := by decide +kernel
theorem dX5_spoil_80 : decode cX5_spoil 80 = .ok (.iload 5, 2) := by decide +kernel
theorem dX5_spoil_82 : decode cX5_spoil 82 = .ok (.ifCond .ne 7, 3) := by decide +kernel
theorem dX5_spoil_85 : decode cX5_spoil 85 = .ok (.iconst 1, 1) := by decide +kernel
theorem dX5_spoil_86 : decode cX5_spoil 86 = .ok (.goto 29, 3) := by decide +kernel
theorem dX5_spoil_89 : decode cX5_spoil 89 = .ok (.iload 4, 2) := by decide +kernel
theorem dX5_spoil_91 : decode cX5_spoil 91 = .ok (.bipush (-99), 2) := by decide +kernel
theorem dX5_spoil_93 : decode cX5_spoil 93 = .ok (.bipush 99, 2) := by decide +kernel
theorem dX5_spoil_95 : decode cX5_spoil 95 = .ok (.invokestatic 24, 3) := by decide +kernel
theorem dX5_spoil_98 : decode cX5_spoil 98 = .ok (.ifCond .ne 7, 3) := by decide +kernel
theorem dX5_spoil_101 : decode cX5_spoil 101 = .ok (.iconst 2, 1) := by decide +kernel
theorem dX5_spoil_102 : decode cX5_spoil 102 = .ok (.goto 13, 3) := by decide +kernel
theorem dX5_spoil_105 : decode cX5_spoil 105 = .ok (.iload 6, 2) := by decide +kernel
theorem dX5_spoil_107 : decode cX5_spoil 107 = .ok (.ifCond .ne 7, 3) := by decide +kernel
theorem dX5_spoil_110 : decode cX5_spoil 110 = .ok (.iconst 3, 1) := by decide +kernel
theorem dX5_spoil_111 : decode cX5_spoil 111 = .ok (.goto 4, 3) := by decide +kernel
theorem dX5_spoil_114 : decode cX5_spoil 114 = .ok (.iconst 0, 1) := by decide +kernel
theorem dX5_spoil_115 : decode cX5_spoil 115 = .ok (.invokevirtual 82, 3) := by decide +kernel
theorem dX5_spoil_118 : decode cX5_spoil 118 = .ok (.ifCond .ne 5, 3) := by decide +kernel
theorem dX5_spoil_121 : decode cX5_spoil 121 = .ok (.iconst 0, 1) := by decide +kernel
theorem dX5_spoil_122 : decode cX5_spoil 122 = .ok (.ireturn, 1) := by decide +kernel
theorem dX5_spoil_123 : decode cX5_spoil 123 = .ok (.bipush 57, 2) := by decide +kernel
theorem dX5_spoil_125 : decode cX5_spoil 125 = .ok (.bipush 65, 2) := by decide +kernel
theorem dX5_spoil_127 : decode cX5_spoil 127 = .ok (.aload_n 0, 1) := by decide +kernel
theorem dX5_spoil_128 : decode cX5_spoil 128 = .ok (.getfield 7, 3) := by decide +kernel
theorem dX5_spoil_131 : decode cX5_spoil 131 = .ok (.iconst 1, 1) := by decide +kernel
theorem dX5_spoil_132 : decode cX5_spoil 132 = .ok (.iaload, 1) := by decide +kernel
theorem dX5_spoil_133 : decode cX5_spoil 133 = .ok (.iconst 1, 1) := by decide +kernel
theorem dX5_spoil_134 : decode cX5_spoil 134 = .ok (.isub, 1) := by decide +kernel
theorem dX5_spoil_135 : decode cX5_spoil 135 = .ok (.imul, 1) := by decide +kernel
theorem dX5_spoil_136 : decode cX5_spoil 136 = .ok (.iadd, 1) := by decide +kernel
theorem dX5_spoil_137 : decode cX5_spoil 137 = .ok (.iload_n 1, 1) := by decide +kernel
theorem dX5_spoil_138 : decode cX5_spoil 138 = .ok (.iload_n 2, 1) := by decide +kernel
theorem dX5_spoil_139 : decode cX5_spoil 139 = .ok (.iload_n 3, 1) := by decide +kernel
theorem dX5_spoil_140 : decode cX5_spoil 140 = .ok (.invokestatic 39, 3) := by decide +kernel
theorem dX5_spoil_143 : decode cX5_spoil 143 = .ok (.iadd, 1) := by decide +kernel
theorem dX5_spoil_144 : decode cX5_spoil 144 = .ok (.istore 7, 2) := by decide +kernel
theorem dX5_spoil_146 : decode cX5_spoil 146 = .ok (.aload_n 0, 1) := by decide +kernel
theorem dX5_spoil_147 : decode cX5_spoil 147 = .ok (.iload 7, 2) := by decide +kernel
theorem dX5_spoil_149 : decode cX5_spoil 149 = .ok (.aload_n 0, 1) := by decide +kernel
theorem dX5_spoil_150 : decode cX5_spoil 150 = .ok (.getfield 7, 3) := by decide +kernel
theorem dX5_spoil_153 : decode cX5_spoil 153 = .ok (.iload 7, 2) := by decide +kernel
theorem dX5_spoil_155 : decode cX5_spoil 155 = .ok (.iaload, 1) := by decide +kernel
theorem dX5_spoil_156 : decode cX5_spoil 156 = .ok (.iload 4, 2) := by decide +kernel
theorem dX5_spoil_158 : decode cX5_spoil 158 = .ok (.iadd, 1) := by decide +kernel
theorem dX5_spoil_159 : decode cX5_spoil 159 = .ok (.invokevirtual 85, 3) := by decide +kernel
theorem dX5_spoil_162 : decode cX5_spoil 162 = .ok (.pop, 1) := by decide +kernel
theorem dX5_spoil_163 : decode cX5_spoil 163 = .ok (.aload_n 0, 1) := by decide +kernel
theorem dX5_spoil_164 : decode cX5_spoil 164 = .ok (.getfield 7, 3) := by decide +kernel
theorem dX5_spoil_167 : decode cX5_spoil 167 = .ok (.iconst 5, 1) := by decide +kernel
theorem dX5_spoil_168 : decode cX5_spoil 168 = .ok (.dup2, 1) := by decide +kernel
theorem dX5_spoil_169 : decode cX5_spoil 169 = .ok (.iaload, 1) := by decide +kernel
theorem dX5_spoil_170 : decode cX5_spoil 170 = .ok (.iconst 1, 1) := by decide +kernel
theorem dX5_spoil_171 : decode cX5_spoil 171 = .ok (.iadd, 1) := by decide +kernel
theorem dX5_spoil_172 : decode cX5_spoil 172 = .ok (.iastore, 1) := by decide +kernel
theorem dX5_spoil_173 : decode cX5_spoil 173 = .ok (.aload_n 0, 1) := by decide +kernel
theorem dX5_spoil_174 : decode cX5_spoil 174 = .ok (.getfield 7, 3) := by decide +kernel
theorem dX5_spoil_177 : decode cX5_spoil 177 = .ok (.iload 7, 2) := by decide +kernel
theorem dX5_spoil_179 : decode cX5_spoil 179 = .ok (.iaload, 1) := by decide +kernel
theorem dX5_spoil_180 : decode cX5_spoil 180 = .ok (.ireturn, 1) := by decide +kernel
theorem dX5_append_0 : decode cX5_append 0 = .ok (.aload_n 0, 1) := by decide +kernel
theorem dX5_append_1 : decode cX5_append 1 = .ok (.iload_n 1, 1) := by decide +kernel
theorem dX5_append_2 : decode cX5_append 2 = .ok (.bipush 33, 2) := by decide +kernel
theorem dX5_append_4 : decode cX5_append 4 = .ok (.bipush 126, 2) := by decide +kernel
theorem dX5_append_6 : decode cX5_append 6 = .ok (.invokestatic 24, 3) := by decide +kernel
theorem dX5_append_9 : decode cX5_append 9 = .ok (.ifCond .ne 7, 3) := by decide +kernel
theorem dX5_append_12 : decode cX5_append 12 = .ok (.iconst 1, 1) := by decide +kernel
theorem dX5_append_13 : decode cX5_append 13 = .ok (.goto 17, 3) := by decide +kernel
theorem dX5_append_16 : decode cX5_append 16 = .ok (.aload_n 0, 1) := by decide +kernel
theorem dX5_append_17 : decode cX5_append 17 = .ok (.getfield 91, 3) := by decide +kernel
theorem dX5_append_20 : decode cX5_append 20 = .ok (.bipush 60, 2) := by decide +kernel
theorem dX5_append_22 : decode cX5_append 22 = .ok (.if_icmp .ne 7, 3) := by decide +kernel
theorem dX5_append_25 : decode cX5_append 25 = .ok (.iconst 2, 1) := by decide +kernel
theorem dX5_append_26 : decode cX5_append 26 = .ok (.goto 4, 3) := by decide +kernel
theorem dX5_append_29 : decode cX5_append 29 = .ok (.iconst 0, 1) := by decide +kernel
theorem dX5_append_30 : decode cX5_append 30 = .ok (.invokevirtual 82, 3) := by decide +kernel
theorem dX5_append_33 : decode cX5_append 33 = .ok (.ifCond .ne 5, 3) := by decide +kernel
theorem dX5_append_36 : decode cX5_append 36 = .ok (.iconst 0, 1) := by decide +kernel
theorem dX5_append_37 : decode cX5_append 37 = .ok (.ireturn, 1) := by decide +kernel
theorem dX5_append_38 : decode cX5_append 38 = .ok (.aload_n 0, 1) := by decide +kernel
theorem dX5_append_39 : decode cX5_append 39 = .ok (.getfield 17, 3) := by decide +kernel
theorem dX5_append_42 : decode cX5_append 42 = .ok (.aload_n 0, 1) := by decide +kernel
theorem dX5_append_43 : decode cX5_append 43 = .ok (.getfield 91, 3) := by decide +kernel
theorem dX5_append_46 : decode cX5_append 46 = .ok (.iload_n 1, 1) := by decide +kernel
theorem dX5_append_47 : decode cX5_append 47 = .ok (.iastore, 1) := by decide +kernel
theorem dX5_append_48 : decode cX5_append 48 = .ok (.aload_n 0, 1) := by decide +kernel
theorem dX5_append_49 : decode cX5_append 49 = .ok (.dup, 1) := by decide +kernel
theorem dX5_append_50 : decode cX5_append 50 = .ok (.getfield 91, 3) := by decide +kernel
theorem dX5_append_53 : decode cX5_append 53 = .ok (.iconst 1, 1) := by decide +kernel
theorem dX5_append_54 : decode cX5_append 54 = .ok (.iadd, 1) := by decide +kernel
theorem dX5_append_55 : decode cX5_append 55 = .ok (.putfield 91, 3) := by decide +kernel
theorem dX5_append_58 : decode cX5_append 58 = .ok (.aload_n 0, 1) := by decide +kernel
theorem dX5_append_59 : decode cX5_append 59 = .ok (.getfield 91, 3) := by decide +kernel
theorem dX5_append_62 : decode cX5_append 62 = .ok (.ireturn, 1) := by decide +kernel
theorem dX5_clearBuffer_0 : decode cX5_clearBuffer 0 = .ok (.aload_n 0, 1) := by decide +kernel
theorem dX5_clearBuffer_1 : decode cX5_clearBuffer 1 = .ok (.iconst 0, 1) := by decide +kernel
theorem dX5_clearBuffer_2 : decode cX5_clearBuffer 2 = .ok (.putfield 20, 3) := by decide +kernel
theorem dX5_clearBuffer_5 : decode cX5_clearBuffer 5 = .ok (.aload_n 0, 1) := by decide +kernel
theorem dX5_clearBuffer_6 : decode cX5_clearBuffer 6 = .ok (.getfield 91, 3) := by decide +kernel
theorem dX5_clearBuffer_9 : decode cX5_clearBuffer 9 = .ok (.istore_n 1, 1) := by decide +kernel
theorem dX5_clearBuffer_10 : decode cX5_clearBuffer 10 = .ok (.aload_n 0, 1) := by decide +kernel
theorem dX5_clearBuffer_11 : decode cX5_clearBuffer 11 = .ok (.iconst 0, 1) := by decide +kernel
theorem dX5_clearBuffer_12 : decode cX5_clearBuffer 12 = .ok (.putfield 91, 3) := by decide +kernel
theorem dX5_clearBuffer_15 : decode cX5_clearBuffer 15 = .ok (.iload_n 1, 1) := by decide +kernel
theorem dX5_clearBuffer_16 : decode cX5_clearBuffer 16 = .ok (.ireturn, 1) := by decide +kernel
theorem dX5_sign_0 : decode cX5_sign 0 = .ok (.aload_n 0, 1) := by decide +kernel
theorem dX5_sign_1 : decode cX5_sign 1 = .ok (.getfield 94, 3) := by decide +kernel
theorem dX5_sign_4 : decode cX5_sign 4 = .ok (.aload_n 0, 1) := by decide +kernel
theorem dX5_sign_5 : decode cX5_sign 5 = .ok (.getfield 91, 3) := by decide +kernel
theorem dX5_sign_8 : decode cX5_sign 8 = .ok (.if_icmp .ge 15, 3) := by decide +kernel
theorem dX5_sign_11 : decode cX5_sign 11 = .ok (.aload_n 0, 1) := by decide +kernel
theorem dX5_sign_12 : decode cX5_sign 12 = .ok (.getfield 17, 3) := by decide +kernel
theorem dX5_sign_15 : decode cX5_sign 15 = .ok (.aload_n 0, 1) := by decide +kernel
theorem dX5_sign_16 : decode cX5_sign 16 = .ok (.getfield 94, 3) := by decide +kernel
theorem dX5_sign_19 : decode cX5_sign 19 = .ok (.iaload, 1) := by decide +kernel
theorem dX5_sign_20 : decode cX5_sign 20 = .ok (.goto 4, 3) := by decide +kernel
theorem dX5_sign_23 : decode cX5_sign 23 = .ok (.iconst 0, 1) := by decide +kernel
theorem dX5_sign_24 : decode cX5_sign 24 = .ok (.ireturn, 1) := by decide +kernel
theorem dX5_takes_0 : decode cX5_takes 0 = .ok (.aload_n 0, 1) := by decide +kernel
theorem dX5_takes_1 : decode cX5_takes 1 = .ok (.invokevirtual 97, 3) := by decide +kernel
theorem dX5_takes_4 : decode cX5_takes 4 = .ok (.iload_n 1, 1) := by decide +kernel
theorem dX5_takes_5 : decode cX5_takes 5 = .ok (.if_icmp .ne 7, 3) := by decide +kernel
theorem dX5_takes_8 : decode cX5_takes 8 = .ok (.iconst 1, 1) := by decide +kernel
theorem dX5_takes_9 : decode cX5_takes 9 = .ok (.goto 4, 3) := by decide +kernel
theorem dX5_takes_12 : decode cX5_takes 12 = .ok (.iconst 0, 1) := by decide +kernel
theorem dX5_takes_13 : decode cX5_takes 13 = .ok (.istore_n 2, 1) := by decide +kernel
theorem dX5_takes_14 : decode cX5_takes 14 = .ok (.aload_n 0, 1) := by decide +kernel
theorem dX5_takes_15 : decode cX5_takes 15 = .ok (.dup, 1) := by decide +kernel
theorem dX5_takes_16 : decode cX5_takes 16 = .ok (.getfield 94, 3) := by decide +kernel
theorem dX5_takes_19 : decode cX5_takes 19 = .ok (.iload_n 2, 1) := by decide +kernel
theorem dX5_takes_20 : decode cX5_takes 20 = .ok (.ifCond .eq 7, 3) := by decide +kernel
theorem dX5_takes_23 : decode cX5_takes 23 = .ok (.iconst 1, 1) := by decide +kernel
theorem dX5_takes_24 : decode cX5_takes 24 = .ok (.goto 4, 3) := by decide +kernel
theorem dX5_takes_27 : decode cX5_takes 27 = .ok (.iconst 0, 1) := by decide +kernel
theorem dX5_takes_28 : decode cX5_takes 28 = .ok (.iadd, 1) := by decide +kernel
theorem dX5_takes_29 : decode cX5_takes 29 = .ok (.putfield 94, 3) := by decide +kernel
theorem dX5_takes_32 : decode cX5_takes 32 = .ok (.iload_n 2, 1) := by decide +kernel
theorem dX5_takes_33 : decode cX5_takes 33 = .ok (.ireturn, 1) := by decide +kernel
theorem dX5_readsNumber_0 : decode cX5_readsNumber 0 = .ok (.aload_n 0, 1) := by decide +kernel
theorem dX5_readsNumber_1 : decode cX5_readsNumber 1 = .ok (.invokevirtual 97, 3) := by decide +kernel
theorem dX5_readsNumber_4 : decode cX5_readsNumber 4 = .ok (.bipush 48, 2) := by decide +kernel
theorem dX5_readsNumber_6 : decode cX5_readsNumber 6 = .ok (.iload_n 1, 1) := by decide +kernel
theorem dX5_readsNumber_7 : decode cX5_readsNumber 7 = .ok (.iadd, 1) := by decide +kernel
theorem dX5_readsNumber_8 : decode cX5_readsNumber 8 = .ok (.bipush 57, 2) := by decide +kernel
theorem dX5_readsNumber_10 : decode cX5_readsNumber 10 = .ok (.invokestatic 24, 3) := by decide +kernel
theorem dX5_readsNumber_13 : decode cX5_readsNumber 13 = .ok (.ifCond .ne 5, 3) := by decide +kernel
theorem dX5_readsNumber_16 : decode cX5_readsNumber 16 = .ok (.iconst 0, 1) := by decide +kernel
theorem dX5_readsNumber_17 : decode cX5_readsNumber 17 = .ok (.ireturn, 1) := by decide +kernel
theorem dX5_readsNumber_18 : decode cX5_readsNumber 18 = .ok (.aload_n 0, 1) := by decide +kernel
theorem dX5_readsNumber_19 : decode cX5_readsNumber 19 = .ok (.aload_n 0, 1) := by decide +kernel
theorem dX5_readsNumber_20 : decode cX5_readsNumber 20 = .ok (.invokevirtual 97, 3) := by decide +kernel
theorem dX5_readsNumber_23 : decode cX5_readsNumber 23 = .ok (.bipush 48, 2) := by decide +kernel
theorem dX5_readsNumber_25 : decode cX5_readsNumber 25 = .ok (.isub, 1) := by decide +kernel
theorem dX5_readsNumber_26 : decode cX5_readsNumber 26 = .ok (.putfield 101, 3) := by decide +kernel
theorem dX5_readsNumber_29 : decode cX5_readsNumber 29 = .ok (.aload_n 0, 1) := by decide +kernel
theorem dX5_readsNumber_30 : decode cX5_readsNumber 30 = .ok (.dup, 1) := by decide +kernel
theorem dX5_readsNumber_31 : decode cX5_readsNumber 31 = .ok (.getfield 94, 3) := by decide +kernel
theorem dX5_readsNumber_34 : decode cX5_readsNumber 34 = .ok (.iconst 1, 1) := by decide +kernel
theorem dX5_readsNumber_35 : decode cX5_readsNumber 35 = .ok (.iadd, 1) := by decide +kernel
theorem dX5_readsNumber_36 : decode cX5_readsNumber 36 = .ok (.putfield 94, 3) := by decide +kernel
theorem dX5_readsNumber_39 : decode cX5_readsNumber 39 = .ok (.aload_n 0, 1) := by decide +kernel
theorem dX5_readsNumber_40 : decode cX5_readsNumber 40 = .ok (.getfield 101, 3) := by decide +kernel
theorem dX5_readsNumber_43 : decode cX5_readsNumber 43 = .ok (.ifCond .le 68, 3) := by decide +kernel
theorem dX5_readsNumber_46 : decode cX5_readsNumber 46 = .ok (.aload_n 0, 1) := by decide +kernel
theorem dX5_readsNumber_47 : decode cX5_readsNumber 47 = .ok (.invokevirtual 97, 3) := by decide +kernel
theorem dX5_readsNumber_50 : decode cX5_readsNumber 50 = .ok (.bipush 48, 2) := by decide +kernel
theorem dX5_readsNumber_52 : decode cX5_readsNumber 52 = .ok (.bipush 57, 2) := by decide +kernel
theorem dX5_readsNumber_54 : decode cX5_readsNumber 54 = .ok (.invokestatic 24, 3) := by decide +kernel
theorem dX5_readsNumber_57 : decode cX5_readsNumber 57 = .ok (.ifCond .eq 54, 3) := by decide +kernel
theorem dX5_readsNumber_60 : decode cX5_readsNumber 60 = .ok (.bipush 10, 2) := by decide +kernel
theorem dX5_readsNumber_62 : decode cX5_readsNumber 62 = .ok (.aload_n 0, 1) := by decide +kernel
theorem dX5_readsNumber_63 : decode cX5_readsNumber 63 = .ok (.getfield 101, 3) := by decide +kernel
theorem dX5_readsNumber_66 : decode cX5_readsNumber 66 = .ok (.imul, 1) := by decide +kernel
theorem dX5_readsNumber_67 : decode cX5_readsNumber 67 = .ok (.aload_n 0, 1) := by decide +kernel
theorem dX5_readsNumber_68 : decode cX5_readsNumber 68 = .ok (.invokevirtual 97, 3) := by decide +kernel
theorem dX5_readsNumber_71 : decode cX5_readsNumber 71 = .ok (.iadd, 1) := by decide +kernel
theorem dX5_readsNumber_72 : decode cX5_readsNumber 72 = .ok (.bipush 48, 2) := by decide +kernel
theorem dX5_readsNumber_74 : decode cX5_readsNumber 74 = .ok (.isub, 1) := by decide +kernel
theorem dX5_readsNumber_75 : decode cX5_readsNumber 75 = .ok (.iload_n 2, 1) := by decide +kernel
theorem dX5_readsNumber_76 : decode cX5_readsNumber 76 = .ok (.if_icmp .gt 35, 3) := by decide +kernel
theorem dX5_readsNumber_79 : decode cX5_readsNumber 79 = .ok (.aload_n 0, 1) := by decide +kernel
theorem dX5_readsNumber_80 : decode cX5_readsNumber 80 = .ok (.bipush 10, 2) := by decide +kernel
theorem dX5_readsNumber_82 : decode cX5_readsNumber 82 = .ok (.aload_n 0, 1) := by decide +kernel
theorem dX5_readsNumber_83 : decode cX5_readsNumber 83 = .ok (.getfield 101, 3) := by decide +kernel
theorem dX5_readsNumber_86 : decode cX5_readsNumber 86 = .ok (.imul, 1) := by decide +kernel
theorem dX5_readsNumber_87 : decode cX5_readsNumber 87 = .ok (.aload_n 0, 1) := by decide +kernel
theorem dX5_readsNumber_88 : decode cX5_readsNumber 88 = .ok (.invokevirtual 97, 3) := by decide +kernel
theorem dX5_readsNumber_91 : decode cX5_readsNumber 91 = .ok (.iadd, 1) := by decide +kernel
theorem dX5_readsNumber_92 : decode cX5_readsNumber 92 = .ok (.bipush 48, 2) := by decide +kernel
theorem dX5_readsNumber_94 : decode cX5_readsNumber 94 = .ok (.isub, 1) := by decide +kernel
theorem dX5_readsNumber_95 : decode cX5_readsNumber 95 = .ok (.putfield 101, 3) := by decide +kernel
theorem dX5_readsNumber_98 : decode cX5_readsNumber 98 = .ok (.aload_n 0, 1) := by decide +kernel
theorem dX5_readsNumber_99 : decode cX5_readsNumber 99 = .ok (.dup, 1) := by decide +kernel
theorem dX5_readsNumber_100 : decode cX5_readsNumber 100 = .ok (.getfield 94, 3) := by decide +kernel
theorem dX5_readsNumber_103 : decode cX5_readsNumber 103 = .ok (.iconst 1, 1) := by decide +kernel
theorem dX5_readsNumber_104 : decode cX5_readsNumber 104 = .ok (.iadd, 1) := by decide +kernel
theorem dX5_readsNumber_105 : decode cX5_readsNumber 105 = .ok (.putfield 94, 3) := by decide +kernel
theorem dX5_readsNumber_108 : decode cX5_readsNumber 108 = .ok (.goto (-69), 3) := by decide +kernel
theorem dX5_readsNumber_111 : decode cX5_readsNumber 111 = .ok (.iconst 1, 1) := by decide +kernel
theorem dX5_readsNumber_112 : decode cX5_readsNumber 112 = .ok (.ireturn, 1) := by decide +kernel
theorem dX5_readsReading_0 : decode cX5_readsReading 0 = .ok (.aload_n 0, 1) := by decide +kernel
theorem dX5_readsReading_1 : decode cX5_readsReading 1 = .ok (.iconst 0, 1) := by decide +kernel
theorem dX5_readsReading_2 : decode cX5_readsReading 2 = .ok (.bipush 15, 2) := by decide +kernel
theorem dX5_readsReading_4 : decode cX5_readsReading 4 = .ok (.invokevirtual 104, 3) := by decide +kernel
theorem dX5_readsReading_7 : decode cX5_readsReading 7 = .ok (.ifCond .ne 5, 3) := by decide +kernel
theorem dX5_readsReading_10 : decode cX5_readsReading 10 = .ok (.iconst 0, 1) := by decide +kernel
theorem dX5_readsReading_11 : decode cX5_readsReading 11 = .ok (.ireturn, 1) := by decide +kernel
theorem dX5_readsReading_12 : decode cX5_readsReading 12 = .ok (.aload_n 0, 1) := by decide +kernel
theorem dX5_readsReading_13 : decode cX5_readsReading 13 = .ok (.getfield 101, 3) := by decide +kernel
theorem dX5_readsReading_16 : decode cX5_readsReading 16 = .ok (.istore_n 1, 1) := by decide +kernel
theorem dX5_readsReading_17 : decode cX5_readsReading 17 = .ok (.aload_n 0, 1) := by decide +kernel
theorem dX5_readsReading_18 : decode cX5_readsReading 18 = .ok (.invokevirtual 97, 3) := by decide +kernel
theorem dX5_readsReading_21 : decode cX5_readsReading 21 = .ok (.bipush 98, 2) := by decide +kernel
theorem dX5_readsReading_23 : decode cX5_readsReading 23 = .ok (.if_icmp .ne 7, 3) := by decide +kernel
theorem dX5_readsReading_26 : decode cX5_readsReading 26 = .ok (.iconst 1, 1) := by decide +kernel
theorem dX5_readsReading_27 : decode cX5_readsReading 27 = .ok (.goto 4, 3) := by decide +kernel
theorem dX5_readsReading_30 : decode cX5_readsReading 30 = .ok (.iconst 0, 1) := by decide +kernel
theorem dX5_readsReading_31 : decode cX5_readsReading 31 = .ok (.istore_n 2, 1) := by decide +kernel
theorem dX5_readsReading_32 : decode cX5_readsReading 32 = .ok (.aload_n 0, 1) := by decide +kernel
theorem dX5_readsReading_33 : decode cX5_readsReading 33 = .ok (.bipush 97, 2) := by decide +kernel
theorem dX5_readsReading_35 : decode cX5_readsReading 35 = .ok (.invokevirtual 108, 3) := by decide +kernel
theorem dX5_readsReading_38 : decode cX5_readsReading 38 = .ok (.ifCond .ne 14, 3) := by decide +kernel
theorem dX5_readsReading_41 : decode cX5_readsReading 41 = .ok (.aload_n 0, 1) := by decide +kernel
theorem dX5_readsReading_42 : decode cX5_readsReading 42 = .ok (.bipush 98, 2) := by decide +kernel
theorem dX5_readsReading_44 : decode cX5_readsReading 44 = .ok (.invokevirtual 108, 3) := by decide +kernel
theorem dX5_readsReading_47 : decode cX5_readsReading 47 = .ok (.ifCond .ne 5, 3) := by decide +kernel
theorem dX5_readsReading_50 : decode cX5_readsReading 50 = .ok (.iconst 0, 1) := by decide +kernel
theorem dX5_readsReading_51 : decode cX5_readsReading 51 = .ok (.ireturn, 1) := by decide +kernel
theorem dX5_readsReading_52 : decode cX5_readsReading 52 = .ok (.aload_n 0, 1) := by decide +kernel
theorem dX5_readsReading_53 : decode cX5_readsReading 53 = .ok (.invokevirtual 97, 3) := by decide +kernel
theorem dX5_readsReading_56 : decode cX5_readsReading 56 = .ok (.bipush 45, 2) := by decide +kernel
theorem dX5_readsReading_58 : decode cX5_readsReading 58 = .ok (.if_icmp .ne 7, 3) := by decide +kernel
theorem dX5_readsReading_61 : decode cX5_readsReading 61 = .ok (.iconst 1, 1) := by decide +kernel
theorem dX5_readsReading_62 : decode cX5_readsReading 62 = .ok (.goto 4, 3) := by decide +kernel
theorem dX5_readsReading_65 : decode cX5_readsReading 65 = .ok (.iconst 0, 1) := by decide +kernel
theorem dX5_readsReading_66 : decode cX5_readsReading 66 = .ok (.istore_n 3, 1) := by decide +kernel
theorem dX5_readsReading_67 : decode cX5_readsReading 67 = .ok (.aload_n 0, 1) := by decide +kernel
theorem dX5_readsReading_68 : decode cX5_readsReading 68 = .ok (.bipush 43, 2) := by decide +kernel
theorem dX5_readsReading_70 : decode cX5_readsReading 70 = .ok (.invokevirtual 108, 3) := by decide +kernel
theorem dX5_readsReading_73 : decode cX5_readsReading 73 = .ok (.ifCond .ne 14, 3) := by decide +kernel
theorem dX5_readsReading_76 : decode cX5_readsReading 76 = .ok (.aload_n 0, 1) := by decide +kernel
theorem dX5_readsReading_77 : decode cX5_readsReading 77 = .ok (.bipush 45, 2) := by decide +kernel
theorem dX5_readsReading_79 : decode cX5_readsReading 79 = .ok (.invokevirtual 108, 3) := by decide +kernel
theorem dX5_readsReading_82 : decode cX5_readsReading 82 = .ok (.ifCond .ne 5, 3) := by decide +kernel
theorem dX5_readsReading_85 : decode cX5_readsReading 85 = .ok (.iconst 0, 1) := by decide +kernel
theorem dX5_readsReading_86 : decode cX5_readsReading 86 = .ok (.ireturn, 1) := by decide +kernel
theorem dX5_readsReading_87 : decode cX5_readsReading 87 = .ok (.aload_n 0, 1) := by decide +kernel
theorem dX5_readsReading_88 : decode cX5_readsReading 88 = .ok (.iload_n 1, 1) := by decide +kernel
theorem dX5_readsReading_89 : decode cX5_readsReading 89 = .ok (.iload_n 2, 1) := by decide +kernel
theorem dX5_readsReading_90 : decode cX5_readsReading 90 = .ok (.ifCond .eq 7, 3) := by decide +kernel
theorem dX5_readsReading_93 : decode cX5_readsReading 93 = .ok (.iconst 1, 1) := by decide +kernel
theorem dX5_readsReading_94 : decode cX5_readsReading 94 = .ok (.goto 4, 3) := by decide +kernel
theorem dX5_readsReading_97 : decode cX5_readsReading 97 = .ok (.iconst 0, 1) := by decide +kernel
theorem dX5_readsReading_98 : decode cX5_readsReading 98 = .ok (.iload_n 3, 1) := by decide +kernel
theorem dX5_readsReading_99 : decode cX5_readsReading 99 = .ok (.ifCond .eq 7, 3) := by decide +kernel
theorem dX5_readsReading_102 : decode cX5_readsReading 102 = .ok (.iconst 1, 1) := by decide +kernel
theorem dX5_readsReading_103 : decode cX5_readsReading 103 = .ok (.goto 4, 3) := by decide +kernel
theorem dX5_readsReading_106 : decode cX5_readsReading 106 = .ok (.iconst 0, 1) := by decide +kernel
theorem dX5_readsReading_107 : decode cX5_readsReading 107 = .ok (.invokestatic 39, 3) := by decide +kernel
theorem dX5_readsReading_110 : decode cX5_readsReading 110 = .ok (.putfield 111, 3) := by decide +kernel
theorem dX5_readsReading_113 : decode cX5_readsReading 113 = .ok (.aload_n 0, 1) := by decide +kernel
theorem dX5_readsReading_114 : decode cX5_readsReading 114 = .ok (.bipush 61, 2) := by decide +kernel
theorem dX5_readsReading_116 : decode cX5_readsReading 116 = .ok (.invokevirtual 108, 3) := by decide +kernel
theorem dX5_readsReading_119 : decode cX5_readsReading 119 = .ok (.ifCond .ne 5, 3) := by decide +kernel
theorem dX5_readsReading_122 : decode cX5_readsReading 122 = .ok (.iconst 0, 1) := by decide +kernel
theorem dX5_readsReading_123 : decode cX5_readsReading 123 = .ok (.ireturn, 1) := by decide +kernel
theorem dX5_readsReading_124 : decode cX5_readsReading 124 = .ok (.aload_n 0, 1) := by decide +kernel
theorem dX5_readsReading_125 : decode cX5_readsReading 125 = .ok (.bipush 45, 2) := by decide +kernel
theorem dX5_readsReading_127 : decode cX5_readsReading 127 = .ok (.invokevirtual 108, 3) := by decide +kernel
theorem dX5_readsReading_130 : decode cX5_readsReading 130 = .ok (.istore 4, 2) := by decide +kernel
theorem dX5_readsReading_132 : decode cX5_readsReading 132 = .ok (.aload_n 0, 1) := by decide +kernel
theorem dX5_readsReading_133 : decode cX5_readsReading 133 = .ok (.iload 4, 2) := by decide +kernel
theorem dX5_readsReading_135 : decode cX5_readsReading 135 = .ok (.ifCond .eq 7, 3) := by decide +kernel
theorem dX5_readsReading_138 : decode cX5_readsReading 138 = .ok (.iconst 1, 1) := by decide +kernel
theorem dX5_readsReading_139 : decode cX5_readsReading 139 = .ok (.goto 4, 3) := by decide +kernel
theorem dX5_readsReading_142 : decode cX5_readsReading 142 = .ok (.iconst 0, 1) := by decide +kernel
theorem dX5_readsReading_143 : decode cX5_readsReading 143 = .ok (.sipush 200, 3) := by decide +kernel
theorem dX5_readsReading_146 : decode cX5_readsReading 146 = .ok (.invokevirtual 104, 3) := by decide +kernel
theorem dX5_readsReading_149 : decode cX5_readsReading 149 = .ok (.istore 5, 2) := by decide +kernel
theorem dX5_readsReading_151 : decode cX5_readsReading 151 = .ok (.aload_n 0, 1) := by decide +kernel
theorem dX5_readsReading_152 : decode cX5_readsReading 152 = .ok (.iload 4, 2) := by decide +kernel
theorem dX5_readsReading_154 : decode cX5_readsReading 154 = .ok (.ifCond .eq 11, 3) := by decide +kernel
theorem dX5_readsReading_157 : decode cX5_readsReading 157 = .ok (.aload_n 0, 1) := by decide +kernel
theorem dX5_readsReading_158 : decode cX5_readsReading 158 = .ok (.getfield 101, 3) := by decide +kernel
theorem dX5_readsReading_161 : decode cX5_readsReading 161 = .ok (.ineg, 1) := by decide +kernel
theorem dX5_readsReading_162 : decode cX5_readsReading 162 = .ok (.goto 7, 3) := by decide +kernel
theorem dX5_readsReading_165 : decode cX5_readsReading 165 = .ok (.aload_n 0, 1) := by decide +kernel
theorem dX5_readsReading_166 : decode cX5_readsReading 166 = .ok (.getfield 101, 3) := by decide +kernel
theorem dX5_readsReading_169 : decode cX5_readsReading 169 = .ok (.putfield 101, 3) := by decide +kernel
theorem dX5_readsReading_172 : decode cX5_readsReading 172 = .ok (.iload 5, 2) := by decide +kernel
theorem dX5_readsReading_174 : decode cX5_readsReading 174 = .ok (.ireturn, 1) := by decide +kernel
theorem dX5_areReadings_0 : decode cX5_areReadings 0 = .ok (.aload_n 0, 1) := by decide +kernel
theorem dX5_areReadings_1 : decode cX5_areReadings 1 = .ok (.iconst 0, 1) := by decide +kernel
theorem dX5_areReadings_2 : decode cX5_areReadings 2 = .ok (.putfield 94, 3) := by decide +kernel
theorem dX5_areReadings_5 : decode cX5_areReadings 5 = .ok (.aload_n 0, 1) := by decide +kernel
theorem dX5_areReadings_6 : decode cX5_areReadings 6 = .ok (.invokevirtual 114, 3) := by decide +kernel
theorem dX5_areReadings_9 : decode cX5_areReadings 9 = .ok (.ifCond .eq 27, 3) := by decide +kernel
theorem dX5_areReadings_12 : decode cX5_areReadings 12 = .ok (.aload_n 0, 1) := by decide +kernel
theorem dX5_areReadings_13 : decode cX5_areReadings 13 = .ok (.getfield 94, 3) := by decide +kernel
theorem dX5_areReadings_16 : decode cX5_areReadings 16 = .ok (.aload_n 0, 1) := by decide +kernel
theorem dX5_areReadings_17 : decode cX5_areReadings 17 = .ok (.getfield 91, 3) := by decide +kernel
theorem dX5_areReadings_20 : decode cX5_areReadings 20 = .ok (.if_icmp .ne 5, 3) := by decide +kernel
theorem dX5_areReadings_23 : decode cX5_areReadings 23 = .ok (.iconst 1, 1) := by decide +kernel
theorem dX5_areReadings_24 : decode cX5_areReadings 24 = .ok (.ireturn, 1) := by decide +kernel
theorem dX5_areReadings_25 : decode cX5_areReadings 25 = .ok (.aload_n 0, 1) := by decide +kernel
theorem dX5_areReadings_26 : decode cX5_areReadings 26 = .ok (.bipush 59, 2) := by decide +kernel
theorem dX5_areReadings_28 : decode cX5_areReadings 28 = .ok (.invokevirtual 108, 3) := by decide +kernel
theorem dX5_areReadings_31 : decode cX5_areReadings 31 = .ok (.ifCond .ne (-26), 3) := by decide +kernel
theorem dX5_areReadings_34 : decode cX5_areReadings 34 = .ok (.iconst 0, 1) := by decide +kernel
theorem dX5_areReadings_35 : decode cX5_areReadings 35 = .ok (.ireturn, 1) := by decide +kernel
theorem dX5_areReadings_36 : decode cX5_areReadings 36 = .ok (.iconst 0, 1) := by decide +kernel
theorem dX5_areReadings_37 : decode cX5_areReadings 37 = .ok (.ireturn, 1) := by decide +kernel
theorem dX5_firstError_0 : decode cX5_firstError 0 = .ok (.aload_n 0, 1) := by decide +kernel
theorem dX5_firstError_1 : decode cX5_firstError 1 = .ok (.iconst 0, 1) := by decide +kernel
theorem dX5_firstError_2 : decode cX5_firstError 2 = .ok (.putfield 20, 3) := by decide +kernel
theorem dX5_firstError_5 : decode cX5_firstError 5 = .ok (.aload_n 0, 1) := by decide +kernel
theorem dX5_firstError_6 : decode cX5_firstError 6 = .ok (.invokevirtual 118, 3) := by decide +kernel
theorem dX5_firstError_9 : decode cX5_firstError 9 = .ok (.pop, 1) := by decide +kernel
theorem dX5_firstError_10 : decode cX5_firstError 10 = .ok (.aload_n 0, 1) := by decide +kernel
theorem dX5_firstError_11 : decode cX5_firstError 11 = .ok (.getfield 94, 3) := by decide +kernel
theorem dX5_firstError_14 : decode cX5_firstError 14 = .ok (.ireturn, 1) := by decide +kernel
theorem dX5_load_0 : decode cX5_load 0 = .ok (.aload_n 0, 1) := by decide +kernel
theorem dX5_load_1 : decode cX5_load 1 = .ok (.aload_n 0, 1) := by decide +kernel
theorem dX5_load_2 : decode cX5_load 2 = .ok (.getfield 7, 3) := by decide +kernel
theorem dX5_load_5 : decode cX5_load 5 = .ok (.iconst 1, 1) := by decide +kernel
theorem dX5_load_6 : decode cX5_load 6 = .ok (.iaload, 1) := by decide +kernel
theorem dX5_load_7 : decode cX5_load 7 = .ok (.ifCond .ne 7, 3) := by decide +kernel
theorem dX5_load_10 : decode cX5_load 10 = .ok (.iconst 1, 1) := by decide +kernel
theorem dX5_load_11 : decode cX5_load 11 = .ok (.goto 15, 3) := by decide +kernel
theorem dX5_load_14 : decode cX5_load 14 = .ok (.aload_n 0, 1) := by decide +kernel
theorem dX5_load_15 : decode cX5_load 15 = .ok (.invokevirtual 118, 3) := by decide +kernel
theorem dX5_load_18 : decode cX5_load 18 = .ok (.ifCond .ne 7, 3) := by decide +kernel
theorem dX5_load_21 : decode cX5_load 21 = .ok (.iconst 2, 1) := by decide +kernel
theorem dX5_load_22 : decode cX5_load 22 = .ok (.goto 4, 3) := by decide +kernel
theorem dX5_load_25 : decode cX5_load 25 = .ok (.iconst 0, 1) := by decide +kernel
theorem dX5_load_26 : decode cX5_load 26 = .ok (.invokevirtual 82, 3) := by decide +kernel
theorem dX5_load_29 : decode cX5_load 29 = .ok (.ifCond .ne 5, 3) := by decide +kernel
theorem dX5_load_32 : decode cX5_load 32 = .ok (.iconst 0, 1) := by decide +kernel
theorem dX5_load_33 : decode cX5_load 33 = .ok (.ireturn, 1) := by decide +kernel
theorem dX5_load_34 : decode cX5_load 34 = .ok (.aload_n 0, 1) := by decide +kernel
theorem dX5_load_35 : decode cX5_load 35 = .ok (.invokevirtual 72, 3) := by decide +kernel
theorem dX5_load_38 : decode cX5_load 38 = .ok (.aload_n 0, 1) := by decide +kernel
theorem dX5_load_39 : decode cX5_load 39 = .ok (.iconst 0, 1) := by decide +kernel
theorem dX5_load_40 : decode cX5_load 40 = .ok (.putfield 94, 3) := by decide +kernel
theorem dX5_load_43 : decode cX5_load 43 = .ok (.iconst 0, 1) := by decide +kernel
theorem dX5_load_44 : decode cX5_load 44 = .ok (.istore_n 1, 1) := by decide +kernel
theorem dX5_load_45 : decode cX5_load 45 = .ok (.aload_n 0, 1) := by decide +kernel
theorem dX5_load_46 : decode cX5_load 46 = .ok (.invokevirtual 114, 3) := by decide +kernel
theorem dX5_load_49 : decode cX5_load 49 = .ok (.ifCond .eq 44, 3) := by decide +kernel
theorem dX5_load_52 : decode cX5_load 52 = .ok (.aload_n 0, 1) := by decide +kernel
theorem dX5_load_53 : decode cX5_load 53 = .ok (.getfield 7, 3) := by decide +kernel
theorem dX5_load_56 : decode cX5_load 56 = .ok (.bipush 57, 2) := by decide +kernel
theorem dX5_load_58 : decode cX5_load 58 = .ok (.bipush 65, 2) := by decide +kernel
theorem dX5_load_60 : decode cX5_load 60 = .ok (.aload_n 0, 1) := by decide +kernel
theorem dX5_load_61 : decode cX5_load 61 = .ok (.getfield 7, 3) := by decide +kernel
theorem dX5_load_64 : decode cX5_load 64 = .ok (.iconst 1, 1) := by decide +kernel
theorem dX5_load_65 : decode cX5_load 65 = .ok (.iaload, 1) := by decide +kernel
theorem dX5_load_66 : decode cX5_load 66 = .ok (.iconst 1, 1) := by decide +kernel
theorem dX5_load_67 : decode cX5_load 67 = .ok (.isub, 1) := by decide +kernel
theorem dX5_load_68 : decode cX5_load 68 = .ok (.imul, 1) := by decide +kernel
theorem dX5_load_69 : decode cX5_load 69 = .ok (.iadd, 1) := by decide +kernel
theorem dX5_load_70 : decode cX5_load 70 = .ok (.aload_n 0, 1) := by decide +kernel
theorem dX5_load_71 : decode cX5_load 71 = .ok (.getfield 111, 3) := by decide +kernel
theorem dX5_load_74 : decode cX5_load 74 = .ok (.iadd, 1) := by decide +kernel
theorem dX5_load_75 : decode cX5_load 75 = .ok (.aload_n 0, 1) := by decide +kernel
theorem dX5_load_76 : decode cX5_load 76 = .ok (.getfield 101, 3) := by decide +kernel
theorem dX5_load_79 : decode cX5_load 79 = .ok (.iastore, 1) := by decide +kernel
theorem dX5_load_80 : decode cX5_load 80 = .ok (.iinc 1 1, 3) := by decide +kernel
theorem dX5_load_83 : decode cX5_load 83 = .ok (.aload_n 0, 1) := by decide +kernel
theorem dX5_load_84 : decode cX5_load 84 = .ok (.bipush 59, 2) := by decide +kernel
theorem dX5_load_86 : decode cX5_load 86 = .ok (.invokevirtual 108, 3) := by decide +kernel
theorem dX5_load_89 : decode cX5_load 89 = .ok (.pop, 1) := by decide +kernel
theorem dX5_load_90 : decode cX5_load 90 = .ok (.goto (-45), 3) := by decide +kernel
theorem dX5_load_93 : decode cX5_load 93 = .ok (.aload_n 0, 1) := by decide +kernel
theorem dX5_load_94 : decode cX5_load 94 = .ok (.getfield 7, 3) := by decide +kernel
theorem dX5_load_97 : decode cX5_load 97 = .ok (.iconst 5, 1) := by decide +kernel
theorem dX5_load_98 : decode cX5_load 98 = .ok (.dup2, 1) := by decide +kernel
theorem dX5_load_99 : decode cX5_load 99 = .ok (.iaload, 1) := by decide +kernel
theorem dX5_load_100 : decode cX5_load 100 = .ok (.iload_n 1, 1) := by decide +kernel
theorem dX5_load_101 : decode cX5_load 101 = .ok (.iadd, 1) := by decide +kernel
theorem dX5_load_102 : decode cX5_load 102 = .ok (.iastore, 1) := by decide +kernel
theorem dX5_load_103 : decode cX5_load 103 = .ok (.aload_n 0, 1) := by decide +kernel
theorem dX5_load_104 : decode cX5_load 104 = .ok (.iconst 0, 1) := by decide +kernel
theorem dX5_load_105 : decode cX5_load 105 = .ok (.putfield 91, 3) := by decide +kernel
theorem dX5_load_108 : decode cX5_load 108 = .ok (.iload_n 1, 1) := by decide +kernel
theorem dX5_load_109 : decode cX5_load 109 = .ok (.ireturn, 1) := by decide +kernel
theorem dX5_keep_0 : decode cX5_keep 0 = .ok (.aload_n 0, 1) := by decide +kernel
theorem dX5_keep_1 : decode cX5_keep 1 = .ok (.iload_n 1, 1) := by decide +kernel
theorem dX5_keep_2 : decode cX5_keep 2 = .ok (.invokestatic 79, 3) := by decide +kernel
theorem dX5_keep_5 : decode cX5_keep 5 = .ok (.ifCond .eq 7, 3) := by decide +kernel
theorem dX5_keep_8 : decode cX5_keep 8 = .ok (.iconst 0, 1) := by decide +kernel
theorem dX5_keep_9 : decode cX5_keep 9 = .ok (.goto 4, 3) := by decide +kernel
theorem dX5_keep_12 : decode cX5_keep 12 = .ok (.iconst 1, 1) := by decide +kernel
theorem dX5_keep_13 : decode cX5_keep 13 = .ok (.invokevirtual 82, 3) := by decide +kernel
theorem dX5_keep_16 : decode cX5_keep 16 = .ok (.ifCond .ne 5, 3) := by decide +kernel
theorem dX5_keep_19 : decode cX5_keep 19 = .ok (.iconst 0, 1) := by decide +kernel
theorem dX5_keep_20 : decode cX5_keep 20 = .ok (.ireturn, 1) := by decide +kernel
theorem dX5_keep_21 : decode cX5_keep 21 = .ok (.aload_n 0, 1) := by decide +kernel
theorem dX5_keep_22 : decode cX5_keep 22 = .ok (.iconst 0, 1) := by decide +kernel
theorem dX5_keep_23 : decode cX5_keep 23 = .ok (.bipush 7, 2) := by decide +kernel
theorem dX5_keep_25 : decode cX5_keep 25 = .ok (.iload_n 1, 1) := by decide +kernel
theorem dX5_keep_26 : decode cX5_keep 26 = .ok (.iadd, 1) := by decide +kernel
theorem dX5_keep_27 : decode cX5_keep 27 = .ok (.invokevirtual 68, 3) := by decide +kernel
theorem dX5_keep_30 : decode cX5_keep 30 = .ok (.aload_n 0, 1) := by decide +kernel
theorem dX5_keep_31 : decode cX5_keep 31 = .ok (.getfield 13, 3) := by decide +kernel
theorem dX5_keep_34 : decode cX5_keep 34 = .ok (.iload_n 1, 1) := by decide +kernel
theorem dX5_keep_35 : decode cX5_keep 35 = .ok (.iconst 1, 1) := by decide +kernel
theorem dX5_keep_36 : decode cX5_keep 36 = .ok (.bastore, 1) := by decide +kernel
theorem dX5_keep_37 : decode cX5_keep 37 = .ok (.aload_n 0, 1) := by decide +kernel
theorem dX5_keep_38 : decode cX5_keep 38 = .ok (.getfield 7, 3) := by decide +kernel
theorem dX5_keep_41 : decode cX5_keep 41 = .ok (.iconst 1, 1) := by decide +kernel
theorem dX5_keep_42 : decode cX5_keep 42 = .ok (.iaload, 1) := by decide +kernel
theorem dX5_keep_43 : decode cX5_keep 43 = .ok (.ireturn, 1) := by decide +kernel
theorem dX5_goBack_0 : decode cX5_goBack 0 = .ok (.aload_n 0, 1) := by decide +kernel
theorem dX5_goBack_1 : decode cX5_goBack 1 = .ok (.iload_n 1, 1) := by decide +kernel
theorem dX5_goBack_2 : decode cX5_goBack 2 = .ok (.invokestatic 79, 3) := by decide +kernel
theorem dX5_goBack_5 : decode cX5_goBack 5 = .ok (.ifCond .ne 7, 3) := by decide +kernel
theorem dX5_goBack_8 : decode cX5_goBack 8 = .ok (.iconst 1, 1) := by decide +kernel
theorem dX5_goBack_9 : decode cX5_goBack 9 = .ok (.goto 17, 3) := by decide +kernel
theorem dX5_goBack_12 : decode cX5_goBack 12 = .ok (.aload_n 0, 1) := by decide +kernel
theorem dX5_goBack_13 : decode cX5_goBack 13 = .ok (.getfield 13, 3) := by decide +kernel
theorem dX5_goBack_16 : decode cX5_goBack 16 = .ok (.iload_n 1, 1) := by decide +kernel
theorem dX5_goBack_17 : decode cX5_goBack 17 = .ok (.baload, 1) := by decide +kernel
theorem dX5_goBack_18 : decode cX5_goBack 18 = .ok (.ifCond .ne 7, 3) := by decide +kernel
theorem dX5_goBack_21 : decode cX5_goBack 21 = .ok (.iconst 2, 1) := by decide +kernel
theorem dX5_goBack_22 : decode cX5_goBack 22 = .ok (.goto 4, 3) := by decide +kernel
theorem dX5_goBack_25 : decode cX5_goBack 25 = .ok (.iconst 0, 1) := by decide +kernel
theorem dX5_goBack_26 : decode cX5_goBack 26 = .ok (.invokevirtual 82, 3) := by decide +kernel
theorem dX5_goBack_29 : decode cX5_goBack 29 = .ok (.ifCond .ne 5, 3) := by decide +kernel
theorem dX5_goBack_32 : decode cX5_goBack 32 = .ok (.iconst 0, 1) := by decide +kernel
theorem dX5_goBack_33 : decode cX5_goBack 33 = .ok (.ireturn, 1) := by decide +kernel
theorem dX5_goBack_34 : decode cX5_goBack 34 = .ok (.aload_n 0, 1) := by decide +kernel
theorem dX5_goBack_35 : decode cX5_goBack 35 = .ok (.invokevirtual 72, 3) := by decide +kernel
theorem dX5_goBack_38 : decode cX5_goBack 38 = .ok (.aload_n 0, 1) := by decide +kernel
theorem dX5_goBack_39 : decode cX5_goBack 39 = .ok (.bipush 7, 2) := by decide +kernel
theorem dX5_goBack_41 : decode cX5_goBack 41 = .ok (.iload_n 1, 1) := by decide +kernel
theorem dX5_goBack_42 : decode cX5_goBack 42 = .ok (.iadd, 1) := by decide +kernel
theorem dX5_goBack_43 : decode cX5_goBack 43 = .ok (.iconst 0, 1) := by decide +kernel
theorem dX5_goBack_44 : decode cX5_goBack 44 = .ok (.invokevirtual 68, 3) := by decide +kernel
theorem dX5_goBack_47 : decode cX5_goBack 47 = .ok (.aload_n 0, 1) := by decide +kernel
theorem dX5_goBack_48 : decode cX5_goBack 48 = .ok (.getfield 7, 3) := by decide +kernel
theorem dX5_goBack_51 : decode cX5_goBack 51 = .ok (.iconst 1, 1) := by decide +kernel
theorem dX5_goBack_52 : decode cX5_goBack 52 = .ok (.iaload, 1) := by decide +kernel
theorem dX5_goBack_53 : decode cX5_goBack 53 = .ok (.ireturn, 1) := by decide +kernel
theorem dX5_undo_0 : decode cX5_undo 0 = .ok (.aload_n 0, 1) := by decide +kernel
theorem dX5_undo_1 : decode cX5_undo 1 = .ok (.aload_n 0, 1) := by decide +kernel
theorem dX5_undo_2 : decode cX5_undo 2 = .ok (.getfield 65, 3) := by decide +kernel
theorem dX5_undo_5 : decode cX5_undo 5 = .ok (.ifCond .le 7, 3) := by decide +kernel
theorem dX5_undo_8 : decode cX5_undo 8 = .ok (.iconst 0, 1) := by decide +kernel
theorem dX5_undo_9 : decode cX5_undo 9 = .ok (.goto 4, 3) := by decide +kernel
theorem dX5_undo_12 : decode cX5_undo 12 = .ok (.iconst 1, 1) := by decide +kernel
theorem dX5_undo_13 : decode cX5_undo 13 = .ok (.invokevirtual 82, 3) := by decide +kernel
theorem dX5_undo_16 : decode cX5_undo 16 = .ok (.ifCond .ne 5, 3) := by decide +kernel
theorem dX5_undo_19 : decode cX5_undo 19 = .ok (.iconst 0, 1) := by decide +kernel
theorem dX5_undo_20 : decode cX5_undo 20 = .ok (.ireturn, 1) := by decide +kernel
theorem dX5_undo_21 : decode cX5_undo 21 = .ok (.aload_n 0, 1) := by decide +kernel
theorem dX5_undo_22 : decode cX5_undo 22 = .ok (.aload_n 0, 1) := by decide +kernel
theorem dX5_undo_23 : decode cX5_undo 23 = .ok (.getfield 65, 3) := by decide +kernel
theorem dX5_undo_26 : decode cX5_undo 26 = .ok (.iconst 0, 1) := by decide +kernel
theorem dX5_undo_27 : decode cX5_undo 27 = .ok (.invokevirtual 68, 3) := by decide +kernel
theorem dX5_undo_30 : decode cX5_undo 30 = .ok (.aload_n 0, 1) := by decide +kernel
theorem dX5_undo_31 : decode cX5_undo 31 = .ok (.dup, 1) := by decide +kernel
theorem dX5_undo_32 : decode cX5_undo 32 = .ok (.getfield 65, 3) := by decide +kernel
theorem dX5_undo_35 : decode cX5_undo 35 = .ok (.iconst 1, 1) := by decide +kernel
theorem dX5_undo_36 : decode cX5_undo 36 = .ok (.isub, 1) := by decide +kernel
theorem dX5_undo_37 : decode cX5_undo 37 = .ok (.putfield 65, 3) := by decide +kernel
theorem dX5_undo_40 : decode cX5_undo 40 = .ok (.aload_n 0, 1) := by decide +kernel
theorem dX5_undo_41 : decode cX5_undo 41 = .ok (.getfield 65, 3) := by decide +kernel
theorem dX5_undo_44 : decode cX5_undo 44 = .ok (.ireturn, 1) := by decide +kernel
theorem dX5_ofLevel_0 : decode cX5_ofLevel 0 = .ok (.iload_n 2, 1) := by decide +kernel
theorem dX5_ofLevel_1 : decode cX5_ofLevel 1 = .ok (.iconst 3, 1) := by decide +kernel
theorem dX5_ofLevel_2 : decode cX5_ofLevel 2 = .ok (.if_icmp .ge 19, 3) := by decide +kernel
theorem dX5_ofLevel_5 : decode cX5_ofLevel 5 = .ok (.aload_n 0, 1) := by decide +kernel
theorem dX5_ofLevel_6 : decode cX5_ofLevel 6 = .ok (.getfield 7, 3) := by decide +kernel
theorem dX5_ofLevel_9 : decode cX5_ofLevel 9 = .ok (.bipush 9, 2) := by decide +kernel
theorem dX5_ofLevel_11 : decode cX5_ofLevel 11 = .ok (.iconst 3, 1) := by decide +kernel
theorem dX5_ofLevel_12 : decode cX5_ofLevel 12 = .ok (.iload_n 1, 1) := by decide +kernel
theorem dX5_ofLevel_13 : decode cX5_ofLevel 13 = .ok (.imul, 1) := by decide +kernel
theorem dX5_ofLevel_14 : decode cX5_ofLevel 14 = .ok (.iadd, 1) := by decide +kernel
theorem dX5_ofLevel_15 : decode cX5_ofLevel 15 = .ok (.iload_n 2, 1) := by decide +kernel
theorem dX5_ofLevel_16 : decode cX5_ofLevel 16 = .ok (.iadd, 1) := by decide +kernel
theorem dX5_ofLevel_17 : decode cX5_ofLevel 17 = .ok (.iaload, 1) := by decide +kernel
theorem dX5_ofLevel_18 : decode cX5_ofLevel 18 = .ok (.goto 18, 3) := by decide +kernel
theorem dX5_ofLevel_21 : decode cX5_ofLevel 21 = .ok (.aload_n 0, 1) := by decide +kernel
theorem dX5_ofLevel_22 : decode cX5_ofLevel 22 = .ok (.iload_n 1, 1) := by decide +kernel
theorem dX5_ofLevel_23 : decode cX5_ofLevel 23 = .ok (.iload_n 2, 1) := by decide +kernel
theorem dX5_ofLevel_24 : decode cX5_ofLevel 24 = .ok (.iconst 3, 1) := by decide +kernel
theorem dX5_ofLevel_25 : decode cX5_ofLevel 25 = .ok (.isub, 1) := by decide +kernel
theorem dX5_ofLevel_26 : decode cX5_ofLevel 26 = .ok (.iconst 2, 1) := by decide +kernel
theorem dX5_ofLevel_27 : decode cX5_ofLevel 27 = .ok (.idiv, 1) := by decide +kernel
theorem dX5_ofLevel_28 : decode cX5_ofLevel 28 = .ok (.iload_n 2, 1) := by decide +kernel
theorem dX5_ofLevel_29 : decode cX5_ofLevel 29 = .ok (.iconst 3, 1) := by decide +kernel
theorem dX5_ofLevel_30 : decode cX5_ofLevel 30 = .ok (.isub, 1) := by decide +kernel
theorem dX5_ofLevel_31 : decode cX5_ofLevel 31 = .ok (.iconst 2, 1) := by decide +kernel
theorem dX5_ofLevel_32 : decode cX5_ofLevel 32 = .ok (.irem, 1) := by decide +kernel
theorem dX5_ofLevel_33 : decode cX5_ofLevel 33 = .ok (.invokevirtual 88, 3) := by decide +kernel
theorem dX5_ofLevel_36 : decode cX5_ofLevel 36 = .ok (.ireturn, 1) := by decide +kernel
theorem dX5_levelOf_0 : decode cX5_levelOf 0 = .ok (.aload_n 0, 1) := by decide +kernel
theorem dX5_levelOf_1 : decode cX5_levelOf 1 = .ok (.iload_n 1, 1) := by decide +kernel
theorem dX5_levelOf_2 : decode cX5_levelOf 2 = .ok (.invokestatic 75, 3) := by decide +kernel
theorem dX5_levelOf_5 : decode cX5_levelOf 5 = .ok (.ifCond .ne 7, 3) := by decide +kernel
theorem dX5_levelOf_8 : decode cX5_levelOf 8 = .ok (.iconst 1, 1) := by decide +kernel
theorem dX5_levelOf_9 : decode cX5_levelOf 9 = .ok (.goto 18, 3) := by decide +kernel
theorem dX5_levelOf_12 : decode cX5_levelOf 12 = .ok (.iload_n 2, 1) := by decide +kernel
theorem dX5_levelOf_13 : decode cX5_levelOf 13 = .ok (.iconst 0, 1) := by decide +kernel
theorem dX5_levelOf_14 : decode cX5_levelOf 14 = .ok (.bipush 6, 2) := by decide +kernel
theorem dX5_levelOf_16 : decode cX5_levelOf 16 = .ok (.invokestatic 24, 3) := by decide +kernel
theorem dX5_levelOf_19 : decode cX5_levelOf 19 = .ok (.ifCond .ne 7, 3) := by decide +kernel
theorem dX5_levelOf_22 : decode cX5_levelOf 22 = .ok (.iconst 2, 1) := by decide +kernel
theorem dX5_levelOf_23 : decode cX5_levelOf 23 = .ok (.goto 4, 3) := by decide +kernel
theorem dX5_levelOf_26 : decode cX5_levelOf 26 = .ok (.iconst 0, 1) := by decide +kernel
theorem dX5_levelOf_27 : decode cX5_levelOf 27 = .ok (.invokevirtual 82, 3) := by decide +kernel
theorem dX5_levelOf_30 : decode cX5_levelOf 30 = .ok (.ifCond .eq 12, 3) := by decide +kernel
theorem dX5_levelOf_33 : decode cX5_levelOf 33 = .ok (.aload_n 0, 1) := by decide +kernel
theorem dX5_levelOf_34 : decode cX5_levelOf 34 = .ok (.iload_n 1, 1) := by decide +kernel
theorem dX5_levelOf_35 : decode cX5_levelOf 35 = .ok (.iload_n 2, 1) := by decide +kernel
theorem dX5_levelOf_36 : decode cX5_levelOf 36 = .ok (.invokevirtual 121, 3) := by decide +kernel
theorem dX5_levelOf_39 : decode cX5_levelOf 39 = .ok (.goto 4, 3) := by decide +kernel
theorem dX5_levelOf_42 : decode cX5_levelOf 42 = .ok (.iconst 0, 1) := by decide +kernel
theorem dX5_levelOf_43 : decode cX5_levelOf 43 = .ok (.ireturn, 1) := by decide +kernel
theorem dX5_ofReading_0 : decode cX5_ofReading 0 = .ok (.iload 4, 2) := by decide +kernel
theorem dX5_ofReading_2 : decode cX5_ofReading 2 = .ok (.tableswitch 76 0 4 #[34, 34, 44, 52, 68], 34) := by decide +kernel
theorem dX5_ofReading_36 : decode cX5_ofReading 36 = .ok (.aload_n 0, 1) := by decide +kernel
theorem dX5_ofReading_37 : decode cX5_ofReading 37 = .ok (.iload_n 1, 1) := by decide +kernel
theorem dX5_ofReading_38 : decode cX5_ofReading 38 = .ok (.iload_n 2, 1) := by decide +kernel
theorem dX5_ofReading_39 : decode cX5_ofReading 39 = .ok (.iload_n 3, 1) := by decide +kernel
theorem dX5_ofReading_40 : decode cX5_ofReading 40 = .ok (.iload 4, 2) := by decide +kernel
theorem dX5_ofReading_42 : decode cX5_ofReading 42 = .ok (.invokevirtual 43, 3) := by decide +kernel
theorem dX5_ofReading_45 : decode cX5_ofReading 45 = .ok (.ireturn, 1) := by decide +kernel
theorem dX5_ofReading_46 : decode cX5_ofReading 46 = .ok (.aload_n 0, 1) := by decide +kernel
theorem dX5_ofReading_47 : decode cX5_ofReading 47 = .ok (.iload_n 1, 1) := by decide +kernel
theorem dX5_ofReading_48 : decode cX5_ofReading 48 = .ok (.iload_n 2, 1) := by decide +kernel
theorem dX5_ofReading_49 : decode cX5_ofReading 49 = .ok (.iload_n 3, 1) := by decide +kernel
theorem dX5_ofReading_50 : decode cX5_ofReading 50 = .ok (.invokevirtual 47, 3) := by decide +kernel
theorem dX5_ofReading_53 : decode cX5_ofReading 53 = .ok (.ireturn, 1) := by decide +kernel
theorem dX5_ofReading_54 : decode cX5_ofReading 54 = .ok (.aload_n 0, 1) := by decide +kernel
theorem dX5_ofReading_55 : decode cX5_ofReading 55 = .ok (.iload_n 1, 1) := by decide +kernel
theorem dX5_ofReading_56 : decode cX5_ofReading 56 = .ok (.iload_n 2, 1) := by decide +kernel
theorem dX5_ofReading_57 : decode cX5_ofReading 57 = .ok (.iload_n 3, 1) := by decide +kernel
theorem dX5_ofReading_58 : decode cX5_ofReading 58 = .ok (.invokevirtual 56, 3) := by decide +kernel
theorem dX5_ofReading_61 : decode cX5_ofReading 61 = .ok (.ifCond .eq 7, 3) := by decide +kernel
theorem dX5_ofReading_64 : decode cX5_ofReading 64 = .ok (.iconst 1, 1) := by decide +kernel
theorem dX5_ofReading_65 : decode cX5_ofReading 65 = .ok (.goto 4, 3) := by decide +kernel
theorem dX5_ofReading_68 : decode cX5_ofReading 68 = .ok (.iconst 0, 1) := by decide +kernel
theorem dX5_ofReading_69 : decode cX5_ofReading 69 = .ok (.ireturn, 1) := by decide +kernel
theorem dX5_ofReading_70 : decode cX5_ofReading 70 = .ok (.aload_n 0, 1) := by decide +kernel
theorem dX5_ofReading_71 : decode cX5_ofReading 71 = .ok (.iload_n 1, 1) := by decide +kernel
theorem dX5_ofReading_72 : decode cX5_ofReading 72 = .ok (.iload_n 2, 1) := by decide +kernel
theorem dX5_ofReading_73 : decode cX5_ofReading 73 = .ok (.iload_n 3, 1) := by decide +kernel
theorem dX5_ofReading_74 : decode cX5_ofReading 74 = .ok (.invokevirtual 59, 3) := by decide +kernel
theorem dX5_ofReading_77 : decode cX5_ofReading 77 = .ok (.ireturn, 1) := by decide +kernel
theorem dX5_ofReading_78 : decode cX5_ofReading 78 = .ok (.aload_n 0, 1) := by decide +kernel
theorem dX5_ofReading_79 : decode cX5_ofReading 79 = .ok (.iload_n 1, 1) := by decide +kernel
theorem dX5_ofReading_80 : decode cX5_ofReading 80 = .ok (.iload_n 2, 1) := by decide +kernel
theorem dX5_ofReading_81 : decode cX5_ofReading 81 = .ok (.iload_n 3, 1) := by decide +kernel
theorem dX5_ofReading_82 : decode cX5_ofReading 82 = .ok (.invokevirtual 62, 3) := by decide +kernel
theorem dX5_ofReading_85 : decode cX5_ofReading 85 = .ok (.ireturn, 1) := by decide +kernel
theorem dX5_reading_0 : decode cX5_reading 0 = .ok (.aload_n 0, 1) := by decide +kernel
theorem dX5_reading_1 : decode cX5_reading 1 = .ok (.iload_n 1, 1) := by decide +kernel
theorem dX5_reading_2 : decode cX5_reading 2 = .ok (.invokevirtual 124, 3) := by decide +kernel
theorem dX5_reading_5 : decode cX5_reading 5 = .ok (.ifCond .eq 21, 3) := by decide +kernel
theorem dX5_reading_8 : decode cX5_reading 8 = .ok (.iload_n 2, 1) := by decide +kernel
theorem dX5_reading_9 : decode cX5_reading 9 = .ok (.invokestatic 75, 3) := by decide +kernel
theorem dX5_reading_12 : decode cX5_reading 12 = .ok (.ifCond .eq 14, 3) := by decide +kernel
theorem dX5_reading_15 : decode cX5_reading 15 = .ok (.iload_n 3, 1) := by decide +kernel
theorem dX5_reading_16 : decode cX5_reading 16 = .ok (.invokestatic 79, 3) := by decide +kernel
theorem dX5_reading_19 : decode cX5_reading 19 = .ok (.ifCond .eq 7, 3) := by decide +kernel
theorem dX5_reading_22 : decode cX5_reading 22 = .ok (.iconst 1, 1) := by decide +kernel
theorem dX5_reading_23 : decode cX5_reading 23 = .ok (.goto 4, 3) := by decide +kernel
theorem dX5_reading_26 : decode cX5_reading 26 = .ok (.iconst 0, 1) := by decide +kernel
theorem dX5_reading_27 : decode cX5_reading 27 = .ok (.istore 5, 2) := by decide +kernel
theorem dX5_reading_29 : decode cX5_reading 29 = .ok (.aload_n 0, 1) := by decide +kernel
theorem dX5_reading_30 : decode cX5_reading 30 = .ok (.iload 5, 2) := by decide +kernel
theorem dX5_reading_32 : decode cX5_reading 32 = .ok (.ifCond .ne 7, 3) := by decide +kernel
theorem dX5_reading_35 : decode cX5_reading 35 = .ok (.iconst 1, 1) := by decide +kernel
theorem dX5_reading_36 : decode cX5_reading 36 = .ok (.goto 18, 3) := by decide +kernel
theorem dX5_reading_39 : decode cX5_reading 39 = .ok (.iload 4, 2) := by decide +kernel
theorem dX5_reading_41 : decode cX5_reading 41 = .ok (.iconst 0, 1) := by decide +kernel
theorem dX5_reading_42 : decode cX5_reading 42 = .ok (.iconst 5, 1) := by decide +kernel
theorem dX5_reading_43 : decode cX5_reading 43 = .ok (.invokestatic 24, 3) := by decide +kernel
theorem dX5_reading_46 : decode cX5_reading 46 = .ok (.ifCond .ne 7, 3) := by decide +kernel
theorem dX5_reading_49 : decode cX5_reading 49 = .ok (.iconst 2, 1) := by decide +kernel
theorem dX5_reading_50 : decode cX5_reading 50 = .ok (.goto 4, 3) := by decide +kernel
theorem dX5_reading_53 : decode cX5_reading 53 = .ok (.iconst 0, 1) := by decide +kernel
theorem dX5_reading_54 : decode cX5_reading 54 = .ok (.invokevirtual 82, 3) := by decide +kernel
theorem dX5_reading_57 : decode cX5_reading 57 = .ok (.ifCond .eq 15, 3) := by decide +kernel
theorem dX5_reading_60 : decode cX5_reading 60 = .ok (.aload_n 0, 1) := by decide +kernel
theorem dX5_reading_61 : decode cX5_reading 61 = .ok (.iload_n 1, 1) := by decide +kernel
theorem dX5_reading_62 : decode cX5_reading 62 = .ok (.iload_n 2, 1) := by decide +kernel
theorem dX5_reading_63 : decode cX5_reading 63 = .ok (.iload_n 3, 1) := by decide +kernel
theorem dX5_reading_64 : decode cX5_reading 64 = .ok (.iload 4, 2) := by decide +kernel
theorem dX5_reading_66 : decode cX5_reading 66 = .ok (.invokevirtual 127, 3) := by decide +kernel
theorem dX5_reading_69 : decode cX5_reading 69 = .ok (.goto 4, 3) := by decide +kernel
theorem dX5_reading_72 : decode cX5_reading 72 = .ok (.iconst 0, 1) := by decide +kernel
theorem dX5_reading_73 : decode cX5_reading 73 = .ok (.ireturn, 1) := by decide +kernel
theorem dX5_suspicious_0 : decode cX5_suspicious 0 = .ok (.iconst 0, 1) := by decide +kernel
theorem dX5_suspicious_1 : decode cX5_suspicious 1 = .ok (.istore_n 2, 1) := by decide +kernel
theorem dX5_suspicious_2 : decode cX5_suspicious 2 = .ok (.iconst 0, 1) := by decide +kernel
theorem dX5_suspicious_3 : decode cX5_suspicious 3 = .ok (.istore_n 3, 1) := by decide +kernel
theorem dX5_suspicious_4 : decode cX5_suspicious 4 = .ok (.iload_n 3, 1) := by decide +kernel
theorem dX5_suspicious_5 : decode cX5_suspicious 5 = .ok (.bipush 32, 2) := by decide +kernel
theorem dX5_suspicious_7 : decode cX5_suspicious 7 = .ok (.if_icmp .ge 31, 3) := by decide +kernel
theorem dX5_suspicious_10 : decode cX5_suspicious 10 = .ok (.iload_n 2, 1) := by decide +kernel
theorem dX5_suspicious_11 : decode cX5_suspicious 11 = .ok (.aload_n 0, 1) := by decide +kernel
theorem dX5_suspicious_12 : decode cX5_suspicious 12 = .ok (.iload_n 1, 1) := by decide +kernel
theorem dX5_suspicious_13 : decode cX5_suspicious 13 = .ok (.iload_n 3, 1) := by decide +kernel
theorem dX5_suspicious_14 : decode cX5_suspicious 14 = .ok (.iconst 2, 1) := by decide +kernel
theorem dX5_suspicious_15 : decode cX5_suspicious 15 = .ok (.idiv, 1) := by decide +kernel
theorem dX5_suspicious_16 : decode cX5_suspicious 16 = .ok (.iload_n 3, 1) := by decide +kernel
theorem dX5_suspicious_17 : decode cX5_suspicious 17 = .ok (.iconst 2, 1) := by decide +kernel
theorem dX5_suspicious_18 : decode cX5_suspicious 18 = .ok (.irem, 1) := by decide +kernel
theorem dX5_suspicious_19 : decode cX5_suspicious 19 = .ok (.invokevirtual 56, 3) := by decide +kernel
theorem dX5_suspicious_22 : decode cX5_suspicious 22 = .ok (.ifCond .eq 7, 3) := by decide +kernel
theorem dX5_suspicious_25 : decode cX5_suspicious 25 = .ok (.iconst 1, 1) := by decide +kernel
theorem dX5_suspicious_26 : decode cX5_suspicious 26 = .ok (.goto 4, 3) := by decide +kernel
theorem dX5_suspicious_29 : decode cX5_suspicious 29 = .ok (.iconst 0, 1) := by decide +kernel
theorem dX5_suspicious_30 : decode cX5_suspicious 30 = .ok (.iadd, 1) := by decide +kernel
theorem dX5_suspicious_31 : decode cX5_suspicious 31 = .ok (.istore_n 2, 1) := by decide +kernel
theorem dX5_suspicious_32 : decode cX5_suspicious 32 = .ok (.iinc 3 1, 3) := by decide +kernel
theorem dX5_suspicious_35 : decode cX5_suspicious 35 = .ok (.goto (-31), 3) := by decide +kernel
theorem dX5_suspicious_38 : decode cX5_suspicious 38 = .ok (.iload_n 2, 1) := by decide +kernel
theorem dX5_suspicious_39 : decode cX5_suspicious 39 = .ok (.ireturn, 1) := by decide +kernel
theorem dX5_worstLevel_0 : decode cX5_worstLevel 0 = .ok (.iconst 0, 1) := by decide +kernel
theorem dX5_worstLevel_1 : decode cX5_worstLevel 1 = .ok (.istore_n 2, 1) := by decide +kernel
theorem dX5_worstLevel_2 : decode cX5_worstLevel 2 = .ok (.iconst 0, 1) := by decide +kernel
theorem dX5_worstLevel_3 : decode cX5_worstLevel 3 = .ok (.istore_n 3, 1) := by decide +kernel
theorem dX5_worstLevel_4 : decode cX5_worstLevel 4 = .ok (.iconst 0, 1) := by decide +kernel
theorem dX5_worstLevel_5 : decode cX5_worstLevel 5 = .ok (.istore 4, 2) := by decide +kernel
theorem dX5_worstLevel_7 : decode cX5_worstLevel 7 = .ok (.iload 4, 2) := by decide +kernel
theorem dX5_worstLevel_9 : decode cX5_worstLevel 9 = .ok (.bipush 32, 2) := by decide +kernel
theorem dX5_worstLevel_11 : decode cX5_worstLevel 11 = .ok (.if_icmp .ge 65, 3) := by decide +kernel
theorem dX5_worstLevel_14 : decode cX5_worstLevel 14 = .ok (.aload_n 0, 1) := by decide +kernel
theorem dX5_worstLevel_15 : decode cX5_worstLevel 15 = .ok (.iload_n 1, 1) := by decide +kernel
theorem dX5_worstLevel_16 : decode cX5_worstLevel 16 = .ok (.iload 4, 2) := by decide +kernel
theorem dX5_worstLevel_18 : decode cX5_worstLevel 18 = .ok (.iconst 2, 1) := by decide +kernel
theorem dX5_worstLevel_19 : decode cX5_worstLevel 19 = .ok (.idiv, 1) := by decide +kernel
theorem dX5_worstLevel_20 : decode cX5_worstLevel 20 = .ok (.iload 4, 2) := by decide +kernel
theorem dX5_worstLevel_22 : decode cX5_worstLevel 22 = .ok (.iconst 2, 1) := by decide +kernel
theorem dX5_worstLevel_23 : decode cX5_worstLevel 23 = .ok (.irem, 1) := by decide +kernel
theorem dX5_worstLevel_24 : decode cX5_worstLevel 24 = .ok (.invokevirtual 47, 3) := by decide +kernel
theorem dX5_worstLevel_27 : decode cX5_worstLevel 27 = .ok (.aload_n 0, 1) := by decide +kernel
theorem dX5_worstLevel_28 : decode cX5_worstLevel 28 = .ok (.iload_n 1, 1) := by decide +kernel
theorem dX5_worstLevel_29 : decode cX5_worstLevel 29 = .ok (.iload 4, 2) := by decide +kernel
theorem dX5_worstLevel_31 : decode cX5_worstLevel 31 = .ok (.iconst 2, 1) := by decide +kernel
theorem dX5_worstLevel_32 : decode cX5_worstLevel 32 = .ok (.irem, 1) := by decide +kernel
theorem dX5_worstLevel_33 : decode cX5_worstLevel 33 = .ok (.invokevirtual 50, 3) := by decide +kernel
theorem dX5_worstLevel_36 : decode cX5_worstLevel 36 = .ok (.isub, 1) := by decide +kernel
theorem dX5_worstLevel_37 : decode cX5_worstLevel 37 = .ok (.invokestatic 53, 3) := by decide +kernel
theorem dX5_worstLevel_40 : decode cX5_worstLevel 40 = .ok (.istore 5, 2) := by decide +kernel
theorem dX5_worstLevel_42 : decode cX5_worstLevel 42 = .ok (.iload 5, 2) := by decide +kernel
theorem dX5_worstLevel_44 : decode cX5_worstLevel 44 = .ok (.iload_n 3, 1) := by decide +kernel
theorem dX5_worstLevel_45 : decode cX5_worstLevel 45 = .ok (.if_icmp .le 10, 3) := by decide +kernel
theorem dX5_worstLevel_48 : decode cX5_worstLevel 48 = .ok (.iload 4, 2) := by decide +kernel
theorem dX5_worstLevel_50 : decode cX5_worstLevel 50 = .ok (.iconst 2, 1) := by decide +kernel
theorem dX5_worstLevel_51 : decode cX5_worstLevel 51 = .ok (.idiv, 1) := by decide +kernel
theorem dX5_worstLevel_52 : decode cX5_worstLevel 52 = .ok (.goto 4, 3) := by decide +kernel
theorem dX5_worstLevel_55 : decode cX5_worstLevel 55 = .ok (.iload_n 2, 1) := by decide +kernel
theorem dX5_worstLevel_56 : decode cX5_worstLevel 56 = .ok (.istore_n 2, 1) := by decide +kernel
theorem dX5_worstLevel_57 : decode cX5_worstLevel 57 = .ok (.iload 5, 2) := by decide +kernel
theorem dX5_worstLevel_59 : decode cX5_worstLevel 59 = .ok (.iload_n 3, 1) := by decide +kernel
theorem dX5_worstLevel_60 : decode cX5_worstLevel 60 = .ok (.if_icmp .le 8, 3) := by decide +kernel
theorem dX5_worstLevel_63 : decode cX5_worstLevel 63 = .ok (.iload 5, 2) := by decide +kernel
theorem dX5_worstLevel_65 : decode cX5_worstLevel 65 = .ok (.goto 4, 3) := by decide +kernel
theorem dX5_worstLevel_68 : decode cX5_worstLevel 68 = .ok (.iload_n 3, 1) := by decide +kernel
theorem dX5_worstLevel_69 : decode cX5_worstLevel 69 = .ok (.istore_n 3, 1) := by decide +kernel
theorem dX5_worstLevel_70 : decode cX5_worstLevel 70 = .ok (.iinc 4 1, 3) := by decide +kernel
theorem dX5_worstLevel_73 : decode cX5_worstLevel 73 = .ok (.goto (-66), 3) := by decide +kernel
theorem dX5_worstLevel_76 : decode cX5_worstLevel 76 = .ok (.iload_n 2, 1) := by decide +kernel
theorem dX5_worstLevel_77 : decode cX5_worstLevel 77 = .ok (.ireturn, 1) := by decide +kernel
theorem dX5_ofSurvey_0 : decode cX5_ofSurvey 0 = .ok (.iload_n 2, 1) := by decide +kernel
theorem dX5_ofSurvey_1 : decode cX5_ofSurvey 1 = .ok (.tableswitch 59 0 3 #[31, 44, 44, 53], 31) := by decide +kernel
theorem dX5_ofSurvey_32 : decode cX5_ofSurvey 32 = .ok (.aload_n 0, 1) := by decide +kernel
theorem dX5_ofSurvey_33 : decode cX5_ofSurvey 33 = .ok (.getfield 7, 3) := by decide +kernel
theorem dX5_ofSurvey_36 : decode cX5_ofSurvey 36 = .ok (.bipush 57, 2) := by decide +kernel
theorem dX5_ofSurvey_38 : decode cX5_ofSurvey 38 = .ok (.bipush 65, 2) := by decide +kernel
theorem dX5_ofSurvey_40 : decode cX5_ofSurvey 40 = .ok (.iload_n 1, 1) := by decide +kernel
theorem dX5_ofSurvey_41 : decode cX5_ofSurvey 41 = .ok (.imul, 1) := by decide +kernel
theorem dX5_ofSurvey_42 : decode cX5_ofSurvey 42 = .ok (.iadd, 1) := by decide +kernel
theorem dX5_ofSurvey_43 : decode cX5_ofSurvey 43 = .ok (.iaload, 1) := by decide +kernel
theorem dX5_ofSurvey_44 : decode cX5_ofSurvey 44 = .ok (.ireturn, 1) := by decide +kernel
theorem dX5_ofSurvey_45 : decode cX5_ofSurvey 45 = .ok (.aload_n 0, 1) := by decide +kernel
theorem dX5_ofSurvey_46 : decode cX5_ofSurvey 46 = .ok (.iload_n 1, 1) := by decide +kernel
theorem dX5_ofSurvey_47 : decode cX5_ofSurvey 47 = .ok (.iload_n 2, 1) := by decide +kernel
theorem dX5_ofSurvey_48 : decode cX5_ofSurvey 48 = .ok (.iconst 1, 1) := by decide +kernel
theorem dX5_ofSurvey_49 : decode cX5_ofSurvey 49 = .ok (.isub, 1) := by decide +kernel
theorem dX5_ofSurvey_50 : decode cX5_ofSurvey 50 = .ok (.invokevirtual 50, 3) := by decide +kernel
theorem dX5_ofSurvey_53 : decode cX5_ofSurvey 53 = .ok (.ireturn, 1) := by decide +kernel
theorem dX5_ofSurvey_54 : decode cX5_ofSurvey 54 = .ok (.aload_n 0, 1) := by decide +kernel
theorem dX5_ofSurvey_55 : decode cX5_ofSurvey 55 = .ok (.iload_n 1, 1) := by decide +kernel
theorem dX5_ofSurvey_56 : decode cX5_ofSurvey 56 = .ok (.invokevirtual 130, 3) := by decide +kernel
theorem dX5_ofSurvey_59 : decode cX5_ofSurvey 59 = .ok (.ireturn, 1) := by decide +kernel
theorem dX5_ofSurvey_60 : decode cX5_ofSurvey 60 = .ok (.aload_n 0, 1) := by decide +kernel
theorem dX5_ofSurvey_61 : decode cX5_ofSurvey 61 = .ok (.iload_n 1, 1) := by decide +kernel
theorem dX5_ofSurvey_62 : decode cX5_ofSurvey 62 = .ok (.invokevirtual 133, 3) := by decide +kernel
theorem dX5_ofSurvey_65 : decode cX5_ofSurvey 65 = .ok (.ireturn, 1) := by decide +kernel
theorem dX5_surveyOf_0 : decode cX5_surveyOf 0 = .ok (.aload_n 0, 1) := by decide +kernel
theorem dX5_surveyOf_1 : decode cX5_surveyOf 1 = .ok (.aload_n 0, 1) := by decide +kernel
theorem dX5_surveyOf_2 : decode cX5_surveyOf 2 = .ok (.iload_n 1, 1) := by decide +kernel
theorem dX5_surveyOf_3 : decode cX5_surveyOf 3 = .ok (.invokevirtual 124, 3) := by decide +kernel
theorem dX5_surveyOf_6 : decode cX5_surveyOf 6 = .ok (.ifCond .ne 7, 3) := by decide +kernel
theorem dX5_surveyOf_9 : decode cX5_surveyOf 9 = .ok (.iconst 1, 1) := by decide +kernel
theorem dX5_surveyOf_10 : decode cX5_surveyOf 10 = .ok (.goto 17, 3) := by decide +kernel
theorem dX5_surveyOf_13 : decode cX5_surveyOf 13 = .ok (.iload_n 2, 1) := by decide +kernel
theorem dX5_surveyOf_14 : decode cX5_surveyOf 14 = .ok (.iconst 0, 1) := by decide +kernel
theorem dX5_surveyOf_15 : decode cX5_surveyOf 15 = .ok (.iconst 4, 1) := by decide +kernel
theorem dX5_surveyOf_16 : decode cX5_surveyOf 16 = .ok (.invokestatic 24, 3) := by decide +kernel
theorem dX5_surveyOf_19 : decode cX5_surveyOf 19 = .ok (.ifCond .ne 7, 3) := by decide +kernel
theorem dX5_surveyOf_22 : decode cX5_surveyOf 22 = .ok (.iconst 2, 1) := by decide +kernel
theorem dX5_surveyOf_23 : decode cX5_surveyOf 23 = .ok (.goto 4, 3) := by decide +kernel
theorem dX5_surveyOf_26 : decode cX5_surveyOf 26 = .ok (.iconst 0, 1) := by decide +kernel
theorem dX5_surveyOf_27 : decode cX5_surveyOf 27 = .ok (.invokevirtual 82, 3) := by decide +kernel
theorem dX5_surveyOf_30 : decode cX5_surveyOf 30 = .ok (.ifCond .eq 12, 3) := by decide +kernel
theorem dX5_surveyOf_33 : decode cX5_surveyOf 33 = .ok (.aload_n 0, 1) := by decide +kernel
theorem dX5_surveyOf_34 : decode cX5_surveyOf 34 = .ok (.iload_n 1, 1) := by decide +kernel
theorem dX5_surveyOf_35 : decode cX5_surveyOf 35 = .ok (.iload_n 2, 1) := by decide +kernel
theorem dX5_surveyOf_36 : decode cX5_surveyOf 36 = .ok (.invokevirtual 136, 3) := by decide +kernel
theorem dX5_surveyOf_39 : decode cX5_surveyOf 39 = .ok (.goto 4, 3) := by decide +kernel
theorem dX5_surveyOf_42 : decode cX5_surveyOf 42 = .ok (.iconst 0, 1) := by decide +kernel
theorem dX5_surveyOf_43 : decode cX5_surveyOf 43 = .ok (.ireturn, 1) := by decide +kernel
theorem dX5_place_0 : decode cX5_place 0 = .ok (.aload_n 0, 1) := by decide +kernel
theorem dX5_place_1 : decode cX5_place 1 = .ok (.iload_n 1, 1) := by decide +kernel
theorem dX5_place_2 : decode cX5_place 2 = .ok (.invokevirtual 124, 3) := by decide +kernel
theorem dX5_place_5 : decode cX5_place 5 = .ok (.ifCond .eq 21, 3) := by decide +kernel
theorem dX5_place_8 : decode cX5_place 8 = .ok (.iload_n 2, 1) := by decide +kernel
theorem dX5_place_9 : decode cX5_place 9 = .ok (.invokestatic 75, 3) := by decide +kernel
theorem dX5_place_12 : decode cX5_place 12 = .ok (.ifCond .eq 14, 3) := by decide +kernel
theorem dX5_place_15 : decode cX5_place 15 = .ok (.iload_n 3, 1) := by decide +kernel
theorem dX5_place_16 : decode cX5_place 16 = .ok (.invokestatic 79, 3) := by decide +kernel
theorem dX5_place_19 : decode cX5_place 19 = .ok (.ifCond .eq 7, 3) := by decide +kernel
theorem dX5_place_22 : decode cX5_place 22 = .ok (.iconst 1, 1) := by decide +kernel
theorem dX5_place_23 : decode cX5_place 23 = .ok (.goto 4, 3) := by decide +kernel
theorem dX5_place_26 : decode cX5_place 26 = .ok (.iconst 0, 1) := by decide +kernel
theorem dX5_place_27 : decode cX5_place 27 = .ok (.istore 5, 2) := by decide +kernel
theorem dX5_place_29 : decode cX5_place 29 = .ok (.aload_n 0, 1) := by decide +kernel
theorem dX5_place_30 : decode cX5_place 30 = .ok (.iload 5, 2) := by decide +kernel
theorem dX5_place_32 : decode cX5_place 32 = .ok (.ifCond .ne 7, 3) := by decide +kernel
theorem dX5_place_35 : decode cX5_place 35 = .ok (.iconst 1, 1) := by decide +kernel
theorem dX5_place_36 : decode cX5_place 36 = .ok (.goto 16, 3) := by decide +kernel
theorem dX5_place_39 : decode cX5_place 39 = .ok (.iload 4, 2) := by decide +kernel
theorem dX5_place_41 : decode cX5_place 41 = .ok (.invokestatic 79, 3) := by decide +kernel
theorem dX5_place_44 : decode cX5_place 44 = .ok (.ifCond .ne 7, 3) := by decide +kernel
theorem dX5_place_47 : decode cX5_place 47 = .ok (.iconst 2, 1) := by decide +kernel
theorem dX5_place_48 : decode cX5_place 48 = .ok (.goto 4, 3) := by decide +kernel
theorem dX5_place_51 : decode cX5_place 51 = .ok (.iconst 0, 1) := by decide +kernel
theorem dX5_place_52 : decode cX5_place 52 = .ok (.invokevirtual 82, 3) := by decide +kernel
theorem dX5_place_55 : decode cX5_place 55 = .ok (.ifCond .eq 13, 3) := by decide +kernel
theorem dX5_place_58 : decode cX5_place 58 = .ok (.aload_n 0, 1) := by decide +kernel
theorem dX5_place_59 : decode cX5_place 59 = .ok (.iload_n 1, 1) := by decide +kernel
theorem dX5_place_60 : decode cX5_place 60 = .ok (.iload_n 2, 1) := by decide +kernel
theorem dX5_place_61 : decode cX5_place 61 = .ok (.iload_n 3, 1) := by decide +kernel
theorem dX5_place_62 : decode cX5_place 62 = .ok (.invokevirtual 139, 3) := by decide +kernel
theorem dX5_place_65 : decode cX5_place 65 = .ok (.goto 4, 3) := by decide +kernel
theorem dX5_place_68 : decode cX5_place 68 = .ok (.iconst 0, 1) := by decide +kernel
theorem dX5_place_69 : decode cX5_place 69 = .ok (.ireturn, 1) := by decide +kernel
theorem dX5_turned_0 : decode cX5_turned 0 = .ok (.iconst 0, 1) := by decide +kernel
theorem dX5_turned_1 : decode cX5_turned 1 = .ok (.istore_n 1, 1) := by decide +kernel
theorem dX5_turned_2 : decode cX5_turned 2 = .ok (.iconst 0, 1) := by decide +kernel
theorem dX5_turned_3 : decode cX5_turned 3 = .ok (.istore_n 2, 1) := by decide +kernel
theorem dX5_turned_4 : decode cX5_turned 4 = .ok (.iload_n 2, 1) := by decide +kernel
theorem dX5_turned_5 : decode cX5_turned 5 = .ok (.bipush 16, 2) := by decide +kernel
theorem dX5_turned_7 : decode cX5_turned 7 = .ok (.if_icmp .ge 25, 3) := by decide +kernel
theorem dX5_turned_10 : decode cX5_turned 10 = .ok (.iload_n 1, 1) := by decide +kernel
theorem dX5_turned_11 : decode cX5_turned 11 = .ok (.aload_n 0, 1) := by decide +kernel
theorem dX5_turned_12 : decode cX5_turned 12 = .ok (.iload_n 2, 1) := by decide +kernel
theorem dX5_turned_13 : decode cX5_turned 13 = .ok (.invokevirtual 28, 3) := by decide +kernel
theorem dX5_turned_16 : decode cX5_turned 16 = .ok (.ifCond .ne 7, 3) := by decide +kernel
theorem dX5_turned_19 : decode cX5_turned 19 = .ok (.iconst 0, 1) := by decide +kernel
theorem dX5_turned_20 : decode cX5_turned 20 = .ok (.goto 4, 3) := by decide +kernel
theorem dX5_turned_23 : decode cX5_turned 23 = .ok (.iconst 1, 1) := by decide +kernel
theorem dX5_turned_24 : decode cX5_turned 24 = .ok (.iadd, 1) := by decide +kernel
theorem dX5_turned_25 : decode cX5_turned 25 = .ok (.istore_n 1, 1) := by decide +kernel
theorem dX5_turned_26 : decode cX5_turned 26 = .ok (.iinc 2 1, 3) := by decide +kernel
theorem dX5_turned_29 : decode cX5_turned 29 = .ok (.goto (-25), 3) := by decide +kernel
theorem dX5_turned_32 : decode cX5_turned 32 = .ok (.iload_n 1, 1) := by decide +kernel
theorem dX5_turned_33 : decode cX5_turned 33 = .ok (.ireturn, 1) := by decide +kernel
theorem dX5_counted_0 : decode cX5_counted 0 = .ok (.iload_n 1, 1) := by decide +kernel
theorem dX5_counted_1 : decode cX5_counted 1 = .ok (.bipush 6, 2) := by decide +kernel
theorem dX5_counted_3 : decode cX5_counted 3 = .ok (.if_icmp .ge 12, 3) := by decide +kernel
theorem dX5_counted_6 : decode cX5_counted 6 = .ok (.aload_n 0, 1) := by decide +kernel
theorem dX5_counted_7 : decode cX5_counted 7 = .ok (.getfield 7, 3) := by decide +kernel
theorem dX5_counted_10 : decode cX5_counted 10 = .ok (.iload_n 1, 1) := by decide +kernel
theorem dX5_counted_11 : decode cX5_counted 11 = .ok (.iaload, 1) := by decide +kernel
theorem dX5_counted_12 : decode cX5_counted 12 = .ok (.goto 20, 3) := by decide +kernel
theorem dX5_counted_15 : decode cX5_counted 15 = .ok (.iload_n 1, 1) := by decide +kernel
theorem dX5_counted_16 : decode cX5_counted 16 = .ok (.bipush 6, 2) := by decide +kernel
theorem dX5_counted_18 : decode cX5_counted 18 = .ok (.if_icmp .ne 10, 3) := by decide +kernel
theorem dX5_counted_21 : decode cX5_counted 21 = .ok (.aload_n 0, 1) := by decide +kernel
theorem dX5_counted_22 : decode cX5_counted 22 = .ok (.invokevirtual 142, 3) := by decide +kernel
theorem dX5_counted_25 : decode cX5_counted 25 = .ok (.goto 7, 3) := by decide +kernel
theorem dX5_counted_28 : decode cX5_counted 28 = .ok (.aload_n 0, 1) := by decide +kernel
theorem dX5_counted_29 : decode cX5_counted 29 = .ok (.getfield 65, 3) := by decide +kernel
theorem dX5_counted_32 : decode cX5_counted 32 = .ok (.ireturn, 1) := by decide +kernel
theorem dX5_count_0 : decode cX5_count 0 = .ok (.aload_n 0, 1) := by decide +kernel
theorem dX5_count_1 : decode cX5_count 1 = .ok (.iload_n 1, 1) := by decide +kernel
theorem dX5_count_2 : decode cX5_count 2 = .ok (.iconst 0, 1) := by decide +kernel
theorem dX5_count_3 : decode cX5_count 3 = .ok (.bipush 7, 2) := by decide +kernel
theorem dX5_count_5 : decode cX5_count 5 = .ok (.invokestatic 24, 3) := by decide +kernel
theorem dX5_count_8 : decode cX5_count 8 = .ok (.ifCond .eq 7, 3) := by decide +kernel
theorem dX5_count_11 : decode cX5_count 11 = .ok (.iconst 0, 1) := by decide +kernel
theorem dX5_count_12 : decode cX5_count 12 = .ok (.goto 4, 3) := by decide +kernel
theorem dX5_count_15 : decode cX5_count 15 = .ok (.iconst 1, 1) := by decide +kernel
theorem dX5_count_16 : decode cX5_count 16 = .ok (.invokevirtual 82, 3) := by decide +kernel
theorem dX5_count_19 : decode cX5_count 19 = .ok (.ifCond .eq 11, 3) := by decide +kernel
theorem dX5_count_22 : decode cX5_count 22 = .ok (.aload_n 0, 1) := by decide +kernel
theorem dX5_count_23 : decode cX5_count 23 = .ok (.iload_n 1, 1) := by decide +kernel
theorem dX5_count_24 : decode cX5_count 24 = .ok (.invokevirtual 145, 3) := by decide +kernel
theorem dX5_count_27 : decode cX5_count 27 = .ok (.goto 4, 3) := by decide +kernel
theorem dX5_count_30 : decode cX5_count 30 = .ok (.iconst 0, 1) := by decide +kernel
theorem dX5_count_31 : decode cX5_count 31 = .ok (.ireturn, 1) := by decide +kernel
theorem dX5_setting_0 : decode cX5_setting 0 = .ok (.aload_n 0, 1) := by decide +kernel
theorem dX5_setting_1 : decode cX5_setting 1 = .ok (.iload_n 1, 1) := by decide +kernel
theorem dX5_setting_2 : decode cX5_setting 2 = .ok (.iconst 0, 1) := by decide +kernel
theorem dX5_setting_3 : decode cX5_setting 3 = .ok (.iconst 2, 1) := by decide +kernel
theorem dX5_setting_4 : decode cX5_setting 4 = .ok (.invokestatic 24, 3) := by decide +kernel
theorem dX5_setting_7 : decode cX5_setting 7 = .ok (.ifCond .eq 7, 3) := by decide +kernel
theorem dX5_setting_10 : decode cX5_setting 10 = .ok (.iconst 0, 1) := by decide +kernel
theorem dX5_setting_11 : decode cX5_setting 11 = .ok (.goto 4, 3) := by decide +kernel
theorem dX5_setting_14 : decode cX5_setting 14 = .ok (.iconst 1, 1) := by decide +kernel
theorem dX5_setting_15 : decode cX5_setting 15 = .ok (.invokevirtual 82, 3) := by decide +kernel
theorem dX5_setting_18 : decode cX5_setting 18 = .ok (.ifCond .eq 15, 3) := by decide +kernel
theorem dX5_setting_21 : decode cX5_setting 21 = .ok (.aload_n 0, 1) := by decide +kernel
theorem dX5_setting_22 : decode cX5_setting 22 = .ok (.getfield 7, 3) := by decide +kernel
theorem dX5_setting_25 : decode cX5_setting 25 = .ok (.bipush 6, 2) := by decide +kernel
theorem dX5_setting_27 : decode cX5_setting 27 = .ok (.iload_n 1, 1) := by decide +kernel
theorem dX5_setting_28 : decode cX5_setting 28 = .ok (.iadd, 1) := by decide +kernel
theorem dX5_setting_29 : decode cX5_setting 29 = .ok (.iaload, 1) := by decide +kernel
theorem dX5_setting_30 : decode cX5_setting 30 = .ok (.goto 4, 3) := by decide +kernel
theorem dX5_setting_33 : decode cX5_setting 33 = .ok (.iconst 0, 1) := by decide +kernel
theorem dX5_setting_34 : decode cX5_setting 34 = .ok (.ireturn, 1) := by decide +kernel
theorem dX5_arePair_0 : decode cX5_arePair 0 = .ok (.aload_n 0, 1) := by decide +kernel
theorem dX5_arePair_1 : decode cX5_arePair 1 = .ok (.iload_n 1, 1) := by decide +kernel
theorem dX5_arePair_2 : decode cX5_arePair 2 = .ok (.invokevirtual 124, 3) := by decide +kernel
theorem dX5_arePair_5 : decode cX5_arePair 5 = .ok (.ifCond .eq 22, 3) := by decide +kernel
theorem dX5_arePair_8 : decode cX5_arePair 8 = .ok (.aload_n 0, 1) := by decide +kernel
theorem dX5_arePair_9 : decode cX5_arePair 9 = .ok (.iload_n 2, 1) := by decide +kernel
theorem dX5_arePair_10 : decode cX5_arePair 10 = .ok (.invokevirtual 124, 3) := by decide +kernel
theorem dX5_arePair_13 : decode cX5_arePair 13 = .ok (.ifCond .eq 14, 3) := by decide +kernel
theorem dX5_arePair_16 : decode cX5_arePair 16 = .ok (.iload_n 3, 1) := by decide +kernel
theorem dX5_arePair_17 : decode cX5_arePair 17 = .ok (.invokestatic 79, 3) := by decide +kernel
theorem dX5_arePair_20 : decode cX5_arePair 20 = .ok (.ifCond .eq 7, 3) := by decide +kernel
theorem dX5_arePair_23 : decode cX5_arePair 23 = .ok (.iconst 1, 1) := by decide +kernel
theorem dX5_arePair_24 : decode cX5_arePair 24 = .ok (.goto 4, 3) := by decide +kernel
theorem dX5_arePair_27 : decode cX5_arePair 27 = .ok (.iconst 0, 1) := by decide +kernel
theorem dX5_arePair_28 : decode cX5_arePair 28 = .ok (.ireturn, 1) := by decide +kernel
theorem dX5_movedBy_0 : decode cX5_movedBy 0 = .ok (.aload_n 0, 1) := by decide +kernel
theorem dX5_movedBy_1 : decode cX5_movedBy 1 = .ok (.iload_n 2, 1) := by decide +kernel
theorem dX5_movedBy_2 : decode cX5_movedBy 2 = .ok (.iload_n 3, 1) := by decide +kernel
theorem dX5_movedBy_3 : decode cX5_movedBy 3 = .ok (.iload 4, 2) := by decide +kernel
theorem dX5_movedBy_5 : decode cX5_movedBy 5 = .ok (.invokevirtual 139, 3) := by decide +kernel
theorem dX5_movedBy_8 : decode cX5_movedBy 8 = .ok (.aload_n 0, 1) := by decide +kernel
theorem dX5_movedBy_9 : decode cX5_movedBy 9 = .ok (.iload_n 1, 1) := by decide +kernel
theorem dX5_movedBy_10 : decode cX5_movedBy 10 = .ok (.iload_n 3, 1) := by decide +kernel
theorem dX5_movedBy_11 : decode cX5_movedBy 11 = .ok (.iload 4, 2) := by decide +kernel
theorem dX5_movedBy_13 : decode cX5_movedBy 13 = .ok (.invokevirtual 139, 3) := by decide +kernel
theorem dX5_movedBy_16 : decode cX5_movedBy 16 = .ok (.isub, 1) := by decide +kernel
theorem dX5_movedBy_17 : decode cX5_movedBy 17 = .ok (.ireturn, 1) := by decide +kernel
theorem dX5_moved_0 : decode cX5_moved 0 = .ok (.aload_n 0, 1) := by decide +kernel
theorem dX5_moved_1 : decode cX5_moved 1 = .ok (.aload_n 0, 1) := by decide +kernel
theorem dX5_moved_2 : decode cX5_moved 2 = .ok (.iload_n 1, 1) := by decide +kernel
theorem dX5_moved_3 : decode cX5_moved 3 = .ok (.iload_n 2, 1) := by decide +kernel
theorem dX5_moved_4 : decode cX5_moved 4 = .ok (.iload 4, 2) := by decide +kernel
theorem dX5_moved_6 : decode cX5_moved 6 = .ok (.invokevirtual 148, 3) := by decide +kernel
theorem dX5_moved_9 : decode cX5_moved 9 = .ok (.ifCond .eq 14, 3) := by decide +kernel
theorem dX5_moved_12 : decode cX5_moved 12 = .ok (.iload_n 3, 1) := by decide +kernel
theorem dX5_moved_13 : decode cX5_moved 13 = .ok (.invokestatic 75, 3) := by decide +kernel
theorem dX5_moved_16 : decode cX5_moved 16 = .ok (.ifCond .eq 7, 3) := by decide +kernel
theorem dX5_moved_19 : decode cX5_moved 19 = .ok (.iconst 0, 1) := by decide +kernel
theorem dX5_moved_20 : decode cX5_moved 20 = .ok (.goto 4, 3) := by decide +kernel
theorem dX5_moved_23 : decode cX5_moved 23 = .ok (.iconst 1, 1) := by decide +kernel
theorem dX5_moved_24 : decode cX5_moved 24 = .ok (.invokevirtual 82, 3) := by decide +kernel
theorem dX5_moved_27 : decode cX5_moved 27 = .ok (.ifCond .eq 15, 3) := by decide +kernel
theorem dX5_moved_30 : decode cX5_moved 30 = .ok (.aload_n 0, 1) := by decide +kernel
theorem dX5_moved_31 : decode cX5_moved 31 = .ok (.iload_n 1, 1) := by decide +kernel
theorem dX5_moved_32 : decode cX5_moved 32 = .ok (.iload_n 2, 1) := by decide +kernel
theorem dX5_moved_33 : decode cX5_moved 33 = .ok (.iload_n 3, 1) := by decide +kernel
theorem dX5_moved_34 : decode cX5_moved 34 = .ok (.iload 4, 2) := by decide +kernel
theorem dX5_moved_36 : decode cX5_moved 36 = .ok (.invokevirtual 151, 3) := by decide +kernel
theorem dX5_moved_39 : decode cX5_moved 39 = .ok (.goto 4, 3) := by decide +kernel
theorem dX5_moved_42 : decode cX5_moved 42 = .ok (.iconst 0, 1) := by decide +kernel
theorem dX5_moved_43 : decode cX5_moved 43 = .ok (.ireturn, 1) := by decide +kernel
theorem dX5_sliding_0 : decode cX5_sliding 0 = .ok (.iconst (-1), 1) := by decide +kernel
theorem dX5_sliding_1 : decode cX5_sliding 1 = .ok (.istore 4, 2) := by decide +kernel
theorem dX5_sliding_3 : decode cX5_sliding 3 = .ok (.iconst 0, 1) := by decide +kernel
theorem dX5_sliding_4 : decode cX5_sliding 4 = .ok (.istore 5, 2) := by decide +kernel
theorem dX5_sliding_6 : decode cX5_sliding 6 = .ok (.iconst 0, 1) := by decide +kernel
theorem dX5_sliding_7 : decode cX5_sliding 7 = .ok (.istore 6, 2) := by decide +kernel
theorem dX5_sliding_9 : decode cX5_sliding 9 = .ok (.iload 6, 2) := by decide +kernel
theorem dX5_sliding_11 : decode cX5_sliding 11 = .ok (.bipush 16, 2) := by decide +kernel
theorem dX5_sliding_13 : decode cX5_sliding 13 = .ok (.if_icmp .ge 63, 3) := by decide +kernel
theorem dX5_sliding_16 : decode cX5_sliding 16 = .ok (.aload_n 0, 1) := by decide +kernel
theorem dX5_sliding_17 : decode cX5_sliding 17 = .ok (.iload_n 2, 1) := by decide +kernel
theorem dX5_sliding_18 : decode cX5_sliding 18 = .ok (.iload 6, 2) := by decide +kernel
theorem dX5_sliding_20 : decode cX5_sliding 20 = .ok (.iload_n 3, 1) := by decide +kernel
theorem dX5_sliding_21 : decode cX5_sliding 21 = .ok (.invokevirtual 62, 3) := by decide +kernel
theorem dX5_sliding_24 : decode cX5_sliding 24 = .ok (.aload_n 0, 1) := by decide +kernel
theorem dX5_sliding_25 : decode cX5_sliding 25 = .ok (.iload_n 1, 1) := by decide +kernel
theorem dX5_sliding_26 : decode cX5_sliding 26 = .ok (.iload 6, 2) := by decide +kernel
theorem dX5_sliding_28 : decode cX5_sliding 28 = .ok (.iload_n 3, 1) := by decide +kernel
theorem dX5_sliding_29 : decode cX5_sliding 29 = .ok (.invokevirtual 62, 3) := by decide +kernel
theorem dX5_sliding_32 : decode cX5_sliding 32 = .ok (.isub, 1) := by decide +kernel
theorem dX5_sliding_33 : decode cX5_sliding 33 = .ok (.invokestatic 53, 3) := by decide +kernel
theorem dX5_sliding_36 : decode cX5_sliding 36 = .ok (.istore 7, 2) := by decide +kernel
theorem dX5_sliding_38 : decode cX5_sliding 38 = .ok (.iload 7, 2) := by decide +kernel
theorem dX5_sliding_40 : decode cX5_sliding 40 = .ok (.iload 5, 2) := by decide +kernel
theorem dX5_sliding_42 : decode cX5_sliding 42 = .ok (.if_icmp .le 8, 3) := by decide +kernel
theorem dX5_sliding_45 : decode cX5_sliding 45 = .ok (.iload 6, 2) := by decide +kernel
theorem dX5_sliding_47 : decode cX5_sliding 47 = .ok (.goto 5, 3) := by decide +kernel
theorem dX5_sliding_50 : decode cX5_sliding 50 = .ok (.iload 4, 2) := by decide +kernel
theorem dX5_sliding_52 : decode cX5_sliding 52 = .ok (.istore 4, 2) := by decide +kernel
theorem dX5_sliding_54 : decode cX5_sliding 54 = .ok (.iload 7, 2) := by decide +kernel
theorem dX5_sliding_56 : decode cX5_sliding 56 = .ok (.iload 5, 2) := by decide +kernel
theorem dX5_sliding_58 : decode cX5_sliding 58 = .ok (.if_icmp .le 8, 3) := by decide +kernel
theorem dX5_sliding_61 : decode cX5_sliding 61 = .ok (.iload 7, 2) := by decide +kernel
theorem dX5_sliding_63 : decode cX5_sliding 63 = .ok (.goto 5, 3) := by decide +kernel
theorem dX5_sliding_66 : decode cX5_sliding 66 = .ok (.iload 5, 2) := by decide +kernel
theorem dX5_sliding_68 : decode cX5_sliding 68 = .ok (.istore 5, 2) := by decide +kernel
theorem dX5_sliding_70 : decode cX5_sliding 70 = .ok (.iinc 6 1, 3) := by decide +kernel
theorem dX5_sliding_73 : decode cX5_sliding 73 = .ok (.goto (-64), 3) := by decide +kernel
theorem dX5_sliding_76 : decode cX5_sliding 76 = .ok (.iload 4, 2) := by decide +kernel
theorem dX5_sliding_78 : decode cX5_sliding 78 = .ok (.ireturn, 1) := by decide +kernel
theorem dX5_slidesAt_0 : decode cX5_slidesAt 0 = .ok (.aload_n 0, 1) := by decide +kernel
theorem dX5_slidesAt_1 : decode cX5_slidesAt 1 = .ok (.aload_n 0, 1) := by decide +kernel
theorem dX5_slidesAt_2 : decode cX5_slidesAt 2 = .ok (.iload_n 1, 1) := by decide +kernel
theorem dX5_slidesAt_3 : decode cX5_slidesAt 3 = .ok (.iload_n 2, 1) := by decide +kernel
theorem dX5_slidesAt_4 : decode cX5_slidesAt 4 = .ok (.iload_n 3, 1) := by decide +kernel
theorem dX5_slidesAt_5 : decode cX5_slidesAt 5 = .ok (.invokevirtual 148, 3) := by decide +kernel
theorem dX5_slidesAt_8 : decode cX5_slidesAt 8 = .ok (.ifCond .eq 7, 3) := by decide +kernel
theorem dX5_slidesAt_11 : decode cX5_slidesAt 11 = .ok (.iconst 0, 1) := by decide +kernel
theorem dX5_slidesAt_12 : decode cX5_slidesAt 12 = .ok (.goto 4, 3) := by decide +kernel
theorem dX5_slidesAt_15 : decode cX5_slidesAt 15 = .ok (.iconst 1, 1) := by decide +kernel
theorem dX5_slidesAt_16 : decode cX5_slidesAt 16 = .ok (.invokevirtual 82, 3) := by decide +kernel
theorem dX5_slidesAt_19 : decode cX5_slidesAt 19 = .ok (.ifCond .eq 13, 3) := by decide +kernel
theorem dX5_slidesAt_22 : decode cX5_slidesAt 22 = .ok (.aload_n 0, 1) := by decide +kernel
theorem dX5_slidesAt_23 : decode cX5_slidesAt 23 = .ok (.iload_n 1, 1) := by decide +kernel
theorem dX5_slidesAt_24 : decode cX5_slidesAt 24 = .ok (.iload_n 2, 1) := by decide +kernel
theorem dX5_slidesAt_25 : decode cX5_slidesAt 25 = .ok (.iload_n 3, 1) := by decide +kernel
theorem dX5_slidesAt_26 : decode cX5_slidesAt 26 = .ok (.invokevirtual 154, 3) := by decide +kernel
theorem dX5_slidesAt_29 : decode cX5_slidesAt 29 = .ok (.goto 4, 3) := by decide +kernel
theorem dX5_slidesAt_32 : decode cX5_slidesAt 32 = .ok (.iconst 0, 1) := by decide +kernel
theorem dX5_slidesAt_33 : decode cX5_slidesAt 33 = .ok (.ireturn, 1) := by decide +kernel
theorem dX5_firstFar_0 : decode cX5_firstFar 0 = .ok (.iconst 0, 1) := by decide +kernel
theorem dX5_firstFar_1 : decode cX5_firstFar 1 = .ok (.istore 5, 2) := by decide +kernel
theorem dX5_firstFar_3 : decode cX5_firstFar 3 = .ok (.iconst 0, 1) := by decide +kernel
theorem dX5_firstFar_4 : decode cX5_firstFar 4 = .ok (.istore 6, 2) := by decide +kernel
theorem dX5_firstFar_6 : decode cX5_firstFar 6 = .ok (.iload 6, 2) := by decide +kernel
theorem dX5_firstFar_8 : decode cX5_firstFar 8 = .ok (.bipush 16, 2) := by decide +kernel
theorem dX5_firstFar_10 : decode cX5_firstFar 10 = .ok (.if_icmp .ge 44, 3) := by decide +kernel
theorem dX5_firstFar_13 : decode cX5_firstFar 13 = .ok (.iload 5, 2) := by decide +kernel
theorem dX5_firstFar_15 : decode cX5_firstFar 15 = .ok (.aload_n 0, 1) := by decide +kernel
theorem dX5_firstFar_16 : decode cX5_firstFar 16 = .ok (.iload_n 2, 1) := by decide +kernel
theorem dX5_firstFar_17 : decode cX5_firstFar 17 = .ok (.iload 6, 2) := by decide +kernel
theorem dX5_firstFar_19 : decode cX5_firstFar 19 = .ok (.iload_n 3, 1) := by decide +kernel
theorem dX5_firstFar_20 : decode cX5_firstFar 20 = .ok (.invokevirtual 62, 3) := by decide +kernel
theorem dX5_firstFar_23 : decode cX5_firstFar 23 = .ok (.aload_n 0, 1) := by decide +kernel
theorem dX5_firstFar_24 : decode cX5_firstFar 24 = .ok (.iload_n 1, 1) := by decide +kernel
theorem dX5_firstFar_25 : decode cX5_firstFar 25 = .ok (.iload 6, 2) := by decide +kernel
theorem dX5_firstFar_27 : decode cX5_firstFar 27 = .ok (.iload_n 3, 1) := by decide +kernel
theorem dX5_firstFar_28 : decode cX5_firstFar 28 = .ok (.invokevirtual 62, 3) := by decide +kernel
theorem dX5_firstFar_31 : decode cX5_firstFar 31 = .ok (.isub, 1) := by decide +kernel
theorem dX5_firstFar_32 : decode cX5_firstFar 32 = .ok (.iadd, 1) := by decide +kernel
theorem dX5_firstFar_33 : decode cX5_firstFar 33 = .ok (.istore 5, 2) := by decide +kernel
theorem dX5_firstFar_35 : decode cX5_firstFar 35 = .ok (.iload 5, 2) := by decide +kernel
theorem dX5_firstFar_37 : decode cX5_firstFar 37 = .ok (.invokestatic 53, 3) := by decide +kernel
theorem dX5_firstFar_40 : decode cX5_firstFar 40 = .ok (.iload 4, 2) := by decide +kernel
theorem dX5_firstFar_42 : decode cX5_firstFar 42 = .ok (.if_icmp .lt 6, 3) := by decide +kernel
theorem dX5_firstFar_45 : decode cX5_firstFar 45 = .ok (.iload 6, 2) := by decide +kernel
theorem dX5_firstFar_47 : decode cX5_firstFar 47 = .ok (.ireturn, 1) := by decide +kernel
theorem dX5_firstFar_48 : decode cX5_firstFar 48 = .ok (.iinc 6 1, 3) := by decide +kernel
theorem dX5_firstFar_51 : decode cX5_firstFar 51 = .ok (.goto (-45), 3) := by decide +kernel
theorem dX5_firstFar_54 : decode cX5_firstFar 54 = .ok (.iconst (-1), 1) := by decide +kernel
theorem dX5_firstFar_55 : decode cX5_firstFar 55 = .ok (.ireturn, 1) := by decide +kernel
theorem dX5_firstMoved_0 : decode cX5_firstMoved 0 = .ok (.aload_n 0, 1) := by decide +kernel
theorem dX5_firstMoved_1 : decode cX5_firstMoved 1 = .ok (.aload_n 0, 1) := by decide +kernel
theorem dX5_firstMoved_2 : decode cX5_firstMoved 2 = .ok (.iload_n 1, 1) := by decide +kernel
theorem dX5_firstMoved_3 : decode cX5_firstMoved 3 = .ok (.iload_n 2, 1) := by decide +kernel
theorem dX5_firstMoved_4 : decode cX5_firstMoved 4 = .ok (.iload_n 3, 1) := by decide +kernel
theorem dX5_firstMoved_5 : decode cX5_firstMoved 5 = .ok (.invokevirtual 148, 3) := by decide +kernel
theorem dX5_firstMoved_8 : decode cX5_firstMoved 8 = .ok (.ifCond .ne 7, 3) := by decide +kernel
theorem dX5_firstMoved_11 : decode cX5_firstMoved 11 = .ok (.iconst 1, 1) := by decide +kernel
theorem dX5_firstMoved_12 : decode cX5_firstMoved 12 = .ok (.goto 20, 3) := by decide +kernel
theorem dX5_firstMoved_15 : decode cX5_firstMoved 15 = .ok (.iload 4, 2) := by decide +kernel
theorem dX5_firstMoved_17 : decode cX5_firstMoved 17 = .ok (.iconst 1, 1) := by decide +kernel
theorem dX5_firstMoved_18 : decode cX5_firstMoved 18 = .ok (.sipush 999, 3) := by decide +kernel
theorem dX5_firstMoved_21 : decode cX5_firstMoved 21 = .ok (.invokestatic 24, 3) := by decide +kernel
theorem dX5_firstMoved_24 : decode cX5_firstMoved 24 = .ok (.ifCond .ne 7, 3) := by decide +kernel
theorem dX5_firstMoved_27 : decode cX5_firstMoved 27 = .ok (.iconst 2, 1) := by decide +kernel
theorem dX5_firstMoved_28 : decode cX5_firstMoved 28 = .ok (.goto 4, 3) := by decide +kernel
theorem dX5_firstMoved_31 : decode cX5_firstMoved 31 = .ok (.iconst 0, 1) := by decide +kernel
theorem dX5_firstMoved_32 : decode cX5_firstMoved 32 = .ok (.invokevirtual 82, 3) := by decide +kernel
theorem dX5_firstMoved_35 : decode cX5_firstMoved 35 = .ok (.ifCond .eq 15, 3) := by decide +kernel
theorem dX5_firstMoved_38 : decode cX5_firstMoved 38 = .ok (.aload_n 0, 1) := by decide +kernel
theorem dX5_firstMoved_39 : decode cX5_firstMoved 39 = .ok (.iload_n 1, 1) := by decide +kernel
theorem dX5_firstMoved_40 : decode cX5_firstMoved 40 = .ok (.iload_n 2, 1) := by decide +kernel
theorem dX5_firstMoved_41 : decode cX5_firstMoved 41 = .ok (.iload_n 3, 1) := by decide +kernel
theorem dX5_firstMoved_42 : decode cX5_firstMoved 42 = .ok (.iload 4, 2) := by decide +kernel
theorem dX5_firstMoved_44 : decode cX5_firstMoved 44 = .ok (.invokevirtual 157, 3) := by decide +kernel
theorem dX5_firstMoved_47 : decode cX5_firstMoved 47 = .ok (.goto 4, 3) := by decide +kernel
theorem dX5_firstMoved_50 : decode cX5_firstMoved 50 = .ok (.iconst 0, 1) := by decide +kernel
theorem dX5_firstMoved_51 : decode cX5_firstMoved 51 = .ok (.ireturn, 1) := by decide +kernel
theorem dX5_rate_0 : decode cX5_rate 0 = .ok (.aload_n 0, 1) := by decide +kernel
theorem dX5_rate_1 : decode cX5_rate 1 = .ok (.iload_n 2, 1) := by decide +kernel
theorem dX5_rate_2 : decode cX5_rate 2 = .ok (.iconst 0, 1) := by decide +kernel
theorem dX5_rate_3 : decode cX5_rate 3 = .ok (.invokevirtual 136, 3) := by decide +kernel
theorem dX5_rate_6 : decode cX5_rate 6 = .ok (.aload_n 0, 1) := by decide +kernel
theorem dX5_rate_7 : decode cX5_rate 7 = .ok (.iload_n 1, 1) := by decide +kernel
theorem dX5_rate_8 : decode cX5_rate 8 = .ok (.iconst 0, 1) := by decide +kernel
theorem dX5_rate_9 : decode cX5_rate 9 = .ok (.invokevirtual 136, 3) := by decide +kernel
theorem dX5_rate_12 : decode cX5_rate 12 = .ok (.isub, 1) := by decide +kernel
theorem dX5_rate_13 : decode cX5_rate 13 = .ok (.istore 4, 2) := by decide +kernel
theorem dX5_rate_15 : decode cX5_rate 15 = .ok (.iload 4, 2) := by decide +kernel
theorem dX5_rate_17 : decode cX5_rate 17 = .ok (.ifCond .ne 7, 3) := by decide +kernel
theorem dX5_rate_20 : decode cX5_rate 20 = .ok (.dconst 0, 1) := by decide +kernel
theorem dX5_rate_21 : decode cX5_rate 21 = .ok (.goto 17, 3) := by decide +kernel
theorem dX5_rate_24 : decode cX5_rate 24 = .ok (.aload_n 0, 1) := by decide +kernel
theorem dX5_rate_25 : decode cX5_rate 25 = .ok (.iload_n 1, 1) := by decide +kernel
theorem dX5_rate_26 : decode cX5_rate 26 = .ok (.iload_n 2, 1) := by decide +kernel
theorem dX5_rate_27 : decode cX5_rate 27 = .ok (.bipush 15, 2) := by decide +kernel
theorem dX5_rate_29 : decode cX5_rate 29 = .ok (.iload_n 3, 1) := by decide +kernel
theorem dX5_rate_30 : decode cX5_rate 30 = .ok (.invokevirtual 151, 3) := by decide +kernel
theorem dX5_rate_33 : decode cX5_rate 33 = .ok (.i2d, 1) := by decide +kernel
theorem dX5_rate_34 : decode cX5_rate 34 = .ok (.iload 4, 2) := by decide +kernel
theorem dX5_rate_36 : decode cX5_rate 36 = .ok (.i2d, 1) := by decide +kernel
theorem dX5_rate_37 : decode cX5_rate 37 = .ok (.ddiv, 1) := by decide +kernel
theorem dX5_rate_38 : decode cX5_rate 38 = .ok (.dreturn, 1) := by decide +kernel
theorem dX5_speed_0 : decode cX5_speed 0 = .ok (.aload_n 0, 1) := by decide +kernel
theorem dX5_speed_1 : decode cX5_speed 1 = .ok (.aload_n 0, 1) := by decide +kernel
theorem dX5_speed_2 : decode cX5_speed 2 = .ok (.iload_n 1, 1) := by decide +kernel
theorem dX5_speed_3 : decode cX5_speed 3 = .ok (.iload_n 2, 1) := by decide +kernel
theorem dX5_speed_4 : decode cX5_speed 4 = .ok (.iload_n 3, 1) := by decide +kernel
theorem dX5_speed_5 : decode cX5_speed 5 = .ok (.invokevirtual 148, 3) := by decide +kernel
theorem dX5_speed_8 : decode cX5_speed 8 = .ok (.ifCond .eq 7, 3) := by decide +kernel
theorem dX5_speed_11 : decode cX5_speed 11 = .ok (.iconst 0, 1) := by decide +kernel
theorem dX5_speed_12 : decode cX5_speed 12 = .ok (.goto 4, 3) := by decide +kernel
theorem dX5_speed_15 : decode cX5_speed 15 = .ok (.iconst 1, 1) := by decide +kernel
theorem dX5_speed_16 : decode cX5_speed 16 = .ok (.invokevirtual 82, 3) := by decide +kernel
theorem dX5_speed_19 : decode cX5_speed 19 = .ok (.ifCond .eq 13, 3) := by decide +kernel
theorem dX5_speed_22 : decode cX5_speed 22 = .ok (.aload_n 0, 1) := by decide +kernel
theorem dX5_speed_23 : decode cX5_speed 23 = .ok (.iload_n 1, 1) := by decide +kernel
theorem dX5_speed_24 : decode cX5_speed 24 = .ok (.iload_n 2, 1) := by decide +kernel
theorem dX5_speed_25 : decode cX5_speed 25 = .ok (.iload_n 3, 1) := by decide +kernel
theorem dX5_speed_26 : decode cX5_speed 26 = .ok (.invokevirtual 160, 3) := by decide +kernel
theorem dX5_speed_29 : decode cX5_speed 29 = .ok (.goto 4, 3) := by decide +kernel
theorem dX5_speed_32 : decode cX5_speed 32 = .ok (.dconst 0, 1) := by decide +kernel
theorem dX5_speed_33 : decode cX5_speed 33 = .ok (.dreturn, 1) := by decide +kernel
theorem dX5_checks_0 : decode cX5_checks 0 = .ok (.iconst 0, 1) := by decide +kernel
theorem dX5_checks_1 : decode cX5_checks 1 = .ok (.istore 4, 2) := by decide +kernel
theorem dX5_checks_3 : decode cX5_checks 3 = .ok (.iconst 0, 1) := by decide +kernel
theorem dX5_checks_4 : decode cX5_checks 4 = .ok (.istore 5, 2) := by decide +kernel
theorem dX5_checks_6 : decode cX5_checks 6 = .ok (.iload 5, 2) := by decide +kernel
theorem dX5_checks_8 : decode cX5_checks 8 = .ok (.bipush 16, 2) := by decide +kernel
theorem dX5_checks_10 : decode cX5_checks 10 = .ok (.if_icmp .ge 38, 3) := by decide +kernel
theorem dX5_checks_13 : decode cX5_checks 13 = .ok (.aload_n 0, 1) := by decide +kernel
theorem dX5_checks_14 : decode cX5_checks 14 = .ok (.iload_n 1, 1) := by decide +kernel
theorem dX5_checks_15 : decode cX5_checks 15 = .ok (.iload 5, 2) := by decide +kernel
theorem dX5_checks_17 : decode cX5_checks 17 = .ok (.iload_n 2, 1) := by decide +kernel
theorem dX5_checks_18 : decode cX5_checks 18 = .ok (.invokevirtual 47, 3) := by decide +kernel
theorem dX5_checks_21 : decode cX5_checks 21 = .ok (.istore 6, 2) := by decide +kernel
theorem dX5_checks_23 : decode cX5_checks 23 = .ok (.iload 4, 2) := by decide +kernel
theorem dX5_checks_25 : decode cX5_checks 25 = .ok (.iload_n 3, 1) := by decide +kernel
theorem dX5_checks_26 : decode cX5_checks 26 = .ok (.ifCond .eq 11, 3) := by decide +kernel
theorem dX5_checks_29 : decode cX5_checks 29 = .ok (.iload 6, 2) := by decide +kernel
theorem dX5_checks_31 : decode cX5_checks 31 = .ok (.iload 6, 2) := by decide +kernel
theorem dX5_checks_33 : decode cX5_checks 33 = .ok (.imul, 1) := by decide +kernel
theorem dX5_checks_34 : decode cX5_checks 34 = .ok (.goto 5, 3) := by decide +kernel
theorem dX5_checks_37 : decode cX5_checks 37 = .ok (.iload 6, 2) := by decide +kernel
theorem dX5_checks_39 : decode cX5_checks 39 = .ok (.iadd, 1) := by decide +kernel
theorem dX5_checks_40 : decode cX5_checks 40 = .ok (.istore 4, 2) := by decide +kernel
theorem dX5_checks_42 : decode cX5_checks 42 = .ok (.iinc 5 1, 3) := by decide +kernel
theorem dX5_checks_45 : decode cX5_checks 45 = .ok (.goto (-39), 3) := by decide +kernel
theorem dX5_checks_48 : decode cX5_checks 48 = .ok (.iload 4, 2) := by decide +kernel
theorem dX5_checks_50 : decode cX5_checks 50 = .ok (.ireturn, 1) := by decide +kernel
theorem dX5_mean_0 : decode cX5_mean 0 = .ok (.aload_n 0, 1) := by decide +kernel
theorem dX5_mean_1 : decode cX5_mean 1 = .ok (.iload_n 1, 1) := by decide +kernel
theorem dX5_mean_2 : decode cX5_mean 2 = .ok (.iload_n 2, 1) := by decide +kernel
theorem dX5_mean_3 : decode cX5_mean 3 = .ok (.iconst 0, 1) := by decide +kernel
theorem dX5_mean_4 : decode cX5_mean 4 = .ok (.invokevirtual 164, 3) := by decide +kernel
theorem dX5_mean_7 : decode cX5_mean 7 = .ok (.i2f, 1) := by decide +kernel
theorem dX5_mean_8 : decode cX5_mean 8 = .ok (.ldc 168, 2) := by decide +kernel
theorem dX5_mean_10 : decode cX5_mean 10 = .ok (.fdiv, 1) := by decide +kernel
theorem dX5_mean_11 : decode cX5_mean 11 = .ok (.freturn, 1) := by decide +kernel
theorem dX5_meanCheck_0 : decode cX5_meanCheck 0 = .ok (.aload_n 0, 1) := by decide +kernel
theorem dX5_meanCheck_1 : decode cX5_meanCheck 1 = .ok (.aload_n 0, 1) := by decide +kernel
theorem dX5_meanCheck_2 : decode cX5_meanCheck 2 = .ok (.iload_n 1, 1) := by decide +kernel
theorem dX5_meanCheck_3 : decode cX5_meanCheck 3 = .ok (.invokevirtual 124, 3) := by decide +kernel
theorem dX5_meanCheck_6 : decode cX5_meanCheck 6 = .ok (.ifCond .eq 14, 3) := by decide +kernel
theorem dX5_meanCheck_9 : decode cX5_meanCheck 9 = .ok (.iload_n 2, 1) := by decide +kernel
theorem dX5_meanCheck_10 : decode cX5_meanCheck 10 = .ok (.invokestatic 79, 3) := by decide +kernel
theorem dX5_meanCheck_13 : decode cX5_meanCheck 13 = .ok (.ifCond .eq 7, 3) := by decide +kernel
theorem dX5_meanCheck_16 : decode cX5_meanCheck 16 = .ok (.iconst 0, 1) := by decide +kernel
theorem dX5_meanCheck_17 : decode cX5_meanCheck 17 = .ok (.goto 4, 3) := by decide +kernel
theorem dX5_meanCheck_20 : decode cX5_meanCheck 20 = .ok (.iconst 1, 1) := by decide +kernel
theorem dX5_meanCheck_21 : decode cX5_meanCheck 21 = .ok (.invokevirtual 82, 3) := by decide +kernel
theorem dX5_meanCheck_24 : decode cX5_meanCheck 24 = .ok (.ifCond .eq 12, 3) := by decide +kernel
theorem dX5_meanCheck_27 : decode cX5_meanCheck 27 = .ok (.aload_n 0, 1) := by decide +kernel
theorem dX5_meanCheck_28 : decode cX5_meanCheck 28 = .ok (.iload_n 1, 1) := by decide +kernel
theorem dX5_meanCheck_29 : decode cX5_meanCheck 29 = .ok (.iload_n 2, 1) := by decide +kernel
theorem dX5_meanCheck_30 : decode cX5_meanCheck 30 = .ok (.invokevirtual 169, 3) := by decide +kernel
theorem dX5_meanCheck_33 : decode cX5_meanCheck 33 = .ok (.goto 4, 3) := by decide +kernel
theorem dX5_meanCheck_36 : decode cX5_meanCheck 36 = .ok (.fconst 0, 1) := by decide +kernel
theorem dX5_meanCheck_37 : decode cX5_meanCheck 37 = .ok (.freturn, 1) := by decide +kernel
theorem dX5_spreadOf_0 : decode cX5_spreadOf 0 = .ok (.aload_n 0, 1) := by decide +kernel
theorem dX5_spreadOf_1 : decode cX5_spreadOf 1 = .ok (.iload_n 1, 1) := by decide +kernel
theorem dX5_spreadOf_2 : decode cX5_spreadOf 2 = .ok (.iload_n 2, 1) := by decide +kernel
theorem dX5_spreadOf_3 : decode cX5_spreadOf 3 = .ok (.iconst 0, 1) := by decide +kernel
theorem dX5_spreadOf_4 : decode cX5_spreadOf 4 = .ok (.invokevirtual 164, 3) := by decide +kernel
theorem dX5_spreadOf_7 : decode cX5_spreadOf 7 = .ok (.i2l, 1) := by decide +kernel
theorem dX5_spreadOf_8 : decode cX5_spreadOf 8 = .ok (.lstore_n 3, 1) := by decide +kernel
theorem dX5_spreadOf_9 : decode cX5_spreadOf 9 = .ok (.aload_n 0, 1) := by decide +kernel
theorem dX5_spreadOf_10 : decode cX5_spreadOf 10 = .ok (.iload_n 1, 1) := by decide +kernel
theorem dX5_spreadOf_11 : decode cX5_spreadOf 11 = .ok (.iload_n 2, 1) := by decide +kernel
theorem dX5_spreadOf_12 : decode cX5_spreadOf 12 = .ok (.iconst 1, 1) := by decide +kernel
theorem dX5_spreadOf_13 : decode cX5_spreadOf 13 = .ok (.invokevirtual 164, 3) := by decide +kernel
theorem dX5_spreadOf_16 : decode cX5_spreadOf 16 = .ok (.i2l, 1) := by decide +kernel
theorem dX5_spreadOf_17 : decode cX5_spreadOf 17 = .ok (.lstore 5, 2) := by decide +kernel
theorem dX5_spreadOf_19 : decode cX5_spreadOf 19 = .ok (.ldc2_w 173, 3) := by decide +kernel
theorem dX5_spreadOf_22 : decode cX5_spreadOf 22 = .ok (.lload 5, 2) := by decide +kernel
theorem dX5_spreadOf_24 : decode cX5_spreadOf 24 = .ok (.lmul, 1) := by decide +kernel
theorem dX5_spreadOf_25 : decode cX5_spreadOf 25 = .ok (.lload_n 3, 1) := by decide +kernel
theorem dX5_spreadOf_26 : decode cX5_spreadOf 26 = .ok (.lload_n 3, 1) := by decide +kernel
theorem dX5_spreadOf_27 : decode cX5_spreadOf 27 = .ok (.lmul, 1) := by decide +kernel
theorem dX5_spreadOf_28 : decode cX5_spreadOf 28 = .ok (.lsub, 1) := by decide +kernel
theorem dX5_spreadOf_29 : decode cX5_spreadOf 29 = .ok (.l2d, 1) := by decide +kernel
theorem dX5_spreadOf_30 : decode cX5_spreadOf 30 = .ok (.ldc2_w 175, 3) := by decide +kernel
theorem dX5_spreadOf_33 : decode cX5_spreadOf 33 = .ok (.ddiv, 1) := by decide +kernel
theorem dX5_spreadOf_34 : decode cX5_spreadOf 34 = .ok (.dreturn, 1) := by decide +kernel
theorem dX5_spread_0 : decode cX5_spread 0 = .ok (.aload_n 0, 1) := by decide +kernel
theorem dX5_spread_1 : decode cX5_spread 1 = .ok (.aload_n 0, 1) := by decide +kernel
theorem dX5_spread_2 : decode cX5_spread 2 = .ok (.iload_n 1, 1) := by decide +kernel
theorem dX5_spread_3 : decode cX5_spread 3 = .ok (.invokevirtual 124, 3) := by decide +kernel
theorem dX5_spread_6 : decode cX5_spread 6 = .ok (.ifCond .eq 14, 3) := by decide +kernel
theorem dX5_spread_9 : decode cX5_spread 9 = .ok (.iload_n 2, 1) := by decide +kernel
theorem dX5_spread_10 : decode cX5_spread 10 = .ok (.invokestatic 79, 3) := by decide +kernel
theorem dX5_spread_13 : decode cX5_spread 13 = .ok (.ifCond .eq 7, 3) := by decide +kernel
theorem dX5_spread_16 : decode cX5_spread 16 = .ok (.iconst 0, 1) := by decide +kernel
theorem dX5_spread_17 : decode cX5_spread 17 = .ok (.goto 4, 3) := by decide +kernel
theorem dX5_spread_20 : decode cX5_spread 20 = .ok (.iconst 1, 1) := by decide +kernel
theorem dX5_spread_21 : decode cX5_spread 21 = .ok (.invokevirtual 82, 3) := by decide +kernel
theorem dX5_spread_24 : decode cX5_spread 24 = .ok (.ifCond .eq 12, 3) := by decide +kernel
theorem dX5_spread_27 : decode cX5_spread 27 = .ok (.aload_n 0, 1) := by decide +kernel
theorem dX5_spread_28 : decode cX5_spread 28 = .ok (.iload_n 1, 1) := by decide +kernel
theorem dX5_spread_29 : decode cX5_spread 29 = .ok (.iload_n 2, 1) := by decide +kernel
theorem dX5_spread_30 : decode cX5_spread 30 = .ok (.invokevirtual 177, 3) := by decide +kernel
theorem dX5_spread_33 : decode cX5_spread 33 = .ok (.goto 4, 3) := by decide +kernel
theorem dX5_spread_36 : decode cX5_spread 36 = .ok (.dconst 0, 1) := by decide +kernel
theorem dX5_spread_37 : decode cX5_spread 37 = .ok (.dreturn, 1) := by decide +kernel
theorem dX5_mix_0 : decode cX5_mix 0 = .ok (.aload_n 0, 1) := by decide +kernel
theorem dX5_mix_1 : decode cX5_mix 1 = .ok (.ldc2_w 181, 3) := by decide +kernel
theorem dX5_mix_4 : decode cX5_mix 4 = .ok (.aload_n 0, 1) := by decide +kernel
theorem dX5_mix_5 : decode cX5_mix 5 = .ok (.getfield 183, 3) := by decide +kernel
theorem dX5_mix_8 : decode cX5_mix 8 = .ok (.lmul, 1) := by decide +kernel
theorem dX5_mix_9 : decode cX5_mix 9 = .ok (.lload_n 1, 1) := by decide +kernel
theorem dX5_mix_10 : decode cX5_mix 10 = .ok (.ladd, 1) := by decide +kernel
theorem dX5_mix_11 : decode cX5_mix 11 = .ok (.putfield 183, 3) := by decide +kernel
theorem dX5_mix_14 : decode cX5_mix 14 = .ok (.return_, 1) := by decide +kernel
theorem dX5_bits_0 : decode cX5_bits 0 = .ok (.dload_n 0, 1) := by decide +kernel
theorem dX5_bits_1 : decode cX5_bits 1 = .ok (.dconst 0, 1) := by decide +kernel
theorem dX5_bits_2 : decode cX5_bits 2 = .ok (.dcmp .l, 1) := by decide +kernel
theorem dX5_bits_3 : decode cX5_bits 3 = .ok (.ifCond .ne 5, 3) := by decide +kernel
theorem dX5_bits_6 : decode cX5_bits 6 = .ok (.lconst 0, 1) := by decide +kernel
theorem dX5_bits_7 : decode cX5_bits 7 = .ok (.lreturn, 1) := by decide +kernel
theorem dX5_bits_8 : decode cX5_bits 8 = .ok (.dload_n 0, 1) := by decide +kernel
theorem dX5_bits_9 : decode cX5_bits 9 = .ok (.dconst 0, 1) := by decide +kernel
theorem dX5_bits_10 : decode cX5_bits 10 = .ok (.dcmp .g, 1) := by decide +kernel
theorem dX5_bits_11 : decode cX5_bits 11 = .ok (.ifCond .ge 8, 3) := by decide +kernel
theorem dX5_bits_14 : decode cX5_bits 14 = .ok (.dload_n 0, 1) := by decide +kernel
theorem dX5_bits_15 : decode cX5_bits 15 = .ok (.dneg, 1) := by decide +kernel
theorem dX5_bits_16 : decode cX5_bits 16 = .ok (.goto 4, 3) := by decide +kernel
theorem dX5_bits_19 : decode cX5_bits 19 = .ok (.dload_n 0, 1) := by decide +kernel
theorem dX5_bits_20 : decode cX5_bits 20 = .ok (.dstore 8, 2) := by decide +kernel
theorem dX5_bits_22 : decode cX5_bits 22 = .ok (.lload 4, 2) := by decide +kernel
theorem dX5_bits_24 : decode cX5_bits 24 = .ok (.lstore 10, 2) := by decide +kernel
theorem dX5_bits_26 : decode cX5_bits 26 = .ok (.dload 8, 2) := by decide +kernel
theorem dX5_bits_28 : decode cX5_bits 28 = .ok (.ldc2_w 187, 3) := by decide +kernel
theorem dX5_bits_31 : decode cX5_bits 31 = .ok (.dcmp .l, 1) := by decide +kernel
theorem dX5_bits_32 : decode cX5_bits 32 = .ok (.ifCond .lt 20, 3) := by decide +kernel
theorem dX5_bits_35 : decode cX5_bits 35 = .ok (.dload 8, 2) := by decide +kernel
theorem dX5_bits_37 : decode cX5_bits 37 = .ok (.ldc2_w 187, 3) := by decide +kernel
theorem dX5_bits_40 : decode cX5_bits 40 = .ok (.ddiv, 1) := by decide +kernel
theorem dX5_bits_41 : decode cX5_bits 41 = .ok (.dstore 8, 2) := by decide +kernel
theorem dX5_bits_43 : decode cX5_bits 43 = .ok (.lload 10, 2) := by decide +kernel
theorem dX5_bits_45 : decode cX5_bits 45 = .ok (.lconst 1, 1) := by decide +kernel
theorem dX5_bits_46 : decode cX5_bits 46 = .ok (.ladd, 1) := by decide +kernel
theorem dX5_bits_47 : decode cX5_bits 47 = .ok (.lstore 10, 2) := by decide +kernel
theorem dX5_bits_49 : decode cX5_bits 49 = .ok (.goto (-23), 3) := by decide +kernel
theorem dX5_bits_52 : decode cX5_bits 52 = .ok (.dload 8, 2) := by decide +kernel
theorem dX5_bits_54 : decode cX5_bits 54 = .ok (.dconst 1, 1) := by decide +kernel
theorem dX5_bits_55 : decode cX5_bits 55 = .ok (.dcmp .g, 1) := by decide +kernel
theorem dX5_bits_56 : decode cX5_bits 56 = .ok (.ifCond .ge 20, 3) := by decide +kernel
theorem dX5_bits_59 : decode cX5_bits 59 = .ok (.dload 8, 2) := by decide +kernel
theorem dX5_bits_61 : decode cX5_bits 61 = .ok (.ldc2_w 187, 3) := by decide +kernel
theorem dX5_bits_64 : decode cX5_bits 64 = .ok (.dmul, 1) := by decide +kernel
theorem dX5_bits_65 : decode cX5_bits 65 = .ok (.dstore 8, 2) := by decide +kernel
theorem dX5_bits_67 : decode cX5_bits 67 = .ok (.lload 10, 2) := by decide +kernel
theorem dX5_bits_69 : decode cX5_bits 69 = .ok (.lconst 1, 1) := by decide +kernel
theorem dX5_bits_70 : decode cX5_bits 70 = .ok (.lsub, 1) := by decide +kernel
theorem dX5_bits_71 : decode cX5_bits 71 = .ok (.lstore 10, 2) := by decide +kernel
theorem dX5_bits_73 : decode cX5_bits 73 = .ok (.goto (-21), 3) := by decide +kernel
theorem dX5_bits_76 : decode cX5_bits 76 = .ok (.lload 10, 2) := by decide +kernel
theorem dX5_bits_78 : decode cX5_bits 78 = .ok (.lload_n 2, 1) := by decide +kernel
theorem dX5_bits_79 : decode cX5_bits 79 = .ok (.lmul, 1) := by decide +kernel
theorem dX5_bits_80 : decode cX5_bits 80 = .ok (.dload 8, 2) := by decide +kernel
theorem dX5_bits_82 : decode cX5_bits 82 = .ok (.dconst 1, 1) := by decide +kernel
theorem dX5_bits_83 : decode cX5_bits 83 = .ok (.dsub, 1) := by decide +kernel
theorem dX5_bits_84 : decode cX5_bits 84 = .ok (.lload_n 2, 1) := by decide +kernel
theorem dX5_bits_85 : decode cX5_bits 85 = .ok (.l2d, 1) := by decide +kernel
theorem dX5_bits_86 : decode cX5_bits 86 = .ok (.dmul, 1) := by decide +kernel
theorem dX5_bits_87 : decode cX5_bits 87 = .ok (.d2l, 1) := by decide +kernel
theorem dX5_bits_88 : decode cX5_bits 88 = .ok (.ladd, 1) := by decide +kernel
theorem dX5_bits_89 : decode cX5_bits 89 = .ok (.dload_n 0, 1) := by decide +kernel
theorem dX5_bits_90 : decode cX5_bits 90 = .ok (.dconst 0, 1) := by decide +kernel
theorem dX5_bits_91 : decode cX5_bits 91 = .ok (.dcmp .g, 1) := by decide +kernel
theorem dX5_bits_92 : decode cX5_bits 92 = .ok (.ifCond .ge 8, 3) := by decide +kernel
theorem dX5_bits_95 : decode cX5_bits 95 = .ok (.lload 6, 2) := by decide +kernel
theorem dX5_bits_97 : decode cX5_bits 97 = .ok (.goto 4, 3) := by decide +kernel
theorem dX5_bits_100 : decode cX5_bits 100 = .ok (.lconst 0, 1) := by decide +kernel
theorem dX5_bits_101 : decode cX5_bits 101 = .ok (.ladd, 1) := by decide +kernel
theorem dX5_bits_102 : decode cX5_bits 102 = .ok (.lreturn, 1) := by decide +kernel
theorem dX5_doubleBits_0 : decode cX5_doubleBits 0 = .ok (.dload_n 0, 1) := by decide +kernel
theorem dX5_doubleBits_1 : decode cX5_doubleBits 1 = .ok (.ldc2_w 189, 3) := by decide +kernel
theorem dX5_doubleBits_4 : decode cX5_doubleBits 4 = .ok (.ldc2_w 191, 3) := by decide +kernel
theorem dX5_doubleBits_7 : decode cX5_doubleBits 7 = .ok (.ldc2_w 193, 3) := by decide +kernel
theorem dX5_doubleBits_10 : decode cX5_doubleBits 10 = .ok (.invokestatic 195, 3) := by decide +kernel
theorem dX5_doubleBits_13 : decode cX5_doubleBits 13 = .ok (.lreturn, 1) := by decide +kernel
theorem dX5_mixSurvey_0 : decode cX5_mixSurvey 0 = .ok (.iconst 0, 1) := by decide +kernel
theorem dX5_mixSurvey_1 : decode cX5_mixSurvey 1 = .ok (.istore_n 2, 1) := by decide +kernel
theorem dX5_mixSurvey_2 : decode cX5_mixSurvey 2 = .ok (.iload_n 2, 1) := by decide +kernel
theorem dX5_mixSurvey_3 : decode cX5_mixSurvey 3 = .ok (.iconst 5, 1) := by decide +kernel
theorem dX5_mixSurvey_4 : decode cX5_mixSurvey 4 = .ok (.if_icmp .ge 20, 3) := by decide +kernel
theorem dX5_mixSurvey_7 : decode cX5_mixSurvey 7 = .ok (.aload_n 0, 1) := by decide +kernel
theorem dX5_mixSurvey_8 : decode cX5_mixSurvey 8 = .ok (.aload_n 0, 1) := by decide +kernel
theorem dX5_mixSurvey_9 : decode cX5_mixSurvey 9 = .ok (.iload_n 1, 1) := by decide +kernel
theorem dX5_mixSurvey_10 : decode cX5_mixSurvey 10 = .ok (.iload_n 2, 1) := by decide +kernel
theorem dX5_mixSurvey_11 : decode cX5_mixSurvey 11 = .ok (.invokevirtual 136, 3) := by decide +kernel
theorem dX5_mixSurvey_14 : decode cX5_mixSurvey 14 = .ok (.i2l, 1) := by decide +kernel
theorem dX5_mixSurvey_15 : decode cX5_mixSurvey 15 = .ok (.invokevirtual 199, 3) := by decide +kernel
theorem dX5_mixSurvey_18 : decode cX5_mixSurvey 18 = .ok (.iinc 2 1, 3) := by decide +kernel
theorem dX5_mixSurvey_21 : decode cX5_mixSurvey 21 = .ok (.goto (-19), 3) := by decide +kernel
theorem dX5_mixSurvey_24 : decode cX5_mixSurvey 24 = .ok (.iconst 0, 1) := by decide +kernel
theorem dX5_mixSurvey_25 : decode cX5_mixSurvey 25 = .ok (.istore_n 2, 1) := by decide +kernel
theorem dX5_mixSurvey_26 : decode cX5_mixSurvey 26 = .ok (.iconst 0, 1) := by decide +kernel
theorem dX5_mixSurvey_27 : decode cX5_mixSurvey 27 = .ok (.istore_n 3, 1) := by decide +kernel
theorem dX5_mixSurvey_28 : decode cX5_mixSurvey 28 = .ok (.iconst 0, 1) := by decide +kernel
theorem dX5_mixSurvey_29 : decode cX5_mixSurvey 29 = .ok (.istore 4, 2) := by decide +kernel
theorem dX5_mixSurvey_31 : decode cX5_mixSurvey 31 = .ok (.iload 4, 2) := by decide +kernel
theorem dX5_mixSurvey_33 : decode cX5_mixSurvey 33 = .ok (.bipush 32, 2) := by decide +kernel
theorem dX5_mixSurvey_35 : decode cX5_mixSurvey 35 = .ok (.if_icmp .ge 130, 3) := by decide +kernel
theorem dX5_mixSurvey_38 : decode cX5_mixSurvey 38 = .ok (.iconst 0, 1) := by decide +kernel
theorem dX5_mixSurvey_39 : decode cX5_mixSurvey 39 = .ok (.istore 5, 2) := by decide +kernel
theorem dX5_mixSurvey_41 : decode cX5_mixSurvey 41 = .ok (.iload 5, 2) := by decide +kernel
theorem dX5_mixSurvey_43 : decode cX5_mixSurvey 43 = .ok (.bipush 6, 2) := by decide +kernel
theorem dX5_mixSurvey_45 : decode cX5_mixSurvey 45 = .ok (.if_icmp .ge 29, 3) := by decide +kernel
theorem dX5_mixSurvey_48 : decode cX5_mixSurvey 48 = .ok (.aload_n 0, 1) := by decide +kernel
theorem dX5_mixSurvey_49 : decode cX5_mixSurvey 49 = .ok (.aload_n 0, 1) := by decide +kernel
theorem dX5_mixSurvey_50 : decode cX5_mixSurvey 50 = .ok (.iload_n 1, 1) := by decide +kernel
theorem dX5_mixSurvey_51 : decode cX5_mixSurvey 51 = .ok (.iload 4, 2) := by decide +kernel
theorem dX5_mixSurvey_53 : decode cX5_mixSurvey 53 = .ok (.iconst 2, 1) := by decide +kernel
theorem dX5_mixSurvey_54 : decode cX5_mixSurvey 54 = .ok (.idiv, 1) := by decide +kernel
theorem dX5_mixSurvey_55 : decode cX5_mixSurvey 55 = .ok (.iload 4, 2) := by decide +kernel
theorem dX5_mixSurvey_57 : decode cX5_mixSurvey 57 = .ok (.iconst 2, 1) := by decide +kernel
theorem dX5_mixSurvey_58 : decode cX5_mixSurvey 58 = .ok (.irem, 1) := by decide +kernel
theorem dX5_mixSurvey_59 : decode cX5_mixSurvey 59 = .ok (.iload 5, 2) := by decide +kernel
theorem dX5_mixSurvey_61 : decode cX5_mixSurvey 61 = .ok (.invokevirtual 127, 3) := by decide +kernel
theorem dX5_mixSurvey_64 : decode cX5_mixSurvey 64 = .ok (.i2l, 1) := by decide +kernel
theorem dX5_mixSurvey_65 : decode cX5_mixSurvey 65 = .ok (.invokevirtual 199, 3) := by decide +kernel
theorem dX5_mixSurvey_68 : decode cX5_mixSurvey 68 = .ok (.iinc 5 1, 3) := by decide +kernel
theorem dX5_mixSurvey_71 : decode cX5_mixSurvey 71 = .ok (.goto (-30), 3) := by decide +kernel
theorem dX5_mixSurvey_74 : decode cX5_mixSurvey 74 = .ok (.iload_n 2, 1) := by decide +kernel
theorem dX5_mixSurvey_75 : decode cX5_mixSurvey 75 = .ok (.iload 4, 2) := by decide +kernel
theorem dX5_mixSurvey_77 : decode cX5_mixSurvey 77 = .ok (.iconst 2, 1) := by decide +kernel
theorem dX5_mixSurvey_78 : decode cX5_mixSurvey 78 = .ok (.irem, 1) := by decide +kernel
theorem dX5_mixSurvey_79 : decode cX5_mixSurvey 79 = .ok (.ifCond .ne 16, 3) := by decide +kernel
theorem dX5_mixSurvey_82 : decode cX5_mixSurvey 82 = .ok (.aload_n 0, 1) := by decide +kernel
theorem dX5_mixSurvey_83 : decode cX5_mixSurvey 83 = .ok (.iload_n 1, 1) := by decide +kernel
theorem dX5_mixSurvey_84 : decode cX5_mixSurvey 84 = .ok (.iload 4, 2) := by decide +kernel
theorem dX5_mixSurvey_86 : decode cX5_mixSurvey 86 = .ok (.iconst 2, 1) := by decide +kernel
theorem dX5_mixSurvey_87 : decode cX5_mixSurvey 87 = .ok (.idiv, 1) := by decide +kernel
theorem dX5_mixSurvey_88 : decode cX5_mixSurvey 88 = .ok (.iconst 0, 1) := by decide +kernel
theorem dX5_mixSurvey_89 : decode cX5_mixSurvey 89 = .ok (.invokevirtual 62, 3) := by decide +kernel
theorem dX5_mixSurvey_92 : decode cX5_mixSurvey 92 = .ok (.goto 4, 3) := by decide +kernel
theorem dX5_mixSurvey_95 : decode cX5_mixSurvey 95 = .ok (.iconst 0, 1) := by decide +kernel
theorem dX5_mixSurvey_96 : decode cX5_mixSurvey 96 = .ok (.iadd, 1) := by decide +kernel
theorem dX5_mixSurvey_97 : decode cX5_mixSurvey 97 = .ok (.istore_n 2, 1) := by decide +kernel
theorem dX5_mixSurvey_98 : decode cX5_mixSurvey 98 = .ok (.iload_n 3, 1) := by decide +kernel
theorem dX5_mixSurvey_99 : decode cX5_mixSurvey 99 = .ok (.iload 4, 2) := by decide +kernel
theorem dX5_mixSurvey_101 : decode cX5_mixSurvey 101 = .ok (.iconst 2, 1) := by decide +kernel
theorem dX5_mixSurvey_102 : decode cX5_mixSurvey 102 = .ok (.irem, 1) := by decide +kernel
theorem dX5_mixSurvey_103 : decode cX5_mixSurvey 103 = .ok (.iconst 1, 1) := by decide +kernel
theorem dX5_mixSurvey_104 : decode cX5_mixSurvey 104 = .ok (.if_icmp .ne 16, 3) := by decide +kernel
theorem dX5_mixSurvey_107 : decode cX5_mixSurvey 107 = .ok (.aload_n 0, 1) := by decide +kernel
theorem dX5_mixSurvey_108 : decode cX5_mixSurvey 108 = .ok (.iload_n 1, 1) := by decide +kernel
theorem dX5_mixSurvey_109 : decode cX5_mixSurvey 109 = .ok (.iload 4, 2) := by decide +kernel
theorem dX5_mixSurvey_111 : decode cX5_mixSurvey 111 = .ok (.iconst 2, 1) := by decide +kernel
theorem dX5_mixSurvey_112 : decode cX5_mixSurvey 112 = .ok (.idiv, 1) := by decide +kernel
theorem dX5_mixSurvey_113 : decode cX5_mixSurvey 113 = .ok (.iconst 1, 1) := by decide +kernel
theorem dX5_mixSurvey_114 : decode cX5_mixSurvey 114 = .ok (.invokevirtual 62, 3) := by decide +kernel
theorem dX5_mixSurvey_117 : decode cX5_mixSurvey 117 = .ok (.goto 4, 3) := by decide +kernel
theorem dX5_mixSurvey_120 : decode cX5_mixSurvey 120 = .ok (.iconst 0, 1) := by decide +kernel
theorem dX5_mixSurvey_121 : decode cX5_mixSurvey 121 = .ok (.iadd, 1) := by decide +kernel
theorem dX5_mixSurvey_122 : decode cX5_mixSurvey 122 = .ok (.istore_n 3, 1) := by decide +kernel
theorem dX5_mixSurvey_123 : decode cX5_mixSurvey 123 = .ok (.aload_n 0, 1) := by decide +kernel
theorem dX5_mixSurvey_124 : decode cX5_mixSurvey 124 = .ok (.iload 4, 2) := by decide +kernel
theorem dX5_mixSurvey_126 : decode cX5_mixSurvey 126 = .ok (.iconst 2, 1) := by decide +kernel
theorem dX5_mixSurvey_127 : decode cX5_mixSurvey 127 = .ok (.irem, 1) := by decide +kernel
theorem dX5_mixSurvey_128 : decode cX5_mixSurvey 128 = .ok (.ifCond .ne 8, 3) := by decide +kernel
theorem dX5_mixSurvey_131 : decode cX5_mixSurvey 131 = .ok (.iload_n 2, 1) := by decide +kernel
theorem dX5_mixSurvey_132 : decode cX5_mixSurvey 132 = .ok (.i2l, 1) := by decide +kernel
theorem dX5_mixSurvey_133 : decode cX5_mixSurvey 133 = .ok (.goto 5, 3) := by decide +kernel
theorem dX5_mixSurvey_136 : decode cX5_mixSurvey 136 = .ok (.iload_n 3, 1) := by decide +kernel
theorem dX5_mixSurvey_137 : decode cX5_mixSurvey 137 = .ok (.i2l, 1) := by decide +kernel
theorem dX5_mixSurvey_138 : decode cX5_mixSurvey 138 = .ok (.invokevirtual 199, 3) := by decide +kernel
theorem dX5_mixSurvey_141 : decode cX5_mixSurvey 141 = .ok (.aload_n 0, 1) := by decide +kernel
theorem dX5_mixSurvey_142 : decode cX5_mixSurvey 142 = .ok (.iload 4, 2) := by decide +kernel
theorem dX5_mixSurvey_144 : decode cX5_mixSurvey 144 = .ok (.iconst 2, 1) := by decide +kernel
theorem dX5_mixSurvey_145 : decode cX5_mixSurvey 145 = .ok (.irem, 1) := by decide +kernel
theorem dX5_mixSurvey_146 : decode cX5_mixSurvey 146 = .ok (.ifCond .ne 8, 3) := by decide +kernel
theorem dX5_mixSurvey_149 : decode cX5_mixSurvey 149 = .ok (.iload_n 2, 1) := by decide +kernel
theorem dX5_mixSurvey_150 : decode cX5_mixSurvey 150 = .ok (.i2l, 1) := by decide +kernel
theorem dX5_mixSurvey_151 : decode cX5_mixSurvey 151 = .ok (.goto 5, 3) := by decide +kernel
theorem dX5_mixSurvey_154 : decode cX5_mixSurvey 154 = .ok (.iload_n 3, 1) := by decide +kernel
theorem dX5_mixSurvey_155 : decode cX5_mixSurvey 155 = .ok (.i2l, 1) := by decide +kernel
theorem dX5_mixSurvey_156 : decode cX5_mixSurvey 156 = .ok (.invokevirtual 199, 3) := by decide +kernel
theorem dX5_mixSurvey_159 : decode cX5_mixSurvey 159 = .ok (.iinc 4 1, 3) := by decide +kernel
theorem dX5_mixSurvey_162 : decode cX5_mixSurvey 162 = .ok (.goto (-131), 3) := by decide +kernel
theorem dX5_mixSurvey_165 : decode cX5_mixSurvey 165 = .ok (.iconst 0, 1) := by decide +kernel
theorem dX5_mixSurvey_166 : decode cX5_mixSurvey 166 = .ok (.istore 4, 2) := by decide +kernel
theorem dX5_mixSurvey_168 : decode cX5_mixSurvey 168 = .ok (.iload 4, 2) := by decide +kernel
theorem dX5_mixSurvey_170 : decode cX5_mixSurvey 170 = .ok (.iconst 2, 1) := by decide +kernel
theorem dX5_mixSurvey_171 : decode cX5_mixSurvey 171 = .ok (.if_icmp .ge 47, 3) := by decide +kernel
theorem dX5_mixSurvey_174 : decode cX5_mixSurvey 174 = .ok (.aload_n 0, 1) := by decide +kernel
theorem dX5_mixSurvey_175 : decode cX5_mixSurvey 175 = .ok (.aload_n 0, 1) := by decide +kernel
theorem dX5_mixSurvey_176 : decode cX5_mixSurvey 176 = .ok (.iload_n 1, 1) := by decide +kernel
theorem dX5_mixSurvey_177 : decode cX5_mixSurvey 177 = .ok (.iload 4, 2) := by decide +kernel
theorem dX5_mixSurvey_179 : decode cX5_mixSurvey 179 = .ok (.invokevirtual 169, 3) := by decide +kernel
theorem dX5_mixSurvey_182 : decode cX5_mixSurvey 182 = .ok (.f2d, 1) := by decide +kernel
theorem dX5_mixSurvey_183 : decode cX5_mixSurvey 183 = .ok (.ldc2_w 203, 3) := by decide +kernel
theorem dX5_mixSurvey_186 : decode cX5_mixSurvey 186 = .ok (.ldc2_w 205, 3) := by decide +kernel
theorem dX5_mixSurvey_189 : decode cX5_mixSurvey 189 = .ok (.ldc2_w 207, 3) := by decide +kernel
theorem dX5_mixSurvey_192 : decode cX5_mixSurvey 192 = .ok (.invokestatic 195, 3) := by decide +kernel
theorem dX5_mixSurvey_195 : decode cX5_mixSurvey 195 = .ok (.invokevirtual 199, 3) := by decide +kernel
theorem dX5_mixSurvey_198 : decode cX5_mixSurvey 198 = .ok (.aload_n 0, 1) := by decide +kernel
theorem dX5_mixSurvey_199 : decode cX5_mixSurvey 199 = .ok (.aload_n 0, 1) := by decide +kernel
theorem dX5_mixSurvey_200 : decode cX5_mixSurvey 200 = .ok (.iload_n 1, 1) := by decide +kernel
theorem dX5_mixSurvey_201 : decode cX5_mixSurvey 201 = .ok (.iload 4, 2) := by decide +kernel
theorem dX5_mixSurvey_203 : decode cX5_mixSurvey 203 = .ok (.invokevirtual 177, 3) := by decide +kernel
theorem dX5_mixSurvey_206 : decode cX5_mixSurvey 206 = .ok (.invokestatic 209, 3) := by decide +kernel
theorem dX5_mixSurvey_209 : decode cX5_mixSurvey 209 = .ok (.invokevirtual 199, 3) := by decide +kernel
theorem dX5_mixSurvey_212 : decode cX5_mixSurvey 212 = .ok (.iinc 4 1, 3) := by decide +kernel
theorem dX5_mixSurvey_215 : decode cX5_mixSurvey 215 = .ok (.goto (-47), 3) := by decide +kernel
theorem dX5_mixSurvey_218 : decode cX5_mixSurvey 218 = .ok (.return_, 1) := by decide +kernel
theorem dX5_digest_0 : decode cX5_digest 0 = .ok (.aload_n 0, 1) := by decide +kernel
theorem dX5_digest_1 : decode cX5_digest 1 = .ok (.iconst 0, 1) := by decide +kernel
theorem dX5_digest_2 : decode cX5_digest 2 = .ok (.putfield 20, 3) := by decide +kernel
theorem dX5_digest_5 : decode cX5_digest 5 = .ok (.aload_n 0, 1) := by decide +kernel
theorem dX5_digest_6 : decode cX5_digest 6 = .ok (.ldc2_w 213, 3) := by decide +kernel
theorem dX5_digest_9 : decode cX5_digest 9 = .ok (.putfield 183, 3) := by decide +kernel
theorem dX5_digest_12 : decode cX5_digest 12 = .ok (.iconst 0, 1) := by decide +kernel
theorem dX5_digest_13 : decode cX5_digest 13 = .ok (.istore_n 1, 1) := by decide +kernel
theorem dX5_digest_14 : decode cX5_digest 14 = .ok (.iload_n 1, 1) := by decide +kernel
theorem dX5_digest_15 : decode cX5_digest 15 = .ok (.bipush 8, 2) := by decide +kernel
theorem dX5_digest_17 : decode cX5_digest 17 = .ok (.if_icmp .ge 19, 3) := by decide +kernel
theorem dX5_digest_20 : decode cX5_digest 20 = .ok (.aload_n 0, 1) := by decide +kernel
theorem dX5_digest_21 : decode cX5_digest 21 = .ok (.aload_n 0, 1) := by decide +kernel
theorem dX5_digest_22 : decode cX5_digest 22 = .ok (.iload_n 1, 1) := by decide +kernel
theorem dX5_digest_23 : decode cX5_digest 23 = .ok (.invokevirtual 145, 3) := by decide +kernel
theorem dX5_digest_26 : decode cX5_digest 26 = .ok (.i2l, 1) := by decide +kernel
theorem dX5_digest_27 : decode cX5_digest 27 = .ok (.invokevirtual 199, 3) := by decide +kernel
theorem dX5_digest_30 : decode cX5_digest 30 = .ok (.iinc 1 1, 3) := by decide +kernel
theorem dX5_digest_33 : decode cX5_digest 33 = .ok (.goto (-19), 3) := by decide +kernel
theorem dX5_digest_36 : decode cX5_digest 36 = .ok (.iconst 0, 1) := by decide +kernel
theorem dX5_digest_37 : decode cX5_digest 37 = .ok (.istore_n 1, 1) := by decide +kernel
theorem dX5_digest_38 : decode cX5_digest 38 = .ok (.iload_n 1, 1) := by decide +kernel
theorem dX5_digest_39 : decode cX5_digest 39 = .ok (.iconst 3, 1) := by decide +kernel
theorem dX5_digest_40 : decode cX5_digest 40 = .ok (.if_icmp .ge 23, 3) := by decide +kernel
theorem dX5_digest_43 : decode cX5_digest 43 = .ok (.aload_n 0, 1) := by decide +kernel
theorem dX5_digest_44 : decode cX5_digest 44 = .ok (.aload_n 0, 1) := by decide +kernel
theorem dX5_digest_45 : decode cX5_digest 45 = .ok (.getfield 7, 3) := by decide +kernel
theorem dX5_digest_48 : decode cX5_digest 48 = .ok (.bipush 6, 2) := by decide +kernel
theorem dX5_digest_50 : decode cX5_digest 50 = .ok (.iload_n 1, 1) := by decide +kernel
theorem dX5_digest_51 : decode cX5_digest 51 = .ok (.iadd, 1) := by decide +kernel
theorem dX5_digest_52 : decode cX5_digest 52 = .ok (.iaload, 1) := by decide +kernel
theorem dX5_digest_53 : decode cX5_digest 53 = .ok (.i2l, 1) := by decide +kernel
theorem dX5_digest_54 : decode cX5_digest 54 = .ok (.invokevirtual 199, 3) := by decide +kernel
theorem dX5_digest_57 : decode cX5_digest 57 = .ok (.iinc 1 1, 3) := by decide +kernel
theorem dX5_digest_60 : decode cX5_digest 60 = .ok (.goto (-22), 3) := by decide +kernel
theorem dX5_digest_63 : decode cX5_digest 63 = .ok (.iconst 0, 1) := by decide +kernel
theorem dX5_digest_64 : decode cX5_digest 64 = .ok (.istore_n 1, 1) := by decide +kernel
theorem dX5_digest_65 : decode cX5_digest 65 = .ok (.iload_n 1, 1) := by decide +kernel
theorem dX5_digest_66 : decode cX5_digest 66 = .ok (.bipush 112, 2) := by decide +kernel
theorem dX5_digest_68 : decode cX5_digest 68 = .ok (.if_icmp .ge 26, 3) := by decide +kernel
theorem dX5_digest_71 : decode cX5_digest 71 = .ok (.aload_n 0, 1) := by decide +kernel
theorem dX5_digest_72 : decode cX5_digest 72 = .ok (.aload_n 0, 1) := by decide +kernel
theorem dX5_digest_73 : decode cX5_digest 73 = .ok (.iload_n 1, 1) := by decide +kernel
theorem dX5_digest_74 : decode cX5_digest 74 = .ok (.bipush 7, 2) := by decide +kernel
theorem dX5_digest_76 : decode cX5_digest 76 = .ok (.idiv, 1) := by decide +kernel
theorem dX5_digest_77 : decode cX5_digest 77 = .ok (.iload_n 1, 1) := by decide +kernel
theorem dX5_digest_78 : decode cX5_digest 78 = .ok (.bipush 7, 2) := by decide +kernel
theorem dX5_digest_80 : decode cX5_digest 80 = .ok (.irem, 1) := by decide +kernel
theorem dX5_digest_81 : decode cX5_digest 81 = .ok (.invokevirtual 121, 3) := by decide +kernel
theorem dX5_digest_84 : decode cX5_digest 84 = .ok (.i2l, 1) := by decide +kernel
theorem dX5_digest_85 : decode cX5_digest 85 = .ok (.invokevirtual 199, 3) := by decide +kernel
theorem dX5_digest_88 : decode cX5_digest 88 = .ok (.iinc 1 1, 3) := by decide +kernel
theorem dX5_digest_91 : decode cX5_digest 91 = .ok (.goto (-26), 3) := by decide +kernel
theorem dX5_digest_94 : decode cX5_digest 94 = .ok (.iconst 0, 1) := by decide +kernel
theorem dX5_digest_95 : decode cX5_digest 95 = .ok (.istore_n 1, 1) := by decide +kernel
theorem dX5_digest_96 : decode cX5_digest 96 = .ok (.iload_n 1, 1) := by decide +kernel
theorem dX5_digest_97 : decode cX5_digest 97 = .ok (.aload_n 0, 1) := by decide +kernel
theorem dX5_digest_98 : decode cX5_digest 98 = .ok (.getfield 7, 3) := by decide +kernel
theorem dX5_digest_101 : decode cX5_digest 101 = .ok (.iconst 1, 1) := by decide +kernel
theorem dX5_digest_102 : decode cX5_digest 102 = .ok (.iaload, 1) := by decide +kernel
theorem dX5_digest_103 : decode cX5_digest 103 = .ok (.if_icmp .ge 14, 3) := by decide +kernel
theorem dX5_digest_106 : decode cX5_digest 106 = .ok (.aload_n 0, 1) := by decide +kernel
theorem dX5_digest_107 : decode cX5_digest 107 = .ok (.iload_n 1, 1) := by decide +kernel
theorem dX5_digest_108 : decode cX5_digest 108 = .ok (.invokevirtual 215, 3) := by decide +kernel
theorem dX5_digest_111 : decode cX5_digest 111 = .ok (.iinc 1 1, 3) := by decide +kernel
theorem dX5_digest_114 : decode cX5_digest 114 = .ok (.goto (-18), 3) := by decide +kernel
theorem dX5_digest_117 : decode cX5_digest 117 = .ok (.iconst 2, 1) := by decide +kernel
theorem dX5_digest_118 : decode cX5_digest 118 = .ok (.istore_n 1, 1) := by decide +kernel
theorem dX5_digest_119 : decode cX5_digest 119 = .ok (.iload_n 1, 1) := by decide +kernel
theorem dX5_digest_120 : decode cX5_digest 120 = .ok (.iconst 2, 1) := by decide +kernel
theorem dX5_digest_121 : decode cX5_digest 121 = .ok (.aload_n 0, 1) := by decide +kernel
theorem dX5_digest_122 : decode cX5_digest 122 = .ok (.getfield 7, 3) := by decide +kernel
theorem dX5_digest_125 : decode cX5_digest 125 = .ok (.iconst 1, 1) := by decide +kernel
theorem dX5_digest_126 : decode cX5_digest 126 = .ok (.iaload, 1) := by decide +kernel
theorem dX5_digest_127 : decode cX5_digest 127 = .ok (.imul, 1) := by decide +kernel
theorem dX5_digest_128 : decode cX5_digest 128 = .ok (.if_icmp .ge 60, 3) := by decide +kernel
theorem dX5_digest_131 : decode cX5_digest 131 = .ok (.aload_n 0, 1) := by decide +kernel
theorem dX5_digest_132 : decode cX5_digest 132 = .ok (.aload_n 0, 1) := by decide +kernel
theorem dX5_digest_133 : decode cX5_digest 133 = .ok (.iconst 0, 1) := by decide +kernel
theorem dX5_digest_134 : decode cX5_digest 134 = .ok (.iload_n 1, 1) := by decide +kernel
theorem dX5_digest_135 : decode cX5_digest 135 = .ok (.iconst 2, 1) := by decide +kernel
theorem dX5_digest_136 : decode cX5_digest 136 = .ok (.idiv, 1) := by decide +kernel
theorem dX5_digest_137 : decode cX5_digest 137 = .ok (.iload_n 1, 1) := by decide +kernel
theorem dX5_digest_138 : decode cX5_digest 138 = .ok (.iconst 2, 1) := by decide +kernel
theorem dX5_digest_139 : decode cX5_digest 139 = .ok (.irem, 1) := by decide +kernel
theorem dX5_digest_140 : decode cX5_digest 140 = .ok (.invokevirtual 154, 3) := by decide +kernel
theorem dX5_digest_143 : decode cX5_digest 143 = .ok (.i2l, 1) := by decide +kernel
theorem dX5_digest_144 : decode cX5_digest 144 = .ok (.invokevirtual 199, 3) := by decide +kernel
theorem dX5_digest_147 : decode cX5_digest 147 = .ok (.aload_n 0, 1) := by decide +kernel
theorem dX5_digest_148 : decode cX5_digest 148 = .ok (.aload_n 0, 1) := by decide +kernel
theorem dX5_digest_149 : decode cX5_digest 149 = .ok (.iconst 0, 1) := by decide +kernel
theorem dX5_digest_150 : decode cX5_digest 150 = .ok (.iload_n 1, 1) := by decide +kernel
theorem dX5_digest_151 : decode cX5_digest 151 = .ok (.iconst 2, 1) := by decide +kernel
theorem dX5_digest_152 : decode cX5_digest 152 = .ok (.idiv, 1) := by decide +kernel
theorem dX5_digest_153 : decode cX5_digest 153 = .ok (.iload_n 1, 1) := by decide +kernel
theorem dX5_digest_154 : decode cX5_digest 154 = .ok (.iconst 2, 1) := by decide +kernel
theorem dX5_digest_155 : decode cX5_digest 155 = .ok (.irem, 1) := by decide +kernel
theorem dX5_digest_156 : decode cX5_digest 156 = .ok (.iconst 5, 1) := by decide +kernel
theorem dX5_digest_157 : decode cX5_digest 157 = .ok (.invokevirtual 157, 3) := by decide +kernel
theorem dX5_digest_160 : decode cX5_digest 160 = .ok (.i2l, 1) := by decide +kernel
theorem dX5_digest_161 : decode cX5_digest 161 = .ok (.invokevirtual 199, 3) := by decide +kernel
theorem dX5_digest_164 : decode cX5_digest 164 = .ok (.aload_n 0, 1) := by decide +kernel
theorem dX5_digest_165 : decode cX5_digest 165 = .ok (.aload_n 0, 1) := by decide +kernel
theorem dX5_digest_166 : decode cX5_digest 166 = .ok (.iconst 0, 1) := by decide +kernel
theorem dX5_digest_167 : decode cX5_digest 167 = .ok (.iload_n 1, 1) := by decide +kernel
theorem dX5_digest_168 : decode cX5_digest 168 = .ok (.iconst 2, 1) := by decide +kernel
theorem dX5_digest_169 : decode cX5_digest 169 = .ok (.idiv, 1) := by decide +kernel
theorem dX5_digest_170 : decode cX5_digest 170 = .ok (.iload_n 1, 1) := by decide +kernel
theorem dX5_digest_171 : decode cX5_digest 171 = .ok (.iconst 2, 1) := by decide +kernel
theorem dX5_digest_172 : decode cX5_digest 172 = .ok (.irem, 1) := by decide +kernel
theorem dX5_digest_173 : decode cX5_digest 173 = .ok (.invokevirtual 160, 3) := by decide +kernel
theorem dX5_digest_176 : decode cX5_digest 176 = .ok (.invokestatic 209, 3) := by decide +kernel
theorem dX5_digest_179 : decode cX5_digest 179 = .ok (.invokevirtual 199, 3) := by decide +kernel
theorem dX5_digest_182 : decode cX5_digest 182 = .ok (.iinc 1 1, 3) := by decide +kernel
theorem dX5_digest_185 : decode cX5_digest 185 = .ok (.goto (-66), 3) := by decide +kernel
theorem dX5_digest_188 : decode cX5_digest 188 = .ok (.aload_n 0, 1) := by decide +kernel
theorem dX5_digest_189 : decode cX5_digest 189 = .ok (.aload_n 0, 1) := by decide +kernel
theorem dX5_digest_190 : decode cX5_digest 190 = .ok (.getfield 13, 3) := by decide +kernel
theorem dX5_digest_193 : decode cX5_digest 193 = .ok (.iconst 0, 1) := by decide +kernel
theorem dX5_digest_194 : decode cX5_digest 194 = .ok (.baload, 1) := by decide +kernel
theorem dX5_digest_195 : decode cX5_digest 195 = .ok (.ifCond .eq 7, 3) := by decide +kernel
theorem dX5_digest_198 : decode cX5_digest 198 = .ok (.lconst 1, 1) := by decide +kernel
theorem dX5_digest_199 : decode cX5_digest 199 = .ok (.goto 4, 3) := by decide +kernel
theorem dX5_digest_202 : decode cX5_digest 202 = .ok (.lconst 0, 1) := by decide +kernel
theorem dX5_digest_203 : decode cX5_digest 203 = .ok (.invokevirtual 199, 3) := by decide +kernel
theorem dX5_digest_206 : decode cX5_digest 206 = .ok (.aload_n 0, 1) := by decide +kernel
theorem dX5_digest_207 : decode cX5_digest 207 = .ok (.aload_n 0, 1) := by decide +kernel
theorem dX5_digest_208 : decode cX5_digest 208 = .ok (.getfield 13, 3) := by decide +kernel
theorem dX5_digest_211 : decode cX5_digest 211 = .ok (.iconst 1, 1) := by decide +kernel
theorem dX5_digest_212 : decode cX5_digest 212 = .ok (.baload, 1) := by decide +kernel
theorem dX5_digest_213 : decode cX5_digest 213 = .ok (.ifCond .eq 7, 3) := by decide +kernel
theorem dX5_digest_216 : decode cX5_digest 216 = .ok (.lconst 1, 1) := by decide +kernel
theorem dX5_digest_217 : decode cX5_digest 217 = .ok (.goto 4, 3) := by decide +kernel
theorem dX5_digest_220 : decode cX5_digest 220 = .ok (.lconst 0, 1) := by decide +kernel
theorem dX5_digest_221 : decode cX5_digest 221 = .ok (.invokevirtual 199, 3) := by decide +kernel
theorem dX5_digest_224 : decode cX5_digest 224 = .ok (.aload_n 0, 1) := by decide +kernel
theorem dX5_digest_225 : decode cX5_digest 225 = .ok (.aload_n 0, 1) := by decide +kernel
theorem dX5_digest_226 : decode cX5_digest 226 = .ok (.getfield 91, 3) := by decide +kernel
theorem dX5_digest_229 : decode cX5_digest 229 = .ok (.i2l, 1) := by decide +kernel
theorem dX5_digest_230 : decode cX5_digest 230 = .ok (.invokevirtual 199, 3) := by decide +kernel
theorem dX5_digest_233 : decode cX5_digest 233 = .ok (.iconst 0, 1) := by decide +kernel
theorem dX5_digest_234 : decode cX5_digest 234 = .ok (.istore_n 1, 1) := by decide +kernel
theorem dX5_digest_235 : decode cX5_digest 235 = .ok (.iload_n 1, 1) := by decide +kernel
theorem dX5_digest_236 : decode cX5_digest 236 = .ok (.aload_n 0, 1) := by decide +kernel
theorem dX5_digest_237 : decode cX5_digest 237 = .ok (.getfield 91, 3) := by decide +kernel
theorem dX5_digest_240 : decode cX5_digest 240 = .ok (.if_icmp .ge 20, 3) := by decide +kernel
theorem dX5_digest_243 : decode cX5_digest 243 = .ok (.aload_n 0, 1) := by decide +kernel
theorem dX5_digest_244 : decode cX5_digest 244 = .ok (.aload_n 0, 1) := by decide +kernel
theorem dX5_digest_245 : decode cX5_digest 245 = .ok (.getfield 17, 3) := by decide +kernel
theorem dX5_digest_248 : decode cX5_digest 248 = .ok (.iload_n 1, 1) := by decide +kernel
theorem dX5_digest_249 : decode cX5_digest 249 = .ok (.iaload, 1) := by decide +kernel
theorem dX5_digest_250 : decode cX5_digest 250 = .ok (.i2l, 1) := by decide +kernel
theorem dX5_digest_251 : decode cX5_digest 251 = .ok (.invokevirtual 199, 3) := by decide +kernel
theorem dX5_digest_254 : decode cX5_digest 254 = .ok (.iinc 1 1, 3) := by decide +kernel
theorem dX5_digest_257 : decode cX5_digest 257 = .ok (.goto (-22), 3) := by decide +kernel
theorem dX5_digest_260 : decode cX5_digest 260 = .ok (.aload_n 0, 1) := by decide +kernel
theorem dX5_digest_261 : decode cX5_digest 261 = .ok (.getfield 183, 3) := by decide +kernel
theorem dX5_digest_264 : decode cX5_digest 264 = .ok (.lreturn, 1) := by decide +kernel
