theorem dX0_init_0 : decode cX0_init 0 = .ok (.aload_n 0, 1) := by decide +kernel
theorem dX0_init_1 : decode cX0_init 1 = .ok (.invokespecial 3, 3) := by decide +kernel
theorem dX0_init_4 : decode cX0_init 4 = .ok (.aload_n 0, 1) := by decide +kernel
theorem dX0_init_5 : decode cX0_init 5 = .ok (.bipush 60, 2) := by decide +kernel
theorem dX0_init_7 : decode cX0_init 7 = .ok (.newarray .int, 2) := by decide +kernel
theorem dX0_init_9 : decode cX0_init 9 = .ok (.putfield 9, 3) := by decide +kernel
theorem dX0_init_12 : decode cX0_init 12 = .ok (.return_, 1) := by decide +kernel
theorem dX0_number_0 : decode cX0_number 0 = .ok (.aload_n 0, 1) := by decide +kernel
theorem dX0_number_1 : decode cX0_number 1 = .ok (.getfield 15, 3) := by decide +kernel
theorem dX0_number_4 : decode cX0_number 4 = .ok (.ireturn, 1) := by decide +kernel
theorem dX0_freedInAll_0 : decode cX0_freedInAll 0 = .ok (.aload_n 0, 1) := by decide +kernel
theorem dX0_freedInAll_1 : decode cX0_freedInAll 1 = .ok (.getfield 19, 3) := by decide +kernel
theorem dX0_freedInAll_4 : decode cX0_freedInAll 4 = .ok (.ireturn, 1) := by decide +kernel
theorem dX0_put_0 : decode cX0_put 0 = .ok (.aload_n 0, 1) := by decide +kernel
theorem dX0_put_1 : decode cX0_put 1 = .ok (.getfield 15, 3) := by decide +kernel
theorem dX0_put_4 : decode cX0_put 4 = .ok (.bipush 60, 2) := by decide +kernel
theorem dX0_put_6 : decode cX0_put 6 = .ok (.if_icmp .lt 4, 3) := by decide +kernel
theorem dX0_put_9 : decode cX0_put 9 = .ok (.return_, 1) := by decide +kernel
theorem dX0_put_10 : decode cX0_put 10 = .ok (.aload_n 0, 1) := by decide +kernel
theorem dX0_put_11 : decode cX0_put 11 = .ok (.getfield 15, 3) := by decide +kernel
theorem dX0_put_14 : decode cX0_put 14 = .ok (.istore_n 2, 1) := by decide +kernel
theorem dX0_put_15 : decode cX0_put 15 = .ok (.iload_n 2, 1) := by decide +kernel
theorem dX0_put_16 : decode cX0_put 16 = .ok (.ifCond .le 35, 3) := by decide +kernel
theorem dX0_put_19 : decode cX0_put 19 = .ok (.aload_n 0, 1) := by decide +kernel
theorem dX0_put_20 : decode cX0_put 20 = .ok (.getfield 9, 3) := by decide +kernel
theorem dX0_put_23 : decode cX0_put 23 = .ok (.iload_n 2, 1) := by decide +kernel
theorem dX0_put_24 : decode cX0_put 24 = .ok (.iconst 1, 1) := by decide +kernel
theorem dX0_put_25 : decode cX0_put 25 = .ok (.isub, 1) := by decide +kernel
theorem dX0_put_26 : decode cX0_put 26 = .ok (.iaload, 1) := by decide +kernel
theorem dX0_put_27 : decode cX0_put 27 = .ok (.iload_n 1, 1) := by decide +kernel
theorem dX0_put_28 : decode cX0_put 28 = .ok (.if_icmp .le 23, 3) := by decide +kernel
theorem dX0_put_31 : decode cX0_put 31 = .ok (.aload_n 0, 1) := by decide +kernel
theorem dX0_put_32 : decode cX0_put 32 = .ok (.getfield 9, 3) := by decide +kernel
theorem dX0_put_35 : decode cX0_put 35 = .ok (.iload_n 2, 1) := by decide +kernel
theorem dX0_put_36 : decode cX0_put 36 = .ok (.aload_n 0, 1) := by decide +kernel
theorem dX0_put_37 : decode cX0_put 37 = .ok (.getfield 9, 3) := by decide +kernel
theorem dX0_put_40 : decode cX0_put 40 = .ok (.iload_n 2, 1) := by decide +kernel
theorem dX0_put_41 : decode cX0_put 41 = .ok (.iconst 1, 1) := by decide +kernel
theorem dX0_put_42 : decode cX0_put 42 = .ok (.isub, 1) := by decide +kernel
theorem dX0_put_43 : decode cX0_put 43 = .ok (.iaload, 1) := by decide +kernel
theorem dX0_put_44 : decode cX0_put 44 = .ok (.iastore, 1) := by decide +kernel
theorem dX0_put_45 : decode cX0_put 45 = .ok (.iinc 2 (-1), 3) := by decide +kernel
theorem dX0_put_48 : decode cX0_put 48 = .ok (.goto (-33), 3) := by decide +kernel
theorem dX0_put_51 : decode cX0_put 51 = .ok (.aload_n 0, 1) := by decide +kernel
theorem dX0_put_52 : decode cX0_put 52 = .ok (.getfield 9, 3) := by decide +kernel
theorem dX0_put_55 : decode cX0_put 55 = .ok (.iload_n 2, 1) := by decide +kernel
theorem dX0_put_56 : decode cX0_put 56 = .ok (.iload_n 1, 1) := by decide +kernel
theorem dX0_put_57 : decode cX0_put 57 = .ok (.iastore, 1) := by decide +kernel
theorem dX0_put_58 : decode cX0_put 58 = .ok (.aload_n 0, 1) := by decide +kernel
theorem dX0_put_59 : decode cX0_put 59 = .ok (.dup, 1) := by decide +kernel
theorem dX0_put_60 : decode cX0_put 60 = .ok (.getfield 15, 3) := by decide +kernel
theorem dX0_put_63 : decode cX0_put 63 = .ok (.iconst 1, 1) := by decide +kernel
theorem dX0_put_64 : decode cX0_put 64 = .ok (.iadd, 1) := by decide +kernel
theorem dX0_put_65 : decode cX0_put 65 = .ok (.putfield 15, 3) := by decide +kernel
theorem dX0_put_68 : decode cX0_put 68 = .ok (.aload_n 0, 1) := by decide +kernel
theorem dX0_put_69 : decode cX0_put 69 = .ok (.dup, 1) := by decide +kernel
theorem dX0_put_70 : decode cX0_put 70 = .ok (.getfield 19, 3) := by decide +kernel
theorem dX0_put_73 : decode cX0_put 73 = .ok (.iload_n 1, 1) := by decide +kernel
theorem dX0_put_74 : decode cX0_put 74 = .ok (.iadd, 1) := by decide +kernel
theorem dX0_put_75 : decode cX0_put 75 = .ok (.putfield 19, 3) := by decide +kernel
theorem dX0_put_78 : decode cX0_put 78 = .ok (.return_, 1) := by decide +kernel
theorem dX0_usualSize_0 : decode cX0_usualSize 0 = .ok (.aload_n 0, 1) := by decide +kernel
theorem dX0_usualSize_1 : decode cX0_usualSize 1 = .ok (.getfield 15, 3) := by decide +kernel
theorem dX0_usualSize_4 : decode cX0_usualSize 4 = .ok (.ifCond .le 18, 3) := by decide +kernel
theorem dX0_usualSize_7 : decode cX0_usualSize 7 = .ok (.aload_n 0, 1) := by decide +kernel
theorem dX0_usualSize_8 : decode cX0_usualSize 8 = .ok (.getfield 9, 3) := by decide +kernel
theorem dX0_usualSize_11 : decode cX0_usualSize 11 = .ok (.aload_n 0, 1) := by decide +kernel
theorem dX0_usualSize_12 : decode cX0_usualSize 12 = .ok (.getfield 15, 3) := by decide +kernel
theorem dX0_usualSize_15 : decode cX0_usualSize 15 = .ok (.invokestatic 22, 3) := by decide +kernel
theorem dX0_usualSize_18 : decode cX0_usualSize 18 = .ok (.iaload, 1) := by decide +kernel
theorem dX0_usualSize_19 : decode cX0_usualSize 19 = .ok (.goto 4, 3) := by decide +kernel
theorem dX0_usualSize_22 : decode cX0_usualSize 22 = .ok (.iconst 0, 1) := by decide +kernel
theorem dX0_usualSize_23 : decode cX0_usualSize 23 = .ok (.ireturn, 1) := by decide +kernel
theorem dX1_init_0 : decode cX1_init 0 = .ok (.aload_n 0, 1) := by decide +kernel
theorem dX1_init_1 : decode cX1_init 1 = .ok (.invokespecial 3, 3) := by decide +kernel
theorem dX1_init_4 : decode cX1_init 4 = .ok (.aload_n 0, 1) := by decide +kernel
theorem dX1_init_5 : decode cX1_init 5 = .ok (.iconst 1, 1) := by decide +kernel
theorem dX1_init_6 : decode cX1_init 6 = .ok (.putfield 9, 3) := by decide +kernel
theorem dX1_init_9 : decode cX1_init 9 = .ok (.return_, 1) := by decide +kernel
theorem dX1_start_0 : decode cX1_start 0 = .ok (.aload_n 0, 1) := by decide +kernel
theorem dX1_start_1 : decode cX1_start 1 = .ok (.iload_n 1, 1) := by decide +kernel
theorem dX1_start_2 : decode cX1_start 2 = .ok (.putfield 15, 3) := by decide +kernel
theorem dX1_start_5 : decode cX1_start 5 = .ok (.aload_n 0, 1) := by decide +kernel
theorem dX1_start_6 : decode cX1_start 6 = .ok (.iload_n 2, 1) := by decide +kernel
theorem dX1_start_7 : decode cX1_start 7 = .ok (.putfield 18, 3) := by decide +kernel
theorem dX1_start_10 : decode cX1_start 10 = .ok (.return_, 1) := by decide +kernel
theorem dX1_climb_0 : decode cX1_climb 0 = .ok (.aload_n 0, 1) := by decide +kernel
theorem dX1_climb_1 : decode cX1_climb 1 = .ok (.iload_n 1, 1) := by decide +kernel
theorem dX1_climb_2 : decode cX1_climb 2 = .ok (.putfield 21, 3) := by decide +kernel
theorem dX1_climb_5 : decode cX1_climb 5 = .ok (.aload_n 0, 1) := by decide +kernel
theorem dX1_climb_6 : decode cX1_climb 6 = .ok (.iload_n 2, 1) := by decide +kernel
theorem dX1_climb_7 : decode cX1_climb 7 = .ok (.putfield 9, 3) := by decide +kernel
theorem dX1_climb_10 : decode cX1_climb 10 = .ok (.return_, 1) := by decide +kernel
theorem dX1_heightOn_0 : decode cX1_heightOn 0 = .ok (.aload_n 0, 1) := by decide +kernel
theorem dX1_heightOn_1 : decode cX1_heightOn 1 = .ok (.getfield 21, 3) := by decide +kernel
theorem dX1_heightOn_4 : decode cX1_heightOn 4 = .ok (.i2l, 1) := by decide +kernel
theorem dX1_heightOn_5 : decode cX1_heightOn 5 = .ok (.iload_n 1, 1) := by decide +kernel
theorem dX1_heightOn_6 : decode cX1_heightOn 6 = .ok (.aload_n 0, 1) := by decide +kernel
theorem dX1_heightOn_7 : decode cX1_heightOn 7 = .ok (.getfield 15, 3) := by decide +kernel
theorem dX1_heightOn_10 : decode cX1_heightOn 10 = .ok (.isub, 1) := by decide +kernel
theorem dX1_heightOn_11 : decode cX1_heightOn 11 = .ok (.i2l, 1) := by decide +kernel
theorem dX1_heightOn_12 : decode cX1_heightOn 12 = .ok (.lmul, 1) := by decide +kernel
theorem dX1_heightOn_13 : decode cX1_heightOn 13 = .ok (.lstore_n 2, 1) := by decide +kernel
theorem dX1_heightOn_14 : decode cX1_heightOn 14 = .ok (.aload_n 0, 1) := by decide +kernel
theorem dX1_heightOn_15 : decode cX1_heightOn 15 = .ok (.getfield 18, 3) := by decide +kernel
theorem dX1_heightOn_18 : decode cX1_heightOn 18 = .ok (.i2l, 1) := by decide +kernel
theorem dX1_heightOn_19 : decode cX1_heightOn 19 = .ok (.aload_n 0, 1) := by decide +kernel
theorem dX1_heightOn_20 : decode cX1_heightOn 20 = .ok (.getfield 9, 3) := by decide +kernel
theorem dX1_heightOn_23 : decode cX1_heightOn 23 = .ok (.ifCond .le 15, 3) := by decide +kernel
theorem dX1_heightOn_26 : decode cX1_heightOn 26 = .ok (.lload_n 2, 1) := by decide +kernel
theorem dX1_heightOn_27 : decode cX1_heightOn 27 = .ok (.aload_n 0, 1) := by decide +kernel
theorem dX1_heightOn_28 : decode cX1_heightOn 28 = .ok (.getfield 9, 3) := by decide +kernel
theorem dX1_heightOn_31 : decode cX1_heightOn 31 = .ok (.i2l, 1) := by decide +kernel
theorem dX1_heightOn_32 : decode cX1_heightOn 32 = .ok (.invokestatic 24, 3) := by decide +kernel
theorem dX1_heightOn_35 : decode cX1_heightOn 35 = .ok (.goto 4, 3) := by decide +kernel
theorem dX1_heightOn_38 : decode cX1_heightOn 38 = .ok (.lconst 0, 1) := by decide +kernel
theorem dX1_heightOn_39 : decode cX1_heightOn 39 = .ok (.ladd, 1) := by decide +kernel
theorem dX1_heightOn_40 : decode cX1_heightOn 40 = .ok (.lreturn, 1) := by decide +kernel
theorem dX1_leastDaysToClimb_0 : decode cX1_leastDaysToClimb 0 = .ok (.aload_n 0, 1) := by decide +kernel
theorem dX1_leastDaysToClimb_1 : decode cX1_leastDaysToClimb 1 = .ok (.getfield 21, 3) := by decide +kernel
theorem dX1_leastDaysToClimb_4 : decode cX1_leastDaysToClimb 4 = .ok (.ifCond .gt 7, 3) := by decide +kernel
theorem dX1_leastDaysToClimb_7 : decode cX1_leastDaysToClimb 7 = .ok (.sipush 1000, 3) := by decide +kernel
theorem dX1_leastDaysToClimb_10 : decode cX1_leastDaysToClimb 10 = .ok (.ireturn, 1) := by decide +kernel
theorem dX1_leastDaysToClimb_11 : decode cX1_leastDaysToClimb 11 = .ok (.iload_n 1, 1) := by decide +kernel
theorem dX1_leastDaysToClimb_12 : decode cX1_leastDaysToClimb 12 = .ok (.i2l, 1) := by decide +kernel
theorem dX1_leastDaysToClimb_13 : decode cX1_leastDaysToClimb 13 = .ok (.lconst 1, 1) := by decide +kernel
theorem dX1_leastDaysToClimb_14 : decode cX1_leastDaysToClimb 14 = .ok (.lsub, 1) := by decide +kernel
theorem dX1_leastDaysToClimb_15 : decode cX1_leastDaysToClimb 15 = .ok (.aload_n 0, 1) := by decide +kernel
theorem dX1_leastDaysToClimb_16 : decode cX1_leastDaysToClimb 16 = .ok (.getfield 9, 3) := by decide +kernel
theorem dX1_leastDaysToClimb_19 : decode cX1_leastDaysToClimb 19 = .ok (.i2l, 1) := by decide +kernel
theorem dX1_leastDaysToClimb_20 : decode cX1_leastDaysToClimb 20 = .ok (.lmul, 1) := by decide +kernel
theorem dX1_leastDaysToClimb_21 : decode cX1_leastDaysToClimb 21 = .ok (.aload_n 0, 1) := by decide +kernel
theorem dX1_leastDaysToClimb_22 : decode cX1_leastDaysToClimb 22 = .ok (.getfield 21, 3) := by decide +kernel
theorem dX1_leastDaysToClimb_25 : decode cX1_leastDaysToClimb 25 = .ok (.i2l, 1) := by decide +kernel
theorem dX1_leastDaysToClimb_26 : decode cX1_leastDaysToClimb 26 = .ok (.ldiv, 1) := by decide +kernel
theorem dX1_leastDaysToClimb_27 : decode cX1_leastDaysToClimb 27 = .ok (.lconst 1, 1) := by decide +kernel
theorem dX1_leastDaysToClimb_28 : decode cX1_leastDaysToClimb 28 = .ok (.ladd, 1) := by decide +kernel
theorem dX1_leastDaysToClimb_29 : decode cX1_leastDaysToClimb 29 = .ok (.ldc2_w 30, 3) := by decide +kernel
theorem dX1_leastDaysToClimb_32 : decode cX1_leastDaysToClimb 32 = .ok (.invokestatic 32, 3) := by decide +kernel
theorem dX1_leastDaysToClimb_35 : decode cX1_leastDaysToClimb 35 = .ok (.l2i, 1) := by decide +kernel
theorem dX1_leastDaysToClimb_36 : decode cX1_leastDaysToClimb 36 = .ok (.ireturn, 1) := by decide +kernel
theorem dX1_riseInLowestTerms_0 : decode cX1_riseInLowestTerms 0 = .ok (.aload_n 0, 1) := by decide +kernel
theorem dX1_riseInLowestTerms_1 : decode cX1_riseInLowestTerms 1 = .ok (.invokevirtual 35, 3) := by decide +kernel
theorem dX1_riseInLowestTerms_4 : decode cX1_riseInLowestTerms 4 = .ok (.istore_n 1, 1) := by decide +kernel
theorem dX1_riseInLowestTerms_5 : decode cX1_riseInLowestTerms 5 = .ok (.iload_n 1, 1) := by decide +kernel
theorem dX1_riseInLowestTerms_6 : decode cX1_riseInLowestTerms 6 = .ok (.ifCond .le 12, 3) := by decide +kernel
theorem dX1_riseInLowestTerms_9 : decode cX1_riseInLowestTerms 9 = .ok (.aload_n 0, 1) := by decide +kernel
theorem dX1_riseInLowestTerms_10 : decode cX1_riseInLowestTerms 10 = .ok (.getfield 21, 3) := by decide +kernel
theorem dX1_riseInLowestTerms_13 : decode cX1_riseInLowestTerms 13 = .ok (.iload_n 1, 1) := by decide +kernel
theorem dX1_riseInLowestTerms_14 : decode cX1_riseInLowestTerms 14 = .ok (.idiv, 1) := by decide +kernel
theorem dX1_riseInLowestTerms_15 : decode cX1_riseInLowestTerms 15 = .ok (.goto 7, 3) := by decide +kernel
theorem dX1_riseInLowestTerms_18 : decode cX1_riseInLowestTerms 18 = .ok (.aload_n 0, 1) := by decide +kernel
theorem dX1_riseInLowestTerms_19 : decode cX1_riseInLowestTerms 19 = .ok (.getfield 21, 3) := by decide +kernel
theorem dX1_riseInLowestTerms_22 : decode cX1_riseInLowestTerms 22 = .ok (.ireturn, 1) := by decide +kernel
theorem dX1_runInLowestTerms_0 : decode cX1_runInLowestTerms 0 = .ok (.aload_n 0, 1) := by decide +kernel
theorem dX1_runInLowestTerms_1 : decode cX1_runInLowestTerms 1 = .ok (.invokevirtual 35, 3) := by decide +kernel
theorem dX1_runInLowestTerms_4 : decode cX1_runInLowestTerms 4 = .ok (.istore_n 1, 1) := by decide +kernel
theorem dX1_runInLowestTerms_5 : decode cX1_runInLowestTerms 5 = .ok (.iload_n 1, 1) := by decide +kernel
theorem dX1_runInLowestTerms_6 : decode cX1_runInLowestTerms 6 = .ok (.ifCond .le 12, 3) := by decide +kernel
theorem dX1_runInLowestTerms_9 : decode cX1_runInLowestTerms 9 = .ok (.aload_n 0, 1) := by decide +kernel
theorem dX1_runInLowestTerms_10 : decode cX1_runInLowestTerms 10 = .ok (.getfield 9, 3) := by decide +kernel
theorem dX1_runInLowestTerms_13 : decode cX1_runInLowestTerms 13 = .ok (.iload_n 1, 1) := by decide +kernel
theorem dX1_runInLowestTerms_14 : decode cX1_runInLowestTerms 14 = .ok (.idiv, 1) := by decide +kernel
theorem dX1_runInLowestTerms_15 : decode cX1_runInLowestTerms 15 = .ok (.goto 7, 3) := by decide +kernel
theorem dX1_runInLowestTerms_18 : decode cX1_runInLowestTerms 18 = .ok (.aload_n 0, 1) := by decide +kernel
theorem dX1_runInLowestTerms_19 : decode cX1_runInLowestTerms 19 = .ok (.getfield 9, 3) := by decide +kernel
theorem dX1_runInLowestTerms_22 : decode cX1_runInLowestTerms 22 = .ok (.ireturn, 1) := by decide +kernel
theorem dX1_commonDivisor_0 : decode cX1_commonDivisor 0 = .ok (.aload_n 0, 1) := by decide +kernel
theorem dX1_commonDivisor_1 : decode cX1_commonDivisor 1 = .ok (.getfield 21, 3) := by decide +kernel
theorem dX1_commonDivisor_4 : decode cX1_commonDivisor 4 = .ok (.invokestatic 39, 3) := by decide +kernel
theorem dX1_commonDivisor_7 : decode cX1_commonDivisor 7 = .ok (.istore_n 1, 1) := by decide +kernel
theorem dX1_commonDivisor_8 : decode cX1_commonDivisor 8 = .ok (.aload_n 0, 1) := by decide +kernel
theorem dX1_commonDivisor_9 : decode cX1_commonDivisor 9 = .ok (.getfield 9, 3) := by decide +kernel
theorem dX1_commonDivisor_12 : decode cX1_commonDivisor 12 = .ok (.istore_n 2, 1) := by decide +kernel
theorem dX1_commonDivisor_13 : decode cX1_commonDivisor 13 = .ok (.iconst 0, 1) := by decide +kernel
theorem dX1_commonDivisor_14 : decode cX1_commonDivisor 14 = .ok (.istore_n 3, 1) := by decide +kernel
theorem dX1_commonDivisor_15 : decode cX1_commonDivisor 15 = .ok (.iload_n 3, 1) := by decide +kernel
theorem dX1_commonDivisor_16 : decode cX1_commonDivisor 16 = .ok (.bipush 64, 2) := by decide +kernel
theorem dX1_commonDivisor_18 : decode cX1_commonDivisor 18 = .ok (.if_icmp .ge 23, 3) := by decide +kernel
theorem dX1_commonDivisor_21 : decode cX1_commonDivisor 21 = .ok (.iload_n 2, 1) := by decide +kernel
theorem dX1_commonDivisor_22 : decode cX1_commonDivisor 22 = .ok (.ifCond .le 19, 3) := by decide +kernel
theorem dX1_commonDivisor_25 : decode cX1_commonDivisor 25 = .ok (.iload_n 1, 1) := by decide +kernel
theorem dX1_commonDivisor_26 : decode cX1_commonDivisor 26 = .ok (.iload_n 2, 1) := by decide +kernel
theorem dX1_commonDivisor_27 : decode cX1_commonDivisor 27 = .ok (.irem, 1) := by decide +kernel
theorem dX1_commonDivisor_28 : decode cX1_commonDivisor 28 = .ok (.istore 4, 2) := by decide +kernel
theorem dX1_commonDivisor_30 : decode cX1_commonDivisor 30 = .ok (.iload_n 2, 1) := by decide +kernel
theorem dX1_commonDivisor_31 : decode cX1_commonDivisor 31 = .ok (.istore_n 1, 1) := by decide +kernel
theorem dX1_commonDivisor_32 : decode cX1_commonDivisor 32 = .ok (.iload 4, 2) := by decide +kernel
theorem dX1_commonDivisor_34 : decode cX1_commonDivisor 34 = .ok (.istore_n 2, 1) := by decide +kernel
theorem dX1_commonDivisor_35 : decode cX1_commonDivisor 35 = .ok (.iinc 3 1, 3) := by decide +kernel
theorem dX1_commonDivisor_38 : decode cX1_commonDivisor 38 = .ok (.goto (-23), 3) := by decide +kernel
theorem dX1_commonDivisor_41 : decode cX1_commonDivisor 41 = .ok (.iload_n 1, 1) := by decide +kernel
theorem dX1_commonDivisor_42 : decode cX1_commonDivisor 42 = .ok (.ireturn, 1) := by decide +kernel
theorem dX2_init_0 : decode cX2_init 0 = .ok (.aload_n 0, 1) := by decide +kernel
theorem dX2_init_1 : decode cX2_init 1 = .ok (.invokespecial 3, 3) := by decide +kernel
theorem dX2_init_4 : decode cX2_init 4 = .ok (.aload_n 0, 1) := by decide +kernel
theorem dX2_init_5 : decode cX2_init 5 = .ok (.bipush 66, 2) := by decide +kernel
theorem dX2_init_7 : decode cX2_init 7 = .ok (.newarray .int, 2) := by decide +kernel
theorem dX2_init_9 : decode cX2_init 9 = .ok (.putfield 9, 3) := by decide +kernel
theorem dX2_init_12 : decode cX2_init 12 = .ok (.aload_n 0, 1) := by decide +kernel
theorem dX2_init_13 : decode cX2_init 13 = .ok (.bipush 66, 2) := by decide +kernel
theorem dX2_init_15 : decode cX2_init 15 = .ok (.newarray .int, 2) := by decide +kernel
theorem dX2_init_17 : decode cX2_init 17 = .ok (.putfield 15, 3) := by decide +kernel
theorem dX2_init_20 : decode cX2_init 20 = .ok (.aload_n 0, 1) := by decide +kernel
theorem dX2_init_21 : decode cX2_init 21 = .ok (.bipush 66, 2) := by decide +kernel
theorem dX2_init_23 : decode cX2_init 23 = .ok (.newarray .int, 2) := by decide +kernel
theorem dX2_init_25 : decode cX2_init 25 = .ok (.putfield 18, 3) := by decide +kernel
theorem dX2_init_28 : decode cX2_init 28 = .ok (.aload_n 0, 1) := by decide +kernel
theorem dX2_init_29 : decode cX2_init 29 = .ok (.bipush 66, 2) := by decide +kernel
theorem dX2_init_31 : decode cX2_init 31 = .ok (.newarray .int, 2) := by decide +kernel
theorem dX2_init_33 : decode cX2_init 33 = .ok (.putfield 21, 3) := by decide +kernel
theorem dX2_init_36 : decode cX2_init 36 = .ok (.return_, 1) := by decide +kernel
theorem dX2_orderAll_0 : decode cX2_orderAll 0 = .ok (.aload_n 0, 1) := by decide +kernel
theorem dX2_orderAll_1 : decode cX2_orderAll 1 = .ok (.iconst 0, 1) := by decide +kernel
theorem dX2_orderAll_2 : decode cX2_orderAll 2 = .ok (.putfield 24, 3) := by decide +kernel
theorem dX2_orderAll_5 : decode cX2_orderAll 5 = .ok (.aload_n 0, 1) := by decide +kernel
theorem dX2_orderAll_6 : decode cX2_orderAll 6 = .ok (.aload_n 1, 1) := by decide +kernel
theorem dX2_orderAll_7 : decode cX2_orderAll 7 = .ok (.invokevirtual 28, 3) := by decide +kernel
theorem dX2_orderAll_10 : decode cX2_orderAll 10 = .ok (.putfield 34, 3) := by decide +kernel
theorem dX2_orderAll_13 : decode cX2_orderAll 13 = .ok (.iconst 1, 1) := by decide +kernel
theorem dX2_orderAll_14 : decode cX2_orderAll 14 = .ok (.istore_n 2, 1) := by decide +kernel
theorem dX2_orderAll_15 : decode cX2_orderAll 15 = .ok (.iload_n 2, 1) := by decide +kernel
theorem dX2_orderAll_16 : decode cX2_orderAll 16 = .ok (.aload_n 1, 1) := by decide +kernel
theorem dX2_orderAll_17 : decode cX2_orderAll 17 = .ok (.invokevirtual 28, 3) := by decide +kernel
theorem dX2_orderAll_20 : decode cX2_orderAll 20 = .ok (.if_icmp .ge 29, 3) := by decide +kernel
theorem dX2_orderAll_23 : decode cX2_orderAll 23 = .ok (.iconst 0, 1) := by decide +kernel
theorem dX2_orderAll_24 : decode cX2_orderAll 24 = .ok (.istore_n 3, 1) := by decide +kernel
theorem dX2_orderAll_25 : decode cX2_orderAll 25 = .ok (.iload_n 3, 1) := by decide +kernel
theorem dX2_orderAll_26 : decode cX2_orderAll 26 = .ok (.iload_n 2, 1) := by decide +kernel
theorem dX2_orderAll_27 : decode cX2_orderAll 27 = .ok (.if_icmp .ge 16, 3) := by decide +kernel
theorem dX2_orderAll_30 : decode cX2_orderAll 30 = .ok (.aload_n 0, 1) := by decide +kernel
theorem dX2_orderAll_31 : decode cX2_orderAll 31 = .ok (.aload_n 1, 1) := by decide +kernel
theorem dX2_orderAll_32 : decode cX2_orderAll 32 = .ok (.iload_n 3, 1) := by decide +kernel
theorem dX2_orderAll_33 : decode cX2_orderAll 33 = .ok (.iload_n 2, 1) := by decide +kernel
theorem dX2_orderAll_34 : decode cX2_orderAll 34 = .ok (.invokevirtual 37, 3) := by decide +kernel
theorem dX2_orderAll_37 : decode cX2_orderAll 37 = .ok (.iinc 3 1, 3) := by decide +kernel
theorem dX2_orderAll_40 : decode cX2_orderAll 40 = .ok (.goto (-15), 3) := by decide +kernel
theorem dX2_orderAll_43 : decode cX2_orderAll 43 = .ok (.iinc 2 1, 3) := by decide +kernel
theorem dX2_orderAll_46 : decode cX2_orderAll 46 = .ok (.goto (-31), 3) := by decide +kernel
theorem dX2_orderAll_49 : decode cX2_orderAll 49 = .ok (.return_, 1) := by decide +kernel
theorem dX2_putInOrder_0 : decode cX2_putInOrder 0 = .ok (.aload_n 0, 1) := by decide +kernel
theorem dX2_putInOrder_1 : decode cX2_putInOrder 1 = .ok (.getfield 24, 3) := by decide +kernel
theorem dX2_putInOrder_4 : decode cX2_putInOrder 4 = .ok (.bipush 66, 2) := by decide +kernel
theorem dX2_putInOrder_6 : decode cX2_putInOrder 6 = .ok (.if_icmp .lt 4, 3) := by decide +kernel
theorem dX2_putInOrder_9 : decode cX2_putInOrder 9 = .ok (.return_, 1) := by decide +kernel
theorem dX2_putInOrder_10 : decode cX2_putInOrder 10 = .ok (.aload_n 1, 1) := by decide +kernel
theorem dX2_putInOrder_11 : decode cX2_putInOrder 11 = .ok (.iload_n 3, 1) := by decide +kernel
theorem dX2_putInOrder_12 : decode cX2_putInOrder 12 = .ok (.invokevirtual 41, 3) := by decide +kernel
theorem dX2_putInOrder_15 : decode cX2_putInOrder 15 = .ok (.aload_n 1, 1) := by decide +kernel
theorem dX2_putInOrder_16 : decode cX2_putInOrder 16 = .ok (.iload_n 2, 1) := by decide +kernel
theorem dX2_putInOrder_17 : decode cX2_putInOrder 17 = .ok (.invokevirtual 41, 3) := by decide +kernel
theorem dX2_putInOrder_20 : decode cX2_putInOrder 20 = .ok (.isub, 1) := by decide +kernel
theorem dX2_putInOrder_21 : decode cX2_putInOrder 21 = .ok (.istore 4, 2) := by decide +kernel
theorem dX2_putInOrder_23 : decode cX2_putInOrder 23 = .ok (.aload_n 1, 1) := by decide +kernel
theorem dX2_putInOrder_24 : decode cX2_putInOrder 24 = .ok (.iload_n 3, 1) := by decide +kernel
theorem dX2_putInOrder_25 : decode cX2_putInOrder 25 = .ok (.invokevirtual 45, 3) := by decide +kernel
theorem dX2_putInOrder_28 : decode cX2_putInOrder 28 = .ok (.aload_n 1, 1) := by decide +kernel
theorem dX2_putInOrder_29 : decode cX2_putInOrder 29 = .ok (.iload_n 2, 1) := by decide +kernel
theorem dX2_putInOrder_30 : decode cX2_putInOrder 30 = .ok (.invokevirtual 45, 3) := by decide +kernel
theorem dX2_putInOrder_33 : decode cX2_putInOrder 33 = .ok (.isub, 1) := by decide +kernel
theorem dX2_putInOrder_34 : decode cX2_putInOrder 34 = .ok (.istore 5, 2) := by decide +kernel
theorem dX2_putInOrder_36 : decode cX2_putInOrder 36 = .ok (.aload_n 0, 1) := by decide +kernel
theorem dX2_putInOrder_37 : decode cX2_putInOrder 37 = .ok (.getfield 24, 3) := by decide +kernel
theorem dX2_putInOrder_40 : decode cX2_putInOrder 40 = .ok (.istore 6, 2) := by decide +kernel
theorem dX2_putInOrder_42 : decode cX2_putInOrder 42 = .ok (.iload 6, 2) := by decide +kernel
theorem dX2_putInOrder_44 : decode cX2_putInOrder 44 = .ok (.ifCond .le 88, 3) := by decide +kernel
theorem dX2_putInOrder_47 : decode cX2_putInOrder 47 = .ok (.aload_n 0, 1) := by decide +kernel
theorem dX2_putInOrder_48 : decode cX2_putInOrder 48 = .ok (.iload 6, 2) := by decide +kernel
theorem dX2_putInOrder_50 : decode cX2_putInOrder 50 = .ok (.iconst 1, 1) := by decide +kernel
theorem dX2_putInOrder_51 : decode cX2_putInOrder 51 = .ok (.isub, 1) := by decide +kernel
theorem dX2_putInOrder_52 : decode cX2_putInOrder 52 = .ok (.iload 4, 2) := by decide +kernel
theorem dX2_putInOrder_54 : decode cX2_putInOrder 54 = .ok (.iload 5, 2) := by decide +kernel
theorem dX2_putInOrder_56 : decode cX2_putInOrder 56 = .ok (.invokevirtual 48, 3) := by decide +kernel
theorem dX2_putInOrder_59 : decode cX2_putInOrder 59 = .ok (.ifCond .eq 73, 3) := by decide +kernel
theorem dX2_putInOrder_62 : decode cX2_putInOrder 62 = .ok (.aload_n 0, 1) := by decide +kernel
theorem dX2_putInOrder_63 : decode cX2_putInOrder 63 = .ok (.getfield 9, 3) := by decide +kernel
theorem dX2_putInOrder_66 : decode cX2_putInOrder 66 = .ok (.iload 6, 2) := by decide +kernel
theorem dX2_putInOrder_68 : decode cX2_putInOrder 68 = .ok (.aload_n 0, 1) := by decide +kernel
theorem dX2_putInOrder_69 : decode cX2_putInOrder 69 = .ok (.getfield 9, 3) := by decide +kernel
theorem dX2_putInOrder_72 : decode cX2_putInOrder 72 = .ok (.iload 6, 2) := by decide +kernel
theorem dX2_putInOrder_74 : decode cX2_putInOrder 74 = .ok (.iconst 1, 1) := by decide +kernel
theorem dX2_putInOrder_75 : decode cX2_putInOrder 75 = .ok (.isub, 1) := by decide +kernel
theorem dX2_putInOrder_76 : decode cX2_putInOrder 76 = .ok (.iaload, 1) := by decide +kernel
theorem dX2_putInOrder_77 : decode cX2_putInOrder 77 = .ok (.iastore, 1) := by decide +kernel
theorem dX2_putInOrder_78 : decode cX2_putInOrder 78 = .ok (.aload_n 0, 1) := by decide +kernel
theorem dX2_putInOrder_79 : decode cX2_putInOrder 79 = .ok (.getfield 15, 3) := by decide +kernel
theorem dX2_putInOrder_82 : decode cX2_putInOrder 82 = .ok (.iload 6, 2) := by decide +kernel
theorem dX2_putInOrder_84 : decode cX2_putInOrder 84 = .ok (.aload_n 0, 1) := by decide +kernel
theorem dX2_putInOrder_85 : decode cX2_putInOrder 85 = .ok (.getfield 15, 3) := by decide +kernel
theorem dX2_putInOrder_88 : decode cX2_putInOrder 88 = .ok (.iload 6, 2) := by decide +kernel
theorem dX2_putInOrder_90 : decode cX2_putInOrder 90 = .ok (.iconst 1, 1) := by decide +kernel
theorem dX2_putInOrder_91 : decode cX2_putInOrder 91 = .ok (.isub, 1) := by decide +kernel
theorem dX2_putInOrder_92 : decode cX2_putInOrder 92 = .ok (.iaload, 1) := by decide +kernel
theorem dX2_putInOrder_93 : decode cX2_putInOrder 93 = .ok (.iastore, 1) := by decide +kernel
theorem dX2_putInOrder_94 : decode cX2_putInOrder 94 = .ok (.aload_n 0, 1) := by decide +kernel
theorem dX2_putInOrder_95 : decode cX2_putInOrder 95 = .ok (.getfield 18, 3) := by decide +kernel
theorem dX2_putInOrder_98 : decode cX2_putInOrder 98 = .ok (.iload 6, 2) := by decide +kernel
theorem dX2_putInOrder_100 : decode cX2_putInOrder 100 = .ok (.aload_n 0, 1) := by decide +kernel
theorem dX2_putInOrder_101 : decode cX2_putInOrder 101 = .ok (.getfield 18, 3) := by decide +kernel
theorem dX2_putInOrder_104 : decode cX2_putInOrder 104 = .ok (.iload 6, 2) := by decide +kernel
theorem dX2_putInOrder_106 : decode cX2_putInOrder 106 = .ok (.iconst 1, 1) := by decide +kernel
theorem dX2_putInOrder_107 : decode cX2_putInOrder 107 = .ok (.isub, 1) := by decide +kernel
theorem dX2_putInOrder_108 : decode cX2_putInOrder 108 = .ok (.iaload, 1) := by decide +kernel
theorem dX2_putInOrder_109 : decode cX2_putInOrder 109 = .ok (.iastore, 1) := by decide +kernel
theorem dX2_putInOrder_110 : decode cX2_putInOrder 110 = .ok (.aload_n 0, 1) := by decide +kernel
theorem dX2_putInOrder_111 : decode cX2_putInOrder 111 = .ok (.getfield 21, 3) := by decide +kernel
theorem dX2_putInOrder_114 : decode cX2_putInOrder 114 = .ok (.iload 6, 2) := by decide +kernel
theorem dX2_putInOrder_116 : decode cX2_putInOrder 116 = .ok (.aload_n 0, 1) := by decide +kernel
theorem dX2_putInOrder_117 : decode cX2_putInOrder 117 = .ok (.getfield 21, 3) := by decide +kernel
theorem dX2_putInOrder_120 : decode cX2_putInOrder 120 = .ok (.iload 6, 2) := by decide +kernel
theorem dX2_putInOrder_122 : decode cX2_putInOrder 122 = .ok (.iconst 1, 1) := by decide +kernel
theorem dX2_putInOrder_123 : decode cX2_putInOrder 123 = .ok (.isub, 1) := by decide +kernel
theorem dX2_putInOrder_124 : decode cX2_putInOrder 124 = .ok (.iaload, 1) := by decide +kernel
theorem dX2_putInOrder_125 : decode cX2_putInOrder 125 = .ok (.iastore, 1) := by decide +kernel
theorem dX2_putInOrder_126 : decode cX2_putInOrder 126 = .ok (.iinc 6 (-1), 3) := by decide +kernel
theorem dX2_putInOrder_129 : decode cX2_putInOrder 129 = .ok (.goto (-87), 3) := by decide +kernel
theorem dX2_putInOrder_132 : decode cX2_putInOrder 132 = .ok (.aload_n 0, 1) := by decide +kernel
theorem dX2_putInOrder_133 : decode cX2_putInOrder 133 = .ok (.getfield 9, 3) := by decide +kernel
theorem dX2_putInOrder_136 : decode cX2_putInOrder 136 = .ok (.iload 6, 2) := by decide +kernel
theorem dX2_putInOrder_138 : decode cX2_putInOrder 138 = .ok (.iload 4, 2) := by decide +kernel
theorem dX2_putInOrder_140 : decode cX2_putInOrder 140 = .ok (.iastore, 1) := by decide +kernel
theorem dX2_putInOrder_141 : decode cX2_putInOrder 141 = .ok (.aload_n 0, 1) := by decide +kernel
theorem dX2_putInOrder_142 : decode cX2_putInOrder 142 = .ok (.getfield 15, 3) := by decide +kernel
theorem dX2_putInOrder_145 : decode cX2_putInOrder 145 = .ok (.iload 6, 2) := by decide +kernel
theorem dX2_putInOrder_147 : decode cX2_putInOrder 147 = .ok (.iload 5, 2) := by decide +kernel
theorem dX2_putInOrder_149 : decode cX2_putInOrder 149 = .ok (.iastore, 1) := by decide +kernel
theorem dX2_putInOrder_150 : decode cX2_putInOrder 150 = .ok (.aload_n 0, 1) := by decide +kernel
theorem dX2_putInOrder_151 : decode cX2_putInOrder 151 = .ok (.getfield 18, 3) := by decide +kernel
theorem dX2_putInOrder_154 : decode cX2_putInOrder 154 = .ok (.iload 6, 2) := by decide +kernel
theorem dX2_putInOrder_156 : decode cX2_putInOrder 156 = .ok (.iload_n 2, 1) := by decide +kernel
theorem dX2_putInOrder_157 : decode cX2_putInOrder 157 = .ok (.iastore, 1) := by decide +kernel
theorem dX2_putInOrder_158 : decode cX2_putInOrder 158 = .ok (.aload_n 0, 1) := by decide +kernel
theorem dX2_putInOrder_159 : decode cX2_putInOrder 159 = .ok (.getfield 21, 3) := by decide +kernel
theorem dX2_putInOrder_162 : decode cX2_putInOrder 162 = .ok (.iload 6, 2) := by decide +kernel
theorem dX2_putInOrder_164 : decode cX2_putInOrder 164 = .ok (.iload_n 3, 1) := by decide +kernel
theorem dX2_putInOrder_165 : decode cX2_putInOrder 165 = .ok (.iastore, 1) := by decide +kernel
theorem dX2_putInOrder_166 : decode cX2_putInOrder 166 = .ok (.aload_n 0, 1) := by decide +kernel
theorem dX2_putInOrder_167 : decode cX2_putInOrder 167 = .ok (.dup, 1) := by decide +kernel
theorem dX2_putInOrder_168 : decode cX2_putInOrder 168 = .ok (.getfield 24, 3) := by decide +kernel
theorem dX2_putInOrder_171 : decode cX2_putInOrder 171 = .ok (.iconst 1, 1) := by decide +kernel
theorem dX2_putInOrder_172 : decode cX2_putInOrder 172 = .ok (.iadd, 1) := by decide +kernel
theorem dX2_putInOrder_173 : decode cX2_putInOrder 173 = .ok (.putfield 24, 3) := by decide +kernel
theorem dX2_putInOrder_176 : decode cX2_putInOrder 176 = .ok (.return_, 1) := by decide +kernel
theorem dX2_isGreater_0 : decode cX2_isGreater 0 = .ok (.aload_n 0, 1) := by decide +kernel
theorem dX2_isGreater_1 : decode cX2_isGreater 1 = .ok (.iload_n 1, 1) := by decide +kernel
theorem dX2_isGreater_2 : decode cX2_isGreater 2 = .ok (.invokevirtual 52, 3) := by decide +kernel
theorem dX2_isGreater_5 : decode cX2_isGreater 5 = .ok (.i2l, 1) := by decide +kernel
theorem dX2_isGreater_6 : decode cX2_isGreater 6 = .ok (.iload_n 3, 1) := by decide +kernel
theorem dX2_isGreater_7 : decode cX2_isGreater 7 = .ok (.i2l, 1) := by decide +kernel
theorem dX2_isGreater_8 : decode cX2_isGreater 8 = .ok (.lmul, 1) := by decide +kernel
theorem dX2_isGreater_9 : decode cX2_isGreater 9 = .ok (.iload_n 2, 1) := by decide +kernel
theorem dX2_isGreater_10 : decode cX2_isGreater 10 = .ok (.i2l, 1) := by decide +kernel
theorem dX2_isGreater_11 : decode cX2_isGreater 11 = .ok (.aload_n 0, 1) := by decide +kernel
theorem dX2_isGreater_12 : decode cX2_isGreater 12 = .ok (.iload_n 1, 1) := by decide +kernel
theorem dX2_isGreater_13 : decode cX2_isGreater 13 = .ok (.invokevirtual 55, 3) := by decide +kernel
theorem dX2_isGreater_16 : decode cX2_isGreater 16 = .ok (.i2l, 1) := by decide +kernel
theorem dX2_isGreater_17 : decode cX2_isGreater 17 = .ok (.lmul, 1) := by decide +kernel
theorem dX2_isGreater_18 : decode cX2_isGreater 18 = .ok (.lcmp, 1) := by decide +kernel
theorem dX2_isGreater_19 : decode cX2_isGreater 19 = .ok (.ifCond .le 7, 3) := by decide +kernel
theorem dX2_isGreater_22 : decode cX2_isGreater 22 = .ok (.iconst 1, 1) := by decide +kernel
theorem dX2_isGreater_23 : decode cX2_isGreater 23 = .ok (.goto 4, 3) := by decide +kernel
theorem dX2_isGreater_26 : decode cX2_isGreater 26 = .ok (.iconst 0, 1) := by decide +kernel
theorem dX2_isGreater_27 : decode cX2_isGreater 27 = .ok (.ireturn, 1) := by decide +kernel
theorem dX2_middlePlaceWithout_0 : decode cX2_middlePlaceWithout 0 = .ok (.aload_n 0, 1) := by decide +kernel
theorem dX2_middlePlaceWithout_1 : decode cX2_middlePlaceWithout 1 = .ok (.iload_n 1, 1) := by decide +kernel
theorem dX2_middlePlaceWithout_2 : decode cX2_middlePlaceWithout 2 = .ok (.invokevirtual 58, 3) := by decide +kernel
theorem dX2_middlePlaceWithout_5 : decode cX2_middlePlaceWithout 5 = .ok (.invokestatic 61, 3) := by decide +kernel
theorem dX2_middlePlaceWithout_8 : decode cX2_middlePlaceWithout 8 = .ok (.istore_n 2, 1) := by decide +kernel
theorem dX2_middlePlaceWithout_9 : decode cX2_middlePlaceWithout 9 = .ok (.iconst 0, 1) := by decide +kernel
theorem dX2_middlePlaceWithout_10 : decode cX2_middlePlaceWithout 10 = .ok (.istore_n 3, 1) := by decide +kernel
theorem dX2_middlePlaceWithout_11 : decode cX2_middlePlaceWithout 11 = .ok (.iconst 0, 1) := by decide +kernel
theorem dX2_middlePlaceWithout_12 : decode cX2_middlePlaceWithout 12 = .ok (.istore 4, 2) := by decide +kernel
theorem dX2_middlePlaceWithout_14 : decode cX2_middlePlaceWithout 14 = .ok (.iload 4, 2) := by decide +kernel
theorem dX2_middlePlaceWithout_16 : decode cX2_middlePlaceWithout 16 = .ok (.aload_n 0, 1) := by decide +kernel
theorem dX2_middlePlaceWithout_17 : decode cX2_middlePlaceWithout 17 = .ok (.getfield 24, 3) := by decide +kernel
theorem dX2_middlePlaceWithout_20 : decode cX2_middlePlaceWithout 20 = .ok (.if_icmp .ge 30, 3) := by decide +kernel
theorem dX2_middlePlaceWithout_23 : decode cX2_middlePlaceWithout 23 = .ok (.aload_n 0, 1) := by decide +kernel
theorem dX2_middlePlaceWithout_24 : decode cX2_middlePlaceWithout 24 = .ok (.iload 4, 2) := by decide +kernel
theorem dX2_middlePlaceWithout_26 : decode cX2_middlePlaceWithout 26 = .ok (.iload_n 1, 1) := by decide +kernel
theorem dX2_middlePlaceWithout_27 : decode cX2_middlePlaceWithout 27 = .ok (.invokevirtual 64, 3) := by decide +kernel
theorem dX2_middlePlaceWithout_30 : decode cX2_middlePlaceWithout 30 = .ok (.ifCond .eq 14, 3) := by decide +kernel
theorem dX2_middlePlaceWithout_33 : decode cX2_middlePlaceWithout 33 = .ok (.iload_n 3, 1) := by decide +kernel
theorem dX2_middlePlaceWithout_34 : decode cX2_middlePlaceWithout 34 = .ok (.iload_n 2, 1) := by decide +kernel
theorem dX2_middlePlaceWithout_35 : decode cX2_middlePlaceWithout 35 = .ok (.if_icmp .ne 6, 3) := by decide +kernel
theorem dX2_middlePlaceWithout_38 : decode cX2_middlePlaceWithout 38 = .ok (.iload 4, 2) := by decide +kernel
theorem dX2_middlePlaceWithout_40 : decode cX2_middlePlaceWithout 40 = .ok (.ireturn, 1) := by decide +kernel
theorem dX2_middlePlaceWithout_41 : decode cX2_middlePlaceWithout 41 = .ok (.iinc 3 1, 3) := by decide +kernel
theorem dX2_middlePlaceWithout_44 : decode cX2_middlePlaceWithout 44 = .ok (.iinc 4 1, 3) := by decide +kernel
theorem dX2_middlePlaceWithout_47 : decode cX2_middlePlaceWithout 47 = .ok (.goto (-33), 3) := by decide +kernel
theorem dX2_middlePlaceWithout_50 : decode cX2_middlePlaceWithout 50 = .ok (.iconst (-1), 1) := by decide +kernel
theorem dX2_middlePlaceWithout_51 : decode cX2_middlePlaceWithout 51 = .ok (.ireturn, 1) := by decide +kernel
theorem dX2_numberWithout_0 : decode cX2_numberWithout 0 = .ok (.iload_n 1, 1) := by decide +kernel
theorem dX2_numberWithout_1 : decode cX2_numberWithout 1 = .ok (.iconst (-1), 1) := by decide +kernel
theorem dX2_numberWithout_2 : decode cX2_numberWithout 2 = .ok (.if_icmp .ne 10, 3) := by decide +kernel
theorem dX2_numberWithout_5 : decode cX2_numberWithout 5 = .ok (.aload_n 0, 1) := by decide +kernel
theorem dX2_numberWithout_6 : decode cX2_numberWithout 6 = .ok (.getfield 34, 3) := by decide +kernel
theorem dX2_numberWithout_9 : decode cX2_numberWithout 9 = .ok (.goto 9, 3) := by decide +kernel
theorem dX2_numberWithout_12 : decode cX2_numberWithout 12 = .ok (.aload_n 0, 1) := by decide +kernel
theorem dX2_numberWithout_13 : decode cX2_numberWithout 13 = .ok (.getfield 34, 3) := by decide +kernel
theorem dX2_numberWithout_16 : decode cX2_numberWithout 16 = .ok (.iconst 1, 1) := by decide +kernel
theorem dX2_numberWithout_17 : decode cX2_numberWithout 17 = .ok (.isub, 1) := by decide +kernel
theorem dX2_numberWithout_18 : decode cX2_numberWithout 18 = .ok (.istore_n 2, 1) := by decide +kernel
theorem dX2_numberWithout_19 : decode cX2_numberWithout 19 = .ok (.iload_n 2, 1) := by decide +kernel
theorem dX2_numberWithout_20 : decode cX2_numberWithout 20 = .ok (.iload_n 2, 1) := by decide +kernel
theorem dX2_numberWithout_21 : decode cX2_numberWithout 21 = .ok (.iconst 1, 1) := by decide +kernel
theorem dX2_numberWithout_22 : decode cX2_numberWithout 22 = .ok (.isub, 1) := by decide +kernel
theorem dX2_numberWithout_23 : decode cX2_numberWithout 23 = .ok (.imul, 1) := by decide +kernel
theorem dX2_numberWithout_24 : decode cX2_numberWithout 24 = .ok (.iconst 2, 1) := by decide +kernel
theorem dX2_numberWithout_25 : decode cX2_numberWithout 25 = .ok (.idiv, 1) := by decide +kernel
theorem dX2_numberWithout_26 : decode cX2_numberWithout 26 = .ok (.ireturn, 1) := by decide +kernel
theorem dX2_isWithout_0 : decode cX2_isWithout 0 = .ok (.iload_n 1, 1) := by decide +kernel
theorem dX2_isWithout_1 : decode cX2_isWithout 1 = .ok (.ifCond .lt 35, 3) := by decide +kernel
theorem dX2_isWithout_4 : decode cX2_isWithout 4 = .ok (.iload_n 1, 1) := by decide +kernel
theorem dX2_isWithout_5 : decode cX2_isWithout 5 = .ok (.aload_n 0, 1) := by decide +kernel
theorem dX2_isWithout_6 : decode cX2_isWithout 6 = .ok (.getfield 24, 3) := by decide +kernel
theorem dX2_isWithout_9 : decode cX2_isWithout 9 = .ok (.if_icmp .ge 27, 3) := by decide +kernel
theorem dX2_isWithout_12 : decode cX2_isWithout 12 = .ok (.aload_n 0, 1) := by decide +kernel
theorem dX2_isWithout_13 : decode cX2_isWithout 13 = .ok (.getfield 18, 3) := by decide +kernel
theorem dX2_isWithout_16 : decode cX2_isWithout 16 = .ok (.iload_n 1, 1) := by decide +kernel
theorem dX2_isWithout_17 : decode cX2_isWithout 17 = .ok (.iaload, 1) := by decide +kernel
theorem dX2_isWithout_18 : decode cX2_isWithout 18 = .ok (.iload_n 2, 1) := by decide +kernel
theorem dX2_isWithout_19 : decode cX2_isWithout 19 = .ok (.if_icmp .eq 17, 3) := by decide +kernel
theorem dX2_isWithout_22 : decode cX2_isWithout 22 = .ok (.aload_n 0, 1) := by decide +kernel
theorem dX2_isWithout_23 : decode cX2_isWithout 23 = .ok (.getfield 21, 3) := by decide +kernel
theorem dX2_isWithout_26 : decode cX2_isWithout 26 = .ok (.iload_n 1, 1) := by decide +kernel
theorem dX2_isWithout_27 : decode cX2_isWithout 27 = .ok (.iaload, 1) := by decide +kernel
theorem dX2_isWithout_28 : decode cX2_isWithout 28 = .ok (.iload_n 2, 1) := by decide +kernel
theorem dX2_isWithout_29 : decode cX2_isWithout 29 = .ok (.if_icmp .eq 7, 3) := by decide +kernel
theorem dX2_isWithout_32 : decode cX2_isWithout 32 = .ok (.iconst 1, 1) := by decide +kernel
theorem dX2_isWithout_33 : decode cX2_isWithout 33 = .ok (.goto 4, 3) := by decide +kernel
theorem dX2_isWithout_36 : decode cX2_isWithout 36 = .ok (.iconst 0, 1) := by decide +kernel
theorem dX2_isWithout_37 : decode cX2_isWithout 37 = .ok (.ireturn, 1) := by decide +kernel
theorem dX2_riseAt_0 : decode cX2_riseAt 0 = .ok (.aload_n 0, 1) := by decide +kernel
theorem dX2_riseAt_1 : decode cX2_riseAt 1 = .ok (.iload_n 1, 1) := by decide +kernel
theorem dX2_riseAt_2 : decode cX2_riseAt 2 = .ok (.invokevirtual 68, 3) := by decide +kernel
theorem dX2_riseAt_5 : decode cX2_riseAt 5 = .ok (.ifCond .eq 12, 3) := by decide +kernel
theorem dX2_riseAt_8 : decode cX2_riseAt 8 = .ok (.aload_n 0, 1) := by decide +kernel
theorem dX2_riseAt_9 : decode cX2_riseAt 9 = .ok (.getfield 9, 3) := by decide +kernel
theorem dX2_riseAt_12 : decode cX2_riseAt 12 = .ok (.iload_n 1, 1) := by decide +kernel
theorem dX2_riseAt_13 : decode cX2_riseAt 13 = .ok (.iaload, 1) := by decide +kernel
theorem dX2_riseAt_14 : decode cX2_riseAt 14 = .ok (.goto 4, 3) := by decide +kernel
theorem dX2_riseAt_17 : decode cX2_riseAt 17 = .ok (.iconst 0, 1) := by decide +kernel
theorem dX2_riseAt_18 : decode cX2_riseAt 18 = .ok (.ireturn, 1) := by decide +kernel
theorem dX2_runAt_0 : decode cX2_runAt 0 = .ok (.aload_n 0, 1) := by decide +kernel
theorem dX2_runAt_1 : decode cX2_runAt 1 = .ok (.iload_n 1, 1) := by decide +kernel
theorem dX2_runAt_2 : decode cX2_runAt 2 = .ok (.invokevirtual 68, 3) := by decide +kernel
theorem dX2_runAt_5 : decode cX2_runAt 5 = .ok (.ifCond .eq 12, 3) := by decide +kernel
theorem dX2_runAt_8 : decode cX2_runAt 8 = .ok (.aload_n 0, 1) := by decide +kernel
theorem dX2_runAt_9 : decode cX2_runAt 9 = .ok (.getfield 15, 3) := by decide +kernel
theorem dX2_runAt_12 : decode cX2_runAt 12 = .ok (.iload_n 1, 1) := by decide +kernel
theorem dX2_runAt_13 : decode cX2_runAt 13 = .ok (.iaload, 1) := by decide +kernel
theorem dX2_runAt_14 : decode cX2_runAt 14 = .ok (.goto 4, 3) := by decide +kernel
theorem dX2_runAt_17 : decode cX2_runAt 17 = .ok (.iconst 1, 1) := by decide +kernel
theorem dX2_runAt_18 : decode cX2_runAt 18 = .ok (.ireturn, 1) := by decide +kernel
theorem dX2_has_0 : decode cX2_has 0 = .ok (.iload_n 1, 1) := by decide +kernel
theorem dX2_has_1 : decode cX2_has 1 = .ok (.ifCond .lt 15, 3) := by decide +kernel
theorem dX2_has_4 : decode cX2_has 4 = .ok (.iload_n 1, 1) := by decide +kernel
theorem dX2_has_5 : decode cX2_has 5 = .ok (.aload_n 0, 1) := by decide +kernel
theorem dX2_has_6 : decode cX2_has 6 = .ok (.getfield 24, 3) := by decide +kernel
theorem dX2_has_9 : decode cX2_has 9 = .ok (.if_icmp .ge 7, 3) := by decide +kernel
theorem dX2_has_12 : decode cX2_has 12 = .ok (.iconst 1, 1) := by decide +kernel
theorem dX2_has_13 : decode cX2_has 13 = .ok (.goto 4, 3) := by decide +kernel
theorem dX2_has_16 : decode cX2_has 16 = .ok (.iconst 0, 1) := by decide +kernel
theorem dX2_has_17 : decode cX2_has 17 = .ok (.ireturn, 1) := by decide +kernel
theorem dX3_init_0 : decode cX3_init 0 = .ok (.aload_n 0, 1) := by decide +kernel
theorem dX3_init_1 : decode cX3_init 1 = .ok (.invokespecial 1, 3) := by decide +kernel
theorem dX3_init_4 : decode cX3_init 4 = .ok (.return_, 1) := by decide +kernel
theorem dX3_change_0 : decode cX3_change 0 = .ok (.aload_n 0, 1) := by decide +kernel
theorem dX3_change_1 : decode cX3_change 1 = .ok (.iload_n 1, 1) := by decide +kernel
theorem dX3_change_2 : decode cX3_change 2 = .ok (.putfield 7, 3) := by decide +kernel
theorem dX3_change_5 : decode cX3_change 5 = .ok (.aload_n 0, 1) := by decide +kernel
theorem dX3_change_6 : decode cX3_change 6 = .ok (.iload_n 2, 1) := by decide +kernel
theorem dX3_change_7 : decode cX3_change 7 = .ok (.putfield 13, 3) := by decide +kernel
theorem dX3_change_10 : decode cX3_change 10 = .ok (.return_, 1) := by decide +kernel
theorem dX3_daysWithin_0 : decode cX3_daysWithin 0 = .ok (.aload_n 0, 1) := by decide +kernel
theorem dX3_daysWithin_1 : decode cX3_daysWithin 1 = .ok (.iload_n 2, 1) := by decide +kernel
theorem dX3_daysWithin_2 : decode cX3_daysWithin 2 = .ok (.invokevirtual 16, 3) := by decide +kernel
theorem dX3_daysWithin_5 : decode cX3_daysWithin 5 = .ok (.aload_n 0, 1) := by decide +kernel
theorem dX3_daysWithin_6 : decode cX3_daysWithin 6 = .ok (.iload_n 1, 1) := by decide +kernel
theorem dX3_daysWithin_7 : decode cX3_daysWithin 7 = .ok (.invokevirtual 16, 3) := by decide +kernel
theorem dX3_daysWithin_10 : decode cX3_daysWithin 10 = .ok (.isub, 1) := by decide +kernel
theorem dX3_daysWithin_11 : decode cX3_daysWithin 11 = .ok (.ireturn, 1) := by decide +kernel
theorem dX3_daysUntil_0 : decode cX3_daysUntil 0 = .ok (.aload_n 0, 1) := by decide +kernel
theorem dX3_daysUntil_1 : decode cX3_daysUntil 1 = .ok (.getfield 13, 3) := by decide +kernel
theorem dX3_daysUntil_4 : decode cX3_daysUntil 4 = .ok (.ifCond .le 27, 3) := by decide +kernel
theorem dX3_daysUntil_7 : decode cX3_daysUntil 7 = .ok (.iload_n 1, 1) := by decide +kernel
theorem dX3_daysUntil_8 : decode cX3_daysUntil 8 = .ok (.aload_n 0, 1) := by decide +kernel
theorem dX3_daysUntil_9 : decode cX3_daysUntil 9 = .ok (.getfield 7, 3) := by decide +kernel
theorem dX3_daysUntil_12 : decode cX3_daysUntil 12 = .ok (.if_icmp .lt 19, 3) := by decide +kernel
theorem dX3_daysUntil_15 : decode cX3_daysUntil 15 = .ok (.iload_n 1, 1) := by decide +kernel
theorem dX3_daysUntil_16 : decode cX3_daysUntil 16 = .ok (.aload_n 0, 1) := by decide +kernel
theorem dX3_daysUntil_17 : decode cX3_daysUntil 17 = .ok (.getfield 7, 3) := by decide +kernel
theorem dX3_daysUntil_20 : decode cX3_daysUntil 20 = .ok (.isub, 1) := by decide +kernel
theorem dX3_daysUntil_21 : decode cX3_daysUntil 21 = .ok (.aload_n 0, 1) := by decide +kernel
theorem dX3_daysUntil_22 : decode cX3_daysUntil 22 = .ok (.getfield 13, 3) := by decide +kernel
theorem dX3_daysUntil_25 : decode cX3_daysUntil 25 = .ok (.idiv, 1) := by decide +kernel
theorem dX3_daysUntil_26 : decode cX3_daysUntil 26 = .ok (.iconst 1, 1) := by decide +kernel
theorem dX3_daysUntil_27 : decode cX3_daysUntil 27 = .ok (.iadd, 1) := by decide +kernel
theorem dX3_daysUntil_28 : decode cX3_daysUntil 28 = .ok (.goto 4, 3) := by decide +kernel
theorem dX3_daysUntil_31 : decode cX3_daysUntil 31 = .ok (.iconst 0, 1) := by decide +kernel
theorem dX3_daysUntil_32 : decode cX3_daysUntil 32 = .ok (.ireturn, 1) := by decide +kernel
theorem dX4_init_0 : decode cX4_init 0 = .ok (.aload_n 0, 1) := by decide +kernel
theorem dX4_init_1 : decode cX4_init 1 = .ok (.invokespecial 3, 3) := by decide +kernel
theorem dX4_init_4 : decode cX4_init 4 = .ok (.aload_n 0, 1) := by decide +kernel
theorem dX4_init_5 : decode cX4_init 5 = .ok (.bipush 12, 2) := by decide +kernel
theorem dX4_init_7 : decode cX4_init 7 = .ok (.newarray .int, 2) := by decide +kernel
theorem dX4_init_9 : decode cX4_init 9 = .ok (.putfield 9, 3) := by decide +kernel
theorem dX4_init_12 : decode cX4_init 12 = .ok (.aload_n 0, 1) := by decide +kernel
theorem dX4_init_13 : decode cX4_init 13 = .ok (.bipush 12, 2) := by decide +kernel
theorem dX4_init_15 : decode cX4_init 15 = .ok (.newarray .int, 2) := by decide +kernel
theorem dX4_init_17 : decode cX4_init 17 = .ok (.putfield 15, 3) := by decide +kernel
theorem dX4_init_20 : decode cX4_init 20 = .ok (.aload_n 0, 1) := by decide +kernel
theorem dX4_init_21 : decode cX4_init 21 = .ok (.bipush 12, 2) := by decide +kernel
theorem dX4_init_23 : decode cX4_init 23 = .ok (.newarray .int, 2) := by decide +kernel
theorem dX4_init_25 : decode cX4_init 25 = .ok (.putfield 18, 3) := by decide +kernel
theorem dX4_init_28 : decode cX4_init 28 = .ok (.return_, 1) := by decide +kernel
theorem dX4_number_0 : decode cX4_number 0 = .ok (.aload_n 0, 1) := by decide +kernel
theorem dX4_number_1 : decode cX4_number 1 = .ok (.getfield 21, 3) := by decide +kernel
theorem dX4_number_4 : decode cX4_number 4 = .ok (.ireturn, 1) := by decide +kernel
theorem dX4_put_0 : decode cX4_put 0 = .ok (.aload_n 0, 1) := by decide +kernel
theorem dX4_put_1 : decode cX4_put 1 = .ok (.iload_n 1, 1) := by decide +kernel
theorem dX4_put_2 : decode cX4_put 2 = .ok (.invokevirtual 25, 3) := by decide +kernel
theorem dX4_put_5 : decode cX4_put 5 = .ok (.ifCond .ne 7, 3) := by decide +kernel
theorem dX4_put_8 : decode cX4_put 8 = .ok (.aload_n 0, 1) := by decide +kernel
theorem dX4_put_9 : decode cX4_put 9 = .ok (.invokevirtual 29, 3) := by decide +kernel
theorem dX4_put_12 : decode cX4_put 12 = .ok (.aload_n 0, 1) := by decide +kernel
theorem dX4_put_13 : decode cX4_put 13 = .ok (.getfield 21, 3) := by decide +kernel
theorem dX4_put_16 : decode cX4_put 16 = .ok (.iconst 1, 1) := by decide +kernel
theorem dX4_put_17 : decode cX4_put 17 = .ok (.isub, 1) := by decide +kernel
theorem dX4_put_18 : decode cX4_put 18 = .ok (.istore 4, 2) := by decide +kernel
theorem dX4_put_20 : decode cX4_put 20 = .ok (.aload_n 0, 1) := by decide +kernel
theorem dX4_put_21 : decode cX4_put 21 = .ok (.iload 4, 2) := by decide +kernel
theorem dX4_put_23 : decode cX4_put 23 = .ok (.invokevirtual 32, 3) := by decide +kernel
theorem dX4_put_26 : decode cX4_put 26 = .ok (.ifCond .eq 29, 3) := by decide +kernel
theorem dX4_put_29 : decode cX4_put 29 = .ok (.aload_n 0, 1) := by decide +kernel
theorem dX4_put_30 : decode cX4_put 30 = .ok (.getfield 9, 3) := by decide +kernel
theorem dX4_put_33 : decode cX4_put 33 = .ok (.iload 4, 2) := by decide +kernel
theorem dX4_put_35 : decode cX4_put 35 = .ok (.iload_n 1, 1) := by decide +kernel
theorem dX4_put_36 : decode cX4_put 36 = .ok (.iastore, 1) := by decide +kernel
theorem dX4_put_37 : decode cX4_put 37 = .ok (.aload_n 0, 1) := by decide +kernel
theorem dX4_put_38 : decode cX4_put 38 = .ok (.getfield 15, 3) := by decide +kernel
theorem dX4_put_41 : decode cX4_put 41 = .ok (.iload 4, 2) := by decide +kernel
theorem dX4_put_43 : decode cX4_put 43 = .ok (.iload_n 2, 1) := by decide +kernel
theorem dX4_put_44 : decode cX4_put 44 = .ok (.iastore, 1) := by decide +kernel
theorem dX4_put_45 : decode cX4_put 45 = .ok (.aload_n 0, 1) := by decide +kernel
theorem dX4_put_46 : decode cX4_put 46 = .ok (.getfield 18, 3) := by decide +kernel
theorem dX4_put_49 : decode cX4_put 49 = .ok (.iload 4, 2) := by decide +kernel
theorem dX4_put_51 : decode cX4_put 51 = .ok (.iload_n 2, 1) := by decide +kernel
theorem dX4_put_52 : decode cX4_put 52 = .ok (.iload_n 3, 1) := by decide +kernel
theorem dX4_put_53 : decode cX4_put 53 = .ok (.iadd, 1) := by decide +kernel
theorem dX4_put_54 : decode cX4_put 54 = .ok (.iastore, 1) := by decide +kernel
theorem dX4_put_55 : decode cX4_put 55 = .ok (.return_, 1) := by decide +kernel
theorem dX4_addFreedOn_0 : decode cX4_addFreedOn 0 = .ok (.aload_n 0, 1) := by decide +kernel
theorem dX4_addFreedOn_1 : decode cX4_addFreedOn 1 = .ok (.iload_n 1, 1) := by decide +kernel
theorem dX4_addFreedOn_2 : decode cX4_addFreedOn 2 = .ok (.invokevirtual 25, 3) := by decide +kernel
theorem dX4_addFreedOn_5 : decode cX4_addFreedOn 5 = .ok (.ifCond .eq 18, 3) := by decide +kernel
theorem dX4_addFreedOn_8 : decode cX4_addFreedOn 8 = .ok (.aload_n 0, 1) := by decide +kernel
theorem dX4_addFreedOn_9 : decode cX4_addFreedOn 9 = .ok (.getfield 18, 3) := by decide +kernel
theorem dX4_addFreedOn_12 : decode cX4_addFreedOn 12 = .ok (.aload_n 0, 1) := by decide +kernel
theorem dX4_addFreedOn_13 : decode cX4_addFreedOn 13 = .ok (.getfield 21, 3) := by decide +kernel
theorem dX4_addFreedOn_16 : decode cX4_addFreedOn 16 = .ok (.iconst 1, 1) := by decide +kernel
theorem dX4_addFreedOn_17 : decode cX4_addFreedOn 17 = .ok (.isub, 1) := by decide +kernel
theorem dX4_addFreedOn_18 : decode cX4_addFreedOn 18 = .ok (.dup2, 1) := by decide +kernel
theorem dX4_addFreedOn_19 : decode cX4_addFreedOn 19 = .ok (.iaload, 1) := by decide +kernel
theorem dX4_addFreedOn_20 : decode cX4_addFreedOn 20 = .ok (.iload_n 2, 1) := by decide +kernel
theorem dX4_addFreedOn_21 : decode cX4_addFreedOn 21 = .ok (.iadd, 1) := by decide +kernel
theorem dX4_addFreedOn_22 : decode cX4_addFreedOn 22 = .ok (.iastore, 1) := by decide +kernel
theorem dX4_addFreedOn_23 : decode cX4_addFreedOn 23 = .ok (.return_, 1) := by decide +kernel
theorem dX4_dayAt_0 : decode cX4_dayAt 0 = .ok (.aload_n 0, 1) := by decide +kernel
theorem dX4_dayAt_1 : decode cX4_dayAt 1 = .ok (.iload_n 1, 1) := by decide +kernel
theorem dX4_dayAt_2 : decode cX4_dayAt 2 = .ok (.invokevirtual 32, 3) := by decide +kernel
theorem dX4_dayAt_5 : decode cX4_dayAt 5 = .ok (.ifCond .eq 12, 3) := by decide +kernel
theorem dX4_dayAt_8 : decode cX4_dayAt 8 = .ok (.aload_n 0, 1) := by decide +kernel
theorem dX4_dayAt_9 : decode cX4_dayAt 9 = .ok (.getfield 9, 3) := by decide +kernel
theorem dX4_dayAt_12 : decode cX4_dayAt 12 = .ok (.iload_n 1, 1) := by decide +kernel
theorem dX4_dayAt_13 : decode cX4_dayAt 13 = .ok (.iaload, 1) := by decide +kernel
theorem dX4_dayAt_14 : decode cX4_dayAt 14 = .ok (.goto 4, 3) := by decide +kernel
theorem dX4_dayAt_17 : decode cX4_dayAt 17 = .ok (.iconst 0, 1) := by decide +kernel
theorem dX4_dayAt_18 : decode cX4_dayAt 18 = .ok (.ireturn, 1) := by decide +kernel
theorem dX4_usedAt_0 : decode cX4_usedAt 0 = .ok (.aload_n 0, 1) := by decide +kernel
theorem dX4_usedAt_1 : decode cX4_usedAt 1 = .ok (.iload_n 1, 1) := by decide +kernel
theorem dX4_usedAt_2 : decode cX4_usedAt 2 = .ok (.invokevirtual 32, 3) := by decide +kernel
theorem dX4_usedAt_5 : decode cX4_usedAt 5 = .ok (.ifCond .eq 12, 3) := by decide +kernel
theorem dX4_usedAt_8 : decode cX4_usedAt 8 = .ok (.aload_n 0, 1) := by decide +kernel
theorem dX4_usedAt_9 : decode cX4_usedAt 9 = .ok (.getfield 15, 3) := by decide +kernel
theorem dX4_usedAt_12 : decode cX4_usedAt 12 = .ok (.iload_n 1, 1) := by decide +kernel
theorem dX4_usedAt_13 : decode cX4_usedAt 13 = .ok (.iaload, 1) := by decide +kernel
theorem dX4_usedAt_14 : decode cX4_usedAt 14 = .ok (.goto 4, 3) := by decide +kernel
theorem dX4_usedAt_17 : decode cX4_usedAt 17 = .ok (.iconst 0, 1) := by decide +kernel
theorem dX4_usedAt_18 : decode cX4_usedAt 18 = .ok (.ireturn, 1) := by decide +kernel
theorem dX4_filledAt_0 : decode cX4_filledAt 0 = .ok (.aload_n 0, 1) := by decide +kernel
theorem dX4_filledAt_1 : decode cX4_filledAt 1 = .ok (.iload_n 1, 1) := by decide +kernel
theorem dX4_filledAt_2 : decode cX4_filledAt 2 = .ok (.invokevirtual 32, 3) := by decide +kernel
theorem dX4_filledAt_5 : decode cX4_filledAt 5 = .ok (.ifCond .eq 12, 3) := by decide +kernel
theorem dX4_filledAt_8 : decode cX4_filledAt 8 = .ok (.aload_n 0, 1) := by decide +kernel
theorem dX4_filledAt_9 : decode cX4_filledAt 9 = .ok (.getfield 18, 3) := by decide +kernel
theorem dX4_filledAt_12 : decode cX4_filledAt 12 = .ok (.iload_n 1, 1) := by decide +kernel
theorem dX4_filledAt_13 : decode cX4_filledAt 13 = .ok (.iaload, 1) := by decide +kernel
theorem dX4_filledAt_14 : decode cX4_filledAt 14 = .ok (.goto 4, 3) := by decide +kernel
theorem dX4_filledAt_17 : decode cX4_filledAt 17 = .ok (.iconst 0, 1) := by decide +kernel
theorem dX4_filledAt_18 : decode cX4_filledAt 18 = .ok (.ireturn, 1) := by decide +kernel
theorem dX4_lastPlaceWithout_0 : decode cX4_lastPlaceWithout 0 = .ok (.iload_n 1, 1) := by decide +kernel
theorem dX4_lastPlaceWithout_1 : decode cX4_lastPlaceWithout 1 = .ok (.aload_n 0, 1) := by decide +kernel
theorem dX4_lastPlaceWithout_2 : decode cX4_lastPlaceWithout 2 = .ok (.getfield 21, 3) := by decide +kernel
theorem dX4_lastPlaceWithout_5 : decode cX4_lastPlaceWithout 5 = .ok (.iconst 1, 1) := by decide +kernel
theorem dX4_lastPlaceWithout_6 : decode cX4_lastPlaceWithout 6 = .ok (.isub, 1) := by decide +kernel
theorem dX4_lastPlaceWithout_7 : decode cX4_lastPlaceWithout 7 = .ok (.if_icmp .ne 12, 3) := by decide +kernel
theorem dX4_lastPlaceWithout_10 : decode cX4_lastPlaceWithout 10 = .ok (.aload_n 0, 1) := by decide +kernel
theorem dX4_lastPlaceWithout_11 : decode cX4_lastPlaceWithout 11 = .ok (.getfield 21, 3) := by decide +kernel
theorem dX4_lastPlaceWithout_14 : decode cX4_lastPlaceWithout 14 = .ok (.iconst 2, 1) := by decide +kernel
theorem dX4_lastPlaceWithout_15 : decode cX4_lastPlaceWithout 15 = .ok (.isub, 1) := by decide +kernel
theorem dX4_lastPlaceWithout_16 : decode cX4_lastPlaceWithout 16 = .ok (.goto 9, 3) := by decide +kernel
theorem dX4_lastPlaceWithout_19 : decode cX4_lastPlaceWithout 19 = .ok (.aload_n 0, 1) := by decide +kernel
theorem dX4_lastPlaceWithout_20 : decode cX4_lastPlaceWithout 20 = .ok (.getfield 21, 3) := by decide +kernel
theorem dX4_lastPlaceWithout_23 : decode cX4_lastPlaceWithout 23 = .ok (.iconst 1, 1) := by decide +kernel
theorem dX4_lastPlaceWithout_24 : decode cX4_lastPlaceWithout 24 = .ok (.isub, 1) := by decide +kernel
theorem dX4_lastPlaceWithout_25 : decode cX4_lastPlaceWithout 25 = .ok (.ireturn, 1) := by decide +kernel
theorem dX4_has_0 : decode cX4_has 0 = .ok (.iload_n 1, 1) := by decide +kernel
theorem dX4_has_1 : decode cX4_has 1 = .ok (.ifCond .lt 15, 3) := by decide +kernel
theorem dX4_has_4 : decode cX4_has 4 = .ok (.iload_n 1, 1) := by decide +kernel
theorem dX4_has_5 : decode cX4_has 5 = .ok (.aload_n 0, 1) := by decide +kernel
theorem dX4_has_6 : decode cX4_has 6 = .ok (.getfield 21, 3) := by decide +kernel
theorem dX4_has_9 : decode cX4_has 9 = .ok (.if_icmp .ge 7, 3) := by decide +kernel
theorem dX4_has_12 : decode cX4_has 12 = .ok (.iconst 1, 1) := by decide +kernel
theorem dX4_has_13 : decode cX4_has 13 = .ok (.goto 4, 3) := by decide +kernel
theorem dX4_has_16 : decode cX4_has 16 = .ok (.iconst 0, 1) := by decide +kernel
theorem dX4_has_17 : decode cX4_has 17 = .ok (.ireturn, 1) := by decide +kernel
theorem dX4_lastIsOf_0 : decode cX4_lastIsOf 0 = .ok (.aload_n 0, 1) := by decide +kernel
theorem dX4_lastIsOf_1 : decode cX4_lastIsOf 1 = .ok (.getfield 21, 3) := by decide +kernel
theorem dX4_lastIsOf_4 : decode cX4_lastIsOf 4 = .ok (.ifCond .le 22, 3) := by decide +kernel
theorem dX4_lastIsOf_7 : decode cX4_lastIsOf 7 = .ok (.aload_n 0, 1) := by decide +kernel
theorem dX4_lastIsOf_8 : decode cX4_lastIsOf 8 = .ok (.getfield 9, 3) := by decide +kernel
theorem dX4_lastIsOf_11 : decode cX4_lastIsOf 11 = .ok (.aload_n 0, 1) := by decide +kernel
theorem dX4_lastIsOf_12 : decode cX4_lastIsOf 12 = .ok (.getfield 21, 3) := by decide +kernel
theorem dX4_lastIsOf_15 : decode cX4_lastIsOf 15 = .ok (.iconst 1, 1) := by decide +kernel
theorem dX4_lastIsOf_16 : decode cX4_lastIsOf 16 = .ok (.isub, 1) := by decide +kernel
theorem dX4_lastIsOf_17 : decode cX4_lastIsOf 17 = .ok (.iaload, 1) := by decide +kernel
theorem dX4_lastIsOf_18 : decode cX4_lastIsOf 18 = .ok (.iload_n 1, 1) := by decide +kernel
theorem dX4_lastIsOf_19 : decode cX4_lastIsOf 19 = .ok (.if_icmp .ne 7, 3) := by decide +kernel
theorem dX4_lastIsOf_22 : decode cX4_lastIsOf 22 = .ok (.iconst 1, 1) := by decide +kernel
theorem dX4_lastIsOf_23 : decode cX4_lastIsOf 23 = .ok (.goto 4, 3) := by decide +kernel
theorem dX4_lastIsOf_26 : decode cX4_lastIsOf 26 = .ok (.iconst 0, 1) := by decide +kernel
theorem dX4_lastIsOf_27 : decode cX4_lastIsOf 27 = .ok (.ireturn, 1) := by decide +kernel
theorem dX4_openLastPlace_0 : decode cX4_openLastPlace 0 = .ok (.aload_n 0, 1) := by decide +kernel
theorem dX4_openLastPlace_1 : decode cX4_openLastPlace 1 = .ok (.getfield 21, 3) := by decide +kernel
theorem dX4_openLastPlace_4 : decode cX4_openLastPlace 4 = .ok (.bipush 12, 2) := by decide +kernel
theorem dX4_openLastPlace_6 : decode cX4_openLastPlace 6 = .ok (.if_icmp .ge 14, 3) := by decide +kernel
theorem dX4_openLastPlace_9 : decode cX4_openLastPlace 9 = .ok (.aload_n 0, 1) := by decide +kernel
theorem dX4_openLastPlace_10 : decode cX4_openLastPlace 10 = .ok (.dup, 1) := by decide +kernel
theorem dX4_openLastPlace_11 : decode cX4_openLastPlace 11 = .ok (.getfield 21, 3) := by decide +kernel
theorem dX4_openLastPlace_14 : decode cX4_openLastPlace 14 = .ok (.iconst 1, 1) := by decide +kernel
theorem dX4_openLastPlace_15 : decode cX4_openLastPlace 15 = .ok (.iadd, 1) := by decide +kernel
theorem dX4_openLastPlace_16 : decode cX4_openLastPlace 16 = .ok (.putfield 21, 3) := by decide +kernel
theorem dX4_openLastPlace_19 : decode cX4_openLastPlace 19 = .ok (.return_, 1) := by decide +kernel
theorem dX4_openLastPlace_20 : decode cX4_openLastPlace 20 = .ok (.iconst 1, 1) := by decide +kernel
theorem dX4_openLastPlace_21 : decode cX4_openLastPlace 21 = .ok (.istore_n 1, 1) := by decide +kernel
theorem dX4_openLastPlace_22 : decode cX4_openLastPlace 22 = .ok (.iload_n 1, 1) := by decide +kernel
theorem dX4_openLastPlace_23 : decode cX4_openLastPlace 23 = .ok (.bipush 12, 2) := by decide +kernel
theorem dX4_openLastPlace_25 : decode cX4_openLastPlace 25 = .ok (.if_icmp .ge 51, 3) := by decide +kernel
theorem dX4_openLastPlace_28 : decode cX4_openLastPlace 28 = .ok (.aload_n 0, 1) := by decide +kernel
theorem dX4_openLastPlace_29 : decode cX4_openLastPlace 29 = .ok (.getfield 9, 3) := by decide +kernel
theorem dX4_openLastPlace_32 : decode cX4_openLastPlace 32 = .ok (.iload_n 1, 1) := by decide +kernel
theorem dX4_openLastPlace_33 : decode cX4_openLastPlace 33 = .ok (.iconst 1, 1) := by decide +kernel
theorem dX4_openLastPlace_34 : decode cX4_openLastPlace 34 = .ok (.isub, 1) := by decide +kernel
theorem dX4_openLastPlace_35 : decode cX4_openLastPlace 35 = .ok (.aload_n 0, 1) := by decide +kernel
theorem dX4_openLastPlace_36 : decode cX4_openLastPlace 36 = .ok (.getfield 9, 3) := by decide +kernel
theorem dX4_openLastPlace_39 : decode cX4_openLastPlace 39 = .ok (.iload_n 1, 1) := by decide +kernel
theorem dX4_openLastPlace_40 : decode cX4_openLastPlace 40 = .ok (.iaload, 1) := by decide +kernel
theorem dX4_openLastPlace_41 : decode cX4_openLastPlace 41 = .ok (.iastore, 1) := by decide +kernel
theorem dX4_openLastPlace_42 : decode cX4_openLastPlace 42 = .ok (.aload_n 0, 1) := by decide +kernel
theorem dX4_openLastPlace_43 : decode cX4_openLastPlace 43 = .ok (.getfield 15, 3) := by decide +kernel
theorem dX4_openLastPlace_46 : decode cX4_openLastPlace 46 = .ok (.iload_n 1, 1) := by decide +kernel
theorem dX4_openLastPlace_47 : decode cX4_openLastPlace 47 = .ok (.iconst 1, 1) := by decide +kernel
theorem dX4_openLastPlace_48 : decode cX4_openLastPlace 48 = .ok (.isub, 1) := by decide +kernel
theorem dX4_openLastPlace_49 : decode cX4_openLastPlace 49 = .ok (.aload_n 0, 1) := by decide +kernel
theorem dX4_openLastPlace_50 : decode cX4_openLastPlace 50 = .ok (.getfield 15, 3) := by decide +kernel
theorem dX4_openLastPlace_53 : decode cX4_openLastPlace 53 = .ok (.iload_n 1, 1) := by decide +kernel
theorem dX4_openLastPlace_54 : decode cX4_openLastPlace 54 = .ok (.iaload, 1) := by decide +kernel
theorem dX4_openLastPlace_55 : decode cX4_openLastPlace 55 = .ok (.iastore, 1) := by decide +kernel
theorem dX4_openLastPlace_56 : decode cX4_openLastPlace 56 = .ok (.aload_n 0, 1) := by decide +kernel
theorem dX4_openLastPlace_57 : decode cX4_openLastPlace 57 = .ok (.getfield 18, 3) := by decide +kernel
theorem dX4_openLastPlace_60 : decode cX4_openLastPlace 60 = .ok (.iload_n 1, 1) := by decide +kernel
theorem dX4_openLastPlace_61 : decode cX4_openLastPlace 61 = .ok (.iconst 1, 1) := by decide +kernel
theorem dX4_openLastPlace_62 : decode cX4_openLastPlace 62 = .ok (.isub, 1) := by decide +kernel
theorem dX4_openLastPlace_63 : decode cX4_openLastPlace 63 = .ok (.aload_n 0, 1) := by decide +kernel
theorem dX4_openLastPlace_64 : decode cX4_openLastPlace 64 = .ok (.getfield 18, 3) := by decide +kernel
theorem dX4_openLastPlace_67 : decode cX4_openLastPlace 67 = .ok (.iload_n 1, 1) := by decide +kernel
theorem dX4_openLastPlace_68 : decode cX4_openLastPlace 68 = .ok (.iaload, 1) := by decide +kernel
theorem dX4_openLastPlace_69 : decode cX4_openLastPlace 69 = .ok (.iastore, 1) := by decide +kernel
theorem dX4_openLastPlace_70 : decode cX4_openLastPlace 70 = .ok (.iinc 1 1, 3) := by decide +kernel
theorem dX4_openLastPlace_73 : decode cX4_openLastPlace 73 = .ok (.goto (-51), 3) := by decide +kernel
theorem dX4_openLastPlace_76 : decode cX4_openLastPlace 76 = .ok (.return_, 1) := by decide +kernel
theorem dX5_init_0 : decode cX5_init 0 = .ok (.aload_n 0, 1) := by decide +kernel
theorem dX5_init_1 : decode cX5_init 1 = .ok (.invokespecial 3, 3) := by decide +kernel
theorem dX5_init_4 : decode cX5_init 4 = .ok (.aload_n 0, 1) := by decide +kernel
theorem dX5_init_5 : decode cX5_init 5 = .ok (.new 9, 3) := by decide +kernel
theorem dX5_init_8 : decode cX5_init 8 = .ok (.dup, 1) := by decide +kernel
theorem dX5_init_9 : decode cX5_init 9 = .ok (.invokespecial 11, 3) := by decide +kernel
theorem dX5_init_12 : decode cX5_init 12 = .ok (.putfield 12, 3) := by decide +kernel
theorem dX5_init_15 : decode cX5_init 15 = .ok (.aload_n 0, 1) := by decide +kernel
theorem dX5_init_16 : decode cX5_init 16 = .ok (.new 18, 3) := by decide +kernel
theorem dX5_init_19 : decode cX5_init 19 = .ok (.dup, 1) := by decide +kernel
theorem dX5_init_20 : decode cX5_init 20 = .ok (.invokespecial 20, 3) := by decide +kernel
theorem dX5_init_23 : decode cX5_init 23 = .ok (.putfield 21, 3) := by decide +kernel
theorem dX5_init_26 : decode cX5_init 26 = .ok (.aload_n 0, 1) := by decide +kernel
theorem dX5_init_27 : decode cX5_init 27 = .ok (.new 25, 3) := by decide +kernel
theorem dX5_init_30 : decode cX5_init 30 = .ok (.dup, 1) := by decide +kernel
theorem dX5_init_31 : decode cX5_init 31 = .ok (.invokespecial 27, 3) := by decide +kernel
theorem dX5_init_34 : decode cX5_init 34 = .ok (.putfield 28, 3) := by decide +kernel
theorem dX5_init_37 : decode cX5_init 37 = .ok (.aload_n 0, 1) := by decide +kernel
theorem dX5_init_38 : decode cX5_init 38 = .ok (.new 32, 3) := by decide +kernel
theorem dX5_init_41 : decode cX5_init 41 = .ok (.dup, 1) := by decide +kernel
theorem dX5_init_42 : decode cX5_init 42 = .ok (.invokespecial 34, 3) := by decide +kernel
theorem dX5_init_45 : decode cX5_init 45 = .ok (.putfield 35, 3) := by decide +kernel
theorem dX5_init_48 : decode cX5_init 48 = .ok (.aload_n 0, 1) := by decide +kernel
theorem dX5_init_49 : decode cX5_init 49 = .ok (.new 39, 3) := by decide +kernel
theorem dX5_init_52 : decode cX5_init 52 = .ok (.dup, 1) := by decide +kernel
theorem dX5_init_53 : decode cX5_init 53 = .ok (.invokespecial 41, 3) := by decide +kernel
theorem dX5_init_56 : decode cX5_init 56 = .ok (.putfield 42, 3) := by decide +kernel
theorem dX5_init_59 : decode cX5_init 59 = .ok (.aload_n 0, 1) := by decide +kernel
theorem dX5_init_60 : decode cX5_init 60 = .ok (.new 46, 3) := by decide +kernel
theorem dX5_init_63 : decode cX5_init 63 = .ok (.dup, 1) := by decide +kernel
theorem dX5_init_64 : decode cX5_init 64 = .ok (.invokespecial 48, 3) := by decide +kernel
theorem dX5_init_67 : decode cX5_init 67 = .ok (.putfield 49, 3) := by decide +kernel
theorem dX5_init_70 : decode cX5_init 70 = .ok (.aload_n 0, 1) := by decide +kernel
theorem dX5_init_71 : decode cX5_init 71 = .ok (.iload_n 1, 1) := by decide +kernel
theorem dX5_init_72 : decode cX5_init 72 = .ok (.putfield 53, 3) := by decide +kernel
theorem dX5_init_75 : decode cX5_init 75 = .ok (.return_, 1) := by decide +kernel
theorem dX5_tellUsed_0 : decode cX5_tellUsed 0 = .ok (.aload_n 0, 1) := by decide +kernel
theorem dX5_tellUsed_1 : decode cX5_tellUsed 1 = .ok (.getfield 12, 3) := by decide +kernel
theorem dX5_tellUsed_4 : decode cX5_tellUsed 4 = .ok (.iload_n 1, 1) := by decide +kernel
theorem dX5_tellUsed_5 : decode cX5_tellUsed 5 = .ok (.iload_n 2, 1) := by decide +kernel
theorem dX5_tellUsed_6 : decode cX5_tellUsed 6 = .ok (.aload_n 0, 1) := by decide +kernel
theorem dX5_tellUsed_7 : decode cX5_tellUsed 7 = .ok (.getfield 28, 3) := by decide +kernel
theorem dX5_tellUsed_10 : decode cX5_tellUsed 10 = .ok (.invokevirtual 57, 3) := by decide +kernel
theorem dX5_tellUsed_13 : decode cX5_tellUsed 13 = .ok (.invokevirtual 61, 3) := by decide +kernel
theorem dX5_tellUsed_16 : decode cX5_tellUsed 16 = .ok (.aload_n 0, 1) := by decide +kernel
theorem dX5_tellUsed_17 : decode cX5_tellUsed 17 = .ok (.getfield 21, 3) := by decide +kernel
theorem dX5_tellUsed_20 : decode cX5_tellUsed 20 = .ok (.aload_n 0, 1) := by decide +kernel
theorem dX5_tellUsed_21 : decode cX5_tellUsed 21 = .ok (.getfield 12, 3) := by decide +kernel
theorem dX5_tellUsed_24 : decode cX5_tellUsed 24 = .ok (.invokevirtual 65, 3) := by decide +kernel
theorem dX5_tellUsed_27 : decode cX5_tellUsed 27 = .ok (.return_, 1) := by decide +kernel
theorem dX5_tellFreed_0 : decode cX5_tellFreed 0 = .ok (.aload_n 0, 1) := by decide +kernel
theorem dX5_tellFreed_1 : decode cX5_tellFreed 1 = .ok (.getfield 28, 3) := by decide +kernel
theorem dX5_tellFreed_4 : decode cX5_tellFreed 4 = .ok (.iload_n 2, 1) := by decide +kernel
theorem dX5_tellFreed_5 : decode cX5_tellFreed 5 = .ok (.invokevirtual 69, 3) := by decide +kernel
theorem dX5_tellFreed_8 : decode cX5_tellFreed 8 = .ok (.aload_n 0, 1) := by decide +kernel
theorem dX5_tellFreed_9 : decode cX5_tellFreed 9 = .ok (.getfield 12, 3) := by decide +kernel
theorem dX5_tellFreed_12 : decode cX5_tellFreed 12 = .ok (.iload_n 1, 1) := by decide +kernel
theorem dX5_tellFreed_13 : decode cX5_tellFreed 13 = .ok (.iload_n 2, 1) := by decide +kernel
theorem dX5_tellFreed_14 : decode cX5_tellFreed 14 = .ok (.invokevirtual 72, 3) := by decide +kernel
theorem dX5_tellFreed_17 : decode cX5_tellFreed 17 = .ok (.aload_n 0, 1) := by decide +kernel
theorem dX5_tellFreed_18 : decode cX5_tellFreed 18 = .ok (.getfield 21, 3) := by decide +kernel
theorem dX5_tellFreed_21 : decode cX5_tellFreed 21 = .ok (.aload_n 0, 1) := by decide +kernel
theorem dX5_tellFreed_22 : decode cX5_tellFreed 22 = .ok (.getfield 12, 3) := by decide +kernel
theorem dX5_tellFreed_25 : decode cX5_tellFreed 25 = .ok (.invokevirtual 65, 3) := by decide +kernel
theorem dX5_tellFreed_28 : decode cX5_tellFreed 28 = .ok (.return_, 1) := by decide +kernel
theorem dX5_hasSlope_0 : decode cX5_hasSlope 0 = .ok (.aload_n 0, 1) := by decide +kernel
theorem dX5_hasSlope_1 : decode cX5_hasSlope 1 = .ok (.getfield 12, 3) := by decide +kernel
theorem dX5_hasSlope_4 : decode cX5_hasSlope 4 = .ok (.invokevirtual 76, 3) := by decide +kernel
theorem dX5_hasSlope_7 : decode cX5_hasSlope 7 = .ok (.iconst 2, 1) := by decide +kernel
theorem dX5_hasSlope_8 : decode cX5_hasSlope 8 = .ok (.if_icmp .lt 7, 3) := by decide +kernel
theorem dX5_hasSlope_11 : decode cX5_hasSlope 11 = .ok (.iconst 1, 1) := by decide +kernel
theorem dX5_hasSlope_12 : decode cX5_hasSlope 12 = .ok (.goto 4, 3) := by decide +kernel
theorem dX5_hasSlope_15 : decode cX5_hasSlope 15 = .ok (.iconst 0, 1) := by decide +kernel
theorem dX5_hasSlope_16 : decode cX5_hasSlope 16 = .ok (.ireturn, 1) := by decide +kernel
theorem dX5_drawLineWithout_0 : decode cX5_drawLineWithout 0 = .ok (.aload_n 0, 1) := by decide +kernel
theorem dX5_drawLineWithout_1 : decode cX5_drawLineWithout 1 = .ok (.getfield 12, 3) := by decide +kernel
theorem dX5_drawLineWithout_4 : decode cX5_drawLineWithout 4 = .ok (.iload_n 1, 1) := by decide +kernel
theorem dX5_drawLineWithout_5 : decode cX5_drawLineWithout 5 = .ok (.invokevirtual 79, 3) := by decide +kernel
theorem dX5_drawLineWithout_8 : decode cX5_drawLineWithout 8 = .ok (.istore_n 2, 1) := by decide +kernel
theorem dX5_drawLineWithout_9 : decode cX5_drawLineWithout 9 = .ok (.aload_n 0, 1) := by decide +kernel
theorem dX5_drawLineWithout_10 : decode cX5_drawLineWithout 10 = .ok (.getfield 21, 3) := by decide +kernel
theorem dX5_drawLineWithout_13 : decode cX5_drawLineWithout 13 = .ok (.iload_n 1, 1) := by decide +kernel
theorem dX5_drawLineWithout_14 : decode cX5_drawLineWithout 14 = .ok (.invokevirtual 83, 3) := by decide +kernel
theorem dX5_drawLineWithout_17 : decode cX5_drawLineWithout 17 = .ok (.istore_n 3, 1) := by decide +kernel
theorem dX5_drawLineWithout_18 : decode cX5_drawLineWithout 18 = .ok (.aload_n 0, 1) := by decide +kernel
theorem dX5_drawLineWithout_19 : decode cX5_drawLineWithout 19 = .ok (.getfield 42, 3) := by decide +kernel
theorem dX5_drawLineWithout_22 : decode cX5_drawLineWithout 22 = .ok (.aload_n 0, 1) := by decide +kernel
theorem dX5_drawLineWithout_23 : decode cX5_drawLineWithout 23 = .ok (.getfield 12, 3) := by decide +kernel
theorem dX5_drawLineWithout_26 : decode cX5_drawLineWithout 26 = .ok (.iload_n 2, 1) := by decide +kernel
theorem dX5_drawLineWithout_27 : decode cX5_drawLineWithout 27 = .ok (.invokevirtual 86, 3) := by decide +kernel
theorem dX5_drawLineWithout_30 : decode cX5_drawLineWithout 30 = .ok (.aload_n 0, 1) := by decide +kernel
theorem dX5_drawLineWithout_31 : decode cX5_drawLineWithout 31 = .ok (.getfield 12, 3) := by decide +kernel
theorem dX5_drawLineWithout_34 : decode cX5_drawLineWithout 34 = .ok (.iload_n 2, 1) := by decide +kernel
theorem dX5_drawLineWithout_35 : decode cX5_drawLineWithout 35 = .ok (.invokevirtual 89, 3) := by decide +kernel
theorem dX5_drawLineWithout_38 : decode cX5_drawLineWithout 38 = .ok (.invokevirtual 92, 3) := by decide +kernel
theorem dX5_drawLineWithout_41 : decode cX5_drawLineWithout 41 = .ok (.aload_n 0, 1) := by decide +kernel
theorem dX5_drawLineWithout_42 : decode cX5_drawLineWithout 42 = .ok (.getfield 42, 3) := by decide +kernel
theorem dX5_drawLineWithout_45 : decode cX5_drawLineWithout 45 = .ok (.aload_n 0, 1) := by decide +kernel
theorem dX5_drawLineWithout_46 : decode cX5_drawLineWithout 46 = .ok (.getfield 21, 3) := by decide +kernel
theorem dX5_drawLineWithout_49 : decode cX5_drawLineWithout 49 = .ok (.iload_n 3, 1) := by decide +kernel
theorem dX5_drawLineWithout_50 : decode cX5_drawLineWithout 50 = .ok (.invokevirtual 95, 3) := by decide +kernel
theorem dX5_drawLineWithout_53 : decode cX5_drawLineWithout 53 = .ok (.aload_n 0, 1) := by decide +kernel
theorem dX5_drawLineWithout_54 : decode cX5_drawLineWithout 54 = .ok (.getfield 21, 3) := by decide +kernel
theorem dX5_drawLineWithout_57 : decode cX5_drawLineWithout 57 = .ok (.iload_n 3, 1) := by decide +kernel
theorem dX5_drawLineWithout_58 : decode cX5_drawLineWithout 58 = .ok (.invokevirtual 98, 3) := by decide +kernel
theorem dX5_drawLineWithout_61 : decode cX5_drawLineWithout 61 = .ok (.invokevirtual 101, 3) := by decide +kernel
theorem dX5_drawLineWithout_64 : decode cX5_drawLineWithout 64 = .ok (.return_, 1) := by decide +kernel
theorem dX5_roomOn_0 : decode cX5_roomOn 0 = .ok (.aload_n 0, 1) := by decide +kernel
theorem dX5_roomOn_1 : decode cX5_roomOn 1 = .ok (.getfield 28, 3) := by decide +kernel
theorem dX5_roomOn_4 : decode cX5_roomOn 4 = .ok (.invokevirtual 104, 3) := by decide +kernel
theorem dX5_roomOn_7 : decode cX5_roomOn 7 = .ok (.i2l, 1) := by decide +kernel
theorem dX5_roomOn_8 : decode cX5_roomOn 8 = .ok (.aload_n 0, 1) := by decide +kernel
theorem dX5_roomOn_9 : decode cX5_roomOn 9 = .ok (.getfield 35, 3) := by decide +kernel
theorem dX5_roomOn_12 : decode cX5_roomOn 12 = .ok (.aload_n 0, 1) := by decide +kernel
theorem dX5_roomOn_13 : decode cX5_roomOn 13 = .ok (.getfield 42, 3) := by decide +kernel
theorem dX5_roomOn_16 : decode cX5_roomOn 16 = .ok (.getfield 107, 3) := by decide +kernel
theorem dX5_roomOn_19 : decode cX5_roomOn 19 = .ok (.iload_n 1, 1) := by decide +kernel
theorem dX5_roomOn_20 : decode cX5_roomOn 20 = .ok (.invokevirtual 110, 3) := by decide +kernel
theorem dX5_roomOn_23 : decode cX5_roomOn 23 = .ok (.i2l, 1) := by decide +kernel
theorem dX5_roomOn_24 : decode cX5_roomOn 24 = .ok (.lmul, 1) := by decide +kernel
theorem dX5_roomOn_25 : decode cX5_roomOn 25 = .ok (.lstore_n 2, 1) := by decide +kernel
theorem dX5_roomOn_26 : decode cX5_roomOn 26 = .ok (.aload_n 0, 1) := by decide +kernel
theorem dX5_roomOn_27 : decode cX5_roomOn 27 = .ok (.getfield 42, 3) := by decide +kernel
theorem dX5_roomOn_30 : decode cX5_roomOn 30 = .ok (.iload_n 1, 1) := by decide +kernel
theorem dX5_roomOn_31 : decode cX5_roomOn 31 = .ok (.invokevirtual 114, 3) := by decide +kernel
theorem dX5_roomOn_34 : decode cX5_roomOn 34 = .ok (.lload_n 2, 1) := by decide +kernel
theorem dX5_roomOn_35 : decode cX5_roomOn 35 = .ok (.lsub, 1) := by decide +kernel
theorem dX5_roomOn_36 : decode cX5_roomOn 36 = .ok (.lstore 4, 2) := by decide +kernel
theorem dX5_roomOn_38 : decode cX5_roomOn 38 = .ok (.lload 4, 2) := by decide +kernel
theorem dX5_roomOn_40 : decode cX5_roomOn 40 = .ok (.lconst 0, 1) := by decide +kernel
theorem dX5_roomOn_41 : decode cX5_roomOn 41 = .ok (.invokestatic 118, 3) := by decide +kernel
theorem dX5_roomOn_44 : decode cX5_roomOn 44 = .ok (.ldc2_w 124, 3) := by decide +kernel
theorem dX5_roomOn_47 : decode cX5_roomOn 47 = .ok (.invokestatic 126, 3) := by decide +kernel
theorem dX5_roomOn_50 : decode cX5_roomOn 50 = .ok (.l2i, 1) := by decide +kernel
theorem dX5_roomOn_51 : decode cX5_roomOn 51 = .ok (.ireturn, 1) := by decide +kernel
theorem dX5_fullDay_0 : decode cX5_fullDay 0 = .ok (.aload_n 0, 1) := by decide +kernel
theorem dX5_fullDay_1 : decode cX5_fullDay 1 = .ok (.invokevirtual 129, 3) := by decide +kernel
theorem dX5_fullDay_4 : decode cX5_fullDay 4 = .ok (.ifCond .eq 11, 3) := by decide +kernel
theorem dX5_fullDay_7 : decode cX5_fullDay 7 = .ok (.aload_n 0, 1) := by decide +kernel
theorem dX5_fullDay_8 : decode cX5_fullDay 8 = .ok (.iconst (-1), 1) := by decide +kernel
theorem dX5_fullDay_9 : decode cX5_fullDay 9 = .ok (.invokevirtual 133, 3) := by decide +kernel
theorem dX5_fullDay_12 : decode cX5_fullDay 12 = .ok (.goto 5, 3) := by decide +kernel
theorem dX5_fullDay_15 : decode cX5_fullDay 15 = .ok (.ldc 136, 2) := by decide +kernel
theorem dX5_fullDay_17 : decode cX5_fullDay 17 = .ok (.ireturn, 1) := by decide +kernel
theorem dX5_fullDayWithout_0 : decode cX5_fullDayWithout 0 = .ok (.aload_n 0, 1) := by decide +kernel
theorem dX5_fullDayWithout_1 : decode cX5_fullDayWithout 1 = .ok (.iload_n 1, 1) := by decide +kernel
theorem dX5_fullDayWithout_2 : decode cX5_fullDayWithout 2 = .ok (.invokevirtual 137, 3) := by decide +kernel
theorem dX5_fullDayWithout_5 : decode cX5_fullDayWithout 5 = .ok (.iconst 1, 1) := by decide +kernel
theorem dX5_fullDayWithout_6 : decode cX5_fullDayWithout 6 = .ok (.istore_n 2, 1) := by decide +kernel
theorem dX5_fullDayWithout_7 : decode cX5_fullDayWithout 7 = .ok (.iconst 1, 1) := by decide +kernel
theorem dX5_fullDayWithout_8 : decode cX5_fullDayWithout 8 = .ok (.istore_n 3, 1) := by decide +kernel
theorem dX5_fullDayWithout_9 : decode cX5_fullDayWithout 9 = .ok (.iload_n 3, 1) := by decide +kernel
theorem dX5_fullDayWithout_10 : decode cX5_fullDayWithout 10 = .ok (.sipush 1000, 3) := by decide +kernel
theorem dX5_fullDayWithout_13 : decode cX5_fullDayWithout 13 = .ok (.if_icmp .gt 59, 3) := by decide +kernel
theorem dX5_fullDayWithout_16 : decode cX5_fullDayWithout 16 = .ok (.aload_n 0, 1) := by decide +kernel
theorem dX5_fullDayWithout_17 : decode cX5_fullDayWithout 17 = .ok (.getfield 53, 3) := by decide +kernel
theorem dX5_fullDayWithout_20 : decode cX5_fullDayWithout 20 = .ok (.aload_n 0, 1) := by decide +kernel
theorem dX5_fullDayWithout_21 : decode cX5_fullDayWithout 21 = .ok (.aload_n 0, 1) := by decide +kernel
theorem dX5_fullDayWithout_22 : decode cX5_fullDayWithout 22 = .ok (.getfield 42, 3) := by decide +kernel
theorem dX5_fullDayWithout_25 : decode cX5_fullDayWithout 25 = .ok (.getfield 107, 3) := by decide +kernel
theorem dX5_fullDayWithout_28 : decode cX5_fullDayWithout 28 = .ok (.iload_n 3, 1) := by decide +kernel
theorem dX5_fullDayWithout_29 : decode cX5_fullDayWithout 29 = .ok (.iadd, 1) := by decide +kernel
theorem dX5_fullDayWithout_30 : decode cX5_fullDayWithout 30 = .ok (.invokevirtual 140, 3) := by decide +kernel
theorem dX5_fullDayWithout_33 : decode cX5_fullDayWithout 33 = .ok (.isub, 1) := by decide +kernel
theorem dX5_fullDayWithout_34 : decode cX5_fullDayWithout 34 = .ok (.istore 4, 2) := by decide +kernel
theorem dX5_fullDayWithout_36 : decode cX5_fullDayWithout 36 = .ok (.iload 4, 2) := by decide +kernel
theorem dX5_fullDayWithout_38 : decode cX5_fullDayWithout 38 = .ok (.ifCond .gt 13, 3) := by decide +kernel
theorem dX5_fullDayWithout_41 : decode cX5_fullDayWithout 41 = .ok (.aload_n 0, 1) := by decide +kernel
theorem dX5_fullDayWithout_42 : decode cX5_fullDayWithout 42 = .ok (.getfield 42, 3) := by decide +kernel
theorem dX5_fullDayWithout_45 : decode cX5_fullDayWithout 45 = .ok (.getfield 107, 3) := by decide +kernel
theorem dX5_fullDayWithout_48 : decode cX5_fullDayWithout 48 = .ok (.iload_n 3, 1) := by decide +kernel
theorem dX5_fullDayWithout_49 : decode cX5_fullDayWithout 49 = .ok (.iadd, 1) := by decide +kernel
theorem dX5_fullDayWithout_50 : decode cX5_fullDayWithout 50 = .ok (.ireturn, 1) := by decide +kernel
theorem dX5_fullDayWithout_51 : decode cX5_fullDayWithout 51 = .ok (.iconst 1, 1) := by decide +kernel
theorem dX5_fullDayWithout_52 : decode cX5_fullDayWithout 52 = .ok (.aload_n 0, 1) := by decide +kernel
theorem dX5_fullDayWithout_53 : decode cX5_fullDayWithout 53 = .ok (.getfield 42, 3) := by decide +kernel
theorem dX5_fullDayWithout_56 : decode cX5_fullDayWithout 56 = .ok (.iload 4, 2) := by decide +kernel
theorem dX5_fullDayWithout_58 : decode cX5_fullDayWithout 58 = .ok (.invokevirtual 143, 3) := by decide +kernel
theorem dX5_fullDayWithout_61 : decode cX5_fullDayWithout 61 = .ok (.invokestatic 146, 3) := by decide +kernel
theorem dX5_fullDayWithout_64 : decode cX5_fullDayWithout 64 = .ok (.istore_n 2, 1) := by decide +kernel
theorem dX5_fullDayWithout_65 : decode cX5_fullDayWithout 65 = .ok (.iload_n 3, 1) := by decide +kernel
theorem dX5_fullDayWithout_66 : decode cX5_fullDayWithout 66 = .ok (.iload_n 2, 1) := by decide +kernel
theorem dX5_fullDayWithout_67 : decode cX5_fullDayWithout 67 = .ok (.iadd, 1) := by decide +kernel
theorem dX5_fullDayWithout_68 : decode cX5_fullDayWithout 68 = .ok (.istore_n 3, 1) := by decide +kernel
theorem dX5_fullDayWithout_69 : decode cX5_fullDayWithout 69 = .ok (.goto (-60), 3) := by decide +kernel
theorem dX5_fullDayWithout_72 : decode cX5_fullDayWithout 72 = .ok (.ldc 136, 2) := by decide +kernel
theorem dX5_fullDayWithout_74 : decode cX5_fullDayWithout 74 = .ok (.ireturn, 1) := by decide +kernel
theorem dX5_earlyBound_0 : decode cX5_earlyBound 0 = .ok (.aload_n 0, 1) := by decide +kernel
theorem dX5_earlyBound_1 : decode cX5_earlyBound 1 = .ok (.getfield 12, 3) := by decide +kernel
theorem dX5_earlyBound_4 : decode cX5_earlyBound 4 = .ok (.invokevirtual 76, 3) := by decide +kernel
theorem dX5_earlyBound_7 : decode cX5_earlyBound 7 = .ok (.iconst 3, 1) := by decide +kernel
theorem dX5_earlyBound_8 : decode cX5_earlyBound 8 = .ok (.if_icmp .ge 6, 3) := by decide +kernel
theorem dX5_earlyBound_11 : decode cX5_earlyBound 11 = .ok (.ldc 136, 2) := by decide +kernel
theorem dX5_earlyBound_13 : decode cX5_earlyBound 13 = .ok (.ireturn, 1) := by decide +kernel
theorem dX5_earlyBound_14 : decode cX5_earlyBound 14 = .ok (.aload_n 0, 1) := by decide +kernel
theorem dX5_earlyBound_15 : decode cX5_earlyBound 15 = .ok (.iconst (-1), 1) := by decide +kernel
theorem dX5_earlyBound_16 : decode cX5_earlyBound 16 = .ok (.invokevirtual 133, 3) := by decide +kernel
theorem dX5_earlyBound_19 : decode cX5_earlyBound 19 = .ok (.istore_n 1, 1) := by decide +kernel
theorem dX5_earlyBound_20 : decode cX5_earlyBound 20 = .ok (.iconst 0, 1) := by decide +kernel
theorem dX5_earlyBound_21 : decode cX5_earlyBound 21 = .ok (.istore_n 2, 1) := by decide +kernel
theorem dX5_earlyBound_22 : decode cX5_earlyBound 22 = .ok (.iload_n 2, 1) := by decide +kernel
theorem dX5_earlyBound_23 : decode cX5_earlyBound 23 = .ok (.aload_n 0, 1) := by decide +kernel
theorem dX5_earlyBound_24 : decode cX5_earlyBound 24 = .ok (.getfield 12, 3) := by decide +kernel
theorem dX5_earlyBound_27 : decode cX5_earlyBound 27 = .ok (.invokevirtual 76, 3) := by decide +kernel
theorem dX5_earlyBound_30 : decode cX5_earlyBound 30 = .ok (.if_icmp .ge 19, 3) := by decide +kernel
theorem dX5_earlyBound_33 : decode cX5_earlyBound 33 = .ok (.iload_n 1, 1) := by decide +kernel
theorem dX5_earlyBound_34 : decode cX5_earlyBound 34 = .ok (.aload_n 0, 1) := by decide +kernel
theorem dX5_earlyBound_35 : decode cX5_earlyBound 35 = .ok (.iload_n 2, 1) := by decide +kernel
theorem dX5_earlyBound_36 : decode cX5_earlyBound 36 = .ok (.invokevirtual 133, 3) := by decide +kernel
theorem dX5_earlyBound_39 : decode cX5_earlyBound 39 = .ok (.invokestatic 148, 3) := by decide +kernel
theorem dX5_earlyBound_42 : decode cX5_earlyBound 42 = .ok (.istore_n 1, 1) := by decide +kernel
theorem dX5_earlyBound_43 : decode cX5_earlyBound 43 = .ok (.iinc 2 1, 3) := by decide +kernel
theorem dX5_earlyBound_46 : decode cX5_earlyBound 46 = .ok (.goto (-24), 3) := by decide +kernel
theorem dX5_earlyBound_49 : decode cX5_earlyBound 49 = .ok (.iload_n 1, 1) := by decide +kernel
theorem dX5_earlyBound_50 : decode cX5_earlyBound 50 = .ok (.ireturn, 1) := by decide +kernel
theorem dX5_lateBound_0 : decode cX5_lateBound 0 = .ok (.aload_n 0, 1) := by decide +kernel
theorem dX5_lateBound_1 : decode cX5_lateBound 1 = .ok (.getfield 12, 3) := by decide +kernel
theorem dX5_lateBound_4 : decode cX5_lateBound 4 = .ok (.invokevirtual 76, 3) := by decide +kernel
theorem dX5_lateBound_7 : decode cX5_lateBound 7 = .ok (.iconst 3, 1) := by decide +kernel
theorem dX5_lateBound_8 : decode cX5_lateBound 8 = .ok (.if_icmp .ge 6, 3) := by decide +kernel
theorem dX5_lateBound_11 : decode cX5_lateBound 11 = .ok (.ldc 136, 2) := by decide +kernel
theorem dX5_lateBound_13 : decode cX5_lateBound 13 = .ok (.ireturn, 1) := by decide +kernel
theorem dX5_lateBound_14 : decode cX5_lateBound 14 = .ok (.aload_n 0, 1) := by decide +kernel
theorem dX5_lateBound_15 : decode cX5_lateBound 15 = .ok (.iconst (-1), 1) := by decide +kernel
theorem dX5_lateBound_16 : decode cX5_lateBound 16 = .ok (.invokevirtual 133, 3) := by decide +kernel
theorem dX5_lateBound_19 : decode cX5_lateBound 19 = .ok (.istore_n 1, 1) := by decide +kernel
theorem dX5_lateBound_20 : decode cX5_lateBound 20 = .ok (.iconst 0, 1) := by decide +kernel
theorem dX5_lateBound_21 : decode cX5_lateBound 21 = .ok (.istore_n 2, 1) := by decide +kernel
theorem dX5_lateBound_22 : decode cX5_lateBound 22 = .ok (.iload_n 2, 1) := by decide +kernel
theorem dX5_lateBound_23 : decode cX5_lateBound 23 = .ok (.aload_n 0, 1) := by decide +kernel
theorem dX5_lateBound_24 : decode cX5_lateBound 24 = .ok (.getfield 12, 3) := by decide +kernel
theorem dX5_lateBound_27 : decode cX5_lateBound 27 = .ok (.invokevirtual 76, 3) := by decide +kernel
theorem dX5_lateBound_30 : decode cX5_lateBound 30 = .ok (.if_icmp .ge 19, 3) := by decide +kernel
theorem dX5_lateBound_33 : decode cX5_lateBound 33 = .ok (.iload_n 1, 1) := by decide +kernel
theorem dX5_lateBound_34 : decode cX5_lateBound 34 = .ok (.aload_n 0, 1) := by decide +kernel
theorem dX5_lateBound_35 : decode cX5_lateBound 35 = .ok (.iload_n 2, 1) := by decide +kernel
