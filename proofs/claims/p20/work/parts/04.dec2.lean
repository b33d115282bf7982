theorem dX5_lateBound_36 : decode cX5_lateBound 36 = .ok (.invokevirtual 133, 3) := by decide +kernel
theorem dX5_lateBound_39 : decode cX5_lateBound 39 = .ok (.invokestatic 146, 3) := by decide +kernel
theorem dX5_lateBound_42 : decode cX5_lateBound 42 = .ok (.istore_n 1, 1) := by decide +kernel
theorem dX5_lateBound_43 : decode cX5_lateBound 43 = .ok (.iinc 2 1, 3) := by decide +kernel
theorem dX5_lateBound_46 : decode cX5_lateBound 46 = .ok (.goto (-24), 3) := by decide +kernel
theorem dX5_lateBound_49 : decode cX5_lateBound 49 = .ok (.iload_n 1, 1) := by decide +kernel
theorem dX5_lateBound_50 : decode cX5_lateBound 50 = .ok (.ireturn, 1) := by decide +kernel
theorem dX5_lookOnDaysAfter_0 : decode cX5_lookOnDaysAfter 0 = .ok (.aload_n 0, 1) := by decide +kernel
theorem dX5_lookOnDaysAfter_1 : decode cX5_lookOnDaysAfter 1 = .ok (.invokevirtual 150, 3) := by decide +kernel
theorem dX5_lookOnDaysAfter_4 : decode cX5_lookOnDaysAfter 4 = .ok (.istore_n 3, 1) := by decide +kernel
theorem dX5_lookOnDaysAfter_5 : decode cX5_lookOnDaysAfter 5 = .ok (.iconst 0, 1) := by decide +kernel
theorem dX5_lookOnDaysAfter_6 : decode cX5_lookOnDaysAfter 6 = .ok (.istore 4, 2) := by decide +kernel
theorem dX5_lookOnDaysAfter_8 : decode cX5_lookOnDaysAfter 8 = .ok (.iconst 1, 1) := by decide +kernel
theorem dX5_lookOnDaysAfter_9 : decode cX5_lookOnDaysAfter 9 = .ok (.istore 5, 2) := by decide +kernel
theorem dX5_lookOnDaysAfter_11 : decode cX5_lookOnDaysAfter 11 = .ok (.iload 5, 2) := by decide +kernel
theorem dX5_lookOnDaysAfter_13 : decode cX5_lookOnDaysAfter 13 = .ok (.iload_n 2, 1) := by decide +kernel
theorem dX5_lookOnDaysAfter_14 : decode cX5_lookOnDaysAfter 14 = .ok (.if_icmp .gt 27, 3) := by decide +kernel
theorem dX5_lookOnDaysAfter_17 : decode cX5_lookOnDaysAfter 17 = .ok (.aload_n 0, 1) := by decide +kernel
theorem dX5_lookOnDaysAfter_18 : decode cX5_lookOnDaysAfter 18 = .ok (.getfield 49, 3) := by decide +kernel
theorem dX5_lookOnDaysAfter_21 : decode cX5_lookOnDaysAfter 21 = .ok (.iload_n 3, 1) := by decide +kernel
theorem dX5_lookOnDaysAfter_22 : decode cX5_lookOnDaysAfter 22 = .ok (.iload_n 1, 1) := by decide +kernel
theorem dX5_lookOnDaysAfter_23 : decode cX5_lookOnDaysAfter 23 = .ok (.iload 5, 2) := by decide +kernel
theorem dX5_lookOnDaysAfter_25 : decode cX5_lookOnDaysAfter 25 = .ok (.iadd, 1) := by decide +kernel
theorem dX5_lookOnDaysAfter_26 : decode cX5_lookOnDaysAfter 26 = .ok (.invokevirtual 153, 3) := by decide +kernel
theorem dX5_lookOnDaysAfter_29 : decode cX5_lookOnDaysAfter 29 = .ok (.ifCond .eq 6, 3) := by decide +kernel
theorem dX5_lookOnDaysAfter_32 : decode cX5_lookOnDaysAfter 32 = .ok (.iinc 4 1, 3) := by decide +kernel
theorem dX5_lookOnDaysAfter_35 : decode cX5_lookOnDaysAfter 35 = .ok (.iinc 5 1, 3) := by decide +kernel
theorem dX5_lookOnDaysAfter_38 : decode cX5_lookOnDaysAfter 38 = .ok (.goto (-27), 3) := by decide +kernel
theorem dX5_lookOnDaysAfter_41 : decode cX5_lookOnDaysAfter 41 = .ok (.iload 4, 2) := by decide +kernel
theorem dX5_lookOnDaysAfter_43 : decode cX5_lookOnDaysAfter 43 = .ok (.ireturn, 1) := by decide +kernel
theorem dX6_init_0 : decode cX6_init 0 = .ok (.aload_n 0, 1) := by decide +kernel
theorem dX6_init_1 : decode cX6_init 1 = .ok (.invokespecial 3, 3) := by decide +kernel
theorem dX6_init_4 : decode cX6_init 4 = .ok (.return_, 1) := by decide +kernel
theorem dX6_lookChanges_0 : decode cX6_lookChanges 0 = .ok (.aload_n 0, 1) := by decide +kernel
theorem dX6_lookChanges_1 : decode cX6_lookChanges 1 = .ok (.getfield 9, 3) := by decide +kernel
theorem dX6_lookChanges_4 : decode cX6_lookChanges 4 = .ok (.istore_n 3, 1) := by decide +kernel
theorem dX6_lookChanges_5 : decode cX6_lookChanges 5 = .ok (.iload_n 1, 1) := by decide +kernel
theorem dX6_lookChanges_6 : decode cX6_lookChanges 6 = .ok (.iload_n 2, 1) := by decide +kernel
theorem dX6_lookChanges_7 : decode cX6_lookChanges 7 = .ok (.isub, 1) := by decide +kernel
theorem dX6_lookChanges_8 : decode cX6_lookChanges 8 = .ok (.istore 4, 2) := by decide +kernel
theorem dX6_lookChanges_10 : decode cX6_lookChanges 10 = .ok (.iload 4, 2) := by decide +kernel
theorem dX6_lookChanges_12 : decode cX6_lookChanges 12 = .ok (.bipush 14, 2) := by decide +kernel
theorem dX6_lookChanges_14 : decode cX6_lookChanges 14 = .ok (.if_icmp .gt 7, 3) := by decide +kernel
theorem dX6_lookChanges_17 : decode cX6_lookChanges 17 = .ok (.iconst 1, 1) := by decide +kernel
theorem dX6_lookChanges_18 : decode cX6_lookChanges 18 = .ok (.goto 4, 3) := by decide +kernel
theorem dX6_lookChanges_21 : decode cX6_lookChanges 21 = .ok (.iconst 0, 1) := by decide +kernel
theorem dX6_lookChanges_22 : decode cX6_lookChanges 22 = .ok (.istore 5, 2) := by decide +kernel
theorem dX6_lookChanges_24 : decode cX6_lookChanges 24 = .ok (.iload 5, 2) := by decide +kernel
theorem dX6_lookChanges_26 : decode cX6_lookChanges 26 = .ok (.ifCond .eq 18, 3) := by decide +kernel
theorem dX6_lookChanges_29 : decode cX6_lookChanges 29 = .ok (.aload_n 0, 1) := by decide +kernel
theorem dX6_lookChanges_30 : decode cX6_lookChanges 30 = .ok (.getfield 15, 3) := by decide +kernel
theorem dX6_lookChanges_33 : decode cX6_lookChanges 33 = .ok (.ifCond .eq 11, 3) := by decide +kernel
theorem dX6_lookChanges_36 : decode cX6_lookChanges 36 = .ok (.aload_n 0, 1) := by decide +kernel
theorem dX6_lookChanges_37 : decode cX6_lookChanges 37 = .ok (.iconst 1, 1) := by decide +kernel
theorem dX6_lookChanges_38 : decode cX6_lookChanges 38 = .ok (.putfield 9, 3) := by decide +kernel
theorem dX6_lookChanges_41 : decode cX6_lookChanges 41 = .ok (.goto 15, 3) := by decide +kernel
theorem dX6_lookChanges_44 : decode cX6_lookChanges 44 = .ok (.iload 4, 2) := by decide +kernel
theorem dX6_lookChanges_46 : decode cX6_lookChanges 46 = .ok (.bipush 21, 2) := by decide +kernel
theorem dX6_lookChanges_48 : decode cX6_lookChanges 48 = .ok (.if_icmp .le 8, 3) := by decide +kernel
theorem dX6_lookChanges_51 : decode cX6_lookChanges 51 = .ok (.aload_n 0, 1) := by decide +kernel
theorem dX6_lookChanges_52 : decode cX6_lookChanges 52 = .ok (.iconst 0, 1) := by decide +kernel
theorem dX6_lookChanges_53 : decode cX6_lookChanges 53 = .ok (.putfield 9, 3) := by decide +kernel
theorem dX6_lookChanges_56 : decode cX6_lookChanges 56 = .ok (.aload_n 0, 1) := by decide +kernel
theorem dX6_lookChanges_57 : decode cX6_lookChanges 57 = .ok (.iload 5, 2) := by decide +kernel
theorem dX6_lookChanges_59 : decode cX6_lookChanges 59 = .ok (.putfield 15, 3) := by decide +kernel
theorem dX6_lookChanges_62 : decode cX6_lookChanges 62 = .ok (.aload_n 0, 1) := by decide +kernel
theorem dX6_lookChanges_63 : decode cX6_lookChanges 63 = .ok (.getfield 9, 3) := by decide +kernel
theorem dX6_lookChanges_66 : decode cX6_lookChanges 66 = .ok (.iload_n 3, 1) := by decide +kernel
theorem dX6_lookChanges_67 : decode cX6_lookChanges 67 = .ok (.if_icmp .eq 7, 3) := by decide +kernel
theorem dX6_lookChanges_70 : decode cX6_lookChanges 70 = .ok (.iconst 1, 1) := by decide +kernel
theorem dX6_lookChanges_71 : decode cX6_lookChanges 71 = .ok (.goto 4, 3) := by decide +kernel
theorem dX6_lookChanges_74 : decode cX6_lookChanges 74 = .ok (.iconst 0, 1) := by decide +kernel
theorem dX6_lookChanges_75 : decode cX6_lookChanges 75 = .ok (.ireturn, 1) := by decide +kernel
theorem dX7_init_0 : decode cX7_init 0 = .ok (.aload_n 0, 1) := by decide +kernel
theorem dX7_init_1 : decode cX7_init 1 = .ok (.invokespecial 3, 3) := by decide +kernel
theorem dX7_init_4 : decode cX7_init 4 = .ok (.aload_n 0, 1) := by decide +kernel
theorem dX7_init_5 : decode cX7_init 5 = .ok (.new 9, 3) := by decide +kernel
theorem dX7_init_8 : decode cX7_init 8 = .ok (.dup, 1) := by decide +kernel
theorem dX7_init_9 : decode cX7_init 9 = .ok (.invokespecial 11, 3) := by decide +kernel
theorem dX7_init_12 : decode cX7_init 12 = .ok (.putfield 12, 3) := by decide +kernel
theorem dX7_init_15 : decode cX7_init 15 = .ok (.aload_n 0, 1) := by decide +kernel
theorem dX7_init_16 : decode cX7_init 16 = .ok (.iconst 0, 1) := by decide +kernel
theorem dX7_init_17 : decode cX7_init 17 = .ok (.putfield 16, 3) := by decide +kernel
theorem dX7_init_20 : decode cX7_init 20 = .ok (.return_, 1) := by decide +kernel
theorem dX7_addStore_0 : decode cX7_addStore 0 = .ok (.iload_n 1, 1) := by decide +kernel
theorem dX7_addStore_1 : decode cX7_addStore 1 = .ok (.iconst 1, 1) := by decide +kernel
theorem dX7_addStore_2 : decode cX7_addStore 2 = .ok (.ldc 20, 2) := by decide +kernel
theorem dX7_addStore_4 : decode cX7_addStore 4 = .ok (.invokestatic 21, 3) := by decide +kernel
theorem dX7_addStore_7 : decode cX7_addStore 7 = .ok (.aload_n 0, 1) := by decide +kernel
theorem dX7_addStore_8 : decode cX7_addStore 8 = .ok (.getfield 12, 3) := by decide +kernel
theorem dX7_addStore_11 : decode cX7_addStore 11 = .ok (.invokevirtual 25, 3) := by decide +kernel
theorem dX7_addStore_14 : decode cX7_addStore 14 = .ok (.bipush 8, 2) := by decide +kernel
theorem dX7_addStore_16 : decode cX7_addStore 16 = .ok (.if_icmp .lt 13, 3) := by decide +kernel
theorem dX7_addStore_19 : decode cX7_addStore 19 = .ok (.new 29, 3) := by decide +kernel
theorem dX7_addStore_22 : decode cX7_addStore 22 = .ok (.dup, 1) := by decide +kernel
theorem dX7_addStore_23 : decode cX7_addStore 23 = .ok (.ldc 31, 2) := by decide +kernel
theorem dX7_addStore_25 : decode cX7_addStore 25 = .ok (.invokespecial 33, 3) := by decide +kernel
theorem dX7_addStore_28 : decode cX7_addStore 28 = .ok (.athrow, 1) := by decide +kernel
theorem dX7_addStore_29 : decode cX7_addStore 29 = .ok (.aload_n 0, 1) := by decide +kernel
theorem dX7_addStore_30 : decode cX7_addStore 30 = .ok (.getfield 12, 3) := by decide +kernel
theorem dX7_addStore_33 : decode cX7_addStore 33 = .ok (.new 36, 3) := by decide +kernel
theorem dX7_addStore_36 : decode cX7_addStore 36 = .ok (.dup, 1) := by decide +kernel
theorem dX7_addStore_37 : decode cX7_addStore 37 = .ok (.iload_n 1, 1) := by decide +kernel
theorem dX7_addStore_38 : decode cX7_addStore 38 = .ok (.invokespecial 38, 3) := by decide +kernel
theorem dX7_addStore_41 : decode cX7_addStore 41 = .ok (.invokevirtual 41, 3) := by decide +kernel
theorem dX7_addStore_44 : decode cX7_addStore 44 = .ok (.pop, 1) := by decide +kernel
theorem dX7_addStore_45 : decode cX7_addStore 45 = .ok (.aload_n 0, 1) := by decide +kernel
theorem dX7_addStore_46 : decode cX7_addStore 46 = .ok (.getfield 12, 3) := by decide +kernel
theorem dX7_addStore_49 : decode cX7_addStore 49 = .ok (.invokevirtual 25, 3) := by decide +kernel
theorem dX7_addStore_52 : decode cX7_addStore 52 = .ok (.iconst 1, 1) := by decide +kernel
theorem dX7_addStore_53 : decode cX7_addStore 53 = .ok (.isub, 1) := by decide +kernel
theorem dX7_addStore_54 : decode cX7_addStore 54 = .ok (.ireturn, 1) := by decide +kernel
theorem dX7_setSize_0 : decode cX7_setSize 0 = .ok (.aload_n 0, 1) := by decide +kernel
theorem dX7_setSize_1 : decode cX7_setSize 1 = .ok (.iload_n 1, 1) := by decide +kernel
theorem dX7_setSize_2 : decode cX7_setSize 2 = .ok (.invokevirtual 45, 3) := by decide +kernel
theorem dX7_setSize_5 : decode cX7_setSize 5 = .ok (.astore_n 3, 1) := by decide +kernel
theorem dX7_setSize_6 : decode cX7_setSize 6 = .ok (.iload_n 2, 1) := by decide +kernel
theorem dX7_setSize_7 : decode cX7_setSize 7 = .ok (.iconst 1, 1) := by decide +kernel
theorem dX7_setSize_8 : decode cX7_setSize 8 = .ok (.ldc 20, 2) := by decide +kernel
theorem dX7_setSize_10 : decode cX7_setSize 10 = .ok (.invokestatic 21, 3) := by decide +kernel
theorem dX7_setSize_13 : decode cX7_setSize 13 = .ok (.aload_n 3, 1) := by decide +kernel
theorem dX7_setSize_14 : decode cX7_setSize 14 = .ok (.getfield 49, 3) := by decide +kernel
theorem dX7_setSize_17 : decode cX7_setSize 17 = .ok (.istore 4, 2) := by decide +kernel
theorem dX7_setSize_19 : decode cX7_setSize 19 = .ok (.aload_n 3, 1) := by decide +kernel
theorem dX7_setSize_20 : decode cX7_setSize 20 = .ok (.iload_n 2, 1) := by decide +kernel
theorem dX7_setSize_21 : decode cX7_setSize 21 = .ok (.putfield 49, 3) := by decide +kernel
theorem dX7_setSize_24 : decode cX7_setSize 24 = .ok (.iload 4, 2) := by decide +kernel
theorem dX7_setSize_26 : decode cX7_setSize 26 = .ok (.ireturn, 1) := by decide +kernel
theorem dX7_sample_0 : decode cX7_sample 0 = .ok (.aload_n 0, 1) := by decide +kernel
theorem dX7_sample_1 : decode cX7_sample 1 = .ok (.iload_n 1, 1) := by decide +kernel
theorem dX7_sample_2 : decode cX7_sample 2 = .ok (.invokevirtual 45, 3) := by decide +kernel
theorem dX7_sample_5 : decode cX7_sample 5 = .ok (.astore_n 3, 1) := by decide +kernel
theorem dX7_sample_6 : decode cX7_sample 6 = .ok (.iload_n 2, 1) := by decide +kernel
theorem dX7_sample_7 : decode cX7_sample 7 = .ok (.iconst 0, 1) := by decide +kernel
theorem dX7_sample_8 : decode cX7_sample 8 = .ok (.ldc 20, 2) := by decide +kernel
theorem dX7_sample_10 : decode cX7_sample 10 = .ok (.invokestatic 21, 3) := by decide +kernel
theorem dX7_sample_13 : decode cX7_sample 13 = .ok (.aload_n 3, 1) := by decide +kernel
theorem dX7_sample_14 : decode cX7_sample 14 = .ok (.aload_n 0, 1) := by decide +kernel
theorem dX7_sample_15 : decode cX7_sample 15 = .ok (.getfield 16, 3) := by decide +kernel
theorem dX7_sample_18 : decode cX7_sample 18 = .ok (.iload_n 2, 1) := by decide +kernel
theorem dX7_sample_19 : decode cX7_sample 19 = .ok (.invokevirtual 51, 3) := by decide +kernel
theorem dX7_sample_22 : decode cX7_sample 22 = .ok (.aload_n 3, 1) := by decide +kernel
theorem dX7_sample_23 : decode cX7_sample 23 = .ok (.getfield 55, 3) := by decide +kernel
theorem dX7_sample_26 : decode cX7_sample 26 = .ok (.invokevirtual 59, 3) := by decide +kernel
theorem dX7_sample_29 : decode cX7_sample 29 = .ok (.ireturn, 1) := by decide +kernel
theorem dX7_clean_0 : decode cX7_clean 0 = .ok (.aload_n 0, 1) := by decide +kernel
theorem dX7_clean_1 : decode cX7_clean 1 = .ok (.iload_n 1, 1) := by decide +kernel
theorem dX7_clean_2 : decode cX7_clean 2 = .ok (.invokevirtual 45, 3) := by decide +kernel
theorem dX7_clean_5 : decode cX7_clean 5 = .ok (.astore_n 3, 1) := by decide +kernel
theorem dX7_clean_6 : decode cX7_clean 6 = .ok (.iload_n 2, 1) := by decide +kernel
theorem dX7_clean_7 : decode cX7_clean 7 = .ok (.iconst 1, 1) := by decide +kernel
theorem dX7_clean_8 : decode cX7_clean 8 = .ok (.ldc 64, 2) := by decide +kernel
theorem dX7_clean_10 : decode cX7_clean 10 = .ok (.invokestatic 21, 3) := by decide +kernel
theorem dX7_clean_13 : decode cX7_clean 13 = .ok (.aload_n 3, 1) := by decide +kernel
theorem dX7_clean_14 : decode cX7_clean 14 = .ok (.getfield 65, 3) := by decide +kernel
theorem dX7_clean_17 : decode cX7_clean 17 = .ok (.invokevirtual 69, 3) := by decide +kernel
theorem dX7_clean_20 : decode cX7_clean 20 = .ok (.bipush 60, 2) := by decide +kernel
theorem dX7_clean_22 : decode cX7_clean 22 = .ok (.if_icmp .lt 13, 3) := by decide +kernel
theorem dX7_clean_25 : decode cX7_clean 25 = .ok (.new 29, 3) := by decide +kernel
theorem dX7_clean_28 : decode cX7_clean 28 = .ok (.dup, 1) := by decide +kernel
theorem dX7_clean_29 : decode cX7_clean 29 = .ok (.ldc 72, 2) := by decide +kernel
theorem dX7_clean_31 : decode cX7_clean 31 = .ok (.invokespecial 33, 3) := by decide +kernel
theorem dX7_clean_34 : decode cX7_clean 34 = .ok (.athrow, 1) := by decide +kernel
theorem dX7_clean_35 : decode cX7_clean 35 = .ok (.aload_n 3, 1) := by decide +kernel
theorem dX7_clean_36 : decode cX7_clean 36 = .ok (.aload_n 0, 1) := by decide +kernel
theorem dX7_clean_37 : decode cX7_clean 37 = .ok (.getfield 16, 3) := by decide +kernel
theorem dX7_clean_40 : decode cX7_clean 40 = .ok (.iload_n 2, 1) := by decide +kernel
theorem dX7_clean_41 : decode cX7_clean 41 = .ok (.invokevirtual 74, 3) := by decide +kernel
theorem dX7_clean_44 : decode cX7_clean 44 = .ok (.aload_n 3, 1) := by decide +kernel
theorem dX7_clean_45 : decode cX7_clean 45 = .ok (.getfield 65, 3) := by decide +kernel
theorem dX7_clean_48 : decode cX7_clean 48 = .ok (.invokevirtual 69, 3) := by decide +kernel
theorem dX7_clean_51 : decode cX7_clean 51 = .ok (.ireturn, 1) := by decide +kernel
theorem dX7_setRule_0 : decode cX7_setRule 0 = .ok (.aload_n 0, 1) := by decide +kernel
theorem dX7_setRule_1 : decode cX7_setRule 1 = .ok (.iload_n 1, 1) := by decide +kernel
theorem dX7_setRule_2 : decode cX7_setRule 2 = .ok (.invokevirtual 45, 3) := by decide +kernel
theorem dX7_setRule_5 : decode cX7_setRule 5 = .ok (.astore 4, 2) := by decide +kernel
theorem dX7_setRule_7 : decode cX7_setRule 7 = .ok (.iload_n 2, 1) := by decide +kernel
theorem dX7_setRule_8 : decode cX7_setRule 8 = .ok (.iconst 0, 1) := by decide +kernel
theorem dX7_setRule_9 : decode cX7_setRule 9 = .ok (.sipush 3000, 3) := by decide +kernel
theorem dX7_setRule_12 : decode cX7_setRule 12 = .ok (.invokestatic 21, 3) := by decide +kernel
theorem dX7_setRule_15 : decode cX7_setRule 15 = .ok (.iload_n 3, 1) := by decide +kernel
theorem dX7_setRule_16 : decode cX7_setRule 16 = .ok (.iconst 0, 1) := by decide +kernel
theorem dX7_setRule_17 : decode cX7_setRule 17 = .ok (.bipush 100, 2) := by decide +kernel
theorem dX7_setRule_19 : decode cX7_setRule 19 = .ok (.invokestatic 21, 3) := by decide +kernel
theorem dX7_setRule_22 : decode cX7_setRule 22 = .ok (.aload 4, 2) := by decide +kernel
theorem dX7_setRule_24 : decode cX7_setRule 24 = .ok (.getfield 77, 3) := by decide +kernel
theorem dX7_setRule_27 : decode cX7_setRule 27 = .ok (.iload_n 2, 1) := by decide +kernel
theorem dX7_setRule_28 : decode cX7_setRule 28 = .ok (.iload_n 3, 1) := by decide +kernel
theorem dX7_setRule_29 : decode cX7_setRule 29 = .ok (.invokevirtual 81, 3) := by decide +kernel
theorem dX7_setRule_32 : decode cX7_setRule 32 = .ok (.return_, 1) := by decide +kernel
theorem dX7_pass_0 : decode cX7_pass 0 = .ok (.iload_n 1, 1) := by decide +kernel
theorem dX7_pass_1 : decode cX7_pass 1 = .ok (.iconst 1, 1) := by decide +kernel
theorem dX7_pass_2 : decode cX7_pass 2 = .ok (.bipush 100, 2) := by decide +kernel
theorem dX7_pass_4 : decode cX7_pass 4 = .ok (.invokestatic 21, 3) := by decide +kernel
theorem dX7_pass_7 : decode cX7_pass 7 = .ok (.aload_n 0, 1) := by decide +kernel
theorem dX7_pass_8 : decode cX7_pass 8 = .ok (.getfield 16, 3) := by decide +kernel
theorem dX7_pass_11 : decode cX7_pass 11 = .ok (.iload_n 1, 1) := by decide +kernel
theorem dX7_pass_12 : decode cX7_pass 12 = .ok (.iadd, 1) := by decide +kernel
theorem dX7_pass_13 : decode cX7_pass 13 = .ok (.sipush 2000, 3) := by decide +kernel
theorem dX7_pass_16 : decode cX7_pass 16 = .ok (.if_icmp .le 13, 3) := by decide +kernel
theorem dX7_pass_19 : decode cX7_pass 19 = .ok (.new 29, 3) := by decide +kernel
theorem dX7_pass_22 : decode cX7_pass 22 = .ok (.dup, 1) := by decide +kernel
theorem dX7_pass_23 : decode cX7_pass 23 = .ok (.ldc 86, 2) := by decide +kernel
theorem dX7_pass_25 : decode cX7_pass 25 = .ok (.invokespecial 33, 3) := by decide +kernel
theorem dX7_pass_28 : decode cX7_pass 28 = .ok (.athrow, 1) := by decide +kernel
theorem dX7_pass_29 : decode cX7_pass 29 = .ok (.iconst 0, 1) := by decide +kernel
theorem dX7_pass_30 : decode cX7_pass 30 = .ok (.istore_n 2, 1) := by decide +kernel
theorem dX7_pass_31 : decode cX7_pass 31 = .ok (.iconst 0, 1) := by decide +kernel
theorem dX7_pass_32 : decode cX7_pass 32 = .ok (.istore_n 3, 1) := by decide +kernel
theorem dX7_pass_33 : decode cX7_pass 33 = .ok (.iload_n 3, 1) := by decide +kernel
theorem dX7_pass_34 : decode cX7_pass 34 = .ok (.aload_n 0, 1) := by decide +kernel
theorem dX7_pass_35 : decode cX7_pass 35 = .ok (.getfield 12, 3) := by decide +kernel
theorem dX7_pass_38 : decode cX7_pass 38 = .ok (.invokevirtual 25, 3) := by decide +kernel
theorem dX7_pass_41 : decode cX7_pass 41 = .ok (.if_icmp .ge 31, 3) := by decide +kernel
theorem dX7_pass_44 : decode cX7_pass 44 = .ok (.iload_n 2, 1) := by decide +kernel
theorem dX7_pass_45 : decode cX7_pass 45 = .ok (.aload_n 0, 1) := by decide +kernel
theorem dX7_pass_46 : decode cX7_pass 46 = .ok (.getfield 12, 3) := by decide +kernel
theorem dX7_pass_49 : decode cX7_pass 49 = .ok (.iload_n 3, 1) := by decide +kernel
theorem dX7_pass_50 : decode cX7_pass 50 = .ok (.invokevirtual 88, 3) := by decide +kernel
theorem dX7_pass_53 : decode cX7_pass 53 = .ok (.checkcast 36, 3) := by decide +kernel
theorem dX7_pass_56 : decode cX7_pass 56 = .ok (.aload_n 0, 1) := by decide +kernel
theorem dX7_pass_57 : decode cX7_pass 57 = .ok (.getfield 16, 3) := by decide +kernel
theorem dX7_pass_60 : decode cX7_pass 60 = .ok (.iload_n 1, 1) := by decide +kernel
theorem dX7_pass_61 : decode cX7_pass 61 = .ok (.invokevirtual 92, 3) := by decide +kernel
theorem dX7_pass_64 : decode cX7_pass 64 = .ok (.iadd, 1) := by decide +kernel
theorem dX7_pass_65 : decode cX7_pass 65 = .ok (.istore_n 2, 1) := by decide +kernel
theorem dX7_pass_66 : decode cX7_pass 66 = .ok (.iinc 3 1, 3) := by decide +kernel
theorem dX7_pass_69 : decode cX7_pass 69 = .ok (.goto (-36), 3) := by decide +kernel
theorem dX7_pass_72 : decode cX7_pass 72 = .ok (.aload_n 0, 1) := by decide +kernel
theorem dX7_pass_73 : decode cX7_pass 73 = .ok (.dup, 1) := by decide +kernel
theorem dX7_pass_74 : decode cX7_pass 74 = .ok (.getfield 16, 3) := by decide +kernel
theorem dX7_pass_77 : decode cX7_pass 77 = .ok (.iload_n 1, 1) := by decide +kernel
theorem dX7_pass_78 : decode cX7_pass 78 = .ok (.iadd, 1) := by decide +kernel
theorem dX7_pass_79 : decode cX7_pass 79 = .ok (.putfield 16, 3) := by decide +kernel
theorem dX7_pass_82 : decode cX7_pass 82 = .ok (.iload_n 2, 1) := by decide +kernel
theorem dX7_pass_83 : decode cX7_pass 83 = .ok (.ireturn, 1) := by decide +kernel
theorem dX7_today_0 : decode cX7_today 0 = .ok (.aload_n 0, 1) := by decide +kernel
theorem dX7_today_1 : decode cX7_today 1 = .ok (.getfield 16, 3) := by decide +kernel
theorem dX7_today_4 : decode cX7_today 4 = .ok (.ireturn, 1) := by decide +kernel
theorem dX7_samples_0 : decode cX7_samples 0 = .ok (.aload_n 0, 1) := by decide +kernel
theorem dX7_samples_1 : decode cX7_samples 1 = .ok (.iload_n 1, 1) := by decide +kernel
theorem dX7_samples_2 : decode cX7_samples 2 = .ok (.invokevirtual 45, 3) := by decide +kernel
theorem dX7_samples_5 : decode cX7_samples 5 = .ok (.getfield 55, 3) := by decide +kernel
theorem dX7_samples_8 : decode cX7_samples 8 = .ok (.invokevirtual 59, 3) := by decide +kernel
theorem dX7_samples_11 : decode cX7_samples 11 = .ok (.ireturn, 1) := by decide +kernel
theorem dX7_slopeNumerator_0 : decode cX7_slopeNumerator 0 = .ok (.aload_n 0, 1) := by decide +kernel
theorem dX7_slopeNumerator_1 : decode cX7_slopeNumerator 1 = .ok (.iload_n 1, 1) := by decide +kernel
theorem dX7_slopeNumerator_2 : decode cX7_slopeNumerator 2 = .ok (.invokevirtual 96, 3) := by decide +kernel
theorem dX7_slopeNumerator_5 : decode cX7_slopeNumerator 5 = .ok (.invokevirtual 100, 3) := by decide +kernel
theorem dX7_slopeNumerator_8 : decode cX7_slopeNumerator 8 = .ok (.ireturn, 1) := by decide +kernel
theorem dX7_slopeDenominator_0 : decode cX7_slopeDenominator 0 = .ok (.aload_n 0, 1) := by decide +kernel
theorem dX7_slopeDenominator_1 : decode cX7_slopeDenominator 1 = .ok (.iload_n 1, 1) := by decide +kernel
theorem dX7_slopeDenominator_2 : decode cX7_slopeDenominator 2 = .ok (.invokevirtual 96, 3) := by decide +kernel
theorem dX7_slopeDenominator_5 : decode cX7_slopeDenominator 5 = .ok (.invokevirtual 105, 3) := by decide +kernel
theorem dX7_slopeDenominator_8 : decode cX7_slopeDenominator 8 = .ok (.ireturn, 1) := by decide +kernel
theorem dX7_usual_0 : decode cX7_usual 0 = .ok (.aload_n 0, 1) := by decide +kernel
theorem dX7_usual_1 : decode cX7_usual 1 = .ok (.iload_n 1, 1) := by decide +kernel
theorem dX7_usual_2 : decode cX7_usual 2 = .ok (.invokevirtual 45, 3) := by decide +kernel
theorem dX7_usual_5 : decode cX7_usual 5 = .ok (.getfield 65, 3) := by decide +kernel
theorem dX7_usual_8 : decode cX7_usual 8 = .ok (.invokevirtual 108, 3) := by decide +kernel
theorem dX7_usual_11 : decode cX7_usual 11 = .ok (.ireturn, 1) := by decide +kernel
theorem dX7_forecast_0 : decode cX7_forecast 0 = .ok (.aload_n 0, 1) := by decide +kernel
theorem dX7_forecast_1 : decode cX7_forecast 1 = .ok (.iload_n 1, 1) := by decide +kernel
theorem dX7_forecast_2 : decode cX7_forecast 2 = .ok (.invokevirtual 45, 3) := by decide +kernel
theorem dX7_forecast_5 : decode cX7_forecast 5 = .ok (.astore_n 3, 1) := by decide +kernel
theorem dX7_forecast_6 : decode cX7_forecast 6 = .ok (.aload_n 0, 1) := by decide +kernel
theorem dX7_forecast_7 : decode cX7_forecast 7 = .ok (.iload_n 1, 1) := by decide +kernel
theorem dX7_forecast_8 : decode cX7_forecast 8 = .ok (.invokevirtual 96, 3) := by decide +kernel
theorem dX7_forecast_11 : decode cX7_forecast 11 = .ok (.astore 4, 2) := by decide +kernel
theorem dX7_forecast_13 : decode cX7_forecast 13 = .ok (.iload_n 2, 1) := by decide +kernel
theorem dX7_forecast_14 : decode cX7_forecast 14 = .ok (.aload 4, 2) := by decide +kernel
theorem dX7_forecast_16 : decode cX7_forecast 16 = .ok (.getfield 111, 3) := by decide +kernel
theorem dX7_forecast_19 : decode cX7_forecast 19 = .ok (.iconst 1, 1) := by decide +kernel
theorem dX7_forecast_20 : decode cX7_forecast 20 = .ok (.iadd, 1) := by decide +kernel
theorem dX7_forecast_21 : decode cX7_forecast 21 = .ok (.aload 4, 2) := by decide +kernel
theorem dX7_forecast_23 : decode cX7_forecast 23 = .ok (.getfield 111, 3) := by decide +kernel
theorem dX7_forecast_26 : decode cX7_forecast 26 = .ok (.sipush 1000, 3) := by decide +kernel
theorem dX7_forecast_29 : decode cX7_forecast 29 = .ok (.iadd, 1) := by decide +kernel
theorem dX7_forecast_30 : decode cX7_forecast 30 = .ok (.invokestatic 21, 3) := by decide +kernel
theorem dX7_forecast_33 : decode cX7_forecast 33 = .ok (.aload_n 3, 1) := by decide +kernel
theorem dX7_forecast_34 : decode cX7_forecast 34 = .ok (.iload_n 2, 1) := by decide +kernel
theorem dX7_forecast_35 : decode cX7_forecast 35 = .ok (.invokevirtual 114, 3) := by decide +kernel
theorem dX7_forecast_38 : decode cX7_forecast 38 = .ok (.ireturn, 1) := by decide +kernel
theorem dX7_full_0 : decode cX7_full 0 = .ok (.aload_n 0, 1) := by decide +kernel
theorem dX7_full_1 : decode cX7_full 1 = .ok (.iload_n 1, 1) := by decide +kernel
theorem dX7_full_2 : decode cX7_full 2 = .ok (.invokevirtual 45, 3) := by decide +kernel
theorem dX7_full_5 : decode cX7_full 5 = .ok (.invokevirtual 118, 3) := by decide +kernel
theorem dX7_full_8 : decode cX7_full 8 = .ok (.invokestatic 121, 3) := by decide +kernel
theorem dX7_full_11 : decode cX7_full 11 = .ok (.ireturn, 1) := by decide +kernel
theorem dX7_early_0 : decode cX7_early 0 = .ok (.aload_n 0, 1) := by decide +kernel
theorem dX7_early_1 : decode cX7_early 1 = .ok (.iload_n 1, 1) := by decide +kernel
theorem dX7_early_2 : decode cX7_early 2 = .ok (.invokevirtual 45, 3) := by decide +kernel
theorem dX7_early_5 : decode cX7_early 5 = .ok (.invokevirtual 124, 3) := by decide +kernel
theorem dX7_early_8 : decode cX7_early 8 = .ok (.invokestatic 121, 3) := by decide +kernel
theorem dX7_early_11 : decode cX7_early 11 = .ok (.ireturn, 1) := by decide +kernel
theorem dX7_late_0 : decode cX7_late 0 = .ok (.aload_n 0, 1) := by decide +kernel
theorem dX7_late_1 : decode cX7_late 1 = .ok (.iload_n 1, 1) := by decide +kernel
theorem dX7_late_2 : decode cX7_late 2 = .ok (.invokevirtual 45, 3) := by decide +kernel
theorem dX7_late_5 : decode cX7_late 5 = .ok (.invokevirtual 127, 3) := by decide +kernel
theorem dX7_late_8 : decode cX7_late 8 = .ok (.invokestatic 121, 3) := by decide +kernel
theorem dX7_late_11 : decode cX7_late 11 = .ok (.ireturn, 1) := by decide +kernel
theorem dX7_warns_0 : decode cX7_warns 0 = .ok (.aload_n 0, 1) := by decide +kernel
theorem dX7_warns_1 : decode cX7_warns 1 = .ok (.iload_n 1, 1) := by decide +kernel
theorem dX7_warns_2 : decode cX7_warns 2 = .ok (.invokevirtual 45, 3) := by decide +kernel
theorem dX7_warns_5 : decode cX7_warns 5 = .ok (.getfield 130, 3) := by decide +kernel
theorem dX7_warns_8 : decode cX7_warns 8 = .ok (.getfield 134, 3) := by decide +kernel
theorem dX7_warns_11 : decode cX7_warns 11 = .ok (.ireturn, 1) := by decide +kernel
theorem dX7_poolFull_0 : decode cX7_poolFull 0 = .ok (.iload_n 1, 1) := by decide +kernel
theorem dX7_poolFull_1 : decode cX7_poolFull 1 = .ok (.ifCond .eq 15, 3) := by decide +kernel
theorem dX7_poolFull_4 : decode cX7_poolFull 4 = .ok (.iload_n 1, 1) := by decide +kernel
theorem dX7_poolFull_5 : decode cX7_poolFull 5 = .ok (.aload_n 0, 1) := by decide +kernel
theorem dX7_poolFull_6 : decode cX7_poolFull 6 = .ok (.getfield 12, 3) := by decide +kernel
theorem dX7_poolFull_9 : decode cX7_poolFull 9 = .ok (.invokevirtual 25, 3) := by decide +kernel
theorem dX7_poolFull_12 : decode cX7_poolFull 12 = .ok (.iushr, 1) := by decide +kernel
theorem dX7_poolFull_13 : decode cX7_poolFull 13 = .ok (.ifCond .eq 13, 3) := by decide +kernel
theorem dX7_poolFull_16 : decode cX7_poolFull 16 = .ok (.new 140, 3) := by decide +kernel
theorem dX7_poolFull_19 : decode cX7_poolFull 19 = .ok (.dup, 1) := by decide +kernel
theorem dX7_poolFull_20 : decode cX7_poolFull 20 = .ok (.ldc 142, 2) := by decide +kernel
theorem dX7_poolFull_22 : decode cX7_poolFull 22 = .ok (.invokespecial 144, 3) := by decide +kernel
theorem dX7_poolFull_25 : decode cX7_poolFull 25 = .ok (.athrow, 1) := by decide +kernel
theorem dX7_poolFull_26 : decode cX7_poolFull 26 = .ok (.aload_n 0, 1) := by decide +kernel
theorem dX7_poolFull_27 : decode cX7_poolFull 27 = .ok (.iload_n 1, 1) := by decide +kernel
theorem dX7_poolFull_28 : decode cX7_poolFull 28 = .ok (.invokevirtual 145, 3) := by decide +kernel
theorem dX7_poolFull_31 : decode cX7_poolFull 31 = .ok (.ifCond .ne 5, 3) := by decide +kernel
theorem dX7_poolFull_34 : decode cX7_poolFull 34 = .ok (.iconst (-1), 1) := by decide +kernel
theorem dX7_poolFull_35 : decode cX7_poolFull 35 = .ok (.ireturn, 1) := by decide +kernel
theorem dX7_poolFull_36 : decode cX7_poolFull 36 = .ok (.aload_n 0, 1) := by decide +kernel
theorem dX7_poolFull_37 : decode cX7_poolFull 37 = .ok (.iload_n 1, 1) := by decide +kernel
theorem dX7_poolFull_38 : decode cX7_poolFull 38 = .ok (.invokevirtual 149, 3) := by decide +kernel
theorem dX7_poolFull_41 : decode cX7_poolFull 41 = .ok (.lstore_n 2, 1) := by decide +kernel
theorem dX7_poolFull_42 : decode cX7_poolFull 42 = .ok (.iconst 1, 1) := by decide +kernel
theorem dX7_poolFull_43 : decode cX7_poolFull 43 = .ok (.istore 4, 2) := by decide +kernel
theorem dX7_poolFull_45 : decode cX7_poolFull 45 = .ok (.iload 4, 2) := by decide +kernel
theorem dX7_poolFull_47 : decode cX7_poolFull 47 = .ok (.sipush 1000, 3) := by decide +kernel
theorem dX7_poolFull_50 : decode cX7_poolFull 50 = .ok (.if_icmp .gt 34, 3) := by decide +kernel
theorem dX7_poolFull_53 : decode cX7_poolFull 53 = .ok (.aload_n 0, 1) := by decide +kernel
theorem dX7_poolFull_54 : decode cX7_poolFull 54 = .ok (.iload_n 1, 1) := by decide +kernel
theorem dX7_poolFull_55 : decode cX7_poolFull 55 = .ok (.aload_n 0, 1) := by decide +kernel
theorem dX7_poolFull_56 : decode cX7_poolFull 56 = .ok (.getfield 16, 3) := by decide +kernel
theorem dX7_poolFull_59 : decode cX7_poolFull 59 = .ok (.iload 4, 2) := by decide +kernel
theorem dX7_poolFull_61 : decode cX7_poolFull 61 = .ok (.iadd, 1) := by decide +kernel
theorem dX7_poolFull_62 : decode cX7_poolFull 62 = .ok (.invokevirtual 153, 3) := by decide +kernel
theorem dX7_poolFull_65 : decode cX7_poolFull 65 = .ok (.lload_n 2, 1) := by decide +kernel
theorem dX7_poolFull_66 : decode cX7_poolFull 66 = .ok (.lcmp, 1) := by decide +kernel
theorem dX7_poolFull_67 : decode cX7_poolFull 67 = .ok (.ifCond .lt 11, 3) := by decide +kernel
theorem dX7_poolFull_70 : decode cX7_poolFull 70 = .ok (.aload_n 0, 1) := by decide +kernel
theorem dX7_poolFull_71 : decode cX7_poolFull 71 = .ok (.getfield 16, 3) := by decide +kernel
theorem dX7_poolFull_74 : decode cX7_poolFull 74 = .ok (.iload 4, 2) := by decide +kernel
theorem dX7_poolFull_76 : decode cX7_poolFull 76 = .ok (.iadd, 1) := by decide +kernel
theorem dX7_poolFull_77 : decode cX7_poolFull 77 = .ok (.ireturn, 1) := by decide +kernel
theorem dX7_poolFull_78 : decode cX7_poolFull 78 = .ok (.iinc 4 1, 3) := by decide +kernel
theorem dX7_poolFull_81 : decode cX7_poolFull 81 = .ok (.goto (-36), 3) := by decide +kernel
theorem dX7_poolFull_84 : decode cX7_poolFull 84 = .ok (.iconst (-1), 1) := by decide +kernel
theorem dX7_poolFull_85 : decode cX7_poolFull 85 = .ok (.ireturn, 1) := by decide +kernel
theorem dX7_demandRange_0 : decode cX7_demandRange 0 = .ok (.iload_n 0, 1) := by decide +kernel
theorem dX7_demandRange_1 : decode cX7_demandRange 1 = .ok (.iload_n 1, 1) := by decide +kernel
theorem dX7_demandRange_2 : decode cX7_demandRange 2 = .ok (.if_icmp .lt 8, 3) := by decide +kernel
theorem dX7_demandRange_5 : decode cX7_demandRange 5 = .ok (.iload_n 0, 1) := by decide +kernel
theorem dX7_demandRange_6 : decode cX7_demandRange 6 = .ok (.iload_n 2, 1) := by decide +kernel
theorem dX7_demandRange_7 : decode cX7_demandRange 7 = .ok (.if_icmp .le 13, 3) := by decide +kernel
theorem dX7_demandRange_10 : decode cX7_demandRange 10 = .ok (.new 140, 3) := by decide +kernel
theorem dX7_demandRange_13 : decode cX7_demandRange 13 = .ok (.dup, 1) := by decide +kernel
theorem dX7_demandRange_14 : decode cX7_demandRange 14 = .ok (.ldc 157, 2) := by decide +kernel
theorem dX7_demandRange_16 : decode cX7_demandRange 16 = .ok (.invokespecial 144, 3) := by decide +kernel
theorem dX7_demandRange_19 : decode cX7_demandRange 19 = .ok (.athrow, 1) := by decide +kernel
theorem dX7_demandRange_20 : decode cX7_demandRange 20 = .ok (.return_, 1) := by decide +kernel
theorem dX7_storeAt_0 : decode cX7_storeAt 0 = .ok (.iload_n 1, 1) := by decide +kernel
theorem dX7_storeAt_1 : decode cX7_storeAt 1 = .ok (.ifCond .lt 14, 3) := by decide +kernel
theorem dX7_storeAt_4 : decode cX7_storeAt 4 = .ok (.iload_n 1, 1) := by decide +kernel
theorem dX7_storeAt_5 : decode cX7_storeAt 5 = .ok (.aload_n 0, 1) := by decide +kernel
theorem dX7_storeAt_6 : decode cX7_storeAt 6 = .ok (.getfield 12, 3) := by decide +kernel
theorem dX7_storeAt_9 : decode cX7_storeAt 9 = .ok (.invokevirtual 25, 3) := by decide +kernel
theorem dX7_storeAt_12 : decode cX7_storeAt 12 = .ok (.if_icmp .lt 13, 3) := by decide +kernel
theorem dX7_storeAt_15 : decode cX7_storeAt 15 = .ok (.new 159, 3) := by decide +kernel
theorem dX7_storeAt_18 : decode cX7_storeAt 18 = .ok (.dup, 1) := by decide +kernel
theorem dX7_storeAt_19 : decode cX7_storeAt 19 = .ok (.ldc 161, 2) := by decide +kernel
theorem dX7_storeAt_21 : decode cX7_storeAt 21 = .ok (.invokespecial 163, 3) := by decide +kernel
theorem dX7_storeAt_24 : decode cX7_storeAt 24 = .ok (.athrow, 1) := by decide +kernel
theorem dX7_storeAt_25 : decode cX7_storeAt 25 = .ok (.aload_n 0, 1) := by decide +kernel
theorem dX7_storeAt_26 : decode cX7_storeAt 26 = .ok (.getfield 12, 3) := by decide +kernel
theorem dX7_storeAt_29 : decode cX7_storeAt 29 = .ok (.iload_n 1, 1) := by decide +kernel
theorem dX7_storeAt_30 : decode cX7_storeAt 30 = .ok (.invokevirtual 88, 3) := by decide +kernel
theorem dX7_storeAt_33 : decode cX7_storeAt 33 = .ok (.checkcast 36, 3) := by decide +kernel
theorem dX7_storeAt_36 : decode cX7_storeAt 36 = .ok (.areturn, 1) := by decide +kernel
theorem dX7_slopeOf_0 : decode cX7_slopeOf 0 = .ok (.aload_n 0, 1) := by decide +kernel
theorem dX7_slopeOf_1 : decode cX7_slopeOf 1 = .ok (.iload_n 1, 1) := by decide +kernel
theorem dX7_slopeOf_2 : decode cX7_slopeOf 2 = .ok (.invokevirtual 45, 3) := by decide +kernel
theorem dX7_slopeOf_5 : decode cX7_slopeOf 5 = .ok (.astore_n 2, 1) := by decide +kernel
theorem dX7_slopeOf_6 : decode cX7_slopeOf 6 = .ok (.aload_n 2, 1) := by decide +kernel
theorem dX7_slopeOf_7 : decode cX7_slopeOf 7 = .ok (.invokevirtual 164, 3) := by decide +kernel
theorem dX7_slopeOf_10 : decode cX7_slopeOf 10 = .ok (.ifCond .ne 13, 3) := by decide +kernel
theorem dX7_slopeOf_13 : decode cX7_slopeOf 13 = .ok (.new 29, 3) := by decide +kernel
theorem dX7_slopeOf_16 : decode cX7_slopeOf 16 = .ok (.dup, 1) := by decide +kernel
theorem dX7_slopeOf_17 : decode cX7_slopeOf 17 = .ok (.ldc 168, 2) := by decide +kernel
theorem dX7_slopeOf_19 : decode cX7_slopeOf 19 = .ok (.invokespecial 33, 3) := by decide +kernel
theorem dX7_slopeOf_22 : decode cX7_slopeOf 22 = .ok (.athrow, 1) := by decide +kernel
theorem dX7_slopeOf_23 : decode cX7_slopeOf 23 = .ok (.aload_n 2, 1) := by decide +kernel
theorem dX7_slopeOf_24 : decode cX7_slopeOf 24 = .ok (.iconst (-1), 1) := by decide +kernel
theorem dX7_slopeOf_25 : decode cX7_slopeOf 25 = .ok (.invokevirtual 170, 3) := by decide +kernel
theorem dX7_slopeOf_28 : decode cX7_slopeOf 28 = .ok (.aload_n 2, 1) := by decide +kernel
theorem dX7_slopeOf_29 : decode cX7_slopeOf 29 = .ok (.getfield 173, 3) := by decide +kernel
theorem dX7_slopeOf_32 : decode cX7_slopeOf 32 = .ok (.areturn, 1) := by decide +kernel
theorem dX7_dayOrNone_0 : decode cX7_dayOrNone 0 = .ok (.iload_n 0, 1) := by decide +kernel
theorem dX7_dayOrNone_1 : decode cX7_dayOrNone 1 = .ok (.ldc 20, 2) := by decide +kernel
theorem dX7_dayOrNone_3 : decode cX7_dayOrNone 3 = .ok (.if_icmp .ne 7, 3) := by decide +kernel
theorem dX7_dayOrNone_6 : decode cX7_dayOrNone 6 = .ok (.iconst (-1), 1) := by decide +kernel
theorem dX7_dayOrNone_7 : decode cX7_dayOrNone 7 = .ok (.goto 4, 3) := by decide +kernel
theorem dX7_dayOrNone_10 : decode cX7_dayOrNone 10 = .ok (.iload_n 0, 1) := by decide +kernel
theorem dX7_dayOrNone_11 : decode cX7_dayOrNone 11 = .ok (.ireturn, 1) := by decide +kernel
theorem dX7_middlePlace_0 : decode cX7_middlePlace 0 = .ok (.iload_n 0, 1) := by decide +kernel
theorem dX7_middlePlace_1 : decode cX7_middlePlace 1 = .ok (.iconst 1, 1) := by decide +kernel
theorem dX7_middlePlace_2 : decode cX7_middlePlace 2 = .ok (.isub, 1) := by decide +kernel
theorem dX7_middlePlace_3 : decode cX7_middlePlace 3 = .ok (.iconst 2, 1) := by decide +kernel
theorem dX7_middlePlace_4 : decode cX7_middlePlace 4 = .ok (.idiv, 1) := by decide +kernel
theorem dX7_middlePlace_5 : decode cX7_middlePlace 5 = .ok (.ireturn, 1) := by decide +kernel
theorem dX7_isInPool_0 : decode cX7_isInPool 0 = .ok (.iload_n 0, 1) := by decide +kernel
theorem dX7_isInPool_1 : decode cX7_isInPool 1 = .ok (.iload_n 1, 1) := by decide +kernel
theorem dX7_isInPool_2 : decode cX7_isInPool 2 = .ok (.iushr, 1) := by decide +kernel
theorem dX7_isInPool_3 : decode cX7_isInPool 3 = .ok (.iconst 1, 1) := by decide +kernel
theorem dX7_isInPool_4 : decode cX7_isInPool 4 = .ok (.iand, 1) := by decide +kernel
theorem dX7_isInPool_5 : decode cX7_isInPool 5 = .ok (.iconst 1, 1) := by decide +kernel
theorem dX7_isInPool_6 : decode cX7_isInPool 6 = .ok (.if_icmp .ne 7, 3) := by decide +kernel
theorem dX7_isInPool_9 : decode cX7_isInPool 9 = .ok (.iconst 1, 1) := by decide +kernel
theorem dX7_isInPool_10 : decode cX7_isInPool 10 = .ok (.goto 4, 3) := by decide +kernel
theorem dX7_isInPool_13 : decode cX7_isInPool 13 = .ok (.iconst 0, 1) := by decide +kernel
theorem dX7_isInPool_14 : decode cX7_isInPool 14 = .ok (.ireturn, 1) := by decide +kernel
theorem dX7_drawPool_0 : decode cX7_drawPool 0 = .ok (.iconst 1, 1) := by decide +kernel
theorem dX7_drawPool_1 : decode cX7_drawPool 1 = .ok (.istore_n 2, 1) := by decide +kernel
theorem dX7_drawPool_2 : decode cX7_drawPool 2 = .ok (.iconst 0, 1) := by decide +kernel
theorem dX7_drawPool_3 : decode cX7_drawPool 3 = .ok (.istore_n 3, 1) := by decide +kernel
theorem dX7_drawPool_4 : decode cX7_drawPool 4 = .ok (.iload_n 3, 1) := by decide +kernel
theorem dX7_drawPool_5 : decode cX7_drawPool 5 = .ok (.aload_n 0, 1) := by decide +kernel
theorem dX7_drawPool_6 : decode cX7_drawPool 6 = .ok (.getfield 12, 3) := by decide +kernel
theorem dX7_drawPool_9 : decode cX7_drawPool 9 = .ok (.invokevirtual 25, 3) := by decide +kernel
theorem dX7_drawPool_12 : decode cX7_drawPool 12 = .ok (.if_icmp .ge 59, 3) := by decide +kernel
theorem dX7_drawPool_15 : decode cX7_drawPool 15 = .ok (.iload_n 1, 1) := by decide +kernel
theorem dX7_drawPool_16 : decode cX7_drawPool 16 = .ok (.iload_n 3, 1) := by decide +kernel
theorem dX7_drawPool_17 : decode cX7_drawPool 17 = .ok (.invokestatic 177, 3) := by decide +kernel
theorem dX7_drawPool_20 : decode cX7_drawPool 20 = .ok (.ifCond .eq 45, 3) := by decide +kernel
theorem dX7_drawPool_23 : decode cX7_drawPool 23 = .ok (.iload_n 2, 1) := by decide +kernel
theorem dX7_drawPool_24 : decode cX7_drawPool 24 = .ok (.ifCond .eq 24, 3) := by decide +kernel
theorem dX7_drawPool_27 : decode cX7_drawPool 27 = .ok (.aload_n 0, 1) := by decide +kernel
theorem dX7_drawPool_28 : decode cX7_drawPool 28 = .ok (.getfield 12, 3) := by decide +kernel
theorem dX7_drawPool_31 : decode cX7_drawPool 31 = .ok (.iload_n 3, 1) := by decide +kernel
theorem dX7_drawPool_32 : decode cX7_drawPool 32 = .ok (.invokevirtual 88, 3) := by decide +kernel
theorem dX7_drawPool_35 : decode cX7_drawPool 35 = .ok (.checkcast 36, 3) := by decide +kernel
theorem dX7_drawPool_38 : decode cX7_drawPool 38 = .ok (.invokevirtual 164, 3) := by decide +kernel
theorem dX7_drawPool_41 : decode cX7_drawPool 41 = .ok (.ifCond .eq 7, 3) := by decide +kernel
theorem dX7_drawPool_44 : decode cX7_drawPool 44 = .ok (.iconst 1, 1) := by decide +kernel
theorem dX7_drawPool_45 : decode cX7_drawPool 45 = .ok (.goto 4, 3) := by decide +kernel
theorem dX7_drawPool_48 : decode cX7_drawPool 48 = .ok (.iconst 0, 1) := by decide +kernel
theorem dX7_drawPool_49 : decode cX7_drawPool 49 = .ok (.istore_n 2, 1) := by decide +kernel
theorem dX7_drawPool_50 : decode cX7_drawPool 50 = .ok (.aload_n 0, 1) := by decide +kernel
theorem dX7_drawPool_51 : decode cX7_drawPool 51 = .ok (.getfield 12, 3) := by decide +kernel
theorem dX7_drawPool_54 : decode cX7_drawPool 54 = .ok (.iload_n 3, 1) := by decide +kernel
theorem dX7_drawPool_55 : decode cX7_drawPool 55 = .ok (.invokevirtual 88, 3) := by decide +kernel
theorem dX7_drawPool_58 : decode cX7_drawPool 58 = .ok (.checkcast 36, 3) := by decide +kernel
theorem dX7_drawPool_61 : decode cX7_drawPool 61 = .ok (.iconst (-1), 1) := by decide +kernel
theorem dX7_drawPool_62 : decode cX7_drawPool 62 = .ok (.invokevirtual 170, 3) := by decide +kernel
theorem dX7_drawPool_65 : decode cX7_drawPool 65 = .ok (.iinc 3 1, 3) := by decide +kernel
theorem dX7_drawPool_68 : decode cX7_drawPool 68 = .ok (.goto (-64), 3) := by decide +kernel
theorem dX7_drawPool_71 : decode cX7_drawPool 71 = .ok (.iload_n 2, 1) := by decide +kernel
theorem dX7_drawPool_72 : decode cX7_drawPool 72 = .ok (.ireturn, 1) := by decide +kernel
theorem dX7_poolSize_0 : decode cX7_poolSize 0 = .ok (.lconst 0, 1) := by decide +kernel
theorem dX7_poolSize_1 : decode cX7_poolSize 1 = .ok (.lstore_n 2, 1) := by decide +kernel
theorem dX7_poolSize_2 : decode cX7_poolSize 2 = .ok (.iconst 0, 1) := by decide +kernel
theorem dX7_poolSize_3 : decode cX7_poolSize 3 = .ok (.istore 4, 2) := by decide +kernel
theorem dX7_poolSize_5 : decode cX7_poolSize 5 = .ok (.iload 4, 2) := by decide +kernel
theorem dX7_poolSize_7 : decode cX7_poolSize 7 = .ok (.aload_n 0, 1) := by decide +kernel
theorem dX7_poolSize_8 : decode cX7_poolSize 8 = .ok (.getfield 12, 3) := by decide +kernel
theorem dX7_poolSize_11 : decode cX7_poolSize 11 = .ok (.invokevirtual 25, 3) := by decide +kernel
theorem dX7_poolSize_14 : decode cX7_poolSize 14 = .ok (.if_icmp .ge 37, 3) := by decide +kernel
theorem dX7_poolSize_17 : decode cX7_poolSize 17 = .ok (.iload_n 1, 1) := by decide +kernel
theorem dX7_poolSize_18 : decode cX7_poolSize 18 = .ok (.iload 4, 2) := by decide +kernel
theorem dX7_poolSize_20 : decode cX7_poolSize 20 = .ok (.invokestatic 177, 3) := by decide +kernel
theorem dX7_poolSize_23 : decode cX7_poolSize 23 = .ok (.ifCond .eq 22, 3) := by decide +kernel
theorem dX7_poolSize_26 : decode cX7_poolSize 26 = .ok (.lload_n 2, 1) := by decide +kernel
theorem dX7_poolSize_27 : decode cX7_poolSize 27 = .ok (.aload_n 0, 1) := by decide +kernel
theorem dX7_poolSize_28 : decode cX7_poolSize 28 = .ok (.getfield 12, 3) := by decide +kernel
theorem dX7_poolSize_31 : decode cX7_poolSize 31 = .ok (.iload 4, 2) := by decide +kernel
theorem dX7_poolSize_33 : decode cX7_poolSize 33 = .ok (.invokevirtual 88, 3) := by decide +kernel
theorem dX7_poolSize_36 : decode cX7_poolSize 36 = .ok (.checkcast 36, 3) := by decide +kernel
theorem dX7_poolSize_39 : decode cX7_poolSize 39 = .ok (.getfield 49, 3) := by decide +kernel
theorem dX7_poolSize_42 : decode cX7_poolSize 42 = .ok (.i2l, 1) := by decide +kernel
theorem dX7_poolSize_43 : decode cX7_poolSize 43 = .ok (.ladd, 1) := by decide +kernel
theorem dX7_poolSize_44 : decode cX7_poolSize 44 = .ok (.lstore_n 2, 1) := by decide +kernel
theorem dX7_poolSize_45 : decode cX7_poolSize 45 = .ok (.iinc 4 1, 3) := by decide +kernel
theorem dX7_poolSize_48 : decode cX7_poolSize 48 = .ok (.goto (-43), 3) := by decide +kernel
theorem dX7_poolSize_51 : decode cX7_poolSize 51 = .ok (.lload_n 2, 1) := by decide +kernel
theorem dX7_poolSize_52 : decode cX7_poolSize 52 = .ok (.lreturn, 1) := by decide +kernel
theorem dX7_poolRoomOn_0 : decode cX7_poolRoomOn 0 = .ok (.lconst 0, 1) := by decide +kernel
theorem dX7_poolRoomOn_1 : decode cX7_poolRoomOn 1 = .ok (.lstore_n 3, 1) := by decide +kernel
theorem dX7_poolRoomOn_2 : decode cX7_poolRoomOn 2 = .ok (.iconst 0, 1) := by decide +kernel
theorem dX7_poolRoomOn_3 : decode cX7_poolRoomOn 3 = .ok (.istore 5, 2) := by decide +kernel
theorem dX7_poolRoomOn_5 : decode cX7_poolRoomOn 5 = .ok (.iload 5, 2) := by decide +kernel
theorem dX7_poolRoomOn_7 : decode cX7_poolRoomOn 7 = .ok (.aload_n 0, 1) := by decide +kernel
theorem dX7_poolRoomOn_8 : decode cX7_poolRoomOn 8 = .ok (.getfield 12, 3) := by decide +kernel
theorem dX7_poolRoomOn_11 : decode cX7_poolRoomOn 11 = .ok (.invokevirtual 25, 3) := by decide +kernel
theorem dX7_poolRoomOn_14 : decode cX7_poolRoomOn 14 = .ok (.if_icmp .ge 38, 3) := by decide +kernel
theorem dX7_poolRoomOn_17 : decode cX7_poolRoomOn 17 = .ok (.iload_n 1, 1) := by decide +kernel
theorem dX7_poolRoomOn_18 : decode cX7_poolRoomOn 18 = .ok (.iload 5, 2) := by decide +kernel
theorem dX7_poolRoomOn_20 : decode cX7_poolRoomOn 20 = .ok (.invokestatic 177, 3) := by decide +kernel
theorem dX7_poolRoomOn_23 : decode cX7_poolRoomOn 23 = .ok (.ifCond .eq 23, 3) := by decide +kernel
theorem dX7_poolRoomOn_26 : decode cX7_poolRoomOn 26 = .ok (.lload_n 3, 1) := by decide +kernel
theorem dX7_poolRoomOn_27 : decode cX7_poolRoomOn 27 = .ok (.aload_n 0, 1) := by decide +kernel
theorem dX7_poolRoomOn_28 : decode cX7_poolRoomOn 28 = .ok (.getfield 12, 3) := by decide +kernel
theorem dX7_poolRoomOn_31 : decode cX7_poolRoomOn 31 = .ok (.iload 5, 2) := by decide +kernel
theorem dX7_poolRoomOn_33 : decode cX7_poolRoomOn 33 = .ok (.invokevirtual 88, 3) := by decide +kernel
theorem dX7_poolRoomOn_36 : decode cX7_poolRoomOn 36 = .ok (.checkcast 36, 3) := by decide +kernel
theorem dX7_poolRoomOn_39 : decode cX7_poolRoomOn 39 = .ok (.iload_n 2, 1) := by decide +kernel
theorem dX7_poolRoomOn_40 : decode cX7_poolRoomOn 40 = .ok (.invokevirtual 114, 3) := by decide +kernel
theorem dX7_poolRoomOn_43 : decode cX7_poolRoomOn 43 = .ok (.i2l, 1) := by decide +kernel
theorem dX7_poolRoomOn_44 : decode cX7_poolRoomOn 44 = .ok (.ladd, 1) := by decide +kernel
theorem dX7_poolRoomOn_45 : decode cX7_poolRoomOn 45 = .ok (.lstore_n 3, 1) := by decide +kernel
theorem dX7_poolRoomOn_46 : decode cX7_poolRoomOn 46 = .ok (.iinc 5 1, 3) := by decide +kernel
theorem dX7_poolRoomOn_49 : decode cX7_poolRoomOn 49 = .ok (.goto (-44), 3) := by decide +kernel
theorem dX7_poolRoomOn_52 : decode cX7_poolRoomOn 52 = .ok (.lload_n 3, 1) := by decide +kernel
theorem dX7_poolRoomOn_53 : decode cX7_poolRoomOn 53 = .ok (.lreturn, 1) := by decide +kernel
theorem dJ9_floorDiv_f86c9_0 : decode cJ9_floorDiv_f86c9 0 = .ok (.lload_n 0, 1) := by decide +kernel
theorem dJ9_floorDiv_f86c9_1 : decode cJ9_floorDiv_f86c9 1 = .ok (.lload_n 2, 1) := by decide +kernel
theorem dJ9_floorDiv_f86c9_2 : decode cJ9_floorDiv_f86c9 2 = .ok (.ldiv, 1) := by decide +kernel
theorem dJ9_floorDiv_f86c9_3 : decode cJ9_floorDiv_f86c9 3 = .ok (.lstore 4, 2) := by decide +kernel
theorem dJ9_floorDiv_f86c9_5 : decode cJ9_floorDiv_f86c9 5 = .ok (.lload_n 0, 1) := by decide +kernel
theorem dJ9_floorDiv_f86c9_6 : decode cJ9_floorDiv_f86c9 6 = .ok (.lload_n 2, 1) := by decide +kernel
theorem dJ9_floorDiv_f86c9_7 : decode cJ9_floorDiv_f86c9 7 = .ok (.lxor, 1) := by decide +kernel
theorem dJ9_floorDiv_f86c9_8 : decode cJ9_floorDiv_f86c9 8 = .ok (.lconst 0, 1) := by decide +kernel
theorem dJ9_floorDiv_f86c9_9 : decode cJ9_floorDiv_f86c9 9 = .ok (.lcmp, 1) := by decide +kernel
theorem dJ9_floorDiv_f86c9_10 : decode cJ9_floorDiv_f86c9 10 = .ok (.ifCond .ge 17, 3) := by decide +kernel
theorem dJ9_floorDiv_f86c9_13 : decode cJ9_floorDiv_f86c9 13 = .ok (.lload 4, 2) := by decide +kernel
theorem dJ9_floorDiv_f86c9_15 : decode cJ9_floorDiv_f86c9 15 = .ok (.lload_n 2, 1) := by decide +kernel
theorem dJ9_floorDiv_f86c9_16 : decode cJ9_floorDiv_f86c9 16 = .ok (.lmul, 1) := by decide +kernel
theorem dJ9_floorDiv_f86c9_17 : decode cJ9_floorDiv_f86c9 17 = .ok (.lload_n 0, 1) := by decide +kernel
theorem dJ9_floorDiv_f86c9_18 : decode cJ9_floorDiv_f86c9 18 = .ok (.lcmp, 1) := by decide +kernel
theorem dJ9_floorDiv_f86c9_19 : decode cJ9_floorDiv_f86c9 19 = .ok (.ifCond .eq 8, 3) := by decide +kernel
theorem dJ9_floorDiv_f86c9_22 : decode cJ9_floorDiv_f86c9 22 = .ok (.lload 4, 2) := by decide +kernel
theorem dJ9_floorDiv_f86c9_24 : decode cJ9_floorDiv_f86c9 24 = .ok (.lconst 1, 1) := by decide +kernel
theorem dJ9_floorDiv_f86c9_25 : decode cJ9_floorDiv_f86c9 25 = .ok (.lsub, 1) := by decide +kernel
theorem dJ9_floorDiv_f86c9_26 : decode cJ9_floorDiv_f86c9 26 = .ok (.lreturn, 1) := by decide +kernel
theorem dJ9_floorDiv_f86c9_27 : decode cJ9_floorDiv_f86c9 27 = .ok (.lload 4, 2) := by decide +kernel
theorem dJ9_floorDiv_f86c9_29 : decode cJ9_floorDiv_f86c9 29 = .ok (.lreturn, 1) := by decide +kernel
theorem dJ9_abs_0f7a4_0 : decode cJ9_abs_0f7a4 0 = .ok (.iload_n 0, 1) := by decide +kernel
theorem dJ9_abs_0f7a4_1 : decode cJ9_abs_0f7a4 1 = .ok (.ifCond .ge 8, 3) := by decide +kernel
theorem dJ9_abs_0f7a4_4 : decode cJ9_abs_0f7a4 4 = .ok (.iload_n 0, 1) := by decide +kernel
theorem dJ9_abs_0f7a4_5 : decode cJ9_abs_0f7a4 5 = .ok (.ineg, 1) := by decide +kernel
theorem dJ9_abs_0f7a4_6 : decode cJ9_abs_0f7a4 6 = .ok (.goto 4, 3) := by decide +kernel
theorem dJ9_abs_0f7a4_9 : decode cJ9_abs_0f7a4 9 = .ok (.iload_n 0, 1) := by decide +kernel
theorem dJ9_abs_0f7a4_10 : decode cJ9_abs_0f7a4 10 = .ok (.ireturn, 1) := by decide +kernel
theorem dJ9_max_7cf53_0 : decode cJ9_max_7cf53 0 = .ok (.iload_n 0, 1) := by decide +kernel
theorem dJ9_max_7cf53_1 : decode cJ9_max_7cf53 1 = .ok (.iload_n 1, 1) := by decide +kernel
theorem dJ9_max_7cf53_2 : decode cJ9_max_7cf53 2 = .ok (.if_icmp .lt 7, 3) := by decide +kernel
theorem dJ9_max_7cf53_5 : decode cJ9_max_7cf53 5 = .ok (.iload_n 0, 1) := by decide +kernel
theorem dJ9_max_7cf53_6 : decode cJ9_max_7cf53 6 = .ok (.goto 4, 3) := by decide +kernel
theorem dJ9_max_7cf53_9 : decode cJ9_max_7cf53 9 = .ok (.iload_n 1, 1) := by decide +kernel
theorem dJ9_max_7cf53_10 : decode cJ9_max_7cf53 10 = .ok (.ireturn, 1) := by decide +kernel
theorem dJ9_max_f86c9_0 : decode cJ9_max_f86c9 0 = .ok (.lload_n 0, 1) := by decide +kernel
theorem dJ9_max_f86c9_1 : decode cJ9_max_f86c9 1 = .ok (.lload_n 2, 1) := by decide +kernel
theorem dJ9_max_f86c9_2 : decode cJ9_max_f86c9 2 = .ok (.lcmp, 1) := by decide +kernel
theorem dJ9_max_f86c9_3 : decode cJ9_max_f86c9 3 = .ok (.ifCond .lt 7, 3) := by decide +kernel
theorem dJ9_max_f86c9_6 : decode cJ9_max_f86c9 6 = .ok (.lload_n 0, 1) := by decide +kernel
theorem dJ9_max_f86c9_7 : decode cJ9_max_f86c9 7 = .ok (.goto 4, 3) := by decide +kernel
theorem dJ9_max_f86c9_10 : decode cJ9_max_f86c9 10 = .ok (.lload_n 2, 1) := by decide +kernel
theorem dJ9_max_f86c9_11 : decode cJ9_max_f86c9 11 = .ok (.lreturn, 1) := by decide +kernel
theorem dJ9_min_7cf53_0 : decode cJ9_min_7cf53 0 = .ok (.iload_n 0, 1) := by decide +kernel
theorem dJ9_min_7cf53_1 : decode cJ9_min_7cf53 1 = .ok (.iload_n 1, 1) := by decide +kernel
theorem dJ9_min_7cf53_2 : decode cJ9_min_7cf53 2 = .ok (.if_icmp .gt 7, 3) := by decide +kernel
theorem dJ9_min_7cf53_5 : decode cJ9_min_7cf53 5 = .ok (.iload_n 0, 1) := by decide +kernel
theorem dJ9_min_7cf53_6 : decode cJ9_min_7cf53 6 = .ok (.goto 4, 3) := by decide +kernel
theorem dJ9_min_7cf53_9 : decode cJ9_min_7cf53 9 = .ok (.iload_n 1, 1) := by decide +kernel
theorem dJ9_min_7cf53_10 : decode cJ9_min_7cf53 10 = .ok (.ireturn, 1) := by decide +kernel
theorem dJ9_min_f86c9_0 : decode cJ9_min_f86c9 0 = .ok (.lload_n 0, 1) := by decide +kernel
theorem dJ9_min_f86c9_1 : decode cJ9_min_f86c9 1 = .ok (.lload_n 2, 1) := by decide +kernel
theorem dJ9_min_f86c9_2 : decode cJ9_min_f86c9 2 = .ok (.lcmp, 1) := by decide +kernel
theorem dJ9_min_f86c9_3 : decode cJ9_min_f86c9 3 = .ok (.ifCond .gt 7, 3) := by decide +kernel
theorem dJ9_min_f86c9_6 : decode cJ9_min_f86c9 6 = .ok (.lload_n 0, 1) := by decide +kernel
theorem dJ9_min_f86c9_7 : decode cJ9_min_f86c9 7 = .ok (.goto 4, 3) := by decide +kernel
theorem dJ9_min_f86c9_10 : decode cJ9_min_f86c9 10 = .ok (.lload_n 2, 1) := by decide +kernel
theorem dJ9_min_f86c9_11 : decode cJ9_min_f86c9 11 = .ok (.lreturn, 1) := by decide +kernel
theorem dJxa1e45_init_da8c8_0 : decode cJxa1e45_init_da8c8 0 = .ok (.aload_n 0, 1) := by decide +kernel
theorem dJxa1e45_init_da8c8_1 : decode cJxa1e45_init_da8c8 1 = .ok (.invokespecial 1, 3) := by decide +kernel
theorem dJxa1e45_init_da8c8_4 : decode cJxa1e45_init_da8c8 4 = .ok (.return_, 1) := by decide +kernel
theorem dJxc12de_init_da8c8_0 : decode cJxc12de_init_da8c8 0 = .ok (.aload_n 0, 1) := by decide +kernel
theorem dJxc12de_init_da8c8_1 : decode cJxc12de_init_da8c8 1 = .ok (.invokespecial 1, 3) := by decide +kernel
theorem dJxc12de_init_da8c8_4 : decode cJxc12de_init_da8c8 4 = .ok (.aload_n 0, 1) := by decide +kernel
theorem dJxc12de_init_da8c8_5 : decode cJxc12de_init_da8c8 5 = .ok (.iconst 0, 1) := by decide +kernel
theorem dJxc12de_init_da8c8_6 : decode cJxc12de_init_da8c8 6 = .ok (.putfield 7, 3) := by decide +kernel
theorem dJxc12de_init_da8c8_9 : decode cJxc12de_init_da8c8 9 = .ok (.return_, 1) := by decide +kernel
theorem dJx4a65c_init_da8c8_0 : decode cJx4a65c_init_da8c8 0 = .ok (.aload_n 0, 1) := by decide +kernel
theorem dJx4a65c_init_da8c8_1 : decode cJx4a65c_init_da8c8 1 = .ok (.invokespecial 1, 3) := by decide +kernel
theorem dJx4a65c_init_da8c8_4 : decode cJx4a65c_init_da8c8 4 = .ok (.aload_n 0, 1) := by decide +kernel
theorem dJx4a65c_init_da8c8_5 : decode cJx4a65c_init_da8c8 5 = .ok (.getstatic 39, 3) := by decide +kernel
theorem dJx4a65c_init_da8c8_8 : decode cJx4a65c_init_da8c8 8 = .ok (.putfield 9, 3) := by decide +kernel
theorem dJx4a65c_init_da8c8_11 : decode cJx4a65c_init_da8c8 11 = .ok (.return_, 1) := by decide +kernel
theorem dJx4a65c_grow_92f84_0 : decode cJx4a65c_grow_92f84 0 = .ok (.aload_n 0, 1) := by decide +kernel
theorem dJx4a65c_grow_92f84_1 : decode cJx4a65c_grow_92f84 1 = .ok (.getfield 9, 3) := by decide +kernel
theorem dJx4a65c_grow_92f84_4 : decode cJx4a65c_grow_92f84 4 = .ok (.arraylength, 1) := by decide +kernel
theorem dJx4a65c_grow_92f84_5 : decode cJx4a65c_grow_92f84 5 = .ok (.istore_n 2, 1) := by decide +kernel
theorem dJx4a65c_grow_92f84_6 : decode cJx4a65c_grow_92f84 6 = .ok (.iload_n 2, 1) := by decide +kernel
theorem dJx4a65c_grow_92f84_7 : decode cJx4a65c_grow_92f84 7 = .ok (.ifCond .gt 13, 3) := by decide +kernel
theorem dJx4a65c_grow_92f84_10 : decode cJx4a65c_grow_92f84 10 = .ok (.aload_n 0, 1) := by decide +kernel
theorem dJx4a65c_grow_92f84_11 : decode cJx4a65c_grow_92f84 11 = .ok (.getfield 9, 3) := by decide +kernel
theorem dJx4a65c_grow_92f84_14 : decode cJx4a65c_grow_92f84 14 = .ok (.getstatic 39, 3) := by decide +kernel
theorem dJx4a65c_grow_92f84_17 : decode cJx4a65c_grow_92f84 17 = .ok (.if_acmp .eq 28, 3) := by decide +kernel
theorem dJx4a65c_grow_92f84_20 : decode cJx4a65c_grow_92f84 20 = .ok (.iload_n 2, 1) := by decide +kernel
theorem dJx4a65c_grow_92f84_21 : decode cJx4a65c_grow_92f84 21 = .ok (.iload_n 1, 1) := by decide +kernel
theorem dJx4a65c_grow_92f84_22 : decode cJx4a65c_grow_92f84 22 = .ok (.iload_n 2, 1) := by decide +kernel
theorem dJx4a65c_grow_92f84_23 : decode cJx4a65c_grow_92f84 23 = .ok (.isub, 1) := by decide +kernel
theorem dJx4a65c_grow_92f84_24 : decode cJx4a65c_grow_92f84 24 = .ok (.iload_n 2, 1) := by decide +kernel
theorem dJx4a65c_grow_92f84_25 : decode cJx4a65c_grow_92f84 25 = .ok (.iconst 1, 1) := by decide +kernel
theorem dJx4a65c_grow_92f84_26 : decode cJx4a65c_grow_92f84 26 = .ok (.ishr, 1) := by decide +kernel
theorem dJx4a65c_grow_92f84_27 : decode cJx4a65c_grow_92f84 27 = .ok (.invokestatic 73, 3) := by decide +kernel
theorem dJx4a65c_grow_92f84_30 : decode cJx4a65c_grow_92f84 30 = .ok (.istore_n 3, 1) := by decide +kernel
theorem dJx4a65c_grow_92f84_31 : decode cJx4a65c_grow_92f84 31 = .ok (.aload_n 0, 1) := by decide +kernel
theorem dJx4a65c_grow_92f84_32 : decode cJx4a65c_grow_92f84 32 = .ok (.aload_n 0, 1) := by decide +kernel
theorem dJx4a65c_grow_92f84_33 : decode cJx4a65c_grow_92f84 33 = .ok (.getfield 9, 3) := by decide +kernel
theorem dJx4a65c_grow_92f84_36 : decode cJx4a65c_grow_92f84 36 = .ok (.iload_n 3, 1) := by decide +kernel
theorem dJx4a65c_grow_92f84_37 : decode cJx4a65c_grow_92f84 37 = .ok (.invokestatic 66, 3) := by decide +kernel
theorem dJx4a65c_grow_92f84_40 : decode cJx4a65c_grow_92f84 40 = .ok (.dup_x1, 1) := by decide +kernel
theorem dJx4a65c_grow_92f84_41 : decode cJx4a65c_grow_92f84 41 = .ok (.putfield 9, 3) := by decide +kernel
theorem dJx4a65c_grow_92f84_44 : decode cJx4a65c_grow_92f84 44 = .ok (.areturn, 1) := by decide +kernel
theorem dJx4a65c_grow_92f84_45 : decode cJx4a65c_grow_92f84 45 = .ok (.aload_n 0, 1) := by decide +kernel
theorem dJx4a65c_grow_92f84_46 : decode cJx4a65c_grow_92f84 46 = .ok (.bipush 10, 2) := by decide +kernel
theorem dJx4a65c_grow_92f84_48 : decode cJx4a65c_grow_92f84 48 = .ok (.iload_n 1, 1) := by decide +kernel
theorem dJx4a65c_grow_92f84_49 : decode cJx4a65c_grow_92f84 49 = .ok (.invokestatic 79, 3) := by decide +kernel
theorem dJx4a65c_grow_92f84_52 : decode cJx4a65c_grow_92f84 52 = .ok (.anewarray 7, 3) := by decide +kernel
theorem dJx4a65c_grow_92f84_55 : decode cJx4a65c_grow_92f84 55 = .ok (.dup_x1, 1) := by decide +kernel
theorem dJx4a65c_grow_92f84_56 : decode cJx4a65c_grow_92f84 56 = .ok (.putfield 9, 3) := by decide +kernel
theorem dJx4a65c_grow_92f84_59 : decode cJx4a65c_grow_92f84 59 = .ok (.areturn, 1) := by decide +kernel
theorem dJx4a65c_grow_d5877_0 : decode cJx4a65c_grow_d5877 0 = .ok (.aload_n 0, 1) := by decide +kernel
theorem dJx4a65c_grow_d5877_1 : decode cJx4a65c_grow_d5877 1 = .ok (.aload_n 0, 1) := by decide +kernel
theorem dJx4a65c_grow_d5877_2 : decode cJx4a65c_grow_d5877 2 = .ok (.getfield 48, 3) := by decide +kernel
theorem dJx4a65c_grow_d5877_5 : decode cJx4a65c_grow_d5877 5 = .ok (.iconst 1, 1) := by decide +kernel
theorem dJx4a65c_grow_d5877_6 : decode cJx4a65c_grow_d5877 6 = .ok (.iadd, 1) := by decide +kernel
theorem dJx4a65c_grow_d5877_7 : decode cJx4a65c_grow_d5877 7 = .ok (.invokevirtual 69, 3) := by decide +kernel
theorem dJx4a65c_grow_d5877_10 : decode cJx4a65c_grow_d5877 10 = .ok (.areturn, 1) := by decide +kernel
theorem dJx4a65c_size_8abf5_0 : decode cJx4a65c_size_8abf5 0 = .ok (.aload_n 0, 1) := by decide +kernel
theorem dJx4a65c_size_8abf5_1 : decode cJx4a65c_size_8abf5 1 = .ok (.getfield 48, 3) := by decide +kernel
theorem dJx4a65c_size_8abf5_4 : decode cJx4a65c_size_8abf5 4 = .ok (.ireturn, 1) := by decide +kernel
theorem dJx4a65c_elementData_915e3_0 : decode cJx4a65c_elementData_915e3 0 = .ok (.aload_n 0, 1) := by decide +kernel
theorem dJx4a65c_elementData_915e3_1 : decode cJx4a65c_elementData_915e3 1 = .ok (.getfield 9, 3) := by decide +kernel
theorem dJx4a65c_elementData_915e3_4 : decode cJx4a65c_elementData_915e3 4 = .ok (.iload_n 1, 1) := by decide +kernel
theorem dJx4a65c_elementData_915e3_5 : decode cJx4a65c_elementData_915e3 5 = .ok (.aaload, 1) := by decide +kernel
theorem dJx4a65c_elementData_915e3_6 : decode cJx4a65c_elementData_915e3 6 = .ok (.areturn, 1) := by decide +kernel
theorem dJx4a65c_get_915e3_0 : decode cJx4a65c_get_915e3 0 = .ok (.iload_n 1, 1) := by decide +kernel
theorem dJx4a65c_get_915e3_1 : decode cJx4a65c_get_915e3 1 = .ok (.aload_n 0, 1) := by decide +kernel
theorem dJx4a65c_get_915e3_2 : decode cJx4a65c_get_915e3 2 = .ok (.getfield 48, 3) := by decide +kernel
theorem dJx4a65c_get_915e3_5 : decode cJx4a65c_get_915e3 5 = .ok (.invokestatic 118, 3) := by decide +kernel
theorem dJx4a65c_get_915e3_8 : decode cJx4a65c_get_915e3 8 = .ok (.pop, 1) := by decide +kernel
theorem dJx4a65c_get_915e3_9 : decode cJx4a65c_get_915e3 9 = .ok (.aload_n 0, 1) := by decide +kernel
theorem dJx4a65c_get_915e3_10 : decode cJx4a65c_get_915e3 10 = .ok (.iload_n 1, 1) := by decide +kernel
theorem dJx4a65c_get_915e3_11 : decode cJx4a65c_get_915e3 11 = .ok (.invokevirtual 123, 3) := by decide +kernel
theorem dJx4a65c_get_915e3_14 : decode cJx4a65c_get_915e3 14 = .ok (.areturn, 1) := by decide +kernel
theorem dJx4a65c_add_72be8_0 : decode cJx4a65c_add_72be8 0 = .ok (.iload_n 3, 1) := by decide +kernel
theorem dJx4a65c_add_72be8_1 : decode cJx4a65c_add_72be8 1 = .ok (.aload_n 2, 1) := by decide +kernel
theorem dJx4a65c_add_72be8_2 : decode cJx4a65c_add_72be8 2 = .ok (.arraylength, 1) := by decide +kernel
theorem dJx4a65c_add_72be8_3 : decode cJx4a65c_add_72be8 3 = .ok (.if_icmp .ne 8, 3) := by decide +kernel
theorem dJx4a65c_add_72be8_6 : decode cJx4a65c_add_72be8 6 = .ok (.aload_n 0, 1) := by decide +kernel
theorem dJx4a65c_add_72be8_7 : decode cJx4a65c_add_72be8 7 = .ok (.invokevirtual 129, 3) := by decide +kernel
theorem dJx4a65c_add_72be8_10 : decode cJx4a65c_add_72be8 10 = .ok (.astore_n 2, 1) := by decide +kernel
theorem dJx4a65c_add_72be8_11 : decode cJx4a65c_add_72be8 11 = .ok (.aload_n 2, 1) := by decide +kernel
theorem dJx4a65c_add_72be8_12 : decode cJx4a65c_add_72be8 12 = .ok (.iload_n 3, 1) := by decide +kernel
theorem dJx4a65c_add_72be8_13 : decode cJx4a65c_add_72be8 13 = .ok (.aload_n 1, 1) := by decide +kernel
theorem dJx4a65c_add_72be8_14 : decode cJx4a65c_add_72be8 14 = .ok (.aastore, 1) := by decide +kernel
theorem dJx4a65c_add_72be8_15 : decode cJx4a65c_add_72be8 15 = .ok (.aload_n 0, 1) := by decide +kernel
theorem dJx4a65c_add_72be8_16 : decode cJx4a65c_add_72be8 16 = .ok (.iload_n 3, 1) := by decide +kernel
theorem dJx4a65c_add_72be8_17 : decode cJx4a65c_add_72be8 17 = .ok (.iconst 1, 1) := by decide +kernel
theorem dJx4a65c_add_72be8_18 : decode cJx4a65c_add_72be8 18 = .ok (.iadd, 1) := by decide +kernel
theorem dJx4a65c_add_72be8_19 : decode cJx4a65c_add_72be8 19 = .ok (.putfield 48, 3) := by decide +kernel
theorem dJx4a65c_add_72be8_22 : decode cJx4a65c_add_72be8 22 = .ok (.return_, 1) := by decide +kernel
theorem dJx4a65c_add_9ea2d_0 : decode cJx4a65c_add_9ea2d 0 = .ok (.aload_n 0, 1) := by decide +kernel
theorem dJx4a65c_add_9ea2d_1 : decode cJx4a65c_add_9ea2d 1 = .ok (.dup, 1) := by decide +kernel
theorem dJx4a65c_add_9ea2d_2 : decode cJx4a65c_add_9ea2d 2 = .ok (.getfield 63, 3) := by decide +kernel
theorem dJx4a65c_add_9ea2d_5 : decode cJx4a65c_add_9ea2d 5 = .ok (.iconst 1, 1) := by decide +kernel
theorem dJx4a65c_add_9ea2d_6 : decode cJx4a65c_add_9ea2d 6 = .ok (.iadd, 1) := by decide +kernel
theorem dJx4a65c_add_9ea2d_7 : decode cJx4a65c_add_9ea2d 7 = .ok (.putfield 63, 3) := by decide +kernel
theorem dJx4a65c_add_9ea2d_10 : decode cJx4a65c_add_9ea2d 10 = .ok (.aload_n 0, 1) := by decide +kernel
theorem dJx4a65c_add_9ea2d_11 : decode cJx4a65c_add_9ea2d 11 = .ok (.aload_n 1, 1) := by decide +kernel
theorem dJx4a65c_add_9ea2d_12 : decode cJx4a65c_add_9ea2d 12 = .ok (.aload_n 0, 1) := by decide +kernel
theorem dJx4a65c_add_9ea2d_13 : decode cJx4a65c_add_9ea2d 13 = .ok (.getfield 9, 3) := by decide +kernel
theorem dJx4a65c_add_9ea2d_16 : decode cJx4a65c_add_9ea2d 16 = .ok (.aload_n 0, 1) := by decide +kernel
theorem dJx4a65c_add_9ea2d_17 : decode cJx4a65c_add_9ea2d 17 = .ok (.getfield 48, 3) := by decide +kernel
theorem dJx4a65c_add_9ea2d_20 : decode cJx4a65c_add_9ea2d 20 = .ok (.invokevirtual 131, 3) := by decide +kernel
theorem dJx4a65c_add_9ea2d_23 : decode cJx4a65c_add_9ea2d 23 = .ok (.iconst 1, 1) := by decide +kernel
theorem dJx4a65c_add_9ea2d_24 : decode cJx4a65c_add_9ea2d 24 = .ok (.ireturn, 1) := by decide +kernel
theorem dJ7_copyOf_1904c_0 : decode cJ7_copyOf_1904c 0 = .ok (.aload_n 0, 1) := by decide +kernel
theorem dJ7_copyOf_1904c_1 : decode cJ7_copyOf_1904c 1 = .ok (.iload_n 1, 1) := by decide +kernel
theorem dJ7_copyOf_1904c_2 : decode cJ7_copyOf_1904c 2 = .ok (.aload_n 0, 1) := by decide +kernel
theorem dJ7_copyOf_1904c_3 : decode cJ7_copyOf_1904c 3 = .ok (.invokevirtual 86, 3) := by decide +kernel
theorem dJ7_copyOf_1904c_6 : decode cJ7_copyOf_1904c 6 = .ok (.invokestatic 300, 3) := by decide +kernel
theorem dJ7_copyOf_1904c_9 : decode cJ7_copyOf_1904c 9 = .ok (.areturn, 1) := by decide +kernel
theorem dJ7_copyOf_6403c_0 : decode cJ7_copyOf_6403c 0 = .ok (.aload_n 2, 1) := by decide +kernel
theorem dJ7_copyOf_6403c_1 : decode cJ7_copyOf_6403c 1 = .ok (.ldc 110, 2) := by decide +kernel
theorem dJ7_copyOf_6403c_3 : decode cJ7_copyOf_6403c 3 = .ok (.if_acmp .ne 10, 3) := by decide +kernel
theorem dJ7_copyOf_6403c_6 : decode cJ7_copyOf_6403c 6 = .ok (.iload_n 1, 1) := by decide +kernel
theorem dJ7_copyOf_6403c_7 : decode cJ7_copyOf_6403c 7 = .ok (.anewarray 2, 3) := by decide +kernel
theorem dJ7_copyOf_6403c_10 : decode cJ7_copyOf_6403c 10 = .ok (.goto 14, 3) := by decide +kernel
theorem dJ7_copyOf_6403c_13 : decode cJ7_copyOf_6403c 13 = .ok (.aload_n 2, 1) := by decide +kernel
theorem dJ7_copyOf_6403c_14 : decode cJ7_copyOf_6403c 14 = .ok (.invokevirtual 90, 3) := by decide +kernel
theorem dJ7_copyOf_6403c_17 : decode cJ7_copyOf_6403c 17 = .ok (.iload_n 1, 1) := by decide +kernel
theorem dJ7_copyOf_6403c_18 : decode cJ7_copyOf_6403c 18 = .ok (.invokestatic 95, 3) := by decide +kernel
theorem dJ7_copyOf_6403c_21 : decode cJ7_copyOf_6403c 21 = .ok (.checkcast 110, 3) := by decide +kernel
theorem dJ7_copyOf_6403c_24 : decode cJ7_copyOf_6403c 24 = .ok (.astore_n 3, 1) := by decide +kernel
theorem dJ7_copyOf_6403c_25 : decode cJ7_copyOf_6403c 25 = .ok (.aload_n 0, 1) := by decide +kernel
theorem dJ7_copyOf_6403c_26 : decode cJ7_copyOf_6403c 26 = .ok (.iconst 0, 1) := by decide +kernel
theorem dJ7_copyOf_6403c_27 : decode cJ7_copyOf_6403c 27 = .ok (.aload_n 3, 1) := by decide +kernel
theorem dJ7_copyOf_6403c_28 : decode cJ7_copyOf_6403c 28 = .ok (.iconst 0, 1) := by decide +kernel
theorem dJ7_copyOf_6403c_29 : decode cJ7_copyOf_6403c 29 = .ok (.aload_n 0, 1) := by decide +kernel
theorem dJ7_copyOf_6403c_30 : decode cJ7_copyOf_6403c 30 = .ok (.arraylength, 1) := by decide +kernel
theorem dJ7_copyOf_6403c_31 : decode cJ7_copyOf_6403c 31 = .ok (.iload_n 1, 1) := by decide +kernel
theorem dJ7_copyOf_6403c_32 : decode cJ7_copyOf_6403c 32 = .ok (.invokestatic 304, 3) := by decide +kernel
theorem dJ7_copyOf_6403c_35 : decode cJ7_copyOf_6403c 35 = .ok (.invokestatic 150, 3) := by decide +kernel
theorem dJ7_copyOf_6403c_38 : decode cJ7_copyOf_6403c 38 = .ok (.aload_n 3, 1) := by decide +kernel
theorem dJ7_copyOf_6403c_39 : decode cJ7_copyOf_6403c 39 = .ok (.areturn, 1) := by decide +kernel
theorem dJ15_checkIndex_7cf53_0 : decode cJ15_checkIndex_7cf53 0 = .ok (.iload_n 0, 1) := by decide +kernel
theorem dJ15_checkIndex_7cf53_1 : decode cJ15_checkIndex_7cf53 1 = .ok (.iload_n 1, 1) := by decide +kernel
theorem dJ15_checkIndex_7cf53_2 : decode cJ15_checkIndex_7cf53 2 = .ok (.aconst_null, 1) := by decide +kernel
theorem dJ15_checkIndex_7cf53_3 : decode cJ15_checkIndex_7cf53 3 = .ok (.invokestatic 105, 3) := by decide +kernel
theorem dJ15_checkIndex_7cf53_6 : decode cJ15_checkIndex_7cf53 6 = .ok (.ireturn, 1) := by decide +kernel
theorem dJ8_newLength_cabcc_0 : decode cJ8_newLength_cabcc 0 = .ok (.iload_n 0, 1) := by decide +kernel
theorem dJ8_newLength_cabcc_1 : decode cJ8_newLength_cabcc 1 = .ok (.iload_n 1, 1) := by decide +kernel
theorem dJ8_newLength_cabcc_2 : decode cJ8_newLength_cabcc 2 = .ok (.iload_n 2, 1) := by decide +kernel
theorem dJ8_newLength_cabcc_3 : decode cJ8_newLength_cabcc 3 = .ok (.invokestatic 194, 3) := by decide +kernel
theorem dJ8_newLength_cabcc_6 : decode cJ8_newLength_cabcc 6 = .ok (.iadd, 1) := by decide +kernel
theorem dJ8_newLength_cabcc_7 : decode cJ8_newLength_cabcc 7 = .ok (.istore_n 3, 1) := by decide +kernel
theorem dJ8_newLength_cabcc_8 : decode cJ8_newLength_cabcc 8 = .ok (.iconst 0, 1) := by decide +kernel
theorem dJ8_newLength_cabcc_9 : decode cJ8_newLength_cabcc 9 = .ok (.iload_n 3, 1) := by decide +kernel
theorem dJ8_newLength_cabcc_10 : decode cJ8_newLength_cabcc 10 = .ok (.if_icmp .ge 11, 3) := by decide +kernel
theorem dJ8_newLength_cabcc_13 : decode cJ8_newLength_cabcc 13 = .ok (.iload_n 3, 1) := by decide +kernel
theorem dJ8_newLength_cabcc_14 : decode cJ8_newLength_cabcc 14 = .ok (.ldc 200, 2) := by decide +kernel
theorem dJ8_newLength_cabcc_16 : decode cJ8_newLength_cabcc 16 = .ok (.if_icmp .gt 5, 3) := by decide +kernel
theorem dJ8_newLength_cabcc_19 : decode cJ8_newLength_cabcc 19 = .ok (.iload_n 3, 1) := by decide +kernel
theorem dJ8_newLength_cabcc_20 : decode cJ8_newLength_cabcc 20 = .ok (.ireturn, 1) := by decide +kernel
theorem dJ8_newLength_cabcc_21 : decode cJ8_newLength_cabcc 21 = .ok (.iload_n 0, 1) := by decide +kernel
theorem dJ8_newLength_cabcc_22 : decode cJ8_newLength_cabcc 22 = .ok (.iload_n 1, 1) := by decide +kernel
theorem dJ8_newLength_cabcc_23 : decode cJ8_newLength_cabcc 23 = .ok (.invokestatic 201, 3) := by decide +kernel
theorem dJ8_newLength_cabcc_26 : decode cJ8_newLength_cabcc 26 = .ok (.ireturn, 1) := by decide +kernel
theorem dJ8_hugeLength_7cf53_0 : decode cJ8_hugeLength_7cf53 0 = .ok (.iload_n 0, 1) := by decide +kernel
theorem dJ8_hugeLength_7cf53_1 : decode cJ8_hugeLength_7cf53 1 = .ok (.iload_n 1, 1) := by decide +kernel
theorem dJ8_hugeLength_7cf53_2 : decode cJ8_hugeLength_7cf53 2 = .ok (.iadd, 1) := by decide +kernel
theorem dJ8_hugeLength_7cf53_3 : decode cJ8_hugeLength_7cf53 3 = .ok (.istore_n 2, 1) := by decide +kernel
theorem dJ8_hugeLength_7cf53_4 : decode cJ8_hugeLength_7cf53 4 = .ok (.iload_n 2, 1) := by decide +kernel
theorem dJ8_hugeLength_7cf53_5 : decode cJ8_hugeLength_7cf53 5 = .ok (.ifCond .ge 44, 3) := by decide +kernel
theorem dJ8_hugeLength_7cf53_8 : decode cJ8_hugeLength_7cf53 8 = .ok (.new 204, 3) := by decide +kernel
theorem dJ8_hugeLength_7cf53_11 : decode cJ8_hugeLength_7cf53 11 = .ok (.dup, 1) := by decide +kernel
theorem dJ8_hugeLength_7cf53_12 : decode cJ8_hugeLength_7cf53 12 = .ok (.new 89, 3) := by decide +kernel
theorem dJ8_hugeLength_7cf53_15 : decode cJ8_hugeLength_7cf53 15 = .ok (.dup, 1) := by decide +kernel
theorem dJ8_hugeLength_7cf53_16 : decode cJ8_hugeLength_7cf53 16 = .ok (.invokespecial 91, 3) := by decide +kernel
theorem dJ8_hugeLength_7cf53_19 : decode cJ8_hugeLength_7cf53 19 = .ok (.ldc 206, 2) := by decide +kernel
theorem dJ8_hugeLength_7cf53_21 : decode cJ8_hugeLength_7cf53 21 = .ok (.invokevirtual 94, 3) := by decide +kernel
theorem dJ8_hugeLength_7cf53_24 : decode cJ8_hugeLength_7cf53 24 = .ok (.iload_n 0, 1) := by decide +kernel
theorem dJ8_hugeLength_7cf53_25 : decode cJ8_hugeLength_7cf53 25 = .ok (.invokevirtual 98, 3) := by decide +kernel
theorem dJ8_hugeLength_7cf53_28 : decode cJ8_hugeLength_7cf53 28 = .ok (.ldc 208, 2) := by decide +kernel
theorem dJ8_hugeLength_7cf53_30 : decode cJ8_hugeLength_7cf53 30 = .ok (.invokevirtual 94, 3) := by decide +kernel
theorem dJ8_hugeLength_7cf53_33 : decode cJ8_hugeLength_7cf53 33 = .ok (.iload_n 1, 1) := by decide +kernel
theorem dJ8_hugeLength_7cf53_34 : decode cJ8_hugeLength_7cf53 34 = .ok (.invokevirtual 98, 3) := by decide +kernel
theorem dJ8_hugeLength_7cf53_37 : decode cJ8_hugeLength_7cf53 37 = .ok (.ldc 210, 2) := by decide +kernel
theorem dJ8_hugeLength_7cf53_39 : decode cJ8_hugeLength_7cf53 39 = .ok (.invokevirtual 94, 3) := by decide +kernel
theorem dJ8_hugeLength_7cf53_42 : decode cJ8_hugeLength_7cf53 42 = .ok (.invokevirtual 101, 3) := by decide +kernel
theorem dJ8_hugeLength_7cf53_45 : decode cJ8_hugeLength_7cf53 45 = .ok (.invokespecial 212, 3) := by decide +kernel
theorem dJ8_hugeLength_7cf53_48 : decode cJ8_hugeLength_7cf53 48 = .ok (.athrow, 1) := by decide +kernel
theorem dJ8_hugeLength_7cf53_49 : decode cJ8_hugeLength_7cf53 49 = .ok (.iload_n 2, 1) := by decide +kernel
theorem dJ8_hugeLength_7cf53_50 : decode cJ8_hugeLength_7cf53 50 = .ok (.ldc 200, 2) := by decide +kernel
theorem dJ8_hugeLength_7cf53_52 : decode cJ8_hugeLength_7cf53 52 = .ok (.if_icmp .gt 6, 3) := by decide +kernel
theorem dJ8_hugeLength_7cf53_55 : decode cJ8_hugeLength_7cf53 55 = .ok (.ldc 200, 2) := by decide +kernel
theorem dJ8_hugeLength_7cf53_57 : decode cJ8_hugeLength_7cf53 57 = .ok (.ireturn, 1) := by decide +kernel
theorem dJ8_hugeLength_7cf53_58 : decode cJ8_hugeLength_7cf53 58 = .ok (.iload_n 2, 1) := by decide +kernel
theorem dJ8_hugeLength_7cf53_59 : decode cJ8_hugeLength_7cf53 59 = .ok (.ireturn, 1) := by decide +kernel
theorem dJ3_checkIndex_8e157_0 : decode cJ3_checkIndex_8e157 0 = .ok (.iload_n 0, 1) := by decide +kernel
theorem dJ3_checkIndex_8e157_1 : decode cJ3_checkIndex_8e157 1 = .ok (.ifCond .lt 8, 3) := by decide +kernel
theorem dJ3_checkIndex_8e157_4 : decode cJ3_checkIndex_8e157 4 = .ok (.iload_n 0, 1) := by decide +kernel
theorem dJ3_checkIndex_8e157_5 : decode cJ3_checkIndex_8e157 5 = .ok (.iload_n 1, 1) := by decide +kernel
theorem dJ3_checkIndex_8e157_6 : decode cJ3_checkIndex_8e157 6 = .ok (.if_icmp .lt 10, 3) := by decide +kernel
theorem dJ3_checkIndex_8e157_9 : decode cJ3_checkIndex_8e157 9 = .ok (.aload_n 2, 1) := by decide +kernel
theorem dJ3_checkIndex_8e157_10 : decode cJ3_checkIndex_8e157 10 = .ok (.iload_n 0, 1) := by decide +kernel
theorem dJ3_checkIndex_8e157_11 : decode cJ3_checkIndex_8e157 11 = .ok (.iload_n 1, 1) := by decide +kernel
theorem dJ3_checkIndex_8e157_12 : decode cJ3_checkIndex_8e157 12 = .ok (.invokestatic 95, 3) := by decide +kernel
theorem dJ3_checkIndex_8e157_15 : decode cJ3_checkIndex_8e157 15 = .ok (.athrow, 1) := by decide +kernel
theorem dJ3_checkIndex_8e157_16 : decode cJ3_checkIndex_8e157 16 = .ok (.iload_n 0, 1) := by decide +kernel
theorem dJ3_checkIndex_8e157_17 : decode cJ3_checkIndex_8e157 17 = .ok (.ireturn, 1) := by decide +kernel
theorem dL_dice_0 : decode cL_dice 0 = .ok (.iload_n 1, 1) := by decide +kernel
theorem dL_dice_1 : decode cL_dice 1 = .ok (.aload_n 0, 1) := by decide +kernel
theorem dL_dice_2 : decode cL_dice 2 = .ok (.arraylength, 1) := by decide +kernel
theorem dL_dice_3 : decode cL_dice 3 = .ok (.if_icmp .ge 9, 3) := by decide +kernel
theorem dL_dice_6 : decode cL_dice 6 = .ok (.aload_n 0, 1) := by decide +kernel
theorem dL_dice_7 : decode cL_dice 7 = .ok (.iload_n 1, 1) := by decide +kernel
theorem dL_dice_8 : decode cL_dice 8 = .ok (.iaload, 1) := by decide +kernel
theorem dL_dice_9 : decode cL_dice 9 = .ok (.goto 22, 3) := by decide +kernel
theorem dL_dice_12 : decode cL_dice 12 = .ok (.ldc 7, 2) := by decide +kernel
theorem dL_dice_14 : decode cL_dice 14 = .ok (.iload_n 1, 1) := by decide +kernel
theorem dL_dice_15 : decode cL_dice 15 = .ok (.sipush 151, 3) := by decide +kernel
theorem dL_dice_18 : decode cL_dice 18 = .ok (.iadd, 1) := by decide +kernel
theorem dL_dice_19 : decode cL_dice 19 = .ok (.imul, 1) := by decide +kernel
theorem dL_dice_20 : decode cL_dice 20 = .ok (.sipush 543, 3) := by decide +kernel
theorem dL_dice_23 : decode cL_dice 23 = .ok (.iload_n 1, 1) := by decide +kernel
theorem dL_dice_24 : decode cL_dice 24 = .ok (.imul, 1) := by decide +kernel
theorem dL_dice_25 : decode cL_dice 25 = .ok (.iload_n 1, 1) := by decide +kernel
theorem dL_dice_26 : decode cL_dice 26 = .ok (.imul, 1) := by decide +kernel
theorem dL_dice_27 : decode cL_dice 27 = .ok (.iadd, 1) := by decide +kernel
theorem dL_dice_28 : decode cL_dice 28 = .ok (.bipush 53, 2) := by decide +kernel
theorem dL_dice_30 : decode cL_dice 30 = .ok (.iadd, 1) := by decide +kernel
theorem dL_dice_31 : decode cL_dice 31 = .ok (.ldc 8, 2) := by decide +kernel
theorem dL_dice_33 : decode cL_dice 33 = .ok (.iand, 1) := by decide +kernel
theorem dL_dice_34 : decode cL_dice 34 = .ok (.ireturn, 1) := by decide +kernel
theorem dL_act_0 : decode cL_act 0 = .ok (.iload_n 1, 1) := by decide +kernel
theorem dL_act_1 : decode cL_act 1 = .ok (.ifCond .ne 11, 3) := by decide +kernel
theorem dL_act_4 : decode cL_act 4 = .ok (.aload_n 0, 1) := by decide +kernel
theorem dL_act_5 : decode cL_act 5 = .ok (.iload_n 2, 1) := by decide +kernel
theorem dL_act_6 : decode cL_act 6 = .ok (.invokevirtual 9, 3) := by decide +kernel
theorem dL_act_9 : decode cL_act 9 = .ok (.goto 77, 3) := by decide +kernel
theorem dL_act_12 : decode cL_act 12 = .ok (.iload_n 1, 1) := by decide +kernel
theorem dL_act_13 : decode cL_act 13 = .ok (.iconst 1, 1) := by decide +kernel
theorem dL_act_14 : decode cL_act 14 = .ok (.if_icmp .ne 12, 3) := by decide +kernel
theorem dL_act_17 : decode cL_act 17 = .ok (.aload_n 0, 1) := by decide +kernel
theorem dL_act_18 : decode cL_act 18 = .ok (.iload_n 2, 1) := by decide +kernel
theorem dL_act_19 : decode cL_act 19 = .ok (.iload_n 3, 1) := by decide +kernel
theorem dL_act_20 : decode cL_act 20 = .ok (.invokevirtual 15, 3) := by decide +kernel
theorem dL_act_23 : decode cL_act 23 = .ok (.goto 63, 3) := by decide +kernel
theorem dL_act_26 : decode cL_act 26 = .ok (.iload_n 1, 1) := by decide +kernel
theorem dL_act_27 : decode cL_act 27 = .ok (.iconst 2, 1) := by decide +kernel
theorem dL_act_28 : decode cL_act 28 = .ok (.if_icmp .ne 12, 3) := by decide +kernel
theorem dL_act_31 : decode cL_act 31 = .ok (.aload_n 0, 1) := by decide +kernel
theorem dL_act_32 : decode cL_act 32 = .ok (.iload_n 2, 1) := by decide +kernel
theorem dL_act_33 : decode cL_act 33 = .ok (.iload_n 3, 1) := by decide +kernel
theorem dL_act_34 : decode cL_act 34 = .ok (.invokevirtual 19, 3) := by decide +kernel
theorem dL_act_37 : decode cL_act 37 = .ok (.goto 49, 3) := by decide +kernel
theorem dL_act_40 : decode cL_act 40 = .ok (.iload_n 1, 1) := by decide +kernel
theorem dL_act_41 : decode cL_act 41 = .ok (.iconst 3, 1) := by decide +kernel
theorem dL_act_42 : decode cL_act 42 = .ok (.if_icmp .ne 12, 3) := by decide +kernel
theorem dL_act_45 : decode cL_act 45 = .ok (.aload_n 0, 1) := by decide +kernel
theorem dL_act_46 : decode cL_act 46 = .ok (.iload_n 2, 1) := by decide +kernel
theorem dL_act_47 : decode cL_act 47 = .ok (.iload_n 3, 1) := by decide +kernel
theorem dL_act_48 : decode cL_act 48 = .ok (.invokevirtual 22, 3) := by decide +kernel
theorem dL_act_51 : decode cL_act 51 = .ok (.goto 35, 3) := by decide +kernel
theorem dL_act_54 : decode cL_act 54 = .ok (.iload_n 1, 1) := by decide +kernel
theorem dL_act_55 : decode cL_act 55 = .ok (.iconst 4, 1) := by decide +kernel
theorem dL_act_56 : decode cL_act 56 = .ok (.if_icmp .ne 11, 3) := by decide +kernel
theorem dL_act_59 : decode cL_act 59 = .ok (.aload_n 0, 1) := by decide +kernel
theorem dL_act_60 : decode cL_act 60 = .ok (.iload_n 2, 1) := by decide +kernel
theorem dL_act_61 : decode cL_act 61 = .ok (.invokevirtual 25, 3) := by decide +kernel
theorem dL_act_64 : decode cL_act 64 = .ok (.goto 22, 3) := by decide +kernel
theorem dL_act_67 : decode cL_act 67 = .ok (.iload_n 1, 1) := by decide +kernel
theorem dL_act_68 : decode cL_act 68 = .ok (.iconst 5, 1) := by decide +kernel
theorem dL_act_69 : decode cL_act 69 = .ok (.if_icmp .ne 12, 3) := by decide +kernel
theorem dL_act_72 : decode cL_act 72 = .ok (.aload_n 0, 1) := by decide +kernel
theorem dL_act_73 : decode cL_act 73 = .ok (.iload_n 2, 1) := by decide +kernel
theorem dL_act_74 : decode cL_act 74 = .ok (.iload_n 3, 1) := by decide +kernel
theorem dL_act_75 : decode cL_act 75 = .ok (.invokevirtual 28, 3) := by decide +kernel
theorem dL_act_78 : decode cL_act 78 = .ok (.goto 8, 3) := by decide +kernel
theorem dL_act_81 : decode cL_act 81 = .ok (.aload_n 0, 1) := by decide +kernel
theorem dL_act_82 : decode cL_act 82 = .ok (.iload_n 2, 1) := by decide +kernel
theorem dL_act_83 : decode cL_act 83 = .ok (.invokevirtual 31, 3) := by decide +kernel
theorem dL_act_86 : decode cL_act 86 = .ok (.ireturn, 1) := by decide +kernel
theorem dL_act_87 : decode cL_act 87 = .ok (.astore 4, 2) := by decide +kernel
theorem dL_act_89 : decode cL_act 89 = .ok (.sipush (-971), 3) := by decide +kernel
theorem dL_act_92 : decode cL_act 92 = .ok (.ireturn, 1) := by decide +kernel
theorem dL_act_93 : decode cL_act 93 = .ok (.astore 4, 2) := by decide +kernel
theorem dL_act_95 : decode cL_act 95 = .ok (.sipush (-972), 3) := by decide +kernel
theorem dL_act_98 : decode cL_act 98 = .ok (.ireturn, 1) := by decide +kernel
theorem dL_act_99 : decode cL_act 99 = .ok (.astore 4, 2) := by decide +kernel
theorem dL_act_101 : decode cL_act 101 = .ok (.sipush (-973), 3) := by decide +kernel
theorem dL_act_104 : decode cL_act 104 = .ok (.ireturn, 1) := by decide +kernel
theorem dL_setRule_0 : decode cL_setRule 0 = .ok (.aload_n 0, 1) := by decide +kernel
theorem dL_setRule_1 : decode cL_setRule 1 = .ok (.iload_n 1, 1) := by decide +kernel
theorem dL_setRule_2 : decode cL_setRule 2 = .ok (.iload_n 2, 1) := by decide +kernel
theorem dL_setRule_3 : decode cL_setRule 3 = .ok (.iload_n 3, 1) := by decide +kernel
theorem dL_setRule_4 : decode cL_setRule 4 = .ok (.invokevirtual 40, 3) := by decide +kernel
theorem dL_setRule_7 : decode cL_setRule 7 = .ok (.iconst 0, 1) := by decide +kernel
theorem dL_setRule_8 : decode cL_setRule 8 = .ok (.ireturn, 1) := by decide +kernel
theorem dL_setRule_9 : decode cL_setRule 9 = .ok (.astore 4, 2) := by decide +kernel
theorem dL_setRule_11 : decode cL_setRule 11 = .ok (.sipush (-971), 3) := by decide +kernel
theorem dL_setRule_14 : decode cL_setRule 14 = .ok (.ireturn, 1) := by decide +kernel
theorem dL_setRule_15 : decode cL_setRule 15 = .ok (.astore 4, 2) := by decide +kernel
theorem dL_setRule_17 : decode cL_setRule 17 = .ok (.sipush (-972), 3) := by decide +kernel
theorem dL_setRule_20 : decode cL_setRule 20 = .ok (.ireturn, 1) := by decide +kernel
theorem dL_of_0 : decode cL_of 0 = .ok (.iload_n 1, 1) := by decide +kernel
theorem dL_of_1 : decode cL_of 1 = .ok (.ifCond .ne 11, 3) := by decide +kernel
theorem dL_of_4 : decode cL_of 4 = .ok (.aload_n 0, 1) := by decide +kernel
theorem dL_of_5 : decode cL_of 5 = .ok (.iload_n 2, 1) := by decide +kernel
theorem dL_of_6 : decode cL_of 6 = .ok (.invokevirtual 44, 3) := by decide +kernel
theorem dL_of_9 : decode cL_of 9 = .ok (.goto 68, 3) := by decide +kernel
theorem dL_of_12 : decode cL_of 12 = .ok (.iload_n 1, 1) := by decide +kernel
theorem dL_of_13 : decode cL_of 13 = .ok (.iconst 1, 1) := by decide +kernel
theorem dL_of_14 : decode cL_of 14 = .ok (.if_icmp .ne 11, 3) := by decide +kernel
theorem dL_of_17 : decode cL_of 17 = .ok (.aload_n 0, 1) := by decide +kernel
theorem dL_of_18 : decode cL_of 18 = .ok (.iload_n 2, 1) := by decide +kernel
theorem dL_of_19 : decode cL_of 19 = .ok (.invokevirtual 47, 3) := by decide +kernel
theorem dL_of_22 : decode cL_of 22 = .ok (.goto 55, 3) := by decide +kernel
theorem dL_of_25 : decode cL_of 25 = .ok (.iload_n 1, 1) := by decide +kernel
theorem dL_of_26 : decode cL_of 26 = .ok (.iconst 2, 1) := by decide +kernel
theorem dL_of_27 : decode cL_of 27 = .ok (.if_icmp .ne 11, 3) := by decide +kernel
theorem dL_of_30 : decode cL_of 30 = .ok (.aload_n 0, 1) := by decide +kernel
theorem dL_of_31 : decode cL_of 31 = .ok (.iload_n 2, 1) := by decide +kernel
theorem dL_of_32 : decode cL_of 32 = .ok (.invokevirtual 50, 3) := by decide +kernel
theorem dL_of_35 : decode cL_of 35 = .ok (.goto 42, 3) := by decide +kernel
theorem dL_of_38 : decode cL_of 38 = .ok (.iload_n 1, 1) := by decide +kernel
theorem dL_of_39 : decode cL_of 39 = .ok (.iconst 3, 1) := by decide +kernel
theorem dL_of_40 : decode cL_of 40 = .ok (.if_icmp .ne 11, 3) := by decide +kernel
theorem dL_of_43 : decode cL_of 43 = .ok (.aload_n 0, 1) := by decide +kernel
theorem dL_of_44 : decode cL_of 44 = .ok (.iload_n 2, 1) := by decide +kernel
theorem dL_of_45 : decode cL_of 45 = .ok (.invokevirtual 53, 3) := by decide +kernel
theorem dL_of_48 : decode cL_of 48 = .ok (.goto 29, 3) := by decide +kernel
theorem dL_of_51 : decode cL_of 51 = .ok (.iload_n 1, 1) := by decide +kernel
theorem dL_of_52 : decode cL_of 52 = .ok (.iconst 4, 1) := by decide +kernel
theorem dL_of_53 : decode cL_of 53 = .ok (.if_icmp .ne 11, 3) := by decide +kernel
theorem dL_of_56 : decode cL_of 56 = .ok (.aload_n 0, 1) := by decide +kernel
theorem dL_of_57 : decode cL_of 57 = .ok (.iload_n 2, 1) := by decide +kernel
theorem dL_of_58 : decode cL_of 58 = .ok (.invokevirtual 56, 3) := by decide +kernel
theorem dL_of_61 : decode cL_of 61 = .ok (.goto 16, 3) := by decide +kernel
theorem dL_of_64 : decode cL_of 64 = .ok (.aload_n 0, 1) := by decide +kernel
theorem dL_of_65 : decode cL_of 65 = .ok (.iload_n 2, 1) := by decide +kernel
theorem dL_of_66 : decode cL_of 66 = .ok (.invokevirtual 59, 3) := by decide +kernel
theorem dL_of_69 : decode cL_of 69 = .ok (.ifCond .eq 7, 3) := by decide +kernel
theorem dL_of_72 : decode cL_of 72 = .ok (.iconst 1, 1) := by decide +kernel
theorem dL_of_73 : decode cL_of 73 = .ok (.goto 4, 3) := by decide +kernel
theorem dL_of_76 : decode cL_of 76 = .ok (.iconst 0, 1) := by decide +kernel
theorem dL_of_77 : decode cL_of 77 = .ok (.ireturn, 1) := by decide +kernel
theorem dL_of_78 : decode cL_of 78 = .ok (.astore_n 3, 1) := by decide +kernel
theorem dL_of_79 : decode cL_of 79 = .ok (.sipush (-971), 3) := by decide +kernel
theorem dL_of_82 : decode cL_of 82 = .ok (.ireturn, 1) := by decide +kernel
theorem dL_slope_0 : decode cL_slope 0 = .ok (.iload_n 1, 1) := by decide +kernel
theorem dL_slope_1 : decode cL_slope 1 = .ok (.ifCond .eq 11, 3) := by decide +kernel
theorem dL_slope_4 : decode cL_slope 4 = .ok (.aload_n 0, 1) := by decide +kernel
theorem dL_slope_5 : decode cL_slope 5 = .ok (.iload_n 2, 1) := by decide +kernel
theorem dL_slope_6 : decode cL_slope 6 = .ok (.invokevirtual 63, 3) := by decide +kernel
theorem dL_slope_9 : decode cL_slope 9 = .ok (.goto 8, 3) := by decide +kernel
theorem dL_slope_12 : decode cL_slope 12 = .ok (.aload_n 0, 1) := by decide +kernel
theorem dL_slope_13 : decode cL_slope 13 = .ok (.iload_n 2, 1) := by decide +kernel
theorem dL_slope_14 : decode cL_slope 14 = .ok (.invokevirtual 66, 3) := by decide +kernel
theorem dL_slope_17 : decode cL_slope 17 = .ok (.ireturn, 1) := by decide +kernel
