theorem dX7_addStore_54 : decode cX7_addStore 54 = .ok (.ireturn, 1) := by decide +kernel
theorem dX7_setSize_0 : decode cX7_setSize 0 = .ok (.aload_n 0, 1) := by decide +kernel
theorem dX7_setSize_1 : decode cX7_setSize 1 = .ok (.iload_n 1, 1) := by decide +kernel
theorem dX7_setSize_2 : decode cX7_setSize 2 = .ok (.invokevirtual 45, 3) := by decide +kernel
theorem dX7_setSize_5 : decode cX7_setSize 5 = .ok (.astore_n 3, 1) := by decide +kernel
theorem dX7_setSize_6 : decode cX7_setSize 6 = .ok (.iload_n 2, 1) := by decide +kernel
theorem dX7_setSize_7 : decode cX7_setSize 7 = .ok (.iconst 1, 1) := by decide +kernel
theorem dX7_setSize_8 : decode cX7_setSize 8 = .ok (.ldc 20, 2) := by decide +kernel
theorem dX7_setSize_10 : decode cX7_setSize 10 = .ok (.invokestatic 21, 3) := by decide +kernel
theorem dX7_setSize_13 : decode cX7_setSize 13 = .ok (.aload_n 3, 1) := by decide +kernel
theorem dX7_setSize_14 : decode cX7_setSize 14 = .ok (.getfield 49, 3) := by decide +kernel
theorem dX7_setSize_17 : decode cX7_setSize 17 = .ok (.istore 4, 2) := by decide +kernel
theorem dX7_setSize_19 : decode cX7_setSize 19 = .ok (.aload_n 3, 1) := by decide +kernel
theorem dX7_setSize_20 : decode cX7_setSize 20 = .ok (.iload_n 2, 1) := by decide +kernel
theorem dX7_setSize_21 : decode cX7_setSize 21 = .ok (.putfield 49, 3) := by decide +kernel
theorem dX7_setSize_24 : decode cX7_setSize 24 = .ok (.iload 4, 2) := by decide +kernel
theorem dX7_setSize_26 : decode cX7_setSize 26 = .ok (.ireturn, 1) := by decide +kernel
theorem dX7_sample_0 : decode cX7_sample 0 = .ok (.aload_n 0, 1) := by decide +kernel
theorem dX7_sample_1 : decode cX7_sample 1 = .ok (.iload_n 1, 1) := by decide +kernel
theorem dX7_sample_2 : decode cX7_sample 2 = .ok (.invokevirtual 45, 3) := by decide +kernel
theorem dX7_sample_5 : decode cX7_sample 5 = .ok (.astore_n 3, 1) := by decide +kernel
theorem dX7_sample_6 : decode cX7_sample 6 = .ok (.iload_n 2, 1) := by decide +kernel
theorem dX7_sample_7 : decode cX7_sample 7 = .ok (.iconst 0, 1) := by decide +kernel
theorem dX7_sample_8 : decode cX7_sample 8 = .ok (.ldc 20, 2) := by decide +kernel
theorem dX7_sample_10 : decode cX7_sample 10 = .ok (.invokestatic 21, 3) := by decide +kernel
theorem dX7_sample_13 : decode cX7_sample 13 = .ok (.aload_n 3, 1) := by decide +kernel
theorem dX7_sample_14 : decode cX7_sample 14 = .ok (.aload_n 0, 1) := by decide +kernel
theorem dX7_sample_15 : decode cX7_sample 15 = .ok (.getfield 16, 3) := by decide +kernel
theorem dX7_sample_18 : decode cX7_sample 18 = .ok (.iload_n 2, 1) := by decide +kernel
theorem dX7_sample_19 : decode cX7_sample 19 = .ok (.invokevirtual 51, 3) := by decide +kernel
theorem dX7_sample_22 : decode cX7_sample 22 = .ok (.aload_n 3, 1) := by decide +kernel
theorem dX7_sample_23 : decode cX7_sample 23 = .ok (.getfield 55, 3) := by decide +kernel
theorem dX7_sample_26 : decode cX7_sample 26 = .ok (.invokevirtual 59, 3) := by decide +kernel
theorem dX7_sample_29 : decode cX7_sample 29 = .ok (.ireturn, 1) := by decide +kernel
theorem dX7_clean_0 : decode cX7_clean 0 = .ok (.aload_n 0, 1) := by decide +kernel
theorem dX7_clean_1 : decode cX7_clean 1 = .ok (.iload_n 1, 1) := by decide +kernel
theorem dX7_clean_2 : decode cX7_clean 2 = .ok (.invokevirtual 45, 3) := by decide +kernel
theorem dX7_clean_5 : decode cX7_clean 5 = .ok (.astore_n 3, 1) := by decide +kernel
theorem dX7_clean_6 : decode cX7_clean 6 = .ok (.iload_n 2, 1) := by decide +kernel
theorem dX7_clean_7 : decode cX7_clean 7 = .ok (.iconst 1, 1) := by decide +kernel
theorem dX7_clean_8 : decode cX7_clean 8 = .ok (.ldc 64, 2) := by decide +kernel
theorem dX7_clean_10 : decode cX7_clean 10 = .ok (.invokestatic 21, 3) := by decide +kernel
theorem dX7_clean_13 : decode cX7_clean 13 = .ok (.aload_n 3, 1) := by decide +kernel
theorem dX7_clean_14 : decode cX7_clean 14 = .ok (.getfield 65, 3) := by decide +kernel
theorem dX7_clean_17 : decode cX7_clean 17 = .ok (.invokevirtual 69, 3) := by decide +kernel
theorem dX7_clean_20 : decode cX7_clean 20 = .ok (.bipush 60, 2) := by decide +kernel
theorem dX7_clean_22 : decode cX7_clean 22 = .ok (.if_icmp .lt 13, 3) := by decide +kernel
theorem dX7_clean_25 : decode cX7_clean 25 = .ok (.new 29, 3) := by decide +kernel
theorem dX7_clean_28 : decode cX7_clean 28 = .ok (.dup, 1) := by decide +kernel
theorem dX7_clean_29 : decode cX7_clean 29 = .ok (.ldc 72, 2) := by decide +kernel
theorem dX7_clean_31 : decode cX7_clean 31 = .ok (.invokespecial 33, 3) := by decide +kernel
theorem dX7_clean_34 : decode cX7_clean 34 = .ok (.athrow, 1) := by decide +kernel
theorem dX7_clean_35 : decode cX7_clean 35 = .ok (.aload_n 3, 1) := by decide +kernel
theorem dX7_clean_36 : decode cX7_clean 36 = .ok (.aload_n 0, 1) := by decide +kernel
theorem dX7_clean_37 : decode cX7_clean 37 = .ok (.getfield 16, 3) := by decide +kernel
theorem dX7_clean_40 : decode cX7_clean 40 = .ok (.iload_n 2, 1) := by decide +kernel
theorem dX7_clean_41 : decode cX7_clean 41 = .ok (.invokevirtual 74, 3) := by decide +kernel
theorem dX7_clean_44 : decode cX7_clean 44 = .ok (.aload_n 3, 1) := by decide +kernel
theorem dX7_clean_45 : decode cX7_clean 45 = .ok (.getfield 65, 3) := by decide +kernel
theorem dX7_clean_48 : decode cX7_clean 48 = .ok (.invokevirtual 69, 3) := by decide +kernel
theorem dX7_clean_51 : decode cX7_clean 51 = .ok (.ireturn, 1) := by decide +kernel
theorem dX7_setRule_0 : decode cX7_setRule 0 = .ok (.aload_n 0, 1) := by decide +kernel
theorem dX7_setRule_1 : decode cX7_setRule 1 = .ok (.iload_n 1, 1) := by decide +kernel
theorem dX7_setRule_2 : decode cX7_setRule 2 = .ok (.invokevirtual 45, 3) := by decide +kernel
theorem dX7_setRule_5 : decode cX7_setRule 5 = .ok (.astore 4, 2) := by decide +kernel
theorem dX7_setRule_7 : decode cX7_setRule 7 = .ok (.iload_n 2, 1) := by decide +kernel
theorem dX7_setRule_8 : decode cX7_setRule 8 = .ok (.iconst 0, 1) := by decide +kernel
theorem dX7_setRule_9 : decode cX7_setRule 9 = .ok (.sipush 3000, 3) := by decide +kernel
theorem dX7_setRule_12 : decode cX7_setRule 12 = .ok (.invokestatic 21, 3) := by decide +kernel
theorem dX7_setRule_15 : decode cX7_setRule 15 = .ok (.iload_n 3, 1) := by decide +kernel
theorem dX7_setRule_16 : decode cX7_setRule 16 = .ok (.iconst 0, 1) := by decide +kernel
theorem dX7_setRule_17 : decode cX7_setRule 17 = .ok (.bipush 100, 2) := by decide +kernel
theorem dX7_setRule_19 : decode cX7_setRule 19 = .ok (.invokestatic 21, 3) := by decide +kernel
theorem dX7_setRule_22 : decode cX7_setRule 22 = .ok (.aload 4, 2) := by decide +kernel
theorem dX7_setRule_24 : decode cX7_setRule 24 = .ok (.getfield 77, 3) := by decide +kernel
theorem dX7_setRule_27 : decode cX7_setRule 27 = .ok (.iload_n 2, 1) := by decide +kernel
theorem dX7_setRule_28 : decode cX7_setRule 28 = .ok (.iload_n 3, 1) := by decide +kernel
theorem dX7_setRule_29 : decode cX7_setRule 29 = .ok (.invokevirtual 81, 3) := by decide +kernel
theorem dX7_setRule_32 : decode cX7_setRule 32 = .ok (.return_, 1) := by decide +kernel
theorem dX7_pass_0 : decode cX7_pass 0 = .ok (.iload_n 1, 1) := by decide +kernel
theorem dX7_pass_1 : decode cX7_pass 1 = .ok (.iconst 1, 1) := by decide +kernel
theorem dX7_pass_2 : decode cX7_pass 2 = .ok (.bipush 100, 2) := by decide +kernel
theorem dX7_pass_4 : decode cX7_pass 4 = .ok (.invokestatic 21, 3) := by decide +kernel
theorem dX7_pass_7 : decode cX7_pass 7 = .ok (.aload_n 0, 1) := by decide +kernel
theorem dX7_pass_8 : decode cX7_pass 8 = .ok (.getfield 16, 3) := by decide +kernel
theorem dX7_pass_11 : decode cX7_pass 11 = .ok (.iload_n 1, 1) := by decide +kernel
theorem dX7_pass_12 : decode cX7_pass 12 = .ok (.iadd, 1) := by decide +kernel
theorem dX7_pass_13 : decode cX7_pass 13 = .ok (.sipush 2000, 3) := by decide +kernel
theorem dX7_pass_16 : decode cX7_pass 16 = .ok (.if_icmp .le 13, 3) := by decide +kernel
theorem dX7_pass_19 : decode cX7_pass 19 = .ok (.new 29, 3) := by decide +kernel
theorem dX7_pass_22 : decode cX7_pass 22 = .ok (.dup, 1) := by decide +kernel
theorem dX7_pass_23 : decode cX7_pass 23 = .ok (.ldc 86, 2) := by decide +kernel
theorem dX7_pass_25 : decode cX7_pass 25 = .ok (.invokespecial 33, 3) := by decide +kernel
theorem dX7_pass_28 : decode cX7_pass 28 = .ok (.athrow, 1) := by decide +kernel
theorem dX7_pass_29 : decode cX7_pass 29 = .ok (.iconst 0, 1) := by decide +kernel
theorem dX7_pass_30 : decode cX7_pass 30 = .ok (.istore_n 2, 1) := by decide +kernel
theorem dX7_pass_31 : decode cX7_pass 31 = .ok (.iconst 0, 1) := by decide +kernel
theorem dX7_pass_32 : decode cX7_pass 32 = .ok (.istore_n 3, 1) := by decide +kernel
theorem dX7_pass_33 : decode cX7_pass 33 = .ok (.iload_n 3, 1) := by decide +kernel
theorem dX7_pass_34 : decode cX7_pass 34 = .ok (.aload_n 0, 1) := by decide +kernel
theorem dX7_pass_35 : decode cX7_pass 35 = .ok (.getfield 12, 3) := by decide +kernel
theorem dX7_pass_38 : decode cX7_pass 38 = .ok (.invokevirtual 25, 3) := by decide +kernel
theorem dX7_pass_41 : decode cX7_pass 41 = .ok (.if_icmp .ge 31, 3) := by decide +kernel
theorem dX7_pass_44 : decode cX7_pass 44 = .ok (.iload_n 2, 1) := by decide +kernel
theorem dX7_pass_45 : decode cX7_pass 45 = .ok (.aload_n 0, 1) := by decide +kernel
theorem dX7_pass_46 : decode cX7_pass 46 = .ok (.getfield 12, 3) := by decide +kernel
theorem dX7_pass_49 : decode cX7_pass 49 = .ok (.iload_n 3, 1) := by decide +kernel
theorem dX7_pass_50 : decode cX7_pass 50 = .ok (.invokevirtual 88, 3) := by decide +kernel
theorem dX7_pass_53 : decode cX7_pass 53 = .ok (.checkcast 36, 3) := by decide +kernel
theorem dX7_pass_56 : decode cX7_pass 56 = .ok (.aload_n 0, 1) := by decide +kernel
theorem dX7_pass_57 : decode cX7_pass 57 = .ok (.getfield 16, 3) := by decide +kernel
theorem dX7_pass_60 : decode cX7_pass 60 = .ok (.iload_n 1, 1) := by decide +kernel
theorem dX7_pass_61 : decode cX7_pass 61 = .ok (.invokevirtual 92, 3) := by decide +kernel
theorem dX7_pass_64 : decode cX7_pass 64 = .ok (.iadd, 1) := by decide +kernel
theorem dX7_pass_65 : decode cX7_pass 65 = .ok (.istore_n 2, 1) := by decide +kernel
theorem dX7_pass_66 : decode cX7_pass 66 = .ok (.iinc 3 1, 3) := by decide +kernel
theorem dX7_pass_69 : decode cX7_pass 69 = .ok (.goto (-36), 3) := by decide +kernel
theorem dX7_pass_72 : decode cX7_pass 72 = .ok (.aload_n 0, 1) := by decide +kernel
theorem dX7_pass_73 : decode cX7_pass 73 = .ok (.dup, 1) := by decide +kernel
theorem dX7_pass_74 : decode cX7_pass 74 = .ok (.getfield 16, 3) := by decide +kernel
theorem dX7_pass_77 : decode cX7_pass 77 = .ok (.iload_n 1, 1) := by decide +kernel
theorem dX7_pass_78 : decode cX7_pass 78 = .ok (.iadd, 1) := by decide +kernel
theorem dX7_pass_79 : decode cX7_pass 79 = .ok (.putfield 16, 3) := by decide +kernel
theorem dX7_pass_82 : decode cX7_pass 82 = .ok (.iload_n 2, 1) := by decide +kernel
theorem dX7_pass_83 : decode cX7_pass 83 = .ok (.ireturn, 1) := by decide +kernel
theorem dX7_today_0 : decode cX7_today 0 = .ok (.aload_n 0, 1) := by decide +kernel
theorem dX7_today_1 : decode cX7_today 1 = .ok (.getfield 16, 3) := by decide +kernel
theorem dX7_today_4 : decode cX7_today 4 = .ok (.ireturn, 1) := by decide +kernel
theorem dX7_samples_0 : decode cX7_samples 0 = .ok (.aload_n 0, 1) := by decide +kernel
theorem dX7_samples_1 : decode cX7_samples 1 = .ok (.iload_n 1, 1) := by decide +kernel
theorem dX7_samples_2 : decode cX7_samples 2 = .ok (.invokevirtual 45, 3) := by decide +kernel
theorem dX7_samples_5 : decode cX7_samples 5 = .ok (.getfield 55, 3) := by decide +kernel
theorem dX7_samples_8 : decode cX7_samples 8 = .ok (.invokevirtual 59, 3) := by decide +kernel
theorem dX7_samples_11 : decode cX7_samples 11 = .ok (.ireturn, 1) := by decide +kernel
theorem dX7_slopeNumerator_0 : decode cX7_slopeNumerator 0 = .ok (.aload_n 0, 1) := by decide +kernel
theorem dX7_slopeNumerator_1 : decode cX7_slopeNumerator 1 = .ok (.iload_n 1, 1) := by decide +kernel
theorem dX7_slopeNumerator_2 : decode cX7_slopeNumerator 2 = .ok (.invokevirtual 96, 3) := by decide +kernel
theorem dX7_slopeNumerator_5 : decode cX7_slopeNumerator 5 = .ok (.invokevirtual 100, 3) := by decide +kernel
theorem dX7_slopeNumerator_8 : decode cX7_slopeNumerator 8 = .ok (.ireturn, 1) := by decide +kernel
theorem dX7_slopeDenominator_0 : decode cX7_slopeDenominator 0 = .ok (.aload_n 0, 1) := by decide +kernel
theorem dX7_slopeDenominator_1 : decode cX7_slopeDenominator 1 = .ok (.iload_n 1, 1) := by decide +kernel
theorem dX7_slopeDenominator_2 : decode cX7_slopeDenominator 2 = .ok (.invokevirtual 96, 3) := by decide +kernel
theorem dX7_slopeDenominator_5 : decode cX7_slopeDenominator 5 = .ok (.invokevirtual 105, 3) := by decide +kernel
theorem dX7_slopeDenominator_8 : decode cX7_slopeDenominator 8 = .ok (.ireturn, 1) := by decide +kernel
theorem dX7_usual_0 : decode cX7_usual 0 = .ok (.aload_n 0, 1) := by decide +kernel
theorem dX7_usual_1 : decode cX7_usual 1 = .ok (.iload_n 1, 1) := by decide +kernel
theorem dX7_usual_2 : decode cX7_usual 2 = .ok (.invokevirtual 45, 3) := by decide +kernel
theorem dX7_usual_5 : decode cX7_usual 5 = .ok (.getfield 65, 3) := by decide +kernel
theorem dX7_usual_8 : decode cX7_usual 8 = .ok (.invokevirtual 108, 3) := by decide +kernel
theorem dX7_usual_11 : decode cX7_usual 11 = .ok (.ireturn, 1) := by decide +kernel
theorem dX7_forecast_0 : decode cX7_forecast 0 = .ok (.aload_n 0, 1) := by decide +kernel
theorem dX7_forecast_1 : decode cX7_forecast 1 = .ok (.iload_n 1, 1) := by decide +kernel
theorem dX7_forecast_2 : decode cX7_forecast 2 = .ok (.invokevirtual 45, 3) := by decide +kernel
theorem dX7_forecast_5 : decode cX7_forecast 5 = .ok (.astore_n 3, 1) := by decide +kernel
theorem dX7_forecast_6 : decode cX7_forecast 6 = .ok (.aload_n 0, 1) := by decide +kernel
theorem dX7_forecast_7 : decode cX7_forecast 7 = .ok (.iload_n 1, 1) := by decide +kernel
theorem dX7_forecast_8 : decode cX7_forecast 8 = .ok (.invokevirtual 96, 3) := by decide +kernel
theorem dX7_forecast_11 : decode cX7_forecast 11 = .ok (.astore 4, 2) := by decide +kernel
theorem dX7_forecast_13 : decode cX7_forecast 13 = .ok (.iload_n 2, 1) := by decide +kernel
theorem dX7_forecast_14 : decode cX7_forecast 14 = .ok (.aload 4, 2) := by decide +kernel
theorem dX7_forecast_16 : decode cX7_forecast 16 = .ok (.getfield 111, 3) := by decide +kernel
theorem dX7_forecast_19 : decode cX7_forecast 19 = .ok (.iconst 1, 1) := by decide +kernel
theorem dX7_forecast_20 : decode cX7_forecast 20 = .ok (.iadd, 1) := by decide +kernel
theorem dX7_forecast_21 : decode cX7_forecast 21 = .ok (.aload 4, 2) := by decide +kernel
theorem dX7_forecast_23 : decode cX7_forecast 23 = .ok (.getfield 111, 3) := by decide +kernel
theorem dX7_forecast_26 : decode cX7_forecast 26 = .ok (.sipush 1000, 3) := by decide +kernel
theorem dX7_forecast_29 : decode cX7_forecast 29 = .ok (.iadd, 1) := by decide +kernel
theorem dX7_forecast_30 : decode cX7_forecast 30 = .ok (.invokestatic 21, 3) := by decide +kernel
theorem dX7_forecast_33 : decode cX7_forecast 33 = .ok (.aload_n 3, 1) := by decide +kernel
theorem dX7_forecast_34 : decode cX7_forecast 34 = .ok (.iload_n 2, 1) := by decide +kernel
theorem dX7_forecast_35 : decode cX7_forecast 35 = .ok (.invokevirtual 114, 3) := by decide +kernel
theorem dX7_forecast_38 : decode cX7_forecast 38 = .ok (.ireturn, 1) := by decide +kernel
theorem dX7_full_0 : decode cX7_full 0 = .ok (.aload_n 0, 1) := by decide +kernel
theorem dX7_full_1 : decode cX7_full 1 = .ok (.iload_n 1, 1) := by decide +kernel
theorem dX7_full_2 : decode cX7_full 2 = .ok (.invokevirtual 45, 3) := by decide +kernel
theorem dX7_full_5 : decode cX7_full 5 = .ok (.invokevirtual 118, 3) := by decide +kernel
theorem dX7_full_8 : decode cX7_full 8 = .ok (.invokestatic 121, 3) := by decide +kernel
theorem dX7_full_11 : decode cX7_full 11 = .ok (.ireturn, 1) := by decide +kernel
theorem dX7_early_0 : decode cX7_early 0 = .ok (.aload_n 0, 1) := by decide +kernel
theorem dX7_early_1 : decode cX7_early 1 = .ok (.iload_n 1, 1) := by decide +kernel
theorem dX7_early_2 : decode cX7_early 2 = .ok (.invokevirtual 45, 3) := by decide +kernel
theorem dX7_early_5 : decode cX7_early 5 = .ok (.invokevirtual 124, 3) := by decide +kernel
theorem dX7_early_8 : decode cX7_early 8 = .ok (.invokestatic 121, 3) := by decide +kernel
theorem dX7_early_11 : decode cX7_early 11 = .ok (.ireturn, 1) := by decide +kernel
theorem dX7_late_0 : decode cX7_late 0 = .ok (.aload_n 0, 1) := by decide +kernel
theorem dX7_late_1 : decode cX7_late 1 = .ok (.iload_n 1, 1) := by decide +kernel
theorem dX7_late_2 : decode cX7_late 2 = .ok (.invokevirtual 45, 3) := by decide +kernel
theorem dX7_late_5 : decode cX7_late 5 = .ok (.invokevirtual 127, 3) := by decide +kernel
theorem dX7_late_8 : decode cX7_late 8 = .ok (.invokestatic 121, 3) := by decide +kernel
theorem dX7_late_11 : decode cX7_late 11 = .ok (.ireturn, 1) := by decide +kernel
theorem dX7_warns_0 : decode cX7_warns 0 = .ok (.aload_n 0, 1) := by decide +kernel
theorem dX7_warns_1 : decode cX7_warns 1 = .ok (.iload_n 1, 1) := by decide +kernel
theorem dX7_warns_2 : decode cX7_warns 2 = .ok (.invokevirtual 45, 3) := by decide +kernel
theorem dX7_warns_5 : decode cX7_warns 5 = .ok (.getfield 130, 3) := by decide +kernel
theorem dX7_warns_8 : decode cX7_warns 8 = .ok (.getfield 134, 3) := by decide +kernel
theorem dX7_warns_11 : decode cX7_warns 11 = .ok (.ireturn, 1) := by decide +kernel
theorem dX7_poolFull_0 : decode cX7_poolFull 0 = .ok (.iload_n 1, 1) := by decide +kernel
theorem dX7_poolFull_1 : decode cX7_poolFull 1 = .ok (.ifCond .eq 15, 3) := by decide +kernel
theorem dX7_poolFull_4 : decode cX7_poolFull 4 = .ok (.iload_n 1, 1) := by decide +kernel
theorem dX7_poolFull_5 : decode cX7_poolFull 5 = .ok (.aload_n 0, 1) := by decide +kernel
theorem dX7_poolFull_6 : decode cX7_poolFull 6 = .ok (.getfield 12, 3) := by decide +kernel
theorem dX7_poolFull_9 : decode cX7_poolFull 9 = .ok (.invokevirtual 25, 3) := by decide +kernel
theorem dX7_poolFull_12 : decode cX7_poolFull 12 = .ok (.iushr, 1) := by decide +kernel
theorem dX7_poolFull_13 : decode cX7_poolFull 13 = .ok (.ifCond .eq 13, 3) := by decide +kernel
theorem dX7_poolFull_16 : decode cX7_poolFull 16 = .ok (.new 140, 3) := by decide +kernel
theorem dX7_poolFull_19 : decode cX7_poolFull 19 = .ok (.dup, 1) := by decide +kernel
theorem dX7_poolFull_20 : decode cX7_poolFull 20 = .ok (.ldc 142, 2) := by decide +kernel
theorem dX7_poolFull_22 : decode cX7_poolFull 22 = .ok (.invokespecial 144, 3) := by decide +kernel
theorem dX7_poolFull_25 : decode cX7_poolFull 25 = .ok (.athrow, 1) := by decide +kernel
theorem dX7_poolFull_26 : decode cX7_poolFull 26 = .ok (.aload_n 0, 1) := by decide +kernel
theorem dX7_poolFull_27 : decode cX7_poolFull 27 = .ok (.iload_n 1, 1) := by decide +kernel
theorem dX7_poolFull_28 : decode cX7_poolFull 28 = .ok (.invokevirtual 145, 3) := by decide +kernel
theorem dX7_poolFull_31 : decode cX7_poolFull 31 = .ok (.ifCond .ne 5, 3) := by decide +kernel
theorem dX7_poolFull_34 : decode cX7_poolFull 34 = .ok (.iconst (-1), 1) := by decide +kernel
theorem dX7_poolFull_35 : decode cX7_poolFull 35 = .ok (.ireturn, 1) := by decide +kernel
theorem dX7_poolFull_36 : decode cX7_poolFull 36 = .ok (.aload_n 0, 1) := by decide +kernel
theorem dX7_poolFull_37 : decode cX7_poolFull 37 = .ok (.iload_n 1, 1) := by decide +kernel
theorem dX7_poolFull_38 : decode cX7_poolFull 38 = .ok (.invokevirtual 149, 3) := by decide +kernel
theorem dX7_poolFull_41 : decode cX7_poolFull 41 = .ok (.lstore_n 2, 1) := by decide +kernel
theorem dX7_poolFull_42 : decode cX7_poolFull 42 = .ok (.iconst 1, 1) := by decide +kernel
theorem dX7_poolFull_43 : decode cX7_poolFull 43 = .ok (.istore 4, 2) := by decide +kernel
theorem dX7_poolFull_45 : decode cX7_poolFull 45 = .ok (.iload 4, 2) := by decide +kernel
theorem dX7_poolFull_47 : decode cX7_poolFull 47 = .ok (.sipush 1000, 3) := by decide +kernel
theorem dX7_poolFull_50 : decode cX7_poolFull 50 = .ok (.if_icmp .gt 34, 3) := by decide +kernel
theorem dX7_poolFull_53 : decode cX7_poolFull 53 = .ok (.aload_n 0, 1) := by decide +kernel
theorem dX7_poolFull_54 : decode cX7_poolFull 54 = .ok (.iload_n 1, 1) := by decide +kernel
theorem dX7_poolFull_55 : decode cX7_poolFull 55 = .ok (.aload_n 0, 1) := by decide +kernel
theorem dX7_poolFull_56 : decode cX7_poolFull 56 = .ok (.getfield 16, 3) := by decide +kernel
theorem dX7_poolFull_59 : decode cX7_poolFull 59 = .ok (.iload 4, 2) := by decide +kernel
theorem dX7_poolFull_61 : decode cX7_poolFull 61 = .ok (.iadd, 1) := by decide +kernel
theorem dX7_poolFull_62 : decode cX7_poolFull 62 = .ok (.invokevirtual 153, 3) := by decide +kernel
theorem dX7_poolFull_65 : decode cX7_poolFull 65 = .ok (.lload_n 2, 1) := by decide +kernel
theorem dX7_poolFull_66 : decode cX7_poolFull 66 = .ok (.lcmp, 1) := by decide +kernel
theorem dX7_poolFull_67 : decode cX7_poolFull 67 = .ok (.ifCond .lt 11, 3) := by decide +kernel
theorem dX7_poolFull_70 : decode cX7_poolFull 70 = .ok (.aload_n 0, 1) := by decide +kernel
theorem dX7_poolFull_71 : decode cX7_poolFull 71 = .ok (.getfield 16, 3) := by decide +kernel
theorem dX7_poolFull_74 : decode cX7_poolFull 74 = .ok (.iload 4, 2) := by decide +kernel
theorem dX7_poolFull_76 : decode cX7_poolFull 76 = .ok (.iadd, 1) := by decide +kernel
theorem dX7_poolFull_77 : decode cX7_poolFull 77 = .ok (.ireturn, 1) := by decide +kernel
theorem dX7_poolFull_78 : decode cX7_poolFull 78 = .ok (.iinc 4 1, 3) := by decide +kernel
theorem dX7_poolFull_81 : decode cX7_poolFull 81 = .ok (.goto (-36), 3) := by decide +kernel
theorem dX7_poolFull_84 : decode cX7_poolFull 84 = .ok (.iconst (-1), 1) := by decide +kernel
theorem dX7_poolFull_85 : decode cX7_poolFull 85 = .ok (.ireturn, 1) := by decide +kernel
theorem dX7_demandRange_0 : decode cX7_demandRange 0 = .ok (.iload_n 0, 1) := by decide +kernel
theorem dX7_demandRange_1 : decode cX7_demandRange 1 = .ok (.iload_n 1, 1) := by decide +kernel
theorem dX7_demandRange_2 : decode cX7_demandRange 2 = .ok (.if_icmp .lt 8, 3) := by decide +kernel
theorem dX7_demandRange_5 : decode cX7_demandRange 5 = .ok (.iload_n 0, 1) := by decide +kernel
theorem dX7_demandRange_6 : decode cX7_demandRange 6 = .ok (.iload_n 2, 1) := by decide +kernel
theorem dX7_demandRange_7 : decode cX7_demandRange 7 = .ok (.if_icmp .le 13, 3) := by decide +kernel
theorem dX7_demandRange_10 : decode cX7_demandRange 10 = .ok (.new 140, 3) := by decide +kernel
theorem dX7_demandRange_13 : decode cX7_demandRange 13 = .ok (.dup, 1) := by decide +kernel
theorem dX7_demandRange_14 : decode cX7_demandRange 14 = .ok (.ldc 157, 2) := by decide +kernel
theorem dX7_demandRange_16 : decode cX7_demandRange 16 = .ok (.invokespecial 144, 3) := by decide +kernel
theorem dX7_demandRange_19 : decode cX7_demandRange 19 = .ok (.athrow, 1) := by decide +kernel
theorem dX7_demandRange_20 : decode cX7_demandRange 20 = .ok (.return_, 1) := by decide +kernel
theorem dX7_storeAt_0 : decode cX7_storeAt 0 = .ok (.iload_n 1, 1) := by decide +kernel
theorem dX7_storeAt_1 : decode cX7_storeAt 1 = .ok (.ifCond .lt 14, 3) := by decide +kernel
theorem dX7_storeAt_4 : decode cX7_storeAt 4 = .ok (.iload_n 1, 1) := by decide +kernel
theorem dX7_storeAt_5 : decode cX7_storeAt 5 = .ok (.aload_n 0, 1) := by decide +kernel
theorem dX7_storeAt_6 : decode cX7_storeAt 6 = .ok (.getfield 12, 3) := by decide +kernel
theorem dX7_storeAt_9 : decode cX7_storeAt 9 = .ok (.invokevirtual 25, 3) := by decide +kernel
theorem dX7_storeAt_12 : decode cX7_storeAt 12 = .ok (.if_icmp .lt 13, 3) := by decide +kernel
theorem dX7_storeAt_15 : decode cX7_storeAt 15 = .ok (.new 159, 3) := by decide +kernel
theorem dX7_storeAt_18 : decode cX7_storeAt 18 = .ok (.dup, 1) := by decide +kernel
theorem dX7_storeAt_19 : decode cX7_storeAt 19 = .ok (.ldc 161, 2) := by decide +kernel
theorem dX7_storeAt_21 : decode cX7_storeAt 21 = .ok (.invokespecial 163, 3) := by decide +kernel
theorem dX7_storeAt_24 : decode cX7_storeAt 24 = .ok (.athrow, 1) := by decide +kernel
theorem dX7_storeAt_25 : decode cX7_storeAt 25 = .ok (.aload_n 0, 1) := by decide +kernel
theorem dX7_storeAt_26 : decode cX7_storeAt 26 = .ok (.getfield 12, 3) := by decide +kernel
theorem dX7_storeAt_29 : decode cX7_storeAt 29 = .ok (.iload_n 1, 1) := by decide +kernel
theorem dX7_storeAt_30 : decode cX7_storeAt 30 = .ok (.invokevirtual 88, 3) := by decide +kernel
theorem dX7_storeAt_33 : decode cX7_storeAt 33 = .ok (.checkcast 36, 3) := by decide +kernel
theorem dX7_storeAt_36 : decode cX7_storeAt 36 = .ok (.areturn, 1) := by decide +kernel
theorem dX7_slopeOf_0 : decode cX7_slopeOf 0 = .ok (.aload_n 0, 1) := by decide +kernel
theorem dX7_slopeOf_1 : decode cX7_slopeOf 1 = .ok (.iload_n 1, 1) := by decide +kernel
theorem dX7_slopeOf_2 : decode cX7_slopeOf 2 = .ok (.invokevirtual 45, 3) := by decide +kernel
theorem dX7_slopeOf_5 : decode cX7_slopeOf 5 = .ok (.astore_n 2, 1) := by decide +kernel
theorem dX7_slopeOf_6 : decode cX7_slopeOf 6 = .ok (.aload_n 2, 1) := by decide +kernel
theorem dX7_slopeOf_7 : decode cX7_slopeOf 7 = .ok (.invokevirtual 164, 3) := by decide +kernel
theorem dX7_slopeOf_10 : decode cX7_slopeOf 10 = .ok (.ifCond .ne 13, 3) := by decide +kernel
theorem dX7_slopeOf_13 : decode cX7_slopeOf 13 = .ok (.new 29, 3) := by decide +kernel
theorem dX7_slopeOf_16 : decode cX7_slopeOf 16 = .ok (.dup, 1) := by decide +kernel
theorem dX7_slopeOf_17 : decode cX7_slopeOf 17 = .ok (.ldc 168, 2) := by decide +kernel
theorem dX7_slopeOf_19 : decode cX7_slopeOf 19 = .ok (.invokespecial 33, 3) := by decide +kernel
theorem dX7_slopeOf_22 : decode cX7_slopeOf 22 = .ok (.athrow, 1) := by decide +kernel
theorem dX7_slopeOf_23 : decode cX7_slopeOf 23 = .ok (.aload_n 2, 1) := by decide +kernel
theorem dX7_slopeOf_24 : decode cX7_slopeOf 24 = .ok (.iconst (-1), 1) := by decide +kernel
theorem dX7_slopeOf_25 : decode cX7_slopeOf 25 = .ok (.invokevirtual 170, 3) := by decide +kernel
theorem dX7_slopeOf_28 : decode cX7_slopeOf 28 = .ok (.aload_n 2, 1) := by decide +kernel
theorem dX7_slopeOf_29 : decode cX7_slopeOf 29 = .ok (.getfield 173, 3) := by decide +kernel
theorem dX7_slopeOf_32 : decode cX7_slopeOf 32 = .ok (.areturn, 1) := by decide +kernel
theorem dX7_dayOrNone_0 : decode cX7_dayOrNone 0 = .ok (.iload_n 0, 1) := by decide +kernel
theorem dX7_dayOrNone_1 : decode cX7_dayOrNone 1 = .ok (.ldc 20, 2) := by decide +kernel
theorem dX7_dayOrNone_3 : decode cX7_dayOrNone 3 = .ok (.if_icmp .ne 7, 3) := by decide +kernel
theorem dX7_dayOrNone_6 : decode cX7_dayOrNone 6 = .ok (.iconst (-1), 1) := by decide +kernel
theorem dX7_dayOrNone_7 : decode cX7_dayOrNone 7 = .ok (.goto 4, 3) := by decide +kernel
theorem dX7_dayOrNone_10 : decode cX7_dayOrNone 10 = .ok (.iload_n 0, 1) := by decide +kernel
theorem dX7_dayOrNone_11 : decode cX7_dayOrNone 11 = .ok (.ireturn, 1) := by decide +kernel
theorem dX7_middlePlace_0 : decode cX7_middlePlace 0 = .ok (.iload_n 0, 1) := by decide +kernel
theorem dX7_middlePlace_1 : decode cX7_middlePlace 1 = .ok (.iconst 1, 1) := by decide +kernel
theorem dX7_middlePlace_2 : decode cX7_middlePlace 2 = .ok (.isub, 1) := by decide +kernel
theorem dX7_middlePlace_3 : decode cX7_middlePlace 3 = .ok (.iconst 2, 1) := by decide +kernel
theorem dX7_middlePlace_4 : decode cX7_middlePlace 4 = .ok (.idiv, 1) := by decide +kernel
theorem dX7_middlePlace_5 : decode cX7_middlePlace 5 = .ok (.ireturn, 1) := by decide +kernel
theorem dX7_isInPool_0 : decode cX7_isInPool 0 = .ok (.iload_n 0, 1) := by decide +kernel
theorem dX7_isInPool_1 : decode cX7_isInPool 1 = .ok (.iload_n 1, 1) := by decide +kernel
theorem dX7_isInPool_2 : decode cX7_isInPool 2 = .ok (.iushr, 1) := by decide +kernel
theorem dX7_isInPool_3 : decode cX7_isInPool 3 = .ok (.iconst 1, 1) := by decide +kernel
theorem dX7_isInPool_4 : decode cX7_isInPool 4 = .ok (.iand, 1) := by decide +kernel
theorem dX7_isInPool_5 : decode cX7_isInPool 5 = .ok (.iconst 1, 1) := by decide +kernel
theorem dX7_isInPool_6 : decode cX7_isInPool 6 = .ok (.if_icmp .ne 7, 3) := by decide +kernel
theorem dX7_isInPool_9 : decode cX7_isInPool 9 = .ok (.iconst 1, 1) := by decide +kernel
theorem dX7_isInPool_10 : decode cX7_isInPool 10 = .ok (.goto 4, 3) := by decide +kernel
theorem dX7_isInPool_13 : decode cX7_isInPool 13 = .ok (.iconst 0, 1) := by decide +kernel
theorem dX7_isInPool_14 : decode cX7_isInPool 14 = .ok (.ireturn, 1) := by decide +kernel
theorem dX7_drawPool_0 : decode cX7_drawPool 0 = .ok (.iconst 1, 1) := by decide +kernel
theorem dX7_drawPool_1 : decode cX7_drawPool 1 = .ok (.istore_n 2, 1) := by decide +kernel
theorem dX7_drawPool_2 : decode cX7_drawPool 2 = .ok (.iconst 0, 1) := by decide +kernel
theorem dX7_drawPool_3 : decode cX7_drawPool 3 = .ok (.istore_n 3, 1) := by decide +kernel
theorem dX7_drawPool_4 : decode cX7_drawPool 4 = .ok (.iload_n 3, 1) := by decide +kernel
theorem dX7_drawPool_5 : decode cX7_drawPool 5 = .ok (.aload_n 0, 1) := by decide +kernel
theorem dX7_drawPool_6 : decode cX7_drawPool 6 = .ok (.getfield 12, 3) := by decide +kernel
theorem dX7_drawPool_9 : decode cX7_drawPool 9 = .ok (.invokevirtual 25, 3) := by decide +kernel
theorem dX7_drawPool_12 : decode cX7_drawPool 12 = .ok (.if_icmp .ge 59, 3) := by decide +kernel
theorem dX7_drawPool_15 : decode cX7_drawPool 15 = .ok (.iload_n 1, 1) := by decide +kernel
theorem dX7_drawPool_16 : decode cX7_drawPool 16 = .ok (.iload_n 3, 1) := by decide +kernel
theorem dX7_drawPool_17 : decode cX7_drawPool 17 = .ok (.invokestatic 177, 3) := by decide +kernel
theorem dX7_drawPool_20 : decode cX7_drawPool 20 = .ok (.ifCond .eq 45, 3) := by decide +kernel
theorem dX7_drawPool_23 : decode cX7_drawPool 23 = .ok (.iload_n 2, 1) := by decide +kernel
theorem dX7_drawPool_24 : decode cX7_drawPool 24 = .ok (.ifCond .eq 24, 3) := by decide +kernel
theorem dX7_drawPool_27 : decode cX7_drawPool 27 = .ok (.aload_n 0, 1) := by decide +kernel
theorem dX7_drawPool_28 : decode cX7_drawPool 28 = .ok (.getfield 12, 3) := by decide +kernel
theorem dX7_drawPool_31 : decode cX7_drawPool 31 = .ok (.iload_n 3, 1) := by decide +kernel
theorem dX7_drawPool_32 : decode cX7_drawPool 32 = .ok (.invokevirtual 88, 3) := by decide +kernel
theorem dX7_drawPool_35 : decode cX7_drawPool 35 = .ok (.checkcast 36, 3) := by decide +kernel
theorem dX7_drawPool_38 : decode cX7_drawPool 38 = .ok (.invokevirtual 164, 3) := by decide +kernel
theorem dX7_drawPool_41 : decode cX7_drawPool 41 = .ok (.ifCond .eq 7, 3) := by decide +kernel
theorem dX7_drawPool_44 : decode cX7_drawPool 44 = .ok (.iconst 1, 1) := by decide +kernel
theorem dX7_drawPool_45 : decode cX7_drawPool 45 = .ok (.goto 4, 3) := by decide +kernel
theorem dX7_drawPool_48 : decode cX7_drawPool 48 = .ok (.iconst 0, 1) := by decide +kernel
theorem dX7_drawPool_49 : decode cX7_drawPool 49 = .ok (.istore_n 2, 1) := by decide +kernel
theorem dX7_drawPool_50 : decode cX7_drawPool 50 = .ok (.aload_n 0, 1) := by decide +kernel
theorem dX7_drawPool_51 : decode cX7_drawPool 51 = .ok (.getfield 12, 3) := by decide +kernel
theorem dX7_drawPool_54 : decode cX7_drawPool 54 = .ok (.iload_n 3, 1) := by decide +kernel
theorem dX7_drawPool_55 : decode cX7_drawPool 55 = .ok (.invokevirtual 88, 3) := by decide +kernel
theorem dX7_drawPool_58 : decode cX7_drawPool 58 = .ok (.checkcast 36, 3) := by decide +kernel
theorem dX7_drawPool_61 : decode cX7_drawPool 61 = .ok (.iconst (-1), 1) := by decide +kernel
theorem dX7_drawPool_62 : decode cX7_drawPool 62 = .ok (.invokevirtual 170, 3) := by decide +kernel
theorem dX7_drawPool_65 : decode cX7_drawPool 65 = .ok (.iinc 3 1, 3) := by decide +kernel
theorem dX7_drawPool_68 : decode cX7_drawPool 68 = .ok (.goto (-64), 3) := by decide +kernel
theorem dX7_drawPool_71 : decode cX7_drawPool 71 = .ok (.iload_n 2, 1) := by decide +kernel
theorem dX7_drawPool_72 : decode cX7_drawPool 72 = .ok (.ireturn, 1) := by decide +kernel
theorem dX7_poolSize_0 : decode cX7_poolSize 0 = .ok (.lconst 0, 1) := by decide +kernel
theorem dX7_poolSize_1 : decode cX7_poolSize 1 = .ok (.lstore_n 2, 1) := by decide +kernel
theorem dX7_poolSize_2 : decode cX7_poolSize 2 = .ok (.iconst 0, 1) := by decide +kernel
theorem dX7_poolSize_3 : decode cX7_poolSize 3 = .ok (.istore 4, 2) := by decide +kernel
theorem dX7_poolSize_5 : decode cX7_poolSize 5 = .ok (.iload 4, 2) := by decide +kernel
theorem dX7_poolSize_7 : decode cX7_poolSize 7 = .ok (.aload_n 0, 1) := by decide +kernel
theorem dX7_poolSize_8 : decode cX7_poolSize 8 = .ok (.getfield 12, 3) := by decide +kernel
theorem dX7_poolSize_11 : decode cX7_poolSize 11 = .ok (.invokevirtual 25, 3) := by decide +kernel
theorem dX7_poolSize_14 : decode cX7_poolSize 14 = .ok (.if_icmp .ge 37, 3) := by decide +kernel
theorem dX7_poolSize_17 : decode cX7_poolSize 17 = .ok (.iload_n 1, 1) := by decide +kernel
theorem dX7_poolSize_18 : decode cX7_poolSize 18 = .ok (.iload 4, 2) := by decide +kernel
theorem dX7_poolSize_20 : decode cX7_poolSize 20 = .ok (.invokestatic 177, 3) := by decide +kernel
theorem dX7_poolSize_23 : decode cX7_poolSize 23 = .ok (.ifCond .eq 22, 3) := by decide +kernel
theorem dX7_poolSize_26 : decode cX7_poolSize 26 = .ok (.lload_n 2, 1) := by decide +kernel
theorem dX7_poolSize_27 : decode cX7_poolSize 27 = .ok (.aload_n 0, 1) := by decide +kernel
theorem dX7_poolSize_28 : decode cX7_poolSize 28 = .ok (.getfield 12, 3) := by decide +kernel
theorem dX7_poolSize_31 : decode cX7_poolSize 31 = .ok (.iload 4, 2) := by decide +kernel
theorem dX7_poolSize_33 : decode cX7_poolSize 33 = .ok (.invokevirtual 88, 3) := by decide +kernel
theorem dX7_poolSize_36 : decode cX7_poolSize 36 = .ok (.checkcast 36, 3) := by decide +kernel
theorem dX7_poolSize_39 : decode cX7_poolSize 39 = .ok (.getfield 49, 3) := by decide +kernel
theorem dX7_poolSize_42 : decode cX7_poolSize 42 = .ok (.i2l, 1) := by decide +kernel
theorem dX7_poolSize_43 : decode cX7_poolSize 43 = .ok (.ladd, 1) := by decide +kernel
theorem dX7_poolSize_44 : decode cX7_poolSize 44 = .ok (.lstore_n 2, 1) := by decide +kernel
theorem dX7_poolSize_45 : decode cX7_poolSize 45 = .ok (.iinc 4 1, 3) := by decide +kernel
theorem dX7_poolSize_48 : decode cX7_poolSize 48 = .ok (.goto (-43), 3) := by decide +kernel
theorem dX7_poolSize_51 : decode cX7_poolSize 51 = .ok (.lload_n 2, 1) := by decide +kernel
theorem dX7_poolSize_52 : decode cX7_poolSize 52 = .ok (.lreturn, 1) := by decide +kernel
theorem dX7_poolRoomOn_0 : decode cX7_poolRoomOn 0 = .ok (.lconst 0, 1) := by decide +kernel
theorem dX7_poolRoomOn_1 : decode cX7_poolRoomOn 1 = .ok (.lstore_n 3, 1) := by decide +kernel
theorem dX7_poolRoomOn_2 : decode cX7_poolRoomOn 2 = .ok (.iconst 0, 1) := by decide +kernel
theorem dX7_poolRoomOn_3 : decode cX7_poolRoomOn 3 = .ok (.istore 5, 2) := by decide +kernel
theorem dX7_poolRoomOn_5 : decode cX7_poolRoomOn 5 = .ok (.iload 5, 2) := by decide +kernel
theorem dX7_poolRoomOn_7 : decode cX7_poolRoomOn 7 = .ok (.aload_n 0, 1) := by decide +kernel
theorem dX7_poolRoomOn_8 : decode cX7_poolRoomOn 8 = .ok (.getfield 12, 3) := by decide +kernel
theorem dX7_poolRoomOn_11 : decode cX7_poolRoomOn 11 = .ok (.invokevirtual 25, 3) := by decide +kernel
theorem dX7_poolRoomOn_14 : decode cX7_poolRoomOn 14 = .ok (.if_icmp .ge 38, 3) := by decide +kernel
theorem dX7_poolRoomOn_17 : decode cX7_poolRoomOn 17 = .ok (.iload_n 1, 1) := by decide +kernel
theorem dX7_poolRoomOn_18 : decode cX7_poolRoomOn 18 = .ok (.iload 5, 2) := by decide +kernel
theorem dX7_poolRoomOn_20 : decode cX7_poolRoomOn 20 = .ok (.invokestatic 177, 3) := by decide +kernel
theorem dX7_poolRoomOn_23 : decode cX7_poolRoomOn 23 = .ok (.ifCond .eq 23, 3) := by decide +kernel
theorem dX7_poolRoomOn_26 : decode cX7_poolRoomOn 26 = .ok (.lload_n 3, 1) := by decide +kernel
theorem dX7_poolRoomOn_27 : decode cX7_poolRoomOn 27 = .ok (.aload_n 0, 1) := by decide +kernel
theorem dX7_poolRoomOn_28 : decode cX7_poolRoomOn 28 = .ok (.getfield 12, 3) := by decide +kernel
theorem dX7_poolRoomOn_31 : decode cX7_poolRoomOn 31 = .ok (.iload 5, 2) := by decide +kernel
theorem dX7_poolRoomOn_33 : decode cX7_poolRoomOn 33 = .ok (.invokevirtual 88, 3) := by decide +kernel
theorem dX7_poolRoomOn_36 : decode cX7_poolRoomOn 36 = .ok (.checkcast 36, 3) := by decide +kernel
theorem dX7_poolRoomOn_39 : decode cX7_poolRoomOn 39 = .ok (.iload_n 2, 1) := by decide +kernel
theorem dX7_poolRoomOn_40 : decode cX7_poolRoomOn 40 = .ok (.invokevirtual 114, 3) := by decide +kernel
theorem dX7_poolRoomOn_43 : decode cX7_poolRoomOn 43 = .ok (.i2l, 1) := by decide +kernel
theorem dX7_poolRoomOn_44 : decode cX7_poolRoomOn 44 = .ok (.ladd, 1) := by decide +kernel
theorem dX7_poolRoomOn_45 : decode cX7_poolRoomOn 45 = .ok (.lstore_n 3, 1) := by decide +kernel
theorem dX7_poolRoomOn_46 : decode cX7_poolRoomOn 46 = .ok (.iinc 5 1, 3) := by decide +kernel
theorem dX7_poolRoomOn_49 : decode cX7_poolRoomOn 49 = .ok (.goto (-44), 3) := by decide +kernel
theorem dX7_poolRoomOn_52 : decode cX7_poolRoomOn 52 = .ok (.lload_n 3, 1) := by decide +kernel
theorem dX7_poolRoomOn_53 : decode cX7_poolRoomOn 53 = .ok (.lreturn, 1) := by decide +kernel
theorem dX8_init_0 : decode cX8_init 0 = .ok (.aload_n 0, 1) := by decide +kernel
theorem dX8_init_1 : decode cX8_init 1 = .ok (.invokespecial 1, 3) := by decide +kernel
theorem dX8_init_4 : decode cX8_init 4 = .ok (.aload_n 0, 1) := by decide +kernel
theorem dX8_init_5 : decode cX8_init 5 = .ok (.bipush 8, 2) := by decide +kernel
theorem dX8_init_7 : decode cX8_init 7 = .ok (.newarray .int, 2) := by decide +kernel
theorem dX8_init_9 : decode cX8_init 9 = .ok (.putfield 7, 3) := by decide +kernel
theorem dX8_init_12 : decode cX8_init 12 = .ok (.aload_n 0, 1) := by decide +kernel
theorem dX8_init_13 : decode cX8_init 13 = .ok (.bipush 8, 2) := by decide +kernel
theorem dX8_init_15 : decode cX8_init 15 = .ok (.newarray .int, 2) := by decide +kernel
theorem dX8_init_17 : decode cX8_init 17 = .ok (.putfield 13, 3) := by decide +kernel
theorem dX8_init_20 : decode cX8_init 20 = .ok (.aload_n 0, 1) := by decide +kernel
theorem dX8_init_21 : decode cX8_init 21 = .ok (.bipush 96, 2) := by decide +kernel
theorem dX8_init_23 : decode cX8_init 23 = .ok (.newarray .int, 2) := by decide +kernel
theorem dX8_init_25 : decode cX8_init 25 = .ok (.putfield 16, 3) := by decide +kernel
theorem dX8_init_28 : decode cX8_init 28 = .ok (.aload_n 0, 1) := by decide +kernel
theorem dX8_init_29 : decode cX8_init 29 = .ok (.bipush 96, 2) := by decide +kernel
theorem dX8_init_31 : decode cX8_init 31 = .ok (.newarray .int, 2) := by decide +kernel
theorem dX8_init_33 : decode cX8_init 33 = .ok (.putfield 19, 3) := by decide +kernel
theorem dX8_init_36 : decode cX8_init 36 = .ok (.aload_n 0, 1) := by decide +kernel
theorem dX8_init_37 : decode cX8_init 37 = .ok (.bipush 8, 2) := by decide +kernel
theorem dX8_init_39 : decode cX8_init 39 = .ok (.newarray .int, 2) := by decide +kernel
theorem dX8_init_41 : decode cX8_init 41 = .ok (.putfield 22, 3) := by decide +kernel
theorem dX8_init_44 : decode cX8_init 44 = .ok (.aload_n 0, 1) := by decide +kernel
theorem dX8_init_45 : decode cX8_init 45 = .ok (.sipush 480, 3) := by decide +kernel
theorem dX8_init_48 : decode cX8_init 48 = .ok (.newarray .int, 2) := by decide +kernel
theorem dX8_init_50 : decode cX8_init 50 = .ok (.putfield 25, 3) := by decide +kernel
theorem dX8_init_53 : decode cX8_init 53 = .ok (.aload_n 0, 1) := by decide +kernel
theorem dX8_init_54 : decode cX8_init 54 = .ok (.sipush 480, 3) := by decide +kernel
theorem dX8_init_57 : decode cX8_init 57 = .ok (.newarray .int, 2) := by decide +kernel
theorem dX8_init_59 : decode cX8_init 59 = .ok (.putfield 28, 3) := by decide +kernel
theorem dX8_init_62 : decode cX8_init 62 = .ok (.aload_n 0, 1) := by decide +kernel
theorem dX8_init_63 : decode cX8_init 63 = .ok (.bipush 8, 2) := by decide +kernel
theorem dX8_init_65 : decode cX8_init 65 = .ok (.newarray .int, 2) := by decide +kernel
theorem dX8_init_67 : decode cX8_init 67 = .ok (.putfield 31, 3) := by decide +kernel
theorem dX8_init_70 : decode cX8_init 70 = .ok (.aload_n 0, 1) := by decide +kernel
theorem dX8_init_71 : decode cX8_init 71 = .ok (.bipush 8, 2) := by decide +kernel
theorem dX8_init_73 : decode cX8_init 73 = .ok (.newarray .int, 2) := by decide +kernel
theorem dX8_init_75 : decode cX8_init 75 = .ok (.putfield 34, 3) := by decide +kernel
theorem dX8_init_78 : decode cX8_init 78 = .ok (.aload_n 0, 1) := by decide +kernel
theorem dX8_init_79 : decode cX8_init 79 = .ok (.bipush 8, 2) := by decide +kernel
theorem dX8_init_81 : decode cX8_init 81 = .ok (.newarray .boolean, 2) := by decide +kernel
theorem dX8_init_83 : decode cX8_init 83 = .ok (.putfield 37, 3) := by decide +kernel
theorem dX8_init_86 : decode cX8_init 86 = .ok (.aload_n 0, 1) := by decide +kernel
theorem dX8_init_87 : decode cX8_init 87 = .ok (.bipush 8, 2) := by decide +kernel
theorem dX8_init_89 : decode cX8_init 89 = .ok (.newarray .boolean, 2) := by decide +kernel
theorem dX8_init_91 : decode cX8_init 91 = .ok (.putfield 41, 3) := by decide +kernel
theorem dX8_init_94 : decode cX8_init 94 = .ok (.aload_n 0, 1) := by decide +kernel
theorem dX8_init_95 : decode cX8_init 95 = .ok (.bipush 8, 2) := by decide +kernel
theorem dX8_init_97 : decode cX8_init 97 = .ok (.newarray .boolean, 2) := by decide +kernel
theorem dX8_init_99 : decode cX8_init 99 = .ok (.putfield 44, 3) := by decide +kernel
theorem dX8_init_102 : decode cX8_init 102 = .ok (.aload_n 0, 1) := by decide +kernel
theorem dX8_init_103 : decode cX8_init 103 = .ok (.bipush 8, 2) := by decide +kernel
theorem dX8_init_105 : decode cX8_init 105 = .ok (.newarray .int, 2) := by decide +kernel
theorem dX8_init_107 : decode cX8_init 107 = .ok (.putfield 47, 3) := by decide +kernel
theorem dX8_init_110 : decode cX8_init 110 = .ok (.aload_n 0, 1) := by decide +kernel
theorem dX8_init_111 : decode cX8_init 111 = .ok (.bipush 8, 2) := by decide +kernel
theorem dX8_init_113 : decode cX8_init 113 = .ok (.newarray .int, 2) := by decide +kernel
theorem dX8_init_115 : decode cX8_init 115 = .ok (.putfield 50, 3) := by decide +kernel
theorem dX8_init_118 : decode cX8_init 118 = .ok (.aload_n 0, 1) := by decide +kernel
theorem dX8_init_119 : decode cX8_init 119 = .ok (.bipush 12, 2) := by decide +kernel
theorem dX8_init_121 : decode cX8_init 121 = .ok (.newarray .int, 2) := by decide +kernel
theorem dX8_init_123 : decode cX8_init 123 = .ok (.putfield 53, 3) := by decide +kernel
theorem dX8_init_126 : decode cX8_init 126 = .ok (.aload_n 0, 1) := by decide +kernel
theorem dX8_init_127 : decode cX8_init 127 = .ok (.bipush 66, 2) := by decide +kernel
theorem dX8_init_129 : decode cX8_init 129 = .ok (.newarray .int, 2) := by decide +kernel
theorem dX8_init_131 : decode cX8_init 131 = .ok (.putfield 56, 3) := by decide +kernel
theorem dX8_init_134 : decode cX8_init 134 = .ok (.aload_n 0, 1) := by decide +kernel
theorem dX8_init_135 : decode cX8_init 135 = .ok (.bipush 66, 2) := by decide +kernel
theorem dX8_init_137 : decode cX8_init 137 = .ok (.newarray .int, 2) := by decide +kernel
theorem dX8_init_139 : decode cX8_init 139 = .ok (.putfield 59, 3) := by decide +kernel
theorem dX8_init_142 : decode cX8_init 142 = .ok (.aload_n 0, 1) := by decide +kernel
theorem dX8_init_143 : decode cX8_init 143 = .ok (.bipush 8, 2) := by decide +kernel
theorem dX8_init_145 : decode cX8_init 145 = .ok (.newarray .int, 2) := by decide +kernel
theorem dX8_init_147 : decode cX8_init 147 = .ok (.putfield 62, 3) := by decide +kernel
theorem dX8_init_150 : decode cX8_init 150 = .ok (.aload_n 0, 1) := by decide +kernel
theorem dX8_init_151 : decode cX8_init 151 = .ok (.bipush 8, 2) := by decide +kernel
theorem dX8_init_153 : decode cX8_init 153 = .ok (.newarray .int, 2) := by decide +kernel
theorem dX8_init_155 : decode cX8_init 155 = .ok (.putfield 65, 3) := by decide +kernel
theorem dX8_init_158 : decode cX8_init 158 = .ok (.aload_n 0, 1) := by decide +kernel
theorem dX8_init_159 : decode cX8_init 159 = .ok (.bipush 8, 2) := by decide +kernel
theorem dX8_init_161 : decode cX8_init 161 = .ok (.newarray .int, 2) := by decide +kernel
theorem dX8_init_163 : decode cX8_init 163 = .ok (.putfield 68, 3) := by decide +kernel
theorem dX8_init_166 : decode cX8_init 166 = .ok (.aload_n 0, 1) := by decide +kernel
theorem dX8_init_167 : decode cX8_init 167 = .ok (.bipush 8, 2) := by decide +kernel
theorem dX8_init_169 : decode cX8_init 169 = .ok (.newarray .int, 2) := by decide +kernel
theorem dX8_init_171 : decode cX8_init 171 = .ok (.putfield 71, 3) := by decide +kernel
theorem dX8_init_174 : decode cX8_init 174 = .ok (.aload_n 0, 1) := by decide +kernel
theorem dX8_init_175 : decode cX8_init 175 = .ok (.bipush 8, 2) := by decide +kernel
theorem dX8_init_177 : decode cX8_init 177 = .ok (.newarray .int, 2) := by decide +kernel
theorem dX8_init_179 : decode cX8_init 179 = .ok (.putfield 74, 3) := by decide +kernel
theorem dX8_init_182 : decode cX8_init 182 = .ok (.return_, 1) := by decide +kernel
theorem dX8_thrown_0 : decode cX8_thrown 0 = .ok (.aload_n 0, 1) := by decide +kernel
theorem dX8_thrown_1 : decode cX8_thrown 1 = .ok (.getfield 77, 3) := by decide +kernel
theorem dX8_thrown_4 : decode cX8_thrown 4 = .ok (.ireturn, 1) := by decide +kernel
theorem dX8_goes_0 : decode cX8_goes 0 = .ok (.aload_n 0, 1) := by decide +kernel
theorem dX8_goes_1 : decode cX8_goes 1 = .ok (.iload_n 1, 1) := by decide +kernel
theorem dX8_goes_2 : decode cX8_goes 2 = .ok (.putfield 77, 3) := by decide +kernel
theorem dX8_goes_5 : decode cX8_goes 5 = .ok (.iload_n 1, 1) := by decide +kernel
theorem dX8_goes_6 : decode cX8_goes 6 = .ok (.ifCond .ne 7, 3) := by decide +kernel
theorem dX8_goes_9 : decode cX8_goes 9 = .ok (.iconst 1, 1) := by decide +kernel
theorem dX8_goes_10 : decode cX8_goes 10 = .ok (.goto 4, 3) := by decide +kernel
theorem dX8_goes_13 : decode cX8_goes 13 = .ok (.iconst 0, 1) := by decide +kernel
theorem dX8_goes_14 : decode cX8_goes 14 = .ok (.ireturn, 1) := by decide +kernel
theorem dX8_isIn_0 : decode cX8_isIn 0 = .ok (.iload_n 0, 1) := by decide +kernel
theorem dX8_isIn_1 : decode cX8_isIn 1 = .ok (.iload_n 1, 1) := by decide +kernel
theorem dX8_isIn_2 : decode cX8_isIn 2 = .ok (.if_icmp .lt 12, 3) := by decide +kernel
theorem dX8_isIn_5 : decode cX8_isIn 5 = .ok (.iload_n 0, 1) := by decide +kernel
theorem dX8_isIn_6 : decode cX8_isIn 6 = .ok (.iload_n 2, 1) := by decide +kernel
theorem dX8_isIn_7 : decode cX8_isIn 7 = .ok (.if_icmp .gt 7, 3) := by decide +kernel
theorem dX8_isIn_10 : decode cX8_isIn 10 = .ok (.iconst 1, 1) := by decide +kernel
theorem dX8_isIn_11 : decode cX8_isIn 11 = .ok (.goto 4, 3) := by decide +kernel
theorem dX8_isIn_14 : decode cX8_isIn 14 = .ok (.iconst 0, 1) := by decide +kernel
theorem dX8_isIn_15 : decode cX8_isIn 15 = .ok (.ireturn, 1) := by decide +kernel
theorem dX8_isStore_0 : decode cX8_isStore 0 = .ok (.iload_n 1, 1) := by decide +kernel
theorem dX8_isStore_1 : decode cX8_isStore 1 = .ok (.iconst 0, 1) := by decide +kernel
theorem dX8_isStore_2 : decode cX8_isStore 2 = .ok (.aload_n 0, 1) := by decide +kernel
theorem dX8_isStore_3 : decode cX8_isStore 3 = .ok (.getfield 81, 3) := by decide +kernel
theorem dX8_isStore_6 : decode cX8_isStore 6 = .ok (.iconst 1, 1) := by decide +kernel
theorem dX8_isStore_7 : decode cX8_isStore 7 = .ok (.isub, 1) := by decide +kernel
theorem dX8_isStore_8 : decode cX8_isStore 8 = .ok (.invokestatic 84, 3) := by decide +kernel
theorem dX8_isStore_11 : decode cX8_isStore 11 = .ok (.ireturn, 1) := by decide +kernel
theorem dX8_addStore_0 : decode cX8_addStore 0 = .ok (.aload_n 0, 1) := by decide +kernel
theorem dX8_addStore_1 : decode cX8_addStore 1 = .ok (.iload_n 1, 1) := by decide +kernel
theorem dX8_addStore_2 : decode cX8_addStore 2 = .ok (.iconst 1, 1) := by decide +kernel
theorem dX8_addStore_3 : decode cX8_addStore 3 = .ok (.ldc 88, 2) := by decide +kernel
theorem dX8_addStore_5 : decode cX8_addStore 5 = .ok (.invokestatic 84, 3) := by decide +kernel
theorem dX8_addStore_8 : decode cX8_addStore 8 = .ok (.ifCond .ne 7, 3) := by decide +kernel
theorem dX8_addStore_11 : decode cX8_addStore 11 = .ok (.iconst 1, 1) := by decide +kernel
theorem dX8_addStore_12 : decode cX8_addStore 12 = .ok (.goto 17, 3) := by decide +kernel
theorem dX8_addStore_15 : decode cX8_addStore 15 = .ok (.aload_n 0, 1) := by decide +kernel
theorem dX8_addStore_16 : decode cX8_addStore 16 = .ok (.getfield 81, 3) := by decide +kernel
theorem dX8_addStore_19 : decode cX8_addStore 19 = .ok (.bipush 8, 2) := by decide +kernel
theorem dX8_addStore_21 : decode cX8_addStore 21 = .ok (.if_icmp .ne 7, 3) := by decide +kernel
theorem dX8_addStore_24 : decode cX8_addStore 24 = .ok (.iconst 2, 1) := by decide +kernel
theorem dX8_addStore_25 : decode cX8_addStore 25 = .ok (.goto 4, 3) := by decide +kernel
theorem dX8_addStore_28 : decode cX8_addStore 28 = .ok (.iconst 0, 1) := by decide +kernel
theorem dX8_addStore_29 : decode cX8_addStore 29 = .ok (.invokevirtual 89, 3) := by decide +kernel
theorem dX8_addStore_32 : decode cX8_addStore 32 = .ok (.ifCond .ne 5, 3) := by decide +kernel
theorem dX8_addStore_35 : decode cX8_addStore 35 = .ok (.iconst 0, 1) := by decide +kernel
theorem dX8_addStore_36 : decode cX8_addStore 36 = .ok (.ireturn, 1) := by decide +kernel
theorem dX8_addStore_37 : decode cX8_addStore 37 = .ok (.aload_n 0, 1) := by decide +kernel
theorem dX8_addStore_38 : decode cX8_addStore 38 = .ok (.getfield 7, 3) := by decide +kernel
theorem dX8_addStore_41 : decode cX8_addStore 41 = .ok (.aload_n 0, 1) := by decide +kernel
theorem dX8_addStore_42 : decode cX8_addStore 42 = .ok (.getfield 81, 3) := by decide +kernel
theorem dX8_addStore_45 : decode cX8_addStore 45 = .ok (.iload_n 1, 1) := by decide +kernel
theorem dX8_addStore_46 : decode cX8_addStore 46 = .ok (.iastore, 1) := by decide +kernel
theorem dX8_addStore_47 : decode cX8_addStore 47 = .ok (.aload_n 0, 1) := by decide +kernel
theorem dX8_addStore_48 : decode cX8_addStore 48 = .ok (.dup, 1) := by decide +kernel
theorem dX8_addStore_49 : decode cX8_addStore 49 = .ok (.getfield 81, 3) := by decide +kernel
theorem dX8_addStore_52 : decode cX8_addStore 52 = .ok (.iconst 1, 1) := by decide +kernel
theorem dX8_addStore_53 : decode cX8_addStore 53 = .ok (.iadd, 1) := by decide +kernel
theorem dX8_addStore_54 : decode cX8_addStore 54 = .ok (.putfield 81, 3) := by decide +kernel
theorem dX8_addStore_57 : decode cX8_addStore 57 = .ok (.aload_n 0, 1) := by decide +kernel
theorem dX8_addStore_58 : decode cX8_addStore 58 = .ok (.getfield 81, 3) := by decide +kernel
theorem dX8_addStore_61 : decode cX8_addStore 61 = .ok (.iconst 1, 1) := by decide +kernel
theorem dX8_addStore_62 : decode cX8_addStore 62 = .ok (.isub, 1) := by decide +kernel
theorem dX8_addStore_63 : decode cX8_addStore 63 = .ok (.ireturn, 1) := by decide +kernel
theorem dX8_setSize_0 : decode cX8_setSize 0 = .ok (.aload_n 0, 1) := by decide +kernel
theorem dX8_setSize_1 : decode cX8_setSize 1 = .ok (.aload_n 0, 1) := by decide +kernel
theorem dX8_setSize_2 : decode cX8_setSize 2 = .ok (.iload_n 1, 1) := by decide +kernel
theorem dX8_setSize_3 : decode cX8_setSize 3 = .ok (.invokevirtual 93, 3) := by decide +kernel
theorem dX8_setSize_6 : decode cX8_setSize 6 = .ok (.ifCond .ne 7, 3) := by decide +kernel
theorem dX8_setSize_9 : decode cX8_setSize 9 = .ok (.iconst 1, 1) := by decide +kernel
theorem dX8_setSize_10 : decode cX8_setSize 10 = .ok (.goto 18, 3) := by decide +kernel
theorem dX8_setSize_13 : decode cX8_setSize 13 = .ok (.iload_n 2, 1) := by decide +kernel
theorem dX8_setSize_14 : decode cX8_setSize 14 = .ok (.iconst 1, 1) := by decide +kernel
theorem dX8_setSize_15 : decode cX8_setSize 15 = .ok (.ldc 88, 2) := by decide +kernel
theorem dX8_setSize_17 : decode cX8_setSize 17 = .ok (.invokestatic 84, 3) := by decide +kernel
theorem dX8_setSize_20 : decode cX8_setSize 20 = .ok (.ifCond .eq 7, 3) := by decide +kernel
theorem dX8_setSize_23 : decode cX8_setSize 23 = .ok (.iconst 0, 1) := by decide +kernel
theorem dX8_setSize_24 : decode cX8_setSize 24 = .ok (.goto 4, 3) := by decide +kernel
theorem dX8_setSize_27 : decode cX8_setSize 27 = .ok (.iconst 2, 1) := by decide +kernel
theorem dX8_setSize_28 : decode cX8_setSize 28 = .ok (.invokevirtual 89, 3) := by decide +kernel
theorem dX8_setSize_31 : decode cX8_setSize 31 = .ok (.ifCond .ne 5, 3) := by decide +kernel
theorem dX8_setSize_34 : decode cX8_setSize 34 = .ok (.iconst 0, 1) := by decide +kernel
theorem dX8_setSize_35 : decode cX8_setSize 35 = .ok (.ireturn, 1) := by decide +kernel
theorem dX8_setSize_36 : decode cX8_setSize 36 = .ok (.aload_n 0, 1) := by decide +kernel
theorem dX8_setSize_37 : decode cX8_setSize 37 = .ok (.getfield 7, 3) := by decide +kernel
theorem dX8_setSize_40 : decode cX8_setSize 40 = .ok (.iload_n 1, 1) := by decide +kernel
theorem dX8_setSize_41 : decode cX8_setSize 41 = .ok (.iaload, 1) := by decide +kernel
theorem dX8_setSize_42 : decode cX8_setSize 42 = .ok (.istore_n 3, 1) := by decide +kernel
theorem dX8_setSize_43 : decode cX8_setSize 43 = .ok (.aload_n 0, 1) := by decide +kernel
theorem dX8_setSize_44 : decode cX8_setSize 44 = .ok (.getfield 7, 3) := by decide +kernel
theorem dX8_setSize_47 : decode cX8_setSize 47 = .ok (.iload_n 1, 1) := by decide +kernel
theorem dX8_setSize_48 : decode cX8_setSize 48 = .ok (.iload_n 2, 1) := by decide +kernel
theorem dX8_setSize_49 : decode cX8_setSize 49 = .ok (.iastore, 1) := by decide +kernel
theorem dX8_setSize_50 : decode cX8_setSize 50 = .ok (.aload_n 0, 1) := by decide +kernel
theorem dX8_setSize_51 : decode cX8_setSize 51 = .ok (.getfield 44, 3) := by decide +kernel
theorem dX8_setSize_54 : decode cX8_setSize 54 = .ok (.iload_n 1, 1) := by decide +kernel
theorem dX8_setSize_55 : decode cX8_setSize 55 = .ok (.iconst 0, 1) := by decide +kernel
theorem dX8_setSize_56 : decode cX8_setSize 56 = .ok (.bastore, 1) := by decide +kernel
theorem dX8_setSize_57 : decode cX8_setSize 57 = .ok (.iload_n 3, 1) := by decide +kernel
theorem dX8_setSize_58 : decode cX8_setSize 58 = .ok (.ireturn, 1) := by decide +kernel
theorem dX8_sample_0 : decode cX8_sample 0 = .ok (.aload_n 0, 1) := by decide +kernel
theorem dX8_sample_1 : decode cX8_sample 1 = .ok (.aload_n 0, 1) := by decide +kernel
theorem dX8_sample_2 : decode cX8_sample 2 = .ok (.iload_n 1, 1) := by decide +kernel
theorem dX8_sample_3 : decode cX8_sample 3 = .ok (.invokevirtual 93, 3) := by decide +kernel
theorem dX8_sample_6 : decode cX8_sample 6 = .ok (.ifCond .ne 7, 3) := by decide +kernel
theorem dX8_sample_9 : decode cX8_sample 9 = .ok (.iconst 1, 1) := by decide +kernel
theorem dX8_sample_10 : decode cX8_sample 10 = .ok (.goto 18, 3) := by decide +kernel
theorem dX8_sample_13 : decode cX8_sample 13 = .ok (.iload_n 2, 1) := by decide +kernel
theorem dX8_sample_14 : decode cX8_sample 14 = .ok (.iconst 0, 1) := by decide +kernel
theorem dX8_sample_15 : decode cX8_sample 15 = .ok (.ldc 88, 2) := by decide +kernel
theorem dX8_sample_17 : decode cX8_sample 17 = .ok (.invokestatic 84, 3) := by decide +kernel
theorem dX8_sample_20 : decode cX8_sample 20 = .ok (.ifCond .eq 7, 3) := by decide +kernel
theorem dX8_sample_23 : decode cX8_sample 23 = .ok (.iconst 0, 1) := by decide +kernel
theorem dX8_sample_24 : decode cX8_sample 24 = .ok (.goto 4, 3) := by decide +kernel
theorem dX8_sample_27 : decode cX8_sample 27 = .ok (.iconst 2, 1) := by decide +kernel
theorem dX8_sample_28 : decode cX8_sample 28 = .ok (.invokevirtual 89, 3) := by decide +kernel
theorem dX8_sample_31 : decode cX8_sample 31 = .ok (.ifCond .ne 5, 3) := by decide +kernel
theorem dX8_sample_34 : decode cX8_sample 34 = .ok (.iconst 0, 1) := by decide +kernel
theorem dX8_sample_35 : decode cX8_sample 35 = .ok (.ireturn, 1) := by decide +kernel
theorem dX8_sample_36 : decode cX8_sample 36 = .ok (.bipush 12, 2) := by decide +kernel
theorem dX8_sample_38 : decode cX8_sample 38 = .ok (.iload_n 1, 1) := by decide +kernel
theorem dX8_sample_39 : decode cX8_sample 39 = .ok (.imul, 1) := by decide +kernel
theorem dX8_sample_40 : decode cX8_sample 40 = .ok (.istore_n 3, 1) := by decide +kernel
theorem dX8_sample_41 : decode cX8_sample 41 = .ok (.aload_n 0, 1) := by decide +kernel
theorem dX8_sample_42 : decode cX8_sample 42 = .ok (.getfield 13, 3) := by decide +kernel
theorem dX8_sample_45 : decode cX8_sample 45 = .ok (.iload_n 1, 1) := by decide +kernel
theorem dX8_sample_46 : decode cX8_sample 46 = .ok (.iaload, 1) := by decide +kernel
theorem dX8_sample_47 : decode cX8_sample 47 = .ok (.istore 4, 2) := by decide +kernel
theorem dX8_sample_49 : decode cX8_sample 49 = .ok (.iload 4, 2) := by decide +kernel
theorem dX8_sample_51 : decode cX8_sample 51 = .ok (.ifCond .le 25, 3) := by decide +kernel
theorem dX8_sample_54 : decode cX8_sample 54 = .ok (.aload_n 0, 1) := by decide +kernel
theorem dX8_sample_55 : decode cX8_sample 55 = .ok (.getfield 16, 3) := by decide +kernel
theorem dX8_sample_58 : decode cX8_sample 58 = .ok (.iload_n 3, 1) := by decide +kernel
theorem dX8_sample_59 : decode cX8_sample 59 = .ok (.iload 4, 2) := by decide +kernel
theorem dX8_sample_61 : decode cX8_sample 61 = .ok (.iadd, 1) := by decide +kernel
theorem dX8_sample_62 : decode cX8_sample 62 = .ok (.iconst 1, 1) := by decide +kernel
theorem dX8_sample_63 : decode cX8_sample 63 = .ok (.isub, 1) := by decide +kernel
theorem dX8_sample_64 : decode cX8_sample 64 = .ok (.iaload, 1) := by decide +kernel
theorem dX8_sample_65 : decode cX8_sample 65 = .ok (.aload_n 0, 1) := by decide +kernel
theorem dX8_sample_66 : decode cX8_sample 66 = .ok (.getfield 96, 3) := by decide +kernel
theorem dX8_sample_69 : decode cX8_sample 69 = .ok (.if_icmp .ne 7, 3) := by decide +kernel
theorem dX8_sample_72 : decode cX8_sample 72 = .ok (.iconst 1, 1) := by decide +kernel
theorem dX8_sample_73 : decode cX8_sample 73 = .ok (.goto 4, 3) := by decide +kernel
theorem dX8_sample_76 : decode cX8_sample 76 = .ok (.iconst 0, 1) := by decide +kernel
theorem dX8_sample_77 : decode cX8_sample 77 = .ok (.istore 5, 2) := by decide +kernel
theorem dX8_sample_79 : decode cX8_sample 79 = .ok (.iload 5, 2) := by decide +kernel
theorem dX8_sample_81 : decode cX8_sample 81 = .ok (.ifCond .ne 69, 3) := by decide +kernel
theorem dX8_sample_84 : decode cX8_sample 84 = .ok (.iload 4, 2) := by decide +kernel
theorem dX8_sample_86 : decode cX8_sample 86 = .ok (.bipush 12, 2) := by decide +kernel
theorem dX8_sample_88 : decode cX8_sample 88 = .ok (.if_icmp .ne 62, 3) := by decide +kernel
theorem dX8_sample_91 : decode cX8_sample 91 = .ok (.iinc 4 (-1), 3) := by decide +kernel
theorem dX8_sample_94 : decode cX8_sample 94 = .ok (.iconst 0, 1) := by decide +kernel
theorem dX8_sample_95 : decode cX8_sample 95 = .ok (.istore 6, 2) := by decide +kernel
theorem dX8_sample_97 : decode cX8_sample 97 = .ok (.iload 6, 2) := by decide +kernel
theorem dX8_sample_99 : decode cX8_sample 99 = .ok (.iload 4, 2) := by decide +kernel
theorem dX8_sample_101 : decode cX8_sample 101 = .ok (.if_icmp .ge 49, 3) := by decide +kernel
theorem dX8_sample_104 : decode cX8_sample 104 = .ok (.aload_n 0, 1) := by decide +kernel
theorem dX8_sample_105 : decode cX8_sample 105 = .ok (.getfield 16, 3) := by decide +kernel
theorem dX8_sample_108 : decode cX8_sample 108 = .ok (.iload_n 3, 1) := by decide +kernel
theorem dX8_sample_109 : decode cX8_sample 109 = .ok (.iload 6, 2) := by decide +kernel
theorem dX8_sample_111 : decode cX8_sample 111 = .ok (.iadd, 1) := by decide +kernel
theorem dX8_sample_112 : decode cX8_sample 112 = .ok (.aload_n 0, 1) := by decide +kernel
theorem dX8_sample_113 : decode cX8_sample 113 = .ok (.getfield 16, 3) := by decide +kernel
theorem dX8_sample_116 : decode cX8_sample 116 = .ok (.iload_n 3, 1) := by decide +kernel
theorem dX8_sample_117 : decode cX8_sample 117 = .ok (.iload 6, 2) := by decide +kernel
theorem dX8_sample_119 : decode cX8_sample 119 = .ok (.iadd, 1) := by decide +kernel
theorem dX8_sample_120 : decode cX8_sample 120 = .ok (.iconst 1, 1) := by decide +kernel
theorem dX8_sample_121 : decode cX8_sample 121 = .ok (.iadd, 1) := by decide +kernel
theorem dX8_sample_122 : decode cX8_sample 122 = .ok (.iaload, 1) := by decide +kernel
theorem dX8_sample_123 : decode cX8_sample 123 = .ok (.iastore, 1) := by decide +kernel
theorem dX8_sample_124 : decode cX8_sample 124 = .ok (.aload_n 0, 1) := by decide +kernel
theorem dX8_sample_125 : decode cX8_sample 125 = .ok (.getfield 19, 3) := by decide +kernel
theorem dX8_sample_128 : decode cX8_sample 128 = .ok (.iload_n 3, 1) := by decide +kernel
theorem dX8_sample_129 : decode cX8_sample 129 = .ok (.iload 6, 2) := by decide +kernel
theorem dX8_sample_131 : decode cX8_sample 131 = .ok (.iadd, 1) := by decide +kernel
theorem dX8_sample_132 : decode cX8_sample 132 = .ok (.aload_n 0, 1) := by decide +kernel
theorem dX8_sample_133 : decode cX8_sample 133 = .ok (.getfield 19, 3) := by decide +kernel
theorem dX8_sample_136 : decode cX8_sample 136 = .ok (.iload_n 3, 1) := by decide +kernel
theorem dX8_sample_137 : decode cX8_sample 137 = .ok (.iload 6, 2) := by decide +kernel
theorem dX8_sample_139 : decode cX8_sample 139 = .ok (.iadd, 1) := by decide +kernel
theorem dX8_sample_140 : decode cX8_sample 140 = .ok (.iconst 1, 1) := by decide +kernel
theorem dX8_sample_141 : decode cX8_sample 141 = .ok (.iadd, 1) := by decide +kernel
theorem dX8_sample_142 : decode cX8_sample 142 = .ok (.iaload, 1) := by decide +kernel
theorem dX8_sample_143 : decode cX8_sample 143 = .ok (.iastore, 1) := by decide +kernel
theorem dX8_sample_144 : decode cX8_sample 144 = .ok (.iinc 6 1, 3) := by decide +kernel
theorem dX8_sample_147 : decode cX8_sample 147 = .ok (.goto (-50), 3) := by decide +kernel
theorem dX8_sample_150 : decode cX8_sample 150 = .ok (.iload 4, 2) := by decide +kernel
theorem dX8_sample_152 : decode cX8_sample 152 = .ok (.iload 5, 2) := by decide +kernel
theorem dX8_sample_154 : decode cX8_sample 154 = .ok (.ifCond .eq 7, 3) := by decide +kernel
theorem dX8_sample_157 : decode cX8_sample 157 = .ok (.iconst 0, 1) := by decide +kernel
theorem dX8_sample_158 : decode cX8_sample 158 = .ok (.goto 4, 3) := by decide +kernel
theorem dX8_sample_161 : decode cX8_sample 161 = .ok (.iconst 1, 1) := by decide +kernel
theorem dX8_sample_162 : decode cX8_sample 162 = .ok (.iadd, 1) := by decide +kernel
theorem dX8_sample_163 : decode cX8_sample 163 = .ok (.istore 4, 2) := by decide +kernel
theorem dX8_sample_165 : decode cX8_sample 165 = .ok (.aload_n 0, 1) := by decide +kernel
theorem dX8_sample_166 : decode cX8_sample 166 = .ok (.getfield 16, 3) := by decide +kernel
theorem dX8_sample_169 : decode cX8_sample 169 = .ok (.iload_n 3, 1) := by decide +kernel
theorem dX8_sample_170 : decode cX8_sample 170 = .ok (.iload 4, 2) := by decide +kernel
theorem dX8_sample_172 : decode cX8_sample 172 = .ok (.iadd, 1) := by decide +kernel
theorem dX8_sample_173 : decode cX8_sample 173 = .ok (.iconst 1, 1) := by decide +kernel
theorem dX8_sample_174 : decode cX8_sample 174 = .ok (.isub, 1) := by decide +kernel
theorem dX8_sample_175 : decode cX8_sample 175 = .ok (.aload_n 0, 1) := by decide +kernel
theorem dX8_sample_176 : decode cX8_sample 176 = .ok (.getfield 96, 3) := by decide +kernel
theorem dX8_sample_179 : decode cX8_sample 179 = .ok (.iastore, 1) := by decide +kernel
theorem dX8_sample_180 : decode cX8_sample 180 = .ok (.aload_n 0, 1) := by decide +kernel
theorem dX8_sample_181 : decode cX8_sample 181 = .ok (.getfield 19, 3) := by decide +kernel
theorem dX8_sample_184 : decode cX8_sample 184 = .ok (.iload_n 3, 1) := by decide +kernel
theorem dX8_sample_185 : decode cX8_sample 185 = .ok (.iload 4, 2) := by decide +kernel
theorem dX8_sample_187 : decode cX8_sample 187 = .ok (.iadd, 1) := by decide +kernel
theorem dX8_sample_188 : decode cX8_sample 188 = .ok (.iconst 1, 1) := by decide +kernel
theorem dX8_sample_189 : decode cX8_sample 189 = .ok (.isub, 1) := by decide +kernel
theorem dX8_sample_190 : decode cX8_sample 190 = .ok (.iload_n 2, 1) := by decide +kernel
theorem dX8_sample_191 : decode cX8_sample 191 = .ok (.iastore, 1) := by decide +kernel
theorem dX8_sample_192 : decode cX8_sample 192 = .ok (.aload_n 0, 1) := by decide +kernel
theorem dX8_sample_193 : decode cX8_sample 193 = .ok (.getfield 13, 3) := by decide +kernel
theorem dX8_sample_196 : decode cX8_sample 196 = .ok (.iload_n 1, 1) := by decide +kernel
theorem dX8_sample_197 : decode cX8_sample 197 = .ok (.iload 4, 2) := by decide +kernel
theorem dX8_sample_199 : decode cX8_sample 199 = .ok (.iastore, 1) := by decide +kernel
theorem dX8_sample_200 : decode cX8_sample 200 = .ok (.aload_n 0, 1) := by decide +kernel
theorem dX8_sample_201 : decode cX8_sample 201 = .ok (.getfield 44, 3) := by decide +kernel
theorem dX8_sample_204 : decode cX8_sample 204 = .ok (.iload_n 1, 1) := by decide +kernel
theorem dX8_sample_205 : decode cX8_sample 205 = .ok (.iconst 0, 1) := by decide +kernel
theorem dX8_sample_206 : decode cX8_sample 206 = .ok (.bastore, 1) := by decide +kernel
theorem dX8_sample_207 : decode cX8_sample 207 = .ok (.iload 4, 2) := by decide +kernel
theorem dX8_sample_209 : decode cX8_sample 209 = .ok (.ireturn, 1) := by decide +kernel
theorem dX8_clean_0 : decode cX8_clean 0 = .ok (.aload_n 0, 1) := by decide +kernel
theorem dX8_clean_1 : decode cX8_clean 1 = .ok (.aload_n 0, 1) := by decide +kernel
theorem dX8_clean_2 : decode cX8_clean 2 = .ok (.iload_n 1, 1) := by decide +kernel
theorem dX8_clean_3 : decode cX8_clean 3 = .ok (.invokevirtual 93, 3) := by decide +kernel
theorem dX8_clean_6 : decode cX8_clean 6 = .ok (.ifCond .ne 7, 3) := by decide +kernel
theorem dX8_clean_9 : decode cX8_clean 9 = .ok (.iconst 1, 1) := by decide +kernel
theorem dX8_clean_10 : decode cX8_clean 10 = .ok (.goto 33, 3) := by decide +kernel
theorem dX8_clean_13 : decode cX8_clean 13 = .ok (.iload_n 2, 1) := by decide +kernel
theorem dX8_clean_14 : decode cX8_clean 14 = .ok (.iconst 1, 1) := by decide +kernel
theorem dX8_clean_15 : decode cX8_clean 15 = .ok (.ldc 99, 2) := by decide +kernel
theorem dX8_clean_17 : decode cX8_clean 17 = .ok (.invokestatic 84, 3) := by decide +kernel
theorem dX8_clean_20 : decode cX8_clean 20 = .ok (.ifCond .ne 7, 3) := by decide +kernel
theorem dX8_clean_23 : decode cX8_clean 23 = .ok (.iconst 2, 1) := by decide +kernel
theorem dX8_clean_24 : decode cX8_clean 24 = .ok (.goto 19, 3) := by decide +kernel
theorem dX8_clean_27 : decode cX8_clean 27 = .ok (.aload_n 0, 1) := by decide +kernel
theorem dX8_clean_28 : decode cX8_clean 28 = .ok (.getfield 22, 3) := by decide +kernel
theorem dX8_clean_31 : decode cX8_clean 31 = .ok (.iload_n 1, 1) := by decide +kernel
theorem dX8_clean_32 : decode cX8_clean 32 = .ok (.iaload, 1) := by decide +kernel
theorem dX8_clean_33 : decode cX8_clean 33 = .ok (.bipush 60, 2) := by decide +kernel
theorem dX8_clean_35 : decode cX8_clean 35 = .ok (.if_icmp .ne 7, 3) := by decide +kernel
theorem dX8_clean_38 : decode cX8_clean 38 = .ok (.iconst 3, 1) := by decide +kernel
theorem dX8_clean_39 : decode cX8_clean 39 = .ok (.goto 4, 3) := by decide +kernel
theorem dX8_clean_42 : decode cX8_clean 42 = .ok (.iconst 0, 1) := by decide +kernel
theorem dX8_clean_43 : decode cX8_clean 43 = .ok (.invokevirtual 89, 3) := by decide +kernel
theorem dX8_clean_46 : decode cX8_clean 46 = .ok (.ifCond .ne 5, 3) := by decide +kernel
theorem dX8_clean_49 : decode cX8_clean 49 = .ok (.iconst 0, 1) := by decide +kernel
theorem dX8_clean_50 : decode cX8_clean 50 = .ok (.ireturn, 1) := by decide +kernel
theorem dX8_clean_51 : decode cX8_clean 51 = .ok (.bipush 60, 2) := by decide +kernel
theorem dX8_clean_53 : decode cX8_clean 53 = .ok (.iload_n 1, 1) := by decide +kernel
theorem dX8_clean_54 : decode cX8_clean 54 = .ok (.imul, 1) := by decide +kernel
theorem dX8_clean_55 : decode cX8_clean 55 = .ok (.aload_n 0, 1) := by decide +kernel
theorem dX8_clean_56 : decode cX8_clean 56 = .ok (.getfield 22, 3) := by decide +kernel
theorem dX8_clean_59 : decode cX8_clean 59 = .ok (.iload_n 1, 1) := by decide +kernel
theorem dX8_clean_60 : decode cX8_clean 60 = .ok (.iaload, 1) := by decide +kernel
theorem dX8_clean_61 : decode cX8_clean 61 = .ok (.iadd, 1) := by decide +kernel
theorem dX8_clean_62 : decode cX8_clean 62 = .ok (.istore_n 3, 1) := by decide +kernel
theorem dX8_clean_63 : decode cX8_clean 63 = .ok (.aload_n 0, 1) := by decide +kernel
theorem dX8_clean_64 : decode cX8_clean 64 = .ok (.getfield 25, 3) := by decide +kernel
theorem dX8_clean_67 : decode cX8_clean 67 = .ok (.iload_n 3, 1) := by decide +kernel
theorem dX8_clean_68 : decode cX8_clean 68 = .ok (.aload_n 0, 1) := by decide +kernel
theorem dX8_clean_69 : decode cX8_clean 69 = .ok (.getfield 96, 3) := by decide +kernel
theorem dX8_clean_72 : decode cX8_clean 72 = .ok (.iastore, 1) := by decide +kernel
theorem dX8_clean_73 : decode cX8_clean 73 = .ok (.aload_n 0, 1) := by decide +kernel
theorem dX8_clean_74 : decode cX8_clean 74 = .ok (.getfield 28, 3) := by decide +kernel
theorem dX8_clean_77 : decode cX8_clean 77 = .ok (.iload_n 3, 1) := by decide +kernel
theorem dX8_clean_78 : decode cX8_clean 78 = .ok (.iload_n 2, 1) := by decide +kernel
theorem dX8_clean_79 : decode cX8_clean 79 = .ok (.iastore, 1) := by decide +kernel
theorem dX8_clean_80 : decode cX8_clean 80 = .ok (.aload_n 0, 1) := by decide +kernel
theorem dX8_clean_81 : decode cX8_clean 81 = .ok (.getfield 22, 3) := by decide +kernel
theorem dX8_clean_84 : decode cX8_clean 84 = .ok (.iload_n 1, 1) := by decide +kernel
theorem dX8_clean_85 : decode cX8_clean 85 = .ok (.dup2, 1) := by decide +kernel
theorem dX8_clean_86 : decode cX8_clean 86 = .ok (.iaload, 1) := by decide +kernel
theorem dX8_clean_87 : decode cX8_clean 87 = .ok (.iconst 1, 1) := by decide +kernel
theorem dX8_clean_88 : decode cX8_clean 88 = .ok (.iadd, 1) := by decide +kernel
theorem dX8_clean_89 : decode cX8_clean 89 = .ok (.iastore, 1) := by decide +kernel
theorem dX8_clean_90 : decode cX8_clean 90 = .ok (.aload_n 0, 1) := by decide +kernel
theorem dX8_clean_91 : decode cX8_clean 91 = .ok (.getfield 44, 3) := by decide +kernel
theorem dX8_clean_94 : decode cX8_clean 94 = .ok (.iload_n 1, 1) := by decide +kernel
theorem dX8_clean_95 : decode cX8_clean 95 = .ok (.iconst 0, 1) := by decide +kernel
theorem dX8_clean_96 : decode cX8_clean 96 = .ok (.bastore, 1) := by decide +kernel
theorem dX8_clean_97 : decode cX8_clean 97 = .ok (.aload_n 0, 1) := by decide +kernel
theorem dX8_clean_98 : decode cX8_clean 98 = .ok (.getfield 22, 3) := by decide +kernel
theorem dX8_clean_101 : decode cX8_clean 101 = .ok (.iload_n 1, 1) := by decide +kernel
theorem dX8_clean_102 : decode cX8_clean 102 = .ok (.iaload, 1) := by decide +kernel
theorem dX8_clean_103 : decode cX8_clean 103 = .ok (.ireturn, 1) := by decide +kernel
theorem dX8_setRule_0 : decode cX8_setRule 0 = .ok (.iload_n 2, 1) := by decide +kernel
theorem dX8_setRule_1 : decode cX8_setRule 1 = .ok (.iconst 0, 1) := by decide +kernel
theorem dX8_setRule_2 : decode cX8_setRule 2 = .ok (.sipush 3000, 3) := by decide +kernel
theorem dX8_setRule_5 : decode cX8_setRule 5 = .ok (.invokestatic 84, 3) := by decide +kernel
theorem dX8_setRule_8 : decode cX8_setRule 8 = .ok (.ifCond .eq 17, 3) := by decide +kernel
theorem dX8_setRule_11 : decode cX8_setRule 11 = .ok (.iload_n 3, 1) := by decide +kernel
theorem dX8_setRule_12 : decode cX8_setRule 12 = .ok (.iconst 0, 1) := by decide +kernel
theorem dX8_setRule_13 : decode cX8_setRule 13 = .ok (.bipush 100, 2) := by decide +kernel
theorem dX8_setRule_15 : decode cX8_setRule 15 = .ok (.invokestatic 84, 3) := by decide +kernel
theorem dX8_setRule_18 : decode cX8_setRule 18 = .ok (.ifCond .eq 7, 3) := by decide +kernel
theorem dX8_setRule_21 : decode cX8_setRule 21 = .ok (.iconst 1, 1) := by decide +kernel
theorem dX8_setRule_22 : decode cX8_setRule 22 = .ok (.goto 4, 3) := by decide +kernel
theorem dX8_setRule_25 : decode cX8_setRule 25 = .ok (.iconst 0, 1) := by decide +kernel
theorem dX8_setRule_26 : decode cX8_setRule 26 = .ok (.istore 4, 2) := by decide +kernel
theorem dX8_setRule_28 : decode cX8_setRule 28 = .ok (.aload_n 0, 1) := by decide +kernel
theorem dX8_setRule_29 : decode cX8_setRule 29 = .ok (.aload_n 0, 1) := by decide +kernel
theorem dX8_setRule_30 : decode cX8_setRule 30 = .ok (.iload_n 1, 1) := by decide +kernel
theorem dX8_setRule_31 : decode cX8_setRule 31 = .ok (.invokevirtual 93, 3) := by decide +kernel
theorem dX8_setRule_34 : decode cX8_setRule 34 = .ok (.ifCond .ne 7, 3) := by decide +kernel
theorem dX8_setRule_37 : decode cX8_setRule 37 = .ok (.iconst 1, 1) := by decide +kernel
theorem dX8_setRule_38 : decode cX8_setRule 38 = .ok (.goto 13, 3) := by decide +kernel
theorem dX8_setRule_41 : decode cX8_setRule 41 = .ok (.iload 4, 2) := by decide +kernel
theorem dX8_setRule_43 : decode cX8_setRule 43 = .ok (.ifCond .eq 7, 3) := by decide +kernel
theorem dX8_setRule_46 : decode cX8_setRule 46 = .ok (.iconst 0, 1) := by decide +kernel
theorem dX8_setRule_47 : decode cX8_setRule 47 = .ok (.goto 4, 3) := by decide +kernel
theorem dX8_setRule_50 : decode cX8_setRule 50 = .ok (.iconst 2, 1) := by decide +kernel
theorem dX8_setRule_51 : decode cX8_setRule 51 = .ok (.invokevirtual 89, 3) := by decide +kernel
theorem dX8_setRule_54 : decode cX8_setRule 54 = .ok (.ifCond .eq 24, 3) := by decide +kernel
theorem dX8_setRule_57 : decode cX8_setRule 57 = .ok (.aload_n 0, 1) := by decide +kernel
theorem dX8_setRule_58 : decode cX8_setRule 58 = .ok (.getfield 31, 3) := by decide +kernel
theorem dX8_setRule_61 : decode cX8_setRule 61 = .ok (.iload_n 1, 1) := by decide +kernel
theorem dX8_setRule_62 : decode cX8_setRule 62 = .ok (.iload_n 2, 1) := by decide +kernel
theorem dX8_setRule_63 : decode cX8_setRule 63 = .ok (.iastore, 1) := by decide +kernel
theorem dX8_setRule_64 : decode cX8_setRule 64 = .ok (.aload_n 0, 1) := by decide +kernel
theorem dX8_setRule_65 : decode cX8_setRule 65 = .ok (.getfield 34, 3) := by decide +kernel
theorem dX8_setRule_68 : decode cX8_setRule 68 = .ok (.iload_n 1, 1) := by decide +kernel
theorem dX8_setRule_69 : decode cX8_setRule 69 = .ok (.iload_n 3, 1) := by decide +kernel
theorem dX8_setRule_70 : decode cX8_setRule 70 = .ok (.iastore, 1) := by decide +kernel
theorem dX8_setRule_71 : decode cX8_setRule 71 = .ok (.aload_n 0, 1) := by decide +kernel
theorem dX8_setRule_72 : decode cX8_setRule 72 = .ok (.getfield 44, 3) := by decide +kernel
theorem dX8_setRule_75 : decode cX8_setRule 75 = .ok (.iload_n 1, 1) := by decide +kernel
theorem dX8_setRule_76 : decode cX8_setRule 76 = .ok (.iconst 0, 1) := by decide +kernel
theorem dX8_setRule_77 : decode cX8_setRule 77 = .ok (.bastore, 1) := by decide +kernel
theorem dX8_setRule_78 : decode cX8_setRule 78 = .ok (.return_, 1) := by decide +kernel
theorem dX8_middle_0 : decode cX8_middle 0 = .ok (.iload_n 0, 1) := by decide +kernel
theorem dX8_middle_1 : decode cX8_middle 1 = .ok (.iconst 2, 1) := by decide +kernel
theorem dX8_middle_2 : decode cX8_middle 2 = .ok (.irem, 1) := by decide +kernel
theorem dX8_middle_3 : decode cX8_middle 3 = .ok (.iconst 1, 1) := by decide +kernel
theorem dX8_middle_4 : decode cX8_middle 4 = .ok (.if_icmp .ne 9, 3) := by decide +kernel
theorem dX8_middle_7 : decode cX8_middle 7 = .ok (.iload_n 0, 1) := by decide +kernel
theorem dX8_middle_8 : decode cX8_middle 8 = .ok (.iconst 2, 1) := by decide +kernel
theorem dX8_middle_9 : decode cX8_middle 9 = .ok (.idiv, 1) := by decide +kernel
theorem dX8_middle_10 : decode cX8_middle 10 = .ok (.goto 8, 3) := by decide +kernel
theorem dX8_middle_13 : decode cX8_middle 13 = .ok (.iload_n 0, 1) := by decide +kernel
theorem dX8_middle_14 : decode cX8_middle 14 = .ok (.iconst 2, 1) := by decide +kernel
theorem dX8_middle_15 : decode cX8_middle 15 = .ok (.idiv, 1) := by decide +kernel
theorem dX8_middle_16 : decode cX8_middle 16 = .ok (.iconst 1, 1) := by decide +kernel
theorem dX8_middle_17 : decode cX8_middle 17 = .ok (.isub, 1) := by decide +kernel
theorem dX8_middle_18 : decode cX8_middle 18 = .ok (.ireturn, 1) := by decide +kernel
theorem dX8_fill_0 : decode cX8_fill 0 = .ok (.aload_n 0, 1) := by decide +kernel
theorem dX8_fill_1 : decode cX8_fill 1 = .ok (.getfield 19, 3) := by decide +kernel
theorem dX8_fill_4 : decode cX8_fill 4 = .ok (.bipush 12, 2) := by decide +kernel
theorem dX8_fill_6 : decode cX8_fill 6 = .ok (.iload_n 1, 1) := by decide +kernel
theorem dX8_fill_7 : decode cX8_fill 7 = .ok (.imul, 1) := by decide +kernel
theorem dX8_fill_8 : decode cX8_fill 8 = .ok (.iload_n 2, 1) := by decide +kernel
theorem dX8_fill_9 : decode cX8_fill 9 = .ok (.iadd, 1) := by decide +kernel
theorem dX8_fill_10 : decode cX8_fill 10 = .ok (.iaload, 1) := by decide +kernel
theorem dX8_fill_11 : decode cX8_fill 11 = .ok (.istore_n 3, 1) := by decide +kernel
theorem dX8_fill_12 : decode cX8_fill 12 = .ok (.bipush 60, 2) := by decide +kernel
theorem dX8_fill_14 : decode cX8_fill 14 = .ok (.iload_n 1, 1) := by decide +kernel
theorem dX8_fill_15 : decode cX8_fill 15 = .ok (.imul, 1) := by decide +kernel
theorem dX8_fill_16 : decode cX8_fill 16 = .ok (.istore 4, 2) := by decide +kernel
theorem dX8_fill_18 : decode cX8_fill 18 = .ok (.iload 4, 2) := by decide +kernel
theorem dX8_fill_20 : decode cX8_fill 20 = .ok (.bipush 60, 2) := by decide +kernel
theorem dX8_fill_22 : decode cX8_fill 22 = .ok (.iload_n 1, 1) := by decide +kernel
theorem dX8_fill_23 : decode cX8_fill 23 = .ok (.imul, 1) := by decide +kernel
theorem dX8_fill_24 : decode cX8_fill 24 = .ok (.aload_n 0, 1) := by decide +kernel
theorem dX8_fill_25 : decode cX8_fill 25 = .ok (.getfield 22, 3) := by decide +kernel
theorem dX8_fill_28 : decode cX8_fill 28 = .ok (.iload_n 1, 1) := by decide +kernel
theorem dX8_fill_29 : decode cX8_fill 29 = .ok (.iaload, 1) := by decide +kernel
theorem dX8_fill_30 : decode cX8_fill 30 = .ok (.iadd, 1) := by decide +kernel
theorem dX8_fill_31 : decode cX8_fill 31 = .ok (.if_icmp .ge 44, 3) := by decide +kernel
theorem dX8_fill_34 : decode cX8_fill 34 = .ok (.iload_n 3, 1) := by decide +kernel
theorem dX8_fill_35 : decode cX8_fill 35 = .ok (.aload_n 0, 1) := by decide +kernel
theorem dX8_fill_36 : decode cX8_fill 36 = .ok (.getfield 25, 3) := by decide +kernel
theorem dX8_fill_39 : decode cX8_fill 39 = .ok (.iload 4, 2) := by decide +kernel
theorem dX8_fill_41 : decode cX8_fill 41 = .ok (.iaload, 1) := by decide +kernel
theorem dX8_fill_42 : decode cX8_fill 42 = .ok (.aload_n 0, 1) := by decide +kernel
theorem dX8_fill_43 : decode cX8_fill 43 = .ok (.getfield 16, 3) := by decide +kernel
theorem dX8_fill_46 : decode cX8_fill 46 = .ok (.bipush 12, 2) := by decide +kernel
theorem dX8_fill_48 : decode cX8_fill 48 = .ok (.iload_n 1, 1) := by decide +kernel
theorem dX8_fill_49 : decode cX8_fill 49 = .ok (.imul, 1) := by decide +kernel
theorem dX8_fill_50 : decode cX8_fill 50 = .ok (.iload_n 2, 1) := by decide +kernel
theorem dX8_fill_51 : decode cX8_fill 51 = .ok (.iadd, 1) := by decide +kernel
theorem dX8_fill_52 : decode cX8_fill 52 = .ok (.iaload, 1) := by decide +kernel
theorem dX8_fill_53 : decode cX8_fill 53 = .ok (.if_icmp .gt 13, 3) := by decide +kernel
theorem dX8_fill_56 : decode cX8_fill 56 = .ok (.aload_n 0, 1) := by decide +kernel
theorem dX8_fill_57 : decode cX8_fill 57 = .ok (.getfield 28, 3) := by decide +kernel
theorem dX8_fill_60 : decode cX8_fill 60 = .ok (.iload 4, 2) := by decide +kernel
theorem dX8_fill_62 : decode cX8_fill 62 = .ok (.iaload, 1) := by decide +kernel
theorem dX8_fill_63 : decode cX8_fill 63 = .ok (.goto 4, 3) := by decide +kernel
theorem dX8_fill_66 : decode cX8_fill 66 = .ok (.iconst 0, 1) := by decide +kernel
theorem dX8_fill_67 : decode cX8_fill 67 = .ok (.iadd, 1) := by decide +kernel
theorem dX8_fill_68 : decode cX8_fill 68 = .ok (.istore_n 3, 1) := by decide +kernel
theorem dX8_fill_69 : decode cX8_fill 69 = .ok (.iinc 4 1, 3) := by decide +kernel
theorem dX8_fill_72 : decode cX8_fill 72 = .ok (.goto (-54), 3) := by decide +kernel
theorem dX8_fill_75 : decode cX8_fill 75 = .ok (.iload_n 3, 1) := by decide +kernel
theorem dX8_fill_76 : decode cX8_fill 76 = .ok (.ireturn, 1) := by decide +kernel
theorem dX8_compare_0 : decode cX8_compare 0 = .ok (.aload_n 0, 1) := by decide +kernel
theorem dX8_compare_1 : decode cX8_compare 1 = .ok (.getfield 56, 3) := by decide +kernel
theorem dX8_compare_4 : decode cX8_compare 4 = .ok (.iload_n 1, 1) := by decide +kernel
theorem dX8_compare_5 : decode cX8_compare 5 = .ok (.iaload, 1) := by decide +kernel
theorem dX8_compare_6 : decode cX8_compare 6 = .ok (.i2l, 1) := by decide +kernel
theorem dX8_compare_7 : decode cX8_compare 7 = .ok (.aload_n 0, 1) := by decide +kernel
theorem dX8_compare_8 : decode cX8_compare 8 = .ok (.getfield 59, 3) := by decide +kernel
theorem dX8_compare_11 : decode cX8_compare 11 = .ok (.iload_n 2, 1) := by decide +kernel
theorem dX8_compare_12 : decode cX8_compare 12 = .ok (.iaload, 1) := by decide +kernel
theorem dX8_compare_13 : decode cX8_compare 13 = .ok (.i2l, 1) := by decide +kernel
theorem dX8_compare_14 : decode cX8_compare 14 = .ok (.lmul, 1) := by decide +kernel
theorem dX8_compare_15 : decode cX8_compare 15 = .ok (.aload_n 0, 1) := by decide +kernel
theorem dX8_compare_16 : decode cX8_compare 16 = .ok (.getfield 56, 3) := by decide +kernel
theorem dX8_compare_19 : decode cX8_compare 19 = .ok (.iload_n 2, 1) := by decide +kernel
theorem dX8_compare_20 : decode cX8_compare 20 = .ok (.iaload, 1) := by decide +kernel
theorem dX8_compare_21 : decode cX8_compare 21 = .ok (.i2l, 1) := by decide +kernel
theorem dX8_compare_22 : decode cX8_compare 22 = .ok (.aload_n 0, 1) := by decide +kernel
theorem dX8_compare_23 : decode cX8_compare 23 = .ok (.getfield 59, 3) := by decide +kernel
theorem dX8_compare_26 : decode cX8_compare 26 = .ok (.iload_n 1, 1) := by decide +kernel
theorem dX8_compare_27 : decode cX8_compare 27 = .ok (.iaload, 1) := by decide +kernel
theorem dX8_compare_28 : decode cX8_compare 28 = .ok (.i2l, 1) := by decide +kernel
theorem dX8_compare_29 : decode cX8_compare 29 = .ok (.lmul, 1) := by decide +kernel
theorem dX8_compare_30 : decode cX8_compare 30 = .ok (.lsub, 1) := by decide +kernel
theorem dX8_compare_31 : decode cX8_compare 31 = .ok (.lstore_n 3, 1) := by decide +kernel
theorem dX8_compare_32 : decode cX8_compare 32 = .ok (.lload_n 3, 1) := by decide +kernel
theorem dX8_compare_33 : decode cX8_compare 33 = .ok (.lconst 0, 1) := by decide +kernel
theorem dX8_compare_34 : decode cX8_compare 34 = .ok (.lcmp, 1) := by decide +kernel
theorem dX8_compare_35 : decode cX8_compare 35 = .ok (.ifCond .ge 7, 3) := by decide +kernel
theorem dX8_compare_38 : decode cX8_compare 38 = .ok (.iconst (-1), 1) := by decide +kernel
theorem dX8_compare_39 : decode cX8_compare 39 = .ok (.goto 14, 3) := by decide +kernel
theorem dX8_compare_42 : decode cX8_compare 42 = .ok (.lload_n 3, 1) := by decide +kernel
theorem dX8_compare_43 : decode cX8_compare 43 = .ok (.lconst 0, 1) := by decide +kernel
theorem dX8_compare_44 : decode cX8_compare 44 = .ok (.lcmp, 1) := by decide +kernel
theorem dX8_compare_45 : decode cX8_compare 45 = .ok (.ifCond .le 7, 3) := by decide +kernel
theorem dX8_compare_48 : decode cX8_compare 48 = .ok (.iconst 1, 1) := by decide +kernel
theorem dX8_compare_49 : decode cX8_compare 49 = .ok (.goto 4, 3) := by decide +kernel
theorem dX8_compare_52 : decode cX8_compare 52 = .ok (.iconst 0, 1) := by decide +kernel
theorem dX8_compare_53 : decode cX8_compare 53 = .ok (.ireturn, 1) := by decide +kernel
theorem dX8_divisor_0 : decode cX8_divisor 0 = .ok (.iload_n 0, 1) := by decide +kernel
theorem dX8_divisor_1 : decode cX8_divisor 1 = .ok (.ifCond .ge 8, 3) := by decide +kernel
theorem dX8_divisor_4 : decode cX8_divisor 4 = .ok (.iload_n 0, 1) := by decide +kernel
theorem dX8_divisor_5 : decode cX8_divisor 5 = .ok (.ineg, 1) := by decide +kernel
theorem dX8_divisor_6 : decode cX8_divisor 6 = .ok (.goto 4, 3) := by decide +kernel
theorem dX8_divisor_9 : decode cX8_divisor 9 = .ok (.iload_n 0, 1) := by decide +kernel
theorem dX8_divisor_10 : decode cX8_divisor 10 = .ok (.istore_n 2, 1) := by decide +kernel
theorem dX8_divisor_11 : decode cX8_divisor 11 = .ok (.iload_n 1, 1) := by decide +kernel
theorem dX8_divisor_12 : decode cX8_divisor 12 = .ok (.istore_n 3, 1) := by decide +kernel
theorem dX8_divisor_13 : decode cX8_divisor 13 = .ok (.iload_n 3, 1) := by decide +kernel
theorem dX8_divisor_14 : decode cX8_divisor 14 = .ok (.ifCond .le 16, 3) := by decide +kernel
theorem dX8_divisor_17 : decode cX8_divisor 17 = .ok (.iload_n 2, 1) := by decide +kernel
theorem dX8_divisor_18 : decode cX8_divisor 18 = .ok (.iload_n 3, 1) := by decide +kernel
theorem dX8_divisor_19 : decode cX8_divisor 19 = .ok (.irem, 1) := by decide +kernel
theorem dX8_divisor_20 : decode cX8_divisor 20 = .ok (.istore 4, 2) := by decide +kernel
theorem dX8_divisor_22 : decode cX8_divisor 22 = .ok (.iload_n 3, 1) := by decide +kernel
theorem dX8_divisor_23 : decode cX8_divisor 23 = .ok (.istore_n 2, 1) := by decide +kernel
theorem dX8_divisor_24 : decode cX8_divisor 24 = .ok (.iload 4, 2) := by decide +kernel
theorem dX8_divisor_26 : decode cX8_divisor 26 = .ok (.istore_n 3, 1) := by decide +kernel
theorem dX8_divisor_27 : decode cX8_divisor 27 = .ok (.goto (-14), 3) := by decide +kernel
theorem dX8_divisor_30 : decode cX8_divisor 30 = .ok (.iload_n 2, 1) := by decide +kernel
theorem dX8_divisor_31 : decode cX8_divisor 31 = .ok (.ireturn, 1) := by decide +kernel
theorem dX8_laysSlopes_0 : decode cX8_laysSlopes 0 = .ok (.aload_n 0, 1) := by decide +kernel
theorem dX8_laysSlopes_1 : decode cX8_laysSlopes 1 = .ok (.iconst 0, 1) := by decide +kernel
theorem dX8_laysSlopes_2 : decode cX8_laysSlopes 2 = .ok (.putfield 100, 3) := by decide +kernel
theorem dX8_laysSlopes_5 : decode cX8_laysSlopes 5 = .ok (.iconst 0, 1) := by decide +kernel
theorem dX8_laysSlopes_6 : decode cX8_laysSlopes 6 = .ok (.istore_n 3, 1) := by decide +kernel
theorem dX8_laysSlopes_7 : decode cX8_laysSlopes 7 = .ok (.iload_n 3, 1) := by decide +kernel
theorem dX8_laysSlopes_8 : decode cX8_laysSlopes 8 = .ok (.aload_n 0, 1) := by decide +kernel
theorem dX8_laysSlopes_9 : decode cX8_laysSlopes 9 = .ok (.getfield 13, 3) := by decide +kernel
theorem dX8_laysSlopes_12 : decode cX8_laysSlopes 12 = .ok (.iload_n 1, 1) := by decide +kernel
theorem dX8_laysSlopes_13 : decode cX8_laysSlopes 13 = .ok (.iaload, 1) := by decide +kernel
theorem dX8_laysSlopes_14 : decode cX8_laysSlopes 14 = .ok (.if_icmp .ge 167, 3) := by decide +kernel
theorem dX8_laysSlopes_17 : decode cX8_laysSlopes 17 = .ok (.aload_n 0, 1) := by decide +kernel
theorem dX8_laysSlopes_18 : decode cX8_laysSlopes 18 = .ok (.getfield 53, 3) := by decide +kernel
theorem dX8_laysSlopes_21 : decode cX8_laysSlopes 21 = .ok (.iload_n 3, 1) := by decide +kernel
theorem dX8_laysSlopes_22 : decode cX8_laysSlopes 22 = .ok (.aload_n 0, 1) := by decide +kernel
theorem dX8_laysSlopes_23 : decode cX8_laysSlopes 23 = .ok (.iload_n 1, 1) := by decide +kernel
theorem dX8_laysSlopes_24 : decode cX8_laysSlopes 24 = .ok (.iload_n 3, 1) := by decide +kernel
theorem dX8_laysSlopes_25 : decode cX8_laysSlopes 25 = .ok (.invokevirtual 103, 3) := by decide +kernel
theorem dX8_laysSlopes_28 : decode cX8_laysSlopes 28 = .ok (.iastore, 1) := by decide +kernel
theorem dX8_laysSlopes_29 : decode cX8_laysSlopes 29 = .ok (.aload_n 0, 1) := by decide +kernel
theorem dX8_laysSlopes_30 : decode cX8_laysSlopes 30 = .ok (.iload_n 3, 1) := by decide +kernel
theorem dX8_laysSlopes_31 : decode cX8_laysSlopes 31 = .ok (.iload_n 2, 1) := by decide +kernel
theorem dX8_laysSlopes_32 : decode cX8_laysSlopes 32 = .ok (.if_icmp .ne 10, 3) := by decide +kernel
theorem dX8_laysSlopes_35 : decode cX8_laysSlopes 35 = .ok (.aload_n 0, 1) := by decide +kernel
theorem dX8_laysSlopes_36 : decode cX8_laysSlopes 36 = .ok (.getfield 107, 3) := by decide +kernel
theorem dX8_laysSlopes_39 : decode cX8_laysSlopes 39 = .ok (.goto 14, 3) := by decide +kernel
theorem dX8_laysSlopes_42 : decode cX8_laysSlopes 42 = .ok (.aload_n 0, 1) := by decide +kernel
theorem dX8_laysSlopes_43 : decode cX8_laysSlopes 43 = .ok (.getfield 16, 3) := by decide +kernel
theorem dX8_laysSlopes_46 : decode cX8_laysSlopes 46 = .ok (.bipush 12, 2) := by decide +kernel
theorem dX8_laysSlopes_48 : decode cX8_laysSlopes 48 = .ok (.iload_n 1, 1) := by decide +kernel
theorem dX8_laysSlopes_49 : decode cX8_laysSlopes 49 = .ok (.imul, 1) := by decide +kernel
theorem dX8_laysSlopes_50 : decode cX8_laysSlopes 50 = .ok (.iload_n 3, 1) := by decide +kernel
theorem dX8_laysSlopes_51 : decode cX8_laysSlopes 51 = .ok (.iadd, 1) := by decide +kernel
theorem dX8_laysSlopes_52 : decode cX8_laysSlopes 52 = .ok (.iaload, 1) := by decide +kernel
theorem dX8_laysSlopes_53 : decode cX8_laysSlopes 53 = .ok (.putfield 107, 3) := by decide +kernel
theorem dX8_laysSlopes_56 : decode cX8_laysSlopes 56 = .ok (.aload_n 0, 1) := by decide +kernel
theorem dX8_laysSlopes_57 : decode cX8_laysSlopes 57 = .ok (.iload_n 3, 1) := by decide +kernel
theorem dX8_laysSlopes_58 : decode cX8_laysSlopes 58 = .ok (.iload_n 2, 1) := by decide +kernel
theorem dX8_laysSlopes_59 : decode cX8_laysSlopes 59 = .ok (.if_icmp .ne 10, 3) := by decide +kernel
theorem dX8_laysSlopes_62 : decode cX8_laysSlopes 62 = .ok (.aload_n 0, 1) := by decide +kernel
theorem dX8_laysSlopes_63 : decode cX8_laysSlopes 63 = .ok (.getfield 110, 3) := by decide +kernel
theorem dX8_laysSlopes_66 : decode cX8_laysSlopes 66 = .ok (.goto 14, 3) := by decide +kernel
theorem dX8_laysSlopes_69 : decode cX8_laysSlopes 69 = .ok (.aload_n 0, 1) := by decide +kernel
theorem dX8_laysSlopes_70 : decode cX8_laysSlopes 70 = .ok (.getfield 19, 3) := by decide +kernel
theorem dX8_laysSlopes_73 : decode cX8_laysSlopes 73 = .ok (.bipush 12, 2) := by decide +kernel
theorem dX8_laysSlopes_75 : decode cX8_laysSlopes 75 = .ok (.iload_n 1, 1) := by decide +kernel
theorem dX8_laysSlopes_76 : decode cX8_laysSlopes 76 = .ok (.imul, 1) := by decide +kernel
theorem dX8_laysSlopes_77 : decode cX8_laysSlopes 77 = .ok (.iload_n 3, 1) := by decide +kernel
theorem dX8_laysSlopes_78 : decode cX8_laysSlopes 78 = .ok (.iadd, 1) := by decide +kernel
theorem dX8_laysSlopes_79 : decode cX8_laysSlopes 79 = .ok (.iaload, 1) := by decide +kernel
theorem dX8_laysSlopes_80 : decode cX8_laysSlopes 80 = .ok (.putfield 110, 3) := by decide +kernel
theorem dX8_laysSlopes_83 : decode cX8_laysSlopes 83 = .ok (.iconst 0, 1) := by decide +kernel
theorem dX8_laysSlopes_84 : decode cX8_laysSlopes 84 = .ok (.istore 4, 2) := by decide +kernel
theorem dX8_laysSlopes_86 : decode cX8_laysSlopes 86 = .ok (.iload 4, 2) := by decide +kernel
theorem dX8_laysSlopes_88 : decode cX8_laysSlopes 88 = .ok (.iload_n 3, 1) := by decide +kernel
theorem dX8_laysSlopes_89 : decode cX8_laysSlopes 89 = .ok (.if_icmp .ge 86, 3) := by decide +kernel
theorem dX8_laysSlopes_92 : decode cX8_laysSlopes 92 = .ok (.iload_n 3, 1) := by decide +kernel
theorem dX8_laysSlopes_93 : decode cX8_laysSlopes 93 = .ok (.iload_n 2, 1) := by decide +kernel
theorem dX8_laysSlopes_94 : decode cX8_laysSlopes 94 = .ok (.if_icmp .eq 75, 3) := by decide +kernel
theorem dX8_laysSlopes_97 : decode cX8_laysSlopes 97 = .ok (.iload 4, 2) := by decide +kernel
theorem dX8_laysSlopes_99 : decode cX8_laysSlopes 99 = .ok (.iload_n 2, 1) := by decide +kernel
theorem dX8_laysSlopes_100 : decode cX8_laysSlopes 100 = .ok (.if_icmp .eq 69, 3) := by decide +kernel
theorem dX8_laysSlopes_103 : decode cX8_laysSlopes 103 = .ok (.aload_n 0, 1) := by decide +kernel
theorem dX8_laysSlopes_104 : decode cX8_laysSlopes 104 = .ok (.getfield 56, 3) := by decide +kernel
theorem dX8_laysSlopes_107 : decode cX8_laysSlopes 107 = .ok (.aload_n 0, 1) := by decide +kernel
theorem dX8_laysSlopes_108 : decode cX8_laysSlopes 108 = .ok (.getfield 100, 3) := by decide +kernel
theorem dX8_laysSlopes_111 : decode cX8_laysSlopes 111 = .ok (.aload_n 0, 1) := by decide +kernel
theorem dX8_laysSlopes_112 : decode cX8_laysSlopes 112 = .ok (.getfield 53, 3) := by decide +kernel
theorem dX8_laysSlopes_115 : decode cX8_laysSlopes 115 = .ok (.iload_n 3, 1) := by decide +kernel
theorem dX8_laysSlopes_116 : decode cX8_laysSlopes 116 = .ok (.iaload, 1) := by decide +kernel
theorem dX8_laysSlopes_117 : decode cX8_laysSlopes 117 = .ok (.aload_n 0, 1) := by decide +kernel
theorem dX8_laysSlopes_118 : decode cX8_laysSlopes 118 = .ok (.getfield 53, 3) := by decide +kernel
theorem dX8_laysSlopes_121 : decode cX8_laysSlopes 121 = .ok (.iload 4, 2) := by decide +kernel
theorem dX8_laysSlopes_123 : decode cX8_laysSlopes 123 = .ok (.iaload, 1) := by decide +kernel
theorem dX8_laysSlopes_124 : decode cX8_laysSlopes 124 = .ok (.isub, 1) := by decide +kernel
theorem dX8_laysSlopes_125 : decode cX8_laysSlopes 125 = .ok (.iastore, 1) := by decide +kernel
theorem dX8_laysSlopes_126 : decode cX8_laysSlopes 126 = .ok (.aload_n 0, 1) := by decide +kernel
theorem dX8_laysSlopes_127 : decode cX8_laysSlopes 127 = .ok (.getfield 59, 3) := by decide +kernel
theorem dX8_laysSlopes_130 : decode cX8_laysSlopes 130 = .ok (.aload_n 0, 1) := by decide +kernel
theorem dX8_laysSlopes_131 : decode cX8_laysSlopes 131 = .ok (.getfield 100, 3) := by decide +kernel
theorem dX8_laysSlopes_134 : decode cX8_laysSlopes 134 = .ok (.aload_n 0, 1) := by decide +kernel
