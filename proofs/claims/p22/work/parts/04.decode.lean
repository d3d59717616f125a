theorem dX0_init_0 : decode cX0_init 0 = .ok (.aload_n 0, 1) := by decide +kernel
theorem dX0_init_1 : decode cX0_init 1 = .ok (.invokespecial 5, 3) := by decide +kernel
theorem dX0_init_4 : decode cX0_init 4 = .ok (.aload_n 0, 1) := by decide +kernel
theorem dX0_init_5 : decode cX0_init 5 = .ok (.sipush 1440, 3) := by decide +kernel
theorem dX0_init_8 : decode cX0_init 8 = .ok (.newarray .int, 2) := by decide +kernel
theorem dX0_init_10 : decode cX0_init 10 = .ok (.putfield 11, 3) := by decide +kernel
theorem dX0_init_13 : decode cX0_init 13 = .ok (.return_, 1) := by decide +kernel
theorem dX0_indexOf_0 : decode cX0_indexOf 0 = .ok (.iload_n 0, 1) := by decide +kernel
theorem dX0_indexOf_1 : decode cX0_indexOf 1 = .ok (.sipush 360, 3) := by decide +kernel
theorem dX0_indexOf_4 : decode cX0_indexOf 4 = .ok (.imul, 1) := by decide +kernel
theorem dX0_indexOf_5 : decode cX0_indexOf 5 = .ok (.iload_n 1, 1) := by decide +kernel
theorem dX0_indexOf_6 : decode cX0_indexOf 6 = .ok (.bipush 36, 2) := by decide +kernel
theorem dX0_indexOf_8 : decode cX0_indexOf 8 = .ok (.imul, 1) := by decide +kernel
theorem dX0_indexOf_9 : decode cX0_indexOf 9 = .ok (.iadd, 1) := by decide +kernel
theorem dX0_indexOf_10 : decode cX0_indexOf 10 = .ok (.iload_n 2, 1) := by decide +kernel
theorem dX0_indexOf_11 : decode cX0_indexOf 11 = .ok (.bipush 12, 2) := by decide +kernel
theorem dX0_indexOf_13 : decode cX0_indexOf 13 = .ok (.imul, 1) := by decide +kernel
theorem dX0_indexOf_14 : decode cX0_indexOf 14 = .ok (.iadd, 1) := by decide +kernel
theorem dX0_indexOf_15 : decode cX0_indexOf 15 = .ok (.iload_n 3, 1) := by decide +kernel
theorem dX0_indexOf_16 : decode cX0_indexOf 16 = .ok (.iadd, 1) := by decide +kernel
theorem dX0_indexOf_17 : decode cX0_indexOf 17 = .ok (.ireturn, 1) := by decide +kernel
theorem dX0_at_0 : decode cX0_at 0 = .ok (.aload_n 0, 1) := by decide +kernel
theorem dX0_at_1 : decode cX0_at 1 = .ok (.getfield 11, 3) := by decide +kernel
theorem dX0_at_4 : decode cX0_at 4 = .ok (.iload_n 1, 1) := by decide +kernel
theorem dX0_at_5 : decode cX0_at 5 = .ok (.iload_n 2, 1) := by decide +kernel
theorem dX0_at_6 : decode cX0_at 6 = .ok (.iload_n 3, 1) := by decide +kernel
theorem dX0_at_7 : decode cX0_at 7 = .ok (.iload 4, 2) := by decide +kernel
theorem dX0_at_9 : decode cX0_at 9 = .ok (.invokestatic 15, 3) := by decide +kernel
theorem dX0_at_12 : decode cX0_at 12 = .ok (.iaload, 1) := by decide +kernel
theorem dX0_at_13 : decode cX0_at 13 = .ok (.ireturn, 1) := by decide +kernel
theorem dX0_put_0 : decode cX0_put 0 = .ok (.iload_n 1, 1) := by decide +kernel
theorem dX0_put_1 : decode cX0_put 1 = .ok (.iload_n 2, 1) := by decide +kernel
theorem dX0_put_2 : decode cX0_put 2 = .ok (.iload_n 3, 1) := by decide +kernel
theorem dX0_put_3 : decode cX0_put 3 = .ok (.iload 4, 2) := by decide +kernel
theorem dX0_put_5 : decode cX0_put 5 = .ok (.invokestatic 15, 3) := by decide +kernel
theorem dX0_put_8 : decode cX0_put 8 = .ok (.istore 6, 2) := by decide +kernel
theorem dX0_put_10 : decode cX0_put 10 = .ok (.aload_n 0, 1) := by decide +kernel
theorem dX0_put_11 : decode cX0_put 11 = .ok (.getfield 11, 3) := by decide +kernel
theorem dX0_put_14 : decode cX0_put 14 = .ok (.iload 6, 2) := by decide +kernel
theorem dX0_put_16 : decode cX0_put 16 = .ok (.iaload, 1) := by decide +kernel
theorem dX0_put_17 : decode cX0_put 17 = .ok (.istore 7, 2) := by decide +kernel
theorem dX0_put_19 : decode cX0_put 19 = .ok (.aload_n 0, 1) := by decide +kernel
theorem dX0_put_20 : decode cX0_put 20 = .ok (.getfield 11, 3) := by decide +kernel
theorem dX0_put_23 : decode cX0_put 23 = .ok (.iload 6, 2) := by decide +kernel
theorem dX0_put_25 : decode cX0_put 25 = .ok (.iload 5, 2) := by decide +kernel
theorem dX0_put_27 : decode cX0_put 27 = .ok (.iastore, 1) := by decide +kernel
theorem dX0_put_28 : decode cX0_put 28 = .ok (.iload 7, 2) := by decide +kernel
theorem dX0_put_30 : decode cX0_put 30 = .ok (.ireturn, 1) := by decide +kernel
theorem dX0_valueOf_0 : decode cX0_valueOf 0 = .ok (.iload_n 3, 1) := by decide +kernel
theorem dX0_valueOf_1 : decode cX0_valueOf 1 = .ok (.iconst 3, 1) := by decide +kernel
theorem dX0_valueOf_2 : decode cX0_valueOf 2 = .ok (.if_icmp .ne 23, 3) := by decide +kernel
theorem dX0_valueOf_5 : decode cX0_valueOf 5 = .ok (.aload_n 0, 1) := by decide +kernel
theorem dX0_valueOf_6 : decode cX0_valueOf 6 = .ok (.iload_n 1, 1) := by decide +kernel
theorem dX0_valueOf_7 : decode cX0_valueOf 7 = .ok (.iload_n 2, 1) := by decide +kernel
theorem dX0_valueOf_8 : decode cX0_valueOf 8 = .ok (.iconst 0, 1) := by decide +kernel
theorem dX0_valueOf_9 : decode cX0_valueOf 9 = .ok (.iload 4, 2) := by decide +kernel
theorem dX0_valueOf_11 : decode cX0_valueOf 11 = .ok (.invokevirtual 19, 3) := by decide +kernel
theorem dX0_valueOf_14 : decode cX0_valueOf 14 = .ok (.aload_n 0, 1) := by decide +kernel
theorem dX0_valueOf_15 : decode cX0_valueOf 15 = .ok (.iload_n 1, 1) := by decide +kernel
theorem dX0_valueOf_16 : decode cX0_valueOf 16 = .ok (.iload_n 2, 1) := by decide +kernel
theorem dX0_valueOf_17 : decode cX0_valueOf 17 = .ok (.iconst 1, 1) := by decide +kernel
theorem dX0_valueOf_18 : decode cX0_valueOf 18 = .ok (.iload 4, 2) := by decide +kernel
theorem dX0_valueOf_20 : decode cX0_valueOf 20 = .ok (.invokevirtual 19, 3) := by decide +kernel
theorem dX0_valueOf_23 : decode cX0_valueOf 23 = .ok (.imul, 1) := by decide +kernel
theorem dX0_valueOf_24 : decode cX0_valueOf 24 = .ok (.ireturn, 1) := by decide +kernel
theorem dX0_valueOf_25 : decode cX0_valueOf 25 = .ok (.aload_n 0, 1) := by decide +kernel
theorem dX0_valueOf_26 : decode cX0_valueOf 26 = .ok (.iload_n 1, 1) := by decide +kernel
theorem dX0_valueOf_27 : decode cX0_valueOf 27 = .ok (.iload_n 2, 1) := by decide +kernel
theorem dX0_valueOf_28 : decode cX0_valueOf 28 = .ok (.iload_n 3, 1) := by decide +kernel
theorem dX0_valueOf_29 : decode cX0_valueOf 29 = .ok (.iload 4, 2) := by decide +kernel
theorem dX0_valueOf_31 : decode cX0_valueOf 31 = .ok (.invokevirtual 19, 3) := by decide +kernel
theorem dX0_valueOf_34 : decode cX0_valueOf 34 = .ok (.ireturn, 1) := by decide +kernel
theorem dX0_sumOver_0 : decode cX0_sumOver 0 = .ok (.iconst 0, 1) := by decide +kernel
theorem dX0_sumOver_1 : decode cX0_sumOver 1 = .ok (.istore 5, 2) := by decide +kernel
theorem dX0_sumOver_3 : decode cX0_sumOver 3 = .ok (.iconst 0, 1) := by decide +kernel
theorem dX0_sumOver_4 : decode cX0_sumOver 4 = .ok (.istore 6, 2) := by decide +kernel
theorem dX0_sumOver_6 : decode cX0_sumOver 6 = .ok (.iload 6, 2) := by decide +kernel
theorem dX0_sumOver_8 : decode cX0_sumOver 8 = .ok (.bipush 10, 2) := by decide +kernel
theorem dX0_sumOver_10 : decode cX0_sumOver 10 = .ok (.if_icmp .ge 33, 3) := by decide +kernel
theorem dX0_sumOver_13 : decode cX0_sumOver 13 = .ok (.iload_n 2, 1) := by decide +kernel
theorem dX0_sumOver_14 : decode cX0_sumOver 14 = .ok (.iload 6, 2) := by decide +kernel
theorem dX0_sumOver_16 : decode cX0_sumOver 16 = .ok (.invokestatic 22, 3) := by decide +kernel
theorem dX0_sumOver_19 : decode cX0_sumOver 19 = .ok (.ifCond .eq 18, 3) := by decide +kernel
theorem dX0_sumOver_22 : decode cX0_sumOver 22 = .ok (.iload 5, 2) := by decide +kernel
theorem dX0_sumOver_24 : decode cX0_sumOver 24 = .ok (.aload_n 0, 1) := by decide +kernel
theorem dX0_sumOver_25 : decode cX0_sumOver 25 = .ok (.iload_n 1, 1) := by decide +kernel
theorem dX0_sumOver_26 : decode cX0_sumOver 26 = .ok (.iload 6, 2) := by decide +kernel
theorem dX0_sumOver_28 : decode cX0_sumOver 28 = .ok (.iload_n 3, 1) := by decide +kernel
theorem dX0_sumOver_29 : decode cX0_sumOver 29 = .ok (.iload 4, 2) := by decide +kernel
theorem dX0_sumOver_31 : decode cX0_sumOver 31 = .ok (.invokevirtual 26, 3) := by decide +kernel
theorem dX0_sumOver_34 : decode cX0_sumOver 34 = .ok (.iadd, 1) := by decide +kernel
theorem dX0_sumOver_35 : decode cX0_sumOver 35 = .ok (.istore 5, 2) := by decide +kernel
theorem dX0_sumOver_37 : decode cX0_sumOver 37 = .ok (.iinc 6 1, 3) := by decide +kernel
theorem dX0_sumOver_40 : decode cX0_sumOver 40 = .ok (.goto (-34), 3) := by decide +kernel
theorem dX0_sumOver_43 : decode cX0_sumOver 43 = .ok (.iload 5, 2) := by decide +kernel
theorem dX0_sumOver_45 : decode cX0_sumOver 45 = .ok (.ireturn, 1) := by decide +kernel
theorem dX0_yearOf_0 : decode cX0_yearOf 0 = .ok (.iconst 0, 1) := by decide +kernel
theorem dX0_yearOf_1 : decode cX0_yearOf 1 = .ok (.istore 4, 2) := by decide +kernel
theorem dX0_yearOf_3 : decode cX0_yearOf 3 = .ok (.iconst 0, 1) := by decide +kernel
theorem dX0_yearOf_4 : decode cX0_yearOf 4 = .ok (.istore 5, 2) := by decide +kernel
theorem dX0_yearOf_6 : decode cX0_yearOf 6 = .ok (.iload 5, 2) := by decide +kernel
theorem dX0_yearOf_8 : decode cX0_yearOf 8 = .ok (.bipush 12, 2) := by decide +kernel
theorem dX0_yearOf_10 : decode cX0_yearOf 10 = .ok (.if_icmp .ge 23, 3) := by decide +kernel
theorem dX0_yearOf_13 : decode cX0_yearOf 13 = .ok (.iload 4, 2) := by decide +kernel
theorem dX0_yearOf_15 : decode cX0_yearOf 15 = .ok (.aload_n 0, 1) := by decide +kernel
theorem dX0_yearOf_16 : decode cX0_yearOf 16 = .ok (.iload_n 1, 1) := by decide +kernel
theorem dX0_yearOf_17 : decode cX0_yearOf 17 = .ok (.iload_n 2, 1) := by decide +kernel
theorem dX0_yearOf_18 : decode cX0_yearOf 18 = .ok (.iload_n 3, 1) := by decide +kernel
theorem dX0_yearOf_19 : decode cX0_yearOf 19 = .ok (.iload 5, 2) := by decide +kernel
theorem dX0_yearOf_21 : decode cX0_yearOf 21 = .ok (.invokevirtual 26, 3) := by decide +kernel
theorem dX0_yearOf_24 : decode cX0_yearOf 24 = .ok (.iadd, 1) := by decide +kernel
theorem dX0_yearOf_25 : decode cX0_yearOf 25 = .ok (.istore 4, 2) := by decide +kernel
theorem dX0_yearOf_27 : decode cX0_yearOf 27 = .ok (.iinc 5 1, 3) := by decide +kernel
theorem dX0_yearOf_30 : decode cX0_yearOf 30 = .ok (.goto (-24), 3) := by decide +kernel
theorem dX0_yearOf_33 : decode cX0_yearOf 33 = .ok (.iload 4, 2) := by decide +kernel
theorem dX0_yearOf_35 : decode cX0_yearOf 35 = .ok (.ireturn, 1) := by decide +kernel
theorem dX0_copyLayer_0 : decode cX0_copyLayer 0 = .ok (.iconst 0, 1) := by decide +kernel
theorem dX0_copyLayer_1 : decode cX0_copyLayer 1 = .ok (.istore_n 3, 1) := by decide +kernel
theorem dX0_copyLayer_2 : decode cX0_copyLayer 2 = .ok (.iconst 0, 1) := by decide +kernel
theorem dX0_copyLayer_3 : decode cX0_copyLayer 3 = .ok (.istore 4, 2) := by decide +kernel
theorem dX0_copyLayer_5 : decode cX0_copyLayer 5 = .ok (.iload 4, 2) := by decide +kernel
theorem dX0_copyLayer_7 : decode cX0_copyLayer 7 = .ok (.sipush 360, 3) := by decide +kernel
theorem dX0_copyLayer_10 : decode cX0_copyLayer 10 = .ok (.if_icmp .ge 63, 3) := by decide +kernel
theorem dX0_copyLayer_13 : decode cX0_copyLayer 13 = .ok (.aload_n 0, 1) := by decide +kernel
theorem dX0_copyLayer_14 : decode cX0_copyLayer 14 = .ok (.getfield 11, 3) := by decide +kernel
theorem dX0_copyLayer_17 : decode cX0_copyLayer 17 = .ok (.iload_n 1, 1) := by decide +kernel
theorem dX0_copyLayer_18 : decode cX0_copyLayer 18 = .ok (.sipush 360, 3) := by decide +kernel
theorem dX0_copyLayer_21 : decode cX0_copyLayer 21 = .ok (.imul, 1) := by decide +kernel
theorem dX0_copyLayer_22 : decode cX0_copyLayer 22 = .ok (.iload 4, 2) := by decide +kernel
theorem dX0_copyLayer_24 : decode cX0_copyLayer 24 = .ok (.iadd, 1) := by decide +kernel
theorem dX0_copyLayer_25 : decode cX0_copyLayer 25 = .ok (.iaload, 1) := by decide +kernel
theorem dX0_copyLayer_26 : decode cX0_copyLayer 26 = .ok (.istore 5, 2) := by decide +kernel
theorem dX0_copyLayer_28 : decode cX0_copyLayer 28 = .ok (.iload_n 2, 1) := by decide +kernel
theorem dX0_copyLayer_29 : decode cX0_copyLayer 29 = .ok (.sipush 360, 3) := by decide +kernel
theorem dX0_copyLayer_32 : decode cX0_copyLayer 32 = .ok (.imul, 1) := by decide +kernel
theorem dX0_copyLayer_33 : decode cX0_copyLayer 33 = .ok (.iload 4, 2) := by decide +kernel
theorem dX0_copyLayer_35 : decode cX0_copyLayer 35 = .ok (.iadd, 1) := by decide +kernel
theorem dX0_copyLayer_36 : decode cX0_copyLayer 36 = .ok (.istore 6, 2) := by decide +kernel
theorem dX0_copyLayer_38 : decode cX0_copyLayer 38 = .ok (.iload_n 3, 1) := by decide +kernel
theorem dX0_copyLayer_39 : decode cX0_copyLayer 39 = .ok (.aload_n 0, 1) := by decide +kernel
theorem dX0_copyLayer_40 : decode cX0_copyLayer 40 = .ok (.getfield 11, 3) := by decide +kernel
theorem dX0_copyLayer_43 : decode cX0_copyLayer 43 = .ok (.iload 6, 2) := by decide +kernel
theorem dX0_copyLayer_45 : decode cX0_copyLayer 45 = .ok (.iaload, 1) := by decide +kernel
theorem dX0_copyLayer_46 : decode cX0_copyLayer 46 = .ok (.iload 5, 2) := by decide +kernel
theorem dX0_copyLayer_48 : decode cX0_copyLayer 48 = .ok (.if_icmp .eq 7, 3) := by decide +kernel
theorem dX0_copyLayer_51 : decode cX0_copyLayer 51 = .ok (.iconst 1, 1) := by decide +kernel
theorem dX0_copyLayer_52 : decode cX0_copyLayer 52 = .ok (.goto 4, 3) := by decide +kernel
theorem dX0_copyLayer_55 : decode cX0_copyLayer 55 = .ok (.iconst 0, 1) := by decide +kernel
theorem dX0_copyLayer_56 : decode cX0_copyLayer 56 = .ok (.iadd, 1) := by decide +kernel
theorem dX0_copyLayer_57 : decode cX0_copyLayer 57 = .ok (.istore_n 3, 1) := by decide +kernel
theorem dX0_copyLayer_58 : decode cX0_copyLayer 58 = .ok (.aload_n 0, 1) := by decide +kernel
theorem dX0_copyLayer_59 : decode cX0_copyLayer 59 = .ok (.getfield 11, 3) := by decide +kernel
theorem dX0_copyLayer_62 : decode cX0_copyLayer 62 = .ok (.iload 6, 2) := by decide +kernel
theorem dX0_copyLayer_64 : decode cX0_copyLayer 64 = .ok (.iload 5, 2) := by decide +kernel
theorem dX0_copyLayer_66 : decode cX0_copyLayer 66 = .ok (.iastore, 1) := by decide +kernel
theorem dX0_copyLayer_67 : decode cX0_copyLayer 67 = .ok (.iinc 4 1, 3) := by decide +kernel
theorem dX0_copyLayer_70 : decode cX0_copyLayer 70 = .ok (.goto (-65), 3) := by decide +kernel
theorem dX0_copyLayer_73 : decode cX0_copyLayer 73 = .ok (.iload_n 3, 1) := by decide +kernel
theorem dX0_copyLayer_74 : decode cX0_copyLayer 74 = .ok (.ireturn, 1) := by decide +kernel
theorem dX0_isBlank_0 : decode cX0_isBlank 0 = .ok (.iconst 0, 1) := by decide +kernel
theorem dX0_isBlank_1 : decode cX0_isBlank 1 = .ok (.istore_n 2, 1) := by decide +kernel
theorem dX0_isBlank_2 : decode cX0_isBlank 2 = .ok (.iload_n 2, 1) := by decide +kernel
theorem dX0_isBlank_3 : decode cX0_isBlank 3 = .ok (.iconst 4, 1) := by decide +kernel
theorem dX0_isBlank_4 : decode cX0_isBlank 4 = .ok (.if_icmp .ge 45, 3) := by decide +kernel
theorem dX0_isBlank_7 : decode cX0_isBlank 7 = .ok (.iconst 0, 1) := by decide +kernel
theorem dX0_isBlank_8 : decode cX0_isBlank 8 = .ok (.istore_n 3, 1) := by decide +kernel
theorem dX0_isBlank_9 : decode cX0_isBlank 9 = .ok (.iload_n 3, 1) := by decide +kernel
theorem dX0_isBlank_10 : decode cX0_isBlank 10 = .ok (.bipush 36, 2) := by decide +kernel
theorem dX0_isBlank_12 : decode cX0_isBlank 12 = .ok (.if_icmp .ge 31, 3) := by decide +kernel
theorem dX0_isBlank_15 : decode cX0_isBlank 15 = .ok (.aload_n 0, 1) := by decide +kernel
theorem dX0_isBlank_16 : decode cX0_isBlank 16 = .ok (.getfield 11, 3) := by decide +kernel
theorem dX0_isBlank_19 : decode cX0_isBlank 19 = .ok (.iload_n 2, 1) := by decide +kernel
theorem dX0_isBlank_20 : decode cX0_isBlank 20 = .ok (.sipush 360, 3) := by decide +kernel
theorem dX0_isBlank_23 : decode cX0_isBlank 23 = .ok (.imul, 1) := by decide +kernel
theorem dX0_isBlank_24 : decode cX0_isBlank 24 = .ok (.iload_n 1, 1) := by decide +kernel
theorem dX0_isBlank_25 : decode cX0_isBlank 25 = .ok (.bipush 36, 2) := by decide +kernel
theorem dX0_isBlank_27 : decode cX0_isBlank 27 = .ok (.imul, 1) := by decide +kernel
theorem dX0_isBlank_28 : decode cX0_isBlank 28 = .ok (.iadd, 1) := by decide +kernel
theorem dX0_isBlank_29 : decode cX0_isBlank 29 = .ok (.iload_n 3, 1) := by decide +kernel
theorem dX0_isBlank_30 : decode cX0_isBlank 30 = .ok (.iadd, 1) := by decide +kernel
theorem dX0_isBlank_31 : decode cX0_isBlank 31 = .ok (.iaload, 1) := by decide +kernel
theorem dX0_isBlank_32 : decode cX0_isBlank 32 = .ok (.ifCond .eq 5, 3) := by decide +kernel
theorem dX0_isBlank_35 : decode cX0_isBlank 35 = .ok (.iconst 0, 1) := by decide +kernel
theorem dX0_isBlank_36 : decode cX0_isBlank 36 = .ok (.ireturn, 1) := by decide +kernel
theorem dX0_isBlank_37 : decode cX0_isBlank 37 = .ok (.iinc 3 1, 3) := by decide +kernel
theorem dX0_isBlank_40 : decode cX0_isBlank 40 = .ok (.goto (-31), 3) := by decide +kernel
theorem dX0_isBlank_43 : decode cX0_isBlank 43 = .ok (.iinc 2 1, 3) := by decide +kernel
theorem dX0_isBlank_46 : decode cX0_isBlank 46 = .ok (.goto (-44), 3) := by decide +kernel
theorem dX0_isBlank_49 : decode cX0_isBlank 49 = .ok (.iconst 1, 1) := by decide +kernel
theorem dX0_isBlank_50 : decode cX0_isBlank 50 = .ok (.ireturn, 1) := by decide +kernel
theorem dX0_countFilled_0 : decode cX0_countFilled 0 = .ok (.iconst 0, 1) := by decide +kernel
theorem dX0_countFilled_1 : decode cX0_countFilled 1 = .ok (.istore_n 1, 1) := by decide +kernel
theorem dX0_countFilled_2 : decode cX0_countFilled 2 = .ok (.iconst 0, 1) := by decide +kernel
theorem dX0_countFilled_3 : decode cX0_countFilled 3 = .ok (.istore_n 2, 1) := by decide +kernel
theorem dX0_countFilled_4 : decode cX0_countFilled 4 = .ok (.iload_n 2, 1) := by decide +kernel
theorem dX0_countFilled_5 : decode cX0_countFilled 5 = .ok (.aload_n 0, 1) := by decide +kernel
theorem dX0_countFilled_6 : decode cX0_countFilled 6 = .ok (.getfield 11, 3) := by decide +kernel
theorem dX0_countFilled_9 : decode cX0_countFilled 9 = .ok (.arraylength, 1) := by decide +kernel
theorem dX0_countFilled_10 : decode cX0_countFilled 10 = .ok (.if_icmp .ge 26, 3) := by decide +kernel
theorem dX0_countFilled_13 : decode cX0_countFilled 13 = .ok (.iload_n 1, 1) := by decide +kernel
theorem dX0_countFilled_14 : decode cX0_countFilled 14 = .ok (.aload_n 0, 1) := by decide +kernel
theorem dX0_countFilled_15 : decode cX0_countFilled 15 = .ok (.getfield 11, 3) := by decide +kernel
theorem dX0_countFilled_18 : decode cX0_countFilled 18 = .ok (.iload_n 2, 1) := by decide +kernel
theorem dX0_countFilled_19 : decode cX0_countFilled 19 = .ok (.iaload, 1) := by decide +kernel
theorem dX0_countFilled_20 : decode cX0_countFilled 20 = .ok (.ifCond .eq 7, 3) := by decide +kernel
theorem dX0_countFilled_23 : decode cX0_countFilled 23 = .ok (.iconst 1, 1) := by decide +kernel
theorem dX0_countFilled_24 : decode cX0_countFilled 24 = .ok (.goto 4, 3) := by decide +kernel
theorem dX0_countFilled_27 : decode cX0_countFilled 27 = .ok (.iconst 0, 1) := by decide +kernel
theorem dX0_countFilled_28 : decode cX0_countFilled 28 = .ok (.iadd, 1) := by decide +kernel
theorem dX0_countFilled_29 : decode cX0_countFilled 29 = .ok (.istore_n 1, 1) := by decide +kernel
theorem dX0_countFilled_30 : decode cX0_countFilled 30 = .ok (.iinc 2 1, 3) := by decide +kernel
theorem dX0_countFilled_33 : decode cX0_countFilled 33 = .ok (.goto (-29), 3) := by decide +kernel
theorem dX0_countFilled_36 : decode cX0_countFilled 36 = .ok (.iload_n 1, 1) := by decide +kernel
theorem dX0_countFilled_37 : decode cX0_countFilled 37 = .ok (.ireturn, 1) := by decide +kernel
theorem dX1_init_0 : decode cX1_init 0 = .ok (.aload_n 0, 1) := by decide +kernel
theorem dX1_init_1 : decode cX1_init 1 = .ok (.invokespecial 3, 3) := by decide +kernel
theorem dX1_init_4 : decode cX1_init 4 = .ok (.aload_n 0, 1) := by decide +kernel
theorem dX1_init_5 : decode cX1_init 5 = .ok (.bipush 12, 2) := by decide +kernel
theorem dX1_init_7 : decode cX1_init 7 = .ok (.newarray .int, 2) := by decide +kernel
theorem dX1_init_9 : decode cX1_init 9 = .ok (.putfield 9, 3) := by decide +kernel
theorem dX1_init_12 : decode cX1_init 12 = .ok (.aload_n 0, 1) := by decide +kernel
theorem dX1_init_13 : decode cX1_init 13 = .ok (.bipush 12, 2) := by decide +kernel
theorem dX1_init_15 : decode cX1_init 15 = .ok (.newarray .int, 2) := by decide +kernel
theorem dX1_init_17 : decode cX1_init 17 = .ok (.putfield 15, 3) := by decide +kernel
theorem dX1_init_20 : decode cX1_init 20 = .ok (.return_, 1) := by decide +kernel
theorem dX1_weigh_0 : decode cX1_weigh 0 = .ok (.aload_n 0, 1) := by decide +kernel
theorem dX1_weigh_1 : decode cX1_weigh 1 = .ok (.getfield 9, 3) := by decide +kernel
theorem dX1_weigh_4 : decode cX1_weigh 4 = .ok (.iload_n 1, 1) := by decide +kernel
theorem dX1_weigh_5 : decode cX1_weigh 5 = .ok (.iaload, 1) := by decide +kernel
theorem dX1_weigh_6 : decode cX1_weigh 6 = .ok (.istore_n 3, 1) := by decide +kernel
theorem dX1_weigh_7 : decode cX1_weigh 7 = .ok (.aload_n 0, 1) := by decide +kernel
theorem dX1_weigh_8 : decode cX1_weigh 8 = .ok (.getfield 9, 3) := by decide +kernel
theorem dX1_weigh_11 : decode cX1_weigh 11 = .ok (.iload_n 1, 1) := by decide +kernel
theorem dX1_weigh_12 : decode cX1_weigh 12 = .ok (.iload_n 2, 1) := by decide +kernel
theorem dX1_weigh_13 : decode cX1_weigh 13 = .ok (.iastore, 1) := by decide +kernel
theorem dX1_weigh_14 : decode cX1_weigh 14 = .ok (.iload_n 3, 1) := by decide +kernel
theorem dX1_weigh_15 : decode cX1_weigh 15 = .ok (.ireturn, 1) := by decide +kernel
theorem dX1_shareOf_0 : decode cX1_shareOf 0 = .ok (.aload_n 0, 1) := by decide +kernel
theorem dX1_shareOf_1 : decode cX1_shareOf 1 = .ok (.getfield 15, 3) := by decide +kernel
theorem dX1_shareOf_4 : decode cX1_shareOf 4 = .ok (.iload_n 1, 1) := by decide +kernel
theorem dX1_shareOf_5 : decode cX1_shareOf 5 = .ok (.iaload, 1) := by decide +kernel
theorem dX1_shareOf_6 : decode cX1_shareOf 6 = .ok (.ireturn, 1) := by decide +kernel
theorem dX1_totalWeight_0 : decode cX1_totalWeight 0 = .ok (.iconst 0, 1) := by decide +kernel
theorem dX1_totalWeight_1 : decode cX1_totalWeight 1 = .ok (.istore_n 1, 1) := by decide +kernel
theorem dX1_totalWeight_2 : decode cX1_totalWeight 2 = .ok (.iconst 0, 1) := by decide +kernel
theorem dX1_totalWeight_3 : decode cX1_totalWeight 3 = .ok (.istore_n 2, 1) := by decide +kernel
theorem dX1_totalWeight_4 : decode cX1_totalWeight 4 = .ok (.iload_n 2, 1) := by decide +kernel
theorem dX1_totalWeight_5 : decode cX1_totalWeight 5 = .ok (.bipush 12, 2) := by decide +kernel
theorem dX1_totalWeight_7 : decode cX1_totalWeight 7 = .ok (.if_icmp .ge 18, 3) := by decide +kernel
theorem dX1_totalWeight_10 : decode cX1_totalWeight 10 = .ok (.iload_n 1, 1) := by decide +kernel
theorem dX1_totalWeight_11 : decode cX1_totalWeight 11 = .ok (.aload_n 0, 1) := by decide +kernel
theorem dX1_totalWeight_12 : decode cX1_totalWeight 12 = .ok (.getfield 9, 3) := by decide +kernel
theorem dX1_totalWeight_15 : decode cX1_totalWeight 15 = .ok (.iload_n 2, 1) := by decide +kernel
theorem dX1_totalWeight_16 : decode cX1_totalWeight 16 = .ok (.iaload, 1) := by decide +kernel
theorem dX1_totalWeight_17 : decode cX1_totalWeight 17 = .ok (.iadd, 1) := by decide +kernel
theorem dX1_totalWeight_18 : decode cX1_totalWeight 18 = .ok (.istore_n 1, 1) := by decide +kernel
theorem dX1_totalWeight_19 : decode cX1_totalWeight 19 = .ok (.iinc 2 1, 3) := by decide +kernel
theorem dX1_totalWeight_22 : decode cX1_totalWeight 22 = .ok (.goto (-18), 3) := by decide +kernel
theorem dX1_totalWeight_25 : decode cX1_totalWeight 25 = .ok (.iload_n 1, 1) := by decide +kernel
theorem dX1_totalWeight_26 : decode cX1_totalWeight 26 = .ok (.ireturn, 1) := by decide +kernel
theorem dX1_divide_0 : decode cX1_divide 0 = .ok (.aload_n 0, 1) := by decide +kernel
theorem dX1_divide_1 : decode cX1_divide 1 = .ok (.invokevirtual 18, 3) := by decide +kernel
theorem dX1_divide_4 : decode cX1_divide 4 = .ok (.istore_n 2, 1) := by decide +kernel
theorem dX1_divide_5 : decode cX1_divide 5 = .ok (.iload_n 1, 1) := by decide +kernel
theorem dX1_divide_6 : decode cX1_divide 6 = .ok (.istore_n 3, 1) := by decide +kernel
theorem dX1_divide_7 : decode cX1_divide 7 = .ok (.iconst 0, 1) := by decide +kernel
theorem dX1_divide_8 : decode cX1_divide 8 = .ok (.istore 4, 2) := by decide +kernel
theorem dX1_divide_10 : decode cX1_divide 10 = .ok (.iload 4, 2) := by decide +kernel
theorem dX1_divide_12 : decode cX1_divide 12 = .ok (.bipush 12, 2) := by decide +kernel
theorem dX1_divide_14 : decode cX1_divide 14 = .ok (.if_icmp .ge 49, 3) := by decide +kernel
theorem dX1_divide_17 : decode cX1_divide 17 = .ok (.aload_n 0, 1) := by decide +kernel
theorem dX1_divide_18 : decode cX1_divide 18 = .ok (.getfield 15, 3) := by decide +kernel
theorem dX1_divide_21 : decode cX1_divide 21 = .ok (.iload 4, 2) := by decide +kernel
theorem dX1_divide_23 : decode cX1_divide 23 = .ok (.iload_n 2, 1) := by decide +kernel
theorem dX1_divide_24 : decode cX1_divide 24 = .ok (.ifCond .ne 7, 3) := by decide +kernel
theorem dX1_divide_27 : decode cX1_divide 27 = .ok (.iconst 0, 1) := by decide +kernel
theorem dX1_divide_28 : decode cX1_divide 28 = .ok (.goto 18, 3) := by decide +kernel
theorem dX1_divide_31 : decode cX1_divide 31 = .ok (.iload_n 1, 1) := by decide +kernel
theorem dX1_divide_32 : decode cX1_divide 32 = .ok (.i2l, 1) := by decide +kernel
theorem dX1_divide_33 : decode cX1_divide 33 = .ok (.aload_n 0, 1) := by decide +kernel
theorem dX1_divide_34 : decode cX1_divide 34 = .ok (.getfield 9, 3) := by decide +kernel
theorem dX1_divide_37 : decode cX1_divide 37 = .ok (.iload 4, 2) := by decide +kernel
theorem dX1_divide_39 : decode cX1_divide 39 = .ok (.iaload, 1) := by decide +kernel
theorem dX1_divide_40 : decode cX1_divide 40 = .ok (.i2l, 1) := by decide +kernel
theorem dX1_divide_41 : decode cX1_divide 41 = .ok (.lmul, 1) := by decide +kernel
theorem dX1_divide_42 : decode cX1_divide 42 = .ok (.iload_n 2, 1) := by decide +kernel
theorem dX1_divide_43 : decode cX1_divide 43 = .ok (.i2l, 1) := by decide +kernel
theorem dX1_divide_44 : decode cX1_divide 44 = .ok (.ldiv, 1) := by decide +kernel
theorem dX1_divide_45 : decode cX1_divide 45 = .ok (.l2i, 1) := by decide +kernel
theorem dX1_divide_46 : decode cX1_divide 46 = .ok (.iastore, 1) := by decide +kernel
theorem dX1_divide_47 : decode cX1_divide 47 = .ok (.iload_n 3, 1) := by decide +kernel
theorem dX1_divide_48 : decode cX1_divide 48 = .ok (.aload_n 0, 1) := by decide +kernel
theorem dX1_divide_49 : decode cX1_divide 49 = .ok (.getfield 15, 3) := by decide +kernel
theorem dX1_divide_52 : decode cX1_divide 52 = .ok (.iload 4, 2) := by decide +kernel
theorem dX1_divide_54 : decode cX1_divide 54 = .ok (.iaload, 1) := by decide +kernel
theorem dX1_divide_55 : decode cX1_divide 55 = .ok (.isub, 1) := by decide +kernel
theorem dX1_divide_56 : decode cX1_divide 56 = .ok (.istore_n 3, 1) := by decide +kernel
theorem dX1_divide_57 : decode cX1_divide 57 = .ok (.iinc 4 1, 3) := by decide +kernel
theorem dX1_divide_60 : decode cX1_divide 60 = .ok (.goto (-50), 3) := by decide +kernel
theorem dX1_divide_63 : decode cX1_divide 63 = .ok (.iconst 0, 1) := by decide +kernel
theorem dX1_divide_64 : decode cX1_divide 64 = .ok (.istore 4, 2) := by decide +kernel
theorem dX1_divide_66 : decode cX1_divide 66 = .ok (.iload 4, 2) := by decide +kernel
theorem dX1_divide_68 : decode cX1_divide 68 = .ok (.bipush 12, 2) := by decide +kernel
theorem dX1_divide_70 : decode cX1_divide 70 = .ok (.if_icmp .ge 37, 3) := by decide +kernel
theorem dX1_divide_73 : decode cX1_divide 73 = .ok (.iload_n 3, 1) := by decide +kernel
theorem dX1_divide_74 : decode cX1_divide 74 = .ok (.ifCond .le 27, 3) := by decide +kernel
theorem dX1_divide_77 : decode cX1_divide 77 = .ok (.aload_n 0, 1) := by decide +kernel
theorem dX1_divide_78 : decode cX1_divide 78 = .ok (.getfield 9, 3) := by decide +kernel
theorem dX1_divide_81 : decode cX1_divide 81 = .ok (.iload 4, 2) := by decide +kernel
theorem dX1_divide_83 : decode cX1_divide 83 = .ok (.iaload, 1) := by decide +kernel
theorem dX1_divide_84 : decode cX1_divide 84 = .ok (.ifCond .eq 17, 3) := by decide +kernel
theorem dX1_divide_87 : decode cX1_divide 87 = .ok (.aload_n 0, 1) := by decide +kernel
theorem dX1_divide_88 : decode cX1_divide 88 = .ok (.getfield 15, 3) := by decide +kernel
theorem dX1_divide_91 : decode cX1_divide 91 = .ok (.iload 4, 2) := by decide +kernel
theorem dX1_divide_93 : decode cX1_divide 93 = .ok (.dup2, 1) := by decide +kernel
theorem dX1_divide_94 : decode cX1_divide 94 = .ok (.iaload, 1) := by decide +kernel
theorem dX1_divide_95 : decode cX1_divide 95 = .ok (.iconst 1, 1) := by decide +kernel
theorem dX1_divide_96 : decode cX1_divide 96 = .ok (.iadd, 1) := by decide +kernel
theorem dX1_divide_97 : decode cX1_divide 97 = .ok (.iastore, 1) := by decide +kernel
theorem dX1_divide_98 : decode cX1_divide 98 = .ok (.iinc 3 (-1), 3) := by decide +kernel
theorem dX1_divide_101 : decode cX1_divide 101 = .ok (.iinc 4 1, 3) := by decide +kernel
theorem dX1_divide_104 : decode cX1_divide 104 = .ok (.goto (-38), 3) := by decide +kernel
theorem dX1_divide_107 : decode cX1_divide 107 = .ok (.return_, 1) := by decide +kernel
theorem dX2_init_0 : decode cX2_init 0 = .ok (.aload_n 0, 1) := by decide +kernel
theorem dX2_init_1 : decode cX2_init 1 = .ok (.invokespecial 3, 3) := by decide +kernel
theorem dX2_init_4 : decode cX2_init 4 = .ok (.aload_n 0, 1) := by decide +kernel
theorem dX2_init_5 : decode cX2_init 5 = .ok (.bipush 10, 2) := by decide +kernel
theorem dX2_init_7 : decode cX2_init 7 = .ok (.newarray .int, 2) := by decide +kernel
theorem dX2_init_9 : decode cX2_init 9 = .ok (.putfield 9, 3) := by decide +kernel
theorem dX2_init_12 : decode cX2_init 12 = .ok (.aload_n 0, 1) := by decide +kernel
theorem dX2_init_13 : decode cX2_init 13 = .ok (.iconst 1, 1) := by decide +kernel
theorem dX2_init_14 : decode cX2_init 14 = .ok (.putfield 15, 3) := by decide +kernel
theorem dX2_init_17 : decode cX2_init 17 = .ok (.aload_n 0, 1) := by decide +kernel
theorem dX2_init_18 : decode cX2_init 18 = .ok (.iconst 0, 1) := by decide +kernel
theorem dX2_init_19 : decode cX2_init 19 = .ok (.putfield 19, 3) := by decide +kernel
theorem dX2_init_22 : decode cX2_init 22 = .ok (.return_, 1) := by decide +kernel
theorem dX2_size_0 : decode cX2_size 0 = .ok (.aload_n 0, 1) := by decide +kernel
theorem dX2_size_1 : decode cX2_size 1 = .ok (.getfield 15, 3) := by decide +kernel
theorem dX2_size_4 : decode cX2_size 4 = .ok (.ireturn, 1) := by decide +kernel
theorem dX2_has_0 : decode cX2_has 0 = .ok (.iload_n 1, 1) := by decide +kernel
theorem dX2_has_1 : decode cX2_has 1 = .ok (.ifCond .lt 15, 3) := by decide +kernel
theorem dX2_has_4 : decode cX2_has 4 = .ok (.iload_n 1, 1) := by decide +kernel
theorem dX2_has_5 : decode cX2_has 5 = .ok (.aload_n 0, 1) := by decide +kernel
theorem dX2_has_6 : decode cX2_has 6 = .ok (.getfield 15, 3) := by decide +kernel
theorem dX2_has_9 : decode cX2_has 9 = .ok (.if_icmp .ge 7, 3) := by decide +kernel
theorem dX2_has_12 : decode cX2_has 12 = .ok (.iconst 1, 1) := by decide +kernel
theorem dX2_has_13 : decode cX2_has 13 = .ok (.goto 4, 3) := by decide +kernel
theorem dX2_has_16 : decode cX2_has 16 = .ok (.iconst 0, 1) := by decide +kernel
theorem dX2_has_17 : decode cX2_has 17 = .ok (.ireturn, 1) := by decide +kernel
theorem dX2_isFull_0 : decode cX2_isFull 0 = .ok (.aload_n 0, 1) := by decide +kernel
theorem dX2_isFull_1 : decode cX2_isFull 1 = .ok (.getfield 15, 3) := by decide +kernel
theorem dX2_isFull_4 : decode cX2_isFull 4 = .ok (.bipush 10, 2) := by decide +kernel
theorem dX2_isFull_6 : decode cX2_isFull 6 = .ok (.if_icmp .lt 7, 3) := by decide +kernel
theorem dX2_isFull_9 : decode cX2_isFull 9 = .ok (.iconst 1, 1) := by decide +kernel
theorem dX2_isFull_10 : decode cX2_isFull 10 = .ok (.goto 4, 3) := by decide +kernel
theorem dX2_isFull_13 : decode cX2_isFull 13 = .ok (.iconst 0, 1) := by decide +kernel
theorem dX2_isFull_14 : decode cX2_isFull 14 = .ok (.ireturn, 1) := by decide +kernel
theorem dX2_isLeaf_0 : decode cX2_isLeaf 0 = .ok (.aload_n 0, 1) := by decide +kernel
theorem dX2_isLeaf_1 : decode cX2_isLeaf 1 = .ok (.getfield 19, 3) := by decide +kernel
theorem dX2_isLeaf_4 : decode cX2_isLeaf 4 = .ok (.iload_n 1, 1) := by decide +kernel
theorem dX2_isLeaf_5 : decode cX2_isLeaf 5 = .ok (.invokestatic 22, 3) := by decide +kernel
theorem dX2_isLeaf_8 : decode cX2_isLeaf 8 = .ok (.ifCond .ne 7, 3) := by decide +kernel
theorem dX2_isLeaf_11 : decode cX2_isLeaf 11 = .ok (.iconst 1, 1) := by decide +kernel
theorem dX2_isLeaf_12 : decode cX2_isLeaf 12 = .ok (.goto 4, 3) := by decide +kernel
theorem dX2_isLeaf_15 : decode cX2_isLeaf 15 = .ok (.iconst 0, 1) := by decide +kernel
theorem dX2_isLeaf_16 : decode cX2_isLeaf 16 = .ok (.ireturn, 1) := by decide +kernel
theorem dX2_addBelow_0 : decode cX2_addBelow 0 = .ok (.aload_n 0, 1) := by decide +kernel
theorem dX2_addBelow_1 : decode cX2_addBelow 1 = .ok (.getfield 15, 3) := by decide +kernel
theorem dX2_addBelow_4 : decode cX2_addBelow 4 = .ok (.istore_n 2, 1) := by decide +kernel
theorem dX2_addBelow_5 : decode cX2_addBelow 5 = .ok (.aload_n 0, 1) := by decide +kernel
theorem dX2_addBelow_6 : decode cX2_addBelow 6 = .ok (.getfield 9, 3) := by decide +kernel
theorem dX2_addBelow_9 : decode cX2_addBelow 9 = .ok (.iload_n 2, 1) := by decide +kernel
theorem dX2_addBelow_10 : decode cX2_addBelow 10 = .ok (.iload_n 1, 1) := by decide +kernel
theorem dX2_addBelow_11 : decode cX2_addBelow 11 = .ok (.iastore, 1) := by decide +kernel
theorem dX2_addBelow_12 : decode cX2_addBelow 12 = .ok (.aload_n 0, 1) := by decide +kernel
theorem dX2_addBelow_13 : decode cX2_addBelow 13 = .ok (.dup, 1) := by decide +kernel
theorem dX2_addBelow_14 : decode cX2_addBelow 14 = .ok (.getfield 19, 3) := by decide +kernel
theorem dX2_addBelow_17 : decode cX2_addBelow 17 = .ok (.iconst 1, 1) := by decide +kernel
theorem dX2_addBelow_18 : decode cX2_addBelow 18 = .ok (.iload_n 1, 1) := by decide +kernel
theorem dX2_addBelow_19 : decode cX2_addBelow 19 = .ok (.ishl, 1) := by decide +kernel
theorem dX2_addBelow_20 : decode cX2_addBelow 20 = .ok (.ior, 1) := by decide +kernel
theorem dX2_addBelow_21 : decode cX2_addBelow 21 = .ok (.putfield 19, 3) := by decide +kernel
theorem dX2_addBelow_24 : decode cX2_addBelow 24 = .ok (.aload_n 0, 1) := by decide +kernel
theorem dX2_addBelow_25 : decode cX2_addBelow 25 = .ok (.dup, 1) := by decide +kernel
theorem dX2_addBelow_26 : decode cX2_addBelow 26 = .ok (.getfield 15, 3) := by decide +kernel
theorem dX2_addBelow_29 : decode cX2_addBelow 29 = .ok (.iconst 1, 1) := by decide +kernel
theorem dX2_addBelow_30 : decode cX2_addBelow 30 = .ok (.iadd, 1) := by decide +kernel
theorem dX2_addBelow_31 : decode cX2_addBelow 31 = .ok (.putfield 15, 3) := by decide +kernel
theorem dX2_addBelow_34 : decode cX2_addBelow 34 = .ok (.iload_n 2, 1) := by decide +kernel
theorem dX2_addBelow_35 : decode cX2_addBelow 35 = .ok (.ireturn, 1) := by decide +kernel
theorem dX2_leavesBelow_0 : decode cX2_leavesBelow 0 = .ok (.iconst 1, 1) := by decide +kernel
theorem dX2_leavesBelow_1 : decode cX2_leavesBelow 1 = .ok (.iload_n 1, 1) := by decide +kernel
theorem dX2_leavesBelow_2 : decode cX2_leavesBelow 2 = .ok (.ishl, 1) := by decide +kernel
theorem dX2_leavesBelow_3 : decode cX2_leavesBelow 3 = .ok (.istore_n 2, 1) := by decide +kernel
theorem dX2_leavesBelow_4 : decode cX2_leavesBelow 4 = .ok (.iload_n 1, 1) := by decide +kernel
theorem dX2_leavesBelow_5 : decode cX2_leavesBelow 5 = .ok (.iconst 1, 1) := by decide +kernel
theorem dX2_leavesBelow_6 : decode cX2_leavesBelow 6 = .ok (.iadd, 1) := by decide +kernel
theorem dX2_leavesBelow_7 : decode cX2_leavesBelow 7 = .ok (.istore_n 3, 1) := by decide +kernel
theorem dX2_leavesBelow_8 : decode cX2_leavesBelow 8 = .ok (.iload_n 3, 1) := by decide +kernel
theorem dX2_leavesBelow_9 : decode cX2_leavesBelow 9 = .ok (.aload_n 0, 1) := by decide +kernel
theorem dX2_leavesBelow_10 : decode cX2_leavesBelow 10 = .ok (.getfield 15, 3) := by decide +kernel
theorem dX2_leavesBelow_13 : decode cX2_leavesBelow 13 = .ok (.if_icmp .ge 28, 3) := by decide +kernel
theorem dX2_leavesBelow_16 : decode cX2_leavesBelow 16 = .ok (.iload_n 2, 1) := by decide +kernel
theorem dX2_leavesBelow_17 : decode cX2_leavesBelow 17 = .ok (.aload_n 0, 1) := by decide +kernel
theorem dX2_leavesBelow_18 : decode cX2_leavesBelow 18 = .ok (.getfield 9, 3) := by decide +kernel
theorem dX2_leavesBelow_21 : decode cX2_leavesBelow 21 = .ok (.iload_n 3, 1) := by decide +kernel
theorem dX2_leavesBelow_22 : decode cX2_leavesBelow 22 = .ok (.iaload, 1) := by decide +kernel
theorem dX2_leavesBelow_23 : decode cX2_leavesBelow 23 = .ok (.invokestatic 22, 3) := by decide +kernel
theorem dX2_leavesBelow_26 : decode cX2_leavesBelow 26 = .ok (.ifCond .eq 9, 3) := by decide +kernel
theorem dX2_leavesBelow_29 : decode cX2_leavesBelow 29 = .ok (.iload_n 2, 1) := by decide +kernel
theorem dX2_leavesBelow_30 : decode cX2_leavesBelow 30 = .ok (.iconst 1, 1) := by decide +kernel
theorem dX2_leavesBelow_31 : decode cX2_leavesBelow 31 = .ok (.iload_n 3, 1) := by decide +kernel
theorem dX2_leavesBelow_32 : decode cX2_leavesBelow 32 = .ok (.ishl, 1) := by decide +kernel
theorem dX2_leavesBelow_33 : decode cX2_leavesBelow 33 = .ok (.ior, 1) := by decide +kernel
theorem dX2_leavesBelow_34 : decode cX2_leavesBelow 34 = .ok (.istore_n 2, 1) := by decide +kernel
theorem dX2_leavesBelow_35 : decode cX2_leavesBelow 35 = .ok (.iinc 3 1, 3) := by decide +kernel
theorem dX2_leavesBelow_38 : decode cX2_leavesBelow 38 = .ok (.goto (-30), 3) := by decide +kernel
theorem dX2_leavesBelow_41 : decode cX2_leavesBelow 41 = .ok (.iload_n 2, 1) := by decide +kernel
theorem dX2_leavesBelow_42 : decode cX2_leavesBelow 42 = .ok (.aload_n 0, 1) := by decide +kernel
theorem dX2_leavesBelow_43 : decode cX2_leavesBelow 43 = .ok (.getfield 19, 3) := by decide +kernel
theorem dX2_leavesBelow_46 : decode cX2_leavesBelow 46 = .ok (.iconst (-1), 1) := by decide +kernel
theorem dX2_leavesBelow_47 : decode cX2_leavesBelow 47 = .ok (.ixor, 1) := by decide +kernel
theorem dX2_leavesBelow_48 : decode cX2_leavesBelow 48 = .ok (.iand, 1) := by decide +kernel
theorem dX2_leavesBelow_49 : decode cX2_leavesBelow 49 = .ok (.ireturn, 1) := by decide +kernel
theorem dX3_init_0 : decode cX3_init 0 = .ok (.aload_n 0, 1) := by decide +kernel
theorem dX3_init_1 : decode cX3_init 1 = .ok (.invokespecial 3, 3) := by decide +kernel
theorem dX3_init_4 : decode cX3_init 4 = .ok (.aload_n 0, 1) := by decide +kernel
theorem dX3_init_5 : decode cX3_init 5 = .ok (.new 9, 3) := by decide +kernel
theorem dX3_init_8 : decode cX3_init 8 = .ok (.dup, 1) := by decide +kernel
theorem dX3_init_9 : decode cX3_init 9 = .ok (.invokespecial 11, 3) := by decide +kernel
theorem dX3_init_12 : decode cX3_init 12 = .ok (.putfield 12, 3) := by decide +kernel
theorem dX3_init_15 : decode cX3_init 15 = .ok (.aload_n 0, 1) := by decide +kernel
theorem dX3_init_16 : decode cX3_init 16 = .ok (.new 16, 3) := by decide +kernel
theorem dX3_init_19 : decode cX3_init 19 = .ok (.dup, 1) := by decide +kernel
theorem dX3_init_20 : decode cX3_init 20 = .ok (.invokespecial 18, 3) := by decide +kernel
theorem dX3_init_23 : decode cX3_init 23 = .ok (.putfield 19, 3) := by decide +kernel
theorem dX3_init_26 : decode cX3_init 26 = .ok (.aload_n 0, 1) := by decide +kernel
theorem dX3_init_27 : decode cX3_init 27 = .ok (.bipush 12, 2) := by decide +kernel
theorem dX3_init_29 : decode cX3_init 29 = .ok (.newarray .int, 2) := by decide +kernel
theorem dX3_init_31 : decode cX3_init 31 = .ok (.putfield 23, 3) := by decide +kernel
theorem dX3_init_34 : decode cX3_init 34 = .ok (.aload_n 0, 1) := by decide +kernel
theorem dX3_init_35 : decode cX3_init 35 = .ok (.iconst 3, 1) := by decide +kernel
theorem dX3_init_36 : decode cX3_init 36 = .ok (.newarray .int, 2) := by decide +kernel
theorem dX3_init_38 : decode cX3_init 38 = .ok (.putfield 27, 3) := by decide +kernel
theorem dX3_init_41 : decode cX3_init 41 = .ok (.aload_n 0, 1) := by decide +kernel
theorem dX3_init_42 : decode cX3_init 42 = .ok (.new 30, 3) := by decide +kernel
theorem dX3_init_45 : decode cX3_init 45 = .ok (.dup, 1) := by decide +kernel
theorem dX3_init_46 : decode cX3_init 46 = .ok (.invokespecial 32, 3) := by decide +kernel
theorem dX3_init_49 : decode cX3_init 49 = .ok (.putfield 33, 3) := by decide +kernel
theorem dX3_init_52 : decode cX3_init 52 = .ok (.aload_n 0, 1) := by decide +kernel
theorem dX3_init_53 : decode cX3_init 53 = .ok (.new 30, 3) := by decide +kernel
theorem dX3_init_56 : decode cX3_init 56 = .ok (.dup, 1) := by decide +kernel
theorem dX3_init_57 : decode cX3_init 57 = .ok (.invokespecial 32, 3) := by decide +kernel
theorem dX3_init_60 : decode cX3_init 60 = .ok (.putfield 37, 3) := by decide +kernel
theorem dX3_init_63 : decode cX3_init 63 = .ok (.aload_n 0, 1) := by decide +kernel
theorem dX3_init_64 : decode cX3_init 64 = .ok (.iconst 0, 1) := by decide +kernel
theorem dX3_init_65 : decode cX3_init 65 = .ok (.putfield 40, 3) := by decide +kernel
theorem dX3_init_68 : decode cX3_init 68 = .ok (.iconst 0, 1) := by decide +kernel
theorem dX3_init_69 : decode cX3_init 69 = .ok (.istore_n 1, 1) := by decide +kernel
theorem dX3_init_70 : decode cX3_init 70 = .ok (.iload_n 1, 1) := by decide +kernel
theorem dX3_init_71 : decode cX3_init 71 = .ok (.bipush 12, 2) := by decide +kernel
theorem dX3_init_73 : decode cX3_init 73 = .ok (.if_icmp .ge 19, 3) := by decide +kernel
theorem dX3_init_76 : decode cX3_init 76 = .ok (.aload_n 0, 1) := by decide +kernel
theorem dX3_init_77 : decode cX3_init 77 = .ok (.getfield 33, 3) := by decide +kernel
theorem dX3_init_80 : decode cX3_init 80 = .ok (.iload_n 1, 1) := by decide +kernel
theorem dX3_init_81 : decode cX3_init 81 = .ok (.iconst 1, 1) := by decide +kernel
theorem dX3_init_82 : decode cX3_init 82 = .ok (.invokevirtual 44, 3) := by decide +kernel
theorem dX3_init_85 : decode cX3_init 85 = .ok (.pop, 1) := by decide +kernel
theorem dX3_init_86 : decode cX3_init 86 = .ok (.iinc 1 1, 3) := by decide +kernel
theorem dX3_init_89 : decode cX3_init 89 = .ok (.goto (-19), 3) := by decide +kernel
theorem dX3_init_92 : decode cX3_init 92 = .ok (.return_, 1) := by decide +kernel
theorem dX3_addPlace_0 : decode cX3_addPlace 0 = .ok (.aload_n 0, 1) := by decide +kernel
theorem dX3_addPlace_1 : decode cX3_addPlace 1 = .ok (.iload_n 1, 1) := by decide +kernel
theorem dX3_addPlace_2 : decode cX3_addPlace 2 = .ok (.invokevirtual 48, 3) := by decide +kernel
theorem dX3_addPlace_5 : decode cX3_addPlace 5 = .ok (.aload_n 0, 1) := by decide +kernel
theorem dX3_addPlace_6 : decode cX3_addPlace 6 = .ok (.getfield 12, 3) := by decide +kernel
theorem dX3_addPlace_9 : decode cX3_addPlace 9 = .ok (.invokevirtual 52, 3) := by decide +kernel
theorem dX3_addPlace_12 : decode cX3_addPlace 12 = .ok (.ifCond .eq 13, 3) := by decide +kernel
theorem dX3_addPlace_15 : decode cX3_addPlace 15 = .ok (.new 56, 3) := by decide +kernel
theorem dX3_addPlace_18 : decode cX3_addPlace 18 = .ok (.dup, 1) := by decide +kernel
theorem dX3_addPlace_19 : decode cX3_addPlace 19 = .ok (.ldc 58, 2) := by decide +kernel
theorem dX3_addPlace_21 : decode cX3_addPlace 21 = .ok (.invokespecial 60, 3) := by decide +kernel
theorem dX3_addPlace_24 : decode cX3_addPlace 24 = .ok (.athrow, 1) := by decide +kernel
theorem dX3_addPlace_25 : decode cX3_addPlace 25 = .ok (.aload_n 0, 1) := by decide +kernel
theorem dX3_addPlace_26 : decode cX3_addPlace 26 = .ok (.getfield 12, 3) := by decide +kernel
theorem dX3_addPlace_29 : decode cX3_addPlace 29 = .ok (.iload_n 1, 1) := by decide +kernel
theorem dX3_addPlace_30 : decode cX3_addPlace 30 = .ok (.invokevirtual 63, 3) := by decide +kernel
theorem dX3_addPlace_33 : decode cX3_addPlace 33 = .ok (.ifCond .eq 21, 3) := by decide +kernel
theorem dX3_addPlace_36 : decode cX3_addPlace 36 = .ok (.aload_n 0, 1) := by decide +kernel
theorem dX3_addPlace_37 : decode cX3_addPlace 37 = .ok (.iload_n 1, 1) := by decide +kernel
theorem dX3_addPlace_38 : decode cX3_addPlace 38 = .ok (.invokevirtual 67, 3) := by decide +kernel
theorem dX3_addPlace_41 : decode cX3_addPlace 41 = .ok (.ifCond .eq 13, 3) := by decide +kernel
theorem dX3_addPlace_44 : decode cX3_addPlace 44 = .ok (.new 56, 3) := by decide +kernel
theorem dX3_addPlace_47 : decode cX3_addPlace 47 = .ok (.dup, 1) := by decide +kernel
theorem dX3_addPlace_48 : decode cX3_addPlace 48 = .ok (.ldc 70, 2) := by decide +kernel
theorem dX3_addPlace_50 : decode cX3_addPlace 50 = .ok (.invokespecial 60, 3) := by decide +kernel
theorem dX3_addPlace_53 : decode cX3_addPlace 53 = .ok (.athrow, 1) := by decide +kernel
theorem dX3_addPlace_54 : decode cX3_addPlace 54 = .ok (.aload_n 0, 1) := by decide +kernel
theorem dX3_addPlace_55 : decode cX3_addPlace 55 = .ok (.getfield 12, 3) := by decide +kernel
theorem dX3_addPlace_58 : decode cX3_addPlace 58 = .ok (.iload_n 1, 1) := by decide +kernel
theorem dX3_addPlace_59 : decode cX3_addPlace 59 = .ok (.invokevirtual 72, 3) := by decide +kernel
theorem dX3_addPlace_62 : decode cX3_addPlace 62 = .ok (.ireturn, 1) := by decide +kernel
theorem dX3_places_0 : decode cX3_places 0 = .ok (.aload_n 0, 1) := by decide +kernel
theorem dX3_places_1 : decode cX3_places 1 = .ok (.getfield 12, 3) := by decide +kernel
theorem dX3_places_4 : decode cX3_places 4 = .ok (.invokevirtual 76, 3) := by decide +kernel
theorem dX3_places_7 : decode cX3_places 7 = .ok (.ireturn, 1) := by decide +kernel
theorem dX3_leaves_0 : decode cX3_leaves 0 = .ok (.aload_n 0, 1) := by decide +kernel
theorem dX3_leaves_1 : decode cX3_leaves 1 = .ok (.iload_n 1, 1) := by decide +kernel
theorem dX3_leaves_2 : decode cX3_leaves 2 = .ok (.invokevirtual 48, 3) := by decide +kernel
theorem dX3_leaves_5 : decode cX3_leaves 5 = .ok (.aload_n 0, 1) := by decide +kernel
theorem dX3_leaves_6 : decode cX3_leaves 6 = .ok (.getfield 12, 3) := by decide +kernel
theorem dX3_leaves_9 : decode cX3_leaves 9 = .ok (.iload_n 1, 1) := by decide +kernel
theorem dX3_leaves_10 : decode cX3_leaves 10 = .ok (.invokevirtual 80, 3) := by decide +kernel
theorem dX3_leaves_13 : decode cX3_leaves 13 = .ok (.ireturn, 1) := by decide +kernel
theorem dX3_set_0 : decode cX3_set 0 = .ok (.iload_n 1, 1) := by decide +kernel
theorem dX3_set_1 : decode cX3_set 1 = .ok (.invokestatic 83, 3) := by decide +kernel
theorem dX3_set_4 : decode cX3_set 4 = .ok (.aload_n 0, 1) := by decide +kernel
theorem dX3_set_5 : decode cX3_set 5 = .ok (.iload_n 2, 1) := by decide +kernel
theorem dX3_set_6 : decode cX3_set 6 = .ok (.invokevirtual 48, 3) := by decide +kernel
theorem dX3_set_9 : decode cX3_set 9 = .ok (.iload_n 3, 1) := by decide +kernel
theorem dX3_set_10 : decode cX3_set 10 = .ok (.invokestatic 86, 3) := by decide +kernel
theorem dX3_set_13 : decode cX3_set 13 = .ok (.iload 4, 2) := by decide +kernel
theorem dX3_set_15 : decode cX3_set 15 = .ok (.invokestatic 89, 3) := by decide +kernel
theorem dX3_set_18 : decode cX3_set 18 = .ok (.iload 5, 2) := by decide +kernel
theorem dX3_set_20 : decode cX3_set 20 = .ok (.iload_n 3, 1) := by decide +kernel
theorem dX3_set_21 : decode cX3_set 21 = .ok (.invokestatic 92, 3) := by decide +kernel
theorem dX3_set_24 : decode cX3_set 24 = .ok (.invokestatic 95, 3) := by decide +kernel
theorem dX3_set_27 : decode cX3_set 27 = .ok (.aload_n 0, 1) := by decide +kernel
theorem dX3_set_28 : decode cX3_set 28 = .ok (.iload_n 2, 1) := by decide +kernel
theorem dX3_set_29 : decode cX3_set 29 = .ok (.invokevirtual 99, 3) := by decide +kernel
theorem dX3_set_32 : decode cX3_set 32 = .ok (.aload_n 0, 1) := by decide +kernel
theorem dX3_set_33 : decode cX3_set 33 = .ok (.getfield 27, 3) := by decide +kernel
theorem dX3_set_36 : decode cX3_set 36 = .ok (.iload_n 1, 1) := by decide +kernel
theorem dX3_set_37 : decode cX3_set 37 = .ok (.iaload, 1) := by decide +kernel
theorem dX3_set_38 : decode cX3_set 38 = .ok (.iload_n 2, 1) := by decide +kernel
theorem dX3_set_39 : decode cX3_set 39 = .ok (.invokestatic 102, 3) := by decide +kernel
theorem dX3_set_42 : decode cX3_set 42 = .ok (.ifCond .eq 13, 3) := by decide +kernel
theorem dX3_set_45 : decode cX3_set 45 = .ok (.new 56, 3) := by decide +kernel
theorem dX3_set_48 : decode cX3_set 48 = .ok (.dup, 1) := by decide +kernel
theorem dX3_set_49 : decode cX3_set 49 = .ok (.ldc 106, 2) := by decide +kernel
theorem dX3_set_51 : decode cX3_set 51 = .ok (.invokespecial 60, 3) := by decide +kernel
theorem dX3_set_54 : decode cX3_set 54 = .ok (.athrow, 1) := by decide +kernel
theorem dX3_set_55 : decode cX3_set 55 = .ok (.aload_n 0, 1) := by decide +kernel
theorem dX3_set_56 : decode cX3_set 56 = .ok (.getfield 19, 3) := by decide +kernel
theorem dX3_set_59 : decode cX3_set 59 = .ok (.iload_n 1, 1) := by decide +kernel
theorem dX3_set_60 : decode cX3_set 60 = .ok (.iload_n 2, 1) := by decide +kernel
theorem dX3_set_61 : decode cX3_set 61 = .ok (.iload_n 3, 1) := by decide +kernel
theorem dX3_set_62 : decode cX3_set 62 = .ok (.iload 4, 2) := by decide +kernel
theorem dX3_set_64 : decode cX3_set 64 = .ok (.iload 5, 2) := by decide +kernel
theorem dX3_set_66 : decode cX3_set 66 = .ok (.invokevirtual 108, 3) := by decide +kernel
theorem dX3_set_69 : decode cX3_set 69 = .ok (.ireturn, 1) := by decide +kernel
theorem dX3_hold_0 : decode cX3_hold 0 = .ok (.aload_n 0, 1) := by decide +kernel
theorem dX3_hold_1 : decode cX3_hold 1 = .ok (.iload_n 1, 1) := by decide +kernel
theorem dX3_hold_2 : decode cX3_hold 2 = .ok (.invokevirtual 48, 3) := by decide +kernel
theorem dX3_hold_5 : decode cX3_hold 5 = .ok (.iload_n 2, 1) := by decide +kernel
theorem dX3_hold_6 : decode cX3_hold 6 = .ok (.invokestatic 89, 3) := by decide +kernel
theorem dX3_hold_9 : decode cX3_hold 9 = .ok (.aload_n 0, 1) := by decide +kernel
theorem dX3_hold_10 : decode cX3_hold 10 = .ok (.iload_n 1, 1) := by decide +kernel
theorem dX3_hold_11 : decode cX3_hold 11 = .ok (.invokevirtual 99, 3) := by decide +kernel
theorem dX3_hold_14 : decode cX3_hold 14 = .ok (.aload_n 0, 1) := by decide +kernel
theorem dX3_hold_15 : decode cX3_hold 15 = .ok (.getfield 23, 3) := by decide +kernel
theorem dX3_hold_18 : decode cX3_hold 18 = .ok (.iload_n 2, 1) := by decide +kernel
theorem dX3_hold_19 : decode cX3_hold 19 = .ok (.iaload, 1) := by decide +kernel
theorem dX3_hold_20 : decode cX3_hold 20 = .ok (.istore 4, 2) := by decide +kernel
theorem dX3_hold_22 : decode cX3_hold 22 = .ok (.iload_n 3, 1) := by decide +kernel
theorem dX3_hold_23 : decode cX3_hold 23 = .ok (.ifCond .eq 12, 3) := by decide +kernel
theorem dX3_hold_26 : decode cX3_hold 26 = .ok (.iload 4, 2) := by decide +kernel
theorem dX3_hold_28 : decode cX3_hold 28 = .ok (.iconst 1, 1) := by decide +kernel
theorem dX3_hold_29 : decode cX3_hold 29 = .ok (.iload_n 1, 1) := by decide +kernel
theorem dX3_hold_30 : decode cX3_hold 30 = .ok (.ishl, 1) := by decide +kernel
theorem dX3_hold_31 : decode cX3_hold 31 = .ok (.ior, 1) := by decide +kernel
theorem dX3_hold_32 : decode cX3_hold 32 = .ok (.goto 11, 3) := by decide +kernel
theorem dX3_hold_35 : decode cX3_hold 35 = .ok (.iload 4, 2) := by decide +kernel
theorem dX3_hold_37 : decode cX3_hold 37 = .ok (.iconst 1, 1) := by decide +kernel
theorem dX3_hold_38 : decode cX3_hold 38 = .ok (.iload_n 1, 1) := by decide +kernel
theorem dX3_hold_39 : decode cX3_hold 39 = .ok (.ishl, 1) := by decide +kernel
theorem dX3_hold_40 : decode cX3_hold 40 = .ok (.iconst (-1), 1) := by decide +kernel
theorem dX3_hold_41 : decode cX3_hold 41 = .ok (.ixor, 1) := by decide +kernel
theorem dX3_hold_42 : decode cX3_hold 42 = .ok (.iand, 1) := by decide +kernel
theorem dX3_hold_43 : decode cX3_hold 43 = .ok (.istore 5, 2) := by decide +kernel
theorem dX3_hold_45 : decode cX3_hold 45 = .ok (.aload_n 0, 1) := by decide +kernel
theorem dX3_hold_46 : decode cX3_hold 46 = .ok (.getfield 23, 3) := by decide +kernel
theorem dX3_hold_49 : decode cX3_hold 49 = .ok (.iload_n 2, 1) := by decide +kernel
theorem dX3_hold_50 : decode cX3_hold 50 = .ok (.iload 5, 2) := by decide +kernel
theorem dX3_hold_52 : decode cX3_hold 52 = .ok (.iastore, 1) := by decide +kernel
theorem dX3_hold_53 : decode cX3_hold 53 = .ok (.iload 5, 2) := by decide +kernel
theorem dX3_hold_55 : decode cX3_hold 55 = .ok (.iload 4, 2) := by decide +kernel
theorem dX3_hold_57 : decode cX3_hold 57 = .ok (.if_icmp .eq 7, 3) := by decide +kernel
theorem dX3_hold_60 : decode cX3_hold 60 = .ok (.iconst 1, 1) := by decide +kernel
theorem dX3_hold_61 : decode cX3_hold 61 = .ok (.goto 4, 3) := by decide +kernel
theorem dX3_hold_64 : decode cX3_hold 64 = .ok (.iconst 0, 1) := by decide +kernel
theorem dX3_hold_65 : decode cX3_hold 65 = .ok (.ireturn, 1) := by decide +kernel
theorem dX3_setSeason_0 : decode cX3_setSeason 0 = .ok (.iload_n 1, 1) := by decide +kernel
theorem dX3_setSeason_1 : decode cX3_setSeason 1 = .ok (.invokestatic 89, 3) := by decide +kernel
theorem dX3_setSeason_4 : decode cX3_setSeason 4 = .ok (.iload_n 2, 1) := by decide +kernel
theorem dX3_setSeason_5 : decode cX3_setSeason 5 = .ok (.bipush 100, 2) := by decide +kernel
theorem dX3_setSeason_7 : decode cX3_setSeason 7 = .ok (.invokestatic 95, 3) := by decide +kernel
theorem dX3_setSeason_10 : decode cX3_setSeason 10 = .ok (.aload_n 0, 1) := by decide +kernel
theorem dX3_setSeason_11 : decode cX3_setSeason 11 = .ok (.getfield 33, 3) := by decide +kernel
theorem dX3_setSeason_14 : decode cX3_setSeason 14 = .ok (.iload_n 1, 1) := by decide +kernel
theorem dX3_setSeason_15 : decode cX3_setSeason 15 = .ok (.iload_n 2, 1) := by decide +kernel
theorem dX3_setSeason_16 : decode cX3_setSeason 16 = .ok (.invokevirtual 44, 3) := by decide +kernel
theorem dX3_setSeason_19 : decode cX3_setSeason 19 = .ok (.ireturn, 1) := by decide +kernel
theorem dX3_spread_0 : decode cX3_spread 0 = .ok (.iload_n 1, 1) := by decide +kernel
theorem dX3_spread_1 : decode cX3_spread 1 = .ok (.invokestatic 83, 3) := by decide +kernel
theorem dX3_spread_4 : decode cX3_spread 4 = .ok (.aload_n 0, 1) := by decide +kernel
theorem dX3_spread_5 : decode cX3_spread 5 = .ok (.iload_n 2, 1) := by decide +kernel
theorem dX3_spread_6 : decode cX3_spread 6 = .ok (.invokevirtual 48, 3) := by decide +kernel
theorem dX3_spread_9 : decode cX3_spread 9 = .ok (.iload_n 3, 1) := by decide +kernel
theorem dX3_spread_10 : decode cX3_spread 10 = .ok (.invokestatic 89, 3) := by decide +kernel
theorem dX3_spread_13 : decode cX3_spread 13 = .ok (.iload 4, 2) := by decide +kernel
theorem dX3_spread_15 : decode cX3_spread 15 = .ok (.ldc 112, 2) := by decide +kernel
theorem dX3_spread_17 : decode cX3_spread 17 = .ok (.invokestatic 95, 3) := by decide +kernel
theorem dX3_spread_20 : decode cX3_spread 20 = .ok (.iload 5, 2) := by decide +kernel
theorem dX3_spread_22 : decode cX3_spread 22 = .ok (.iconst 1, 1) := by decide +kernel
theorem dX3_spread_23 : decode cX3_spread 23 = .ok (.invokestatic 95, 3) := by decide +kernel
theorem dX3_spread_26 : decode cX3_spread 26 = .ok (.aload_n 0, 1) := by decide +kernel
theorem dX3_spread_27 : decode cX3_spread 27 = .ok (.getfield 12, 3) := by decide +kernel
theorem dX3_spread_30 : decode cX3_spread 30 = .ok (.iload_n 2, 1) := by decide +kernel
theorem dX3_spread_31 : decode cX3_spread 31 = .ok (.invokevirtual 80, 3) := by decide +kernel
theorem dX3_spread_34 : decode cX3_spread 34 = .ok (.istore 6, 2) := by decide +kernel
theorem dX3_spread_36 : decode cX3_spread 36 = .ok (.aload_n 0, 1) := by decide +kernel
theorem dX3_spread_37 : decode cX3_spread 37 = .ok (.iload_n 1, 1) := by decide +kernel
theorem dX3_spread_38 : decode cX3_spread 38 = .ok (.iload 6, 2) := by decide +kernel
theorem dX3_spread_40 : decode cX3_spread 40 = .ok (.iload_n 3, 1) := by decide +kernel
theorem dX3_spread_41 : decode cX3_spread 41 = .ok (.iload 4, 2) := by decide +kernel
theorem dX3_spread_43 : decode cX3_spread 43 = .ok (.invokevirtual 113, 3) := by decide +kernel
theorem dX3_spread_46 : decode cX3_spread 46 = .ok (.aload_n 0, 1) := by decide +kernel
theorem dX3_spread_47 : decode cX3_spread 47 = .ok (.iload_n 1, 1) := by decide +kernel
theorem dX3_spread_48 : decode cX3_spread 48 = .ok (.iload 6, 2) := by decide +kernel
theorem dX3_spread_50 : decode cX3_spread 50 = .ok (.iload_n 3, 1) := by decide +kernel
theorem dX3_spread_51 : decode cX3_spread 51 = .ok (.iload 4, 2) := by decide +kernel
theorem dX3_spread_53 : decode cX3_spread 53 = .ok (.iload 5, 2) := by decide +kernel
theorem dX3_spread_55 : decode cX3_spread 55 = .ok (.invokevirtual 117, 3) := by decide +kernel
theorem dX3_spread_58 : decode cX3_spread 58 = .ok (.ireturn, 1) := by decide +kernel
theorem dX3_spreadYear_0 : decode cX3_spreadYear 0 = .ok (.iload_n 1, 1) := by decide +kernel
theorem dX3_spreadYear_1 : decode cX3_spreadYear 1 = .ok (.invokestatic 83, 3) := by decide +kernel
theorem dX3_spreadYear_4 : decode cX3_spreadYear 4 = .ok (.aload_n 0, 1) := by decide +kernel
theorem dX3_spreadYear_5 : decode cX3_spreadYear 5 = .ok (.iload_n 2, 1) := by decide +kernel
theorem dX3_spreadYear_6 : decode cX3_spreadYear 6 = .ok (.invokevirtual 48, 3) := by decide +kernel
theorem dX3_spreadYear_9 : decode cX3_spreadYear 9 = .ok (.iload_n 3, 1) := by decide +kernel
theorem dX3_spreadYear_10 : decode cX3_spreadYear 10 = .ok (.ldc 112, 2) := by decide +kernel
theorem dX3_spreadYear_12 : decode cX3_spreadYear 12 = .ok (.invokestatic 95, 3) := by decide +kernel
theorem dX3_spreadYear_15 : decode cX3_spreadYear 15 = .ok (.aload_n 0, 1) := by decide +kernel
theorem dX3_spreadYear_16 : decode cX3_spreadYear 16 = .ok (.getfield 33, 3) := by decide +kernel
theorem dX3_spreadYear_19 : decode cX3_spreadYear 19 = .ok (.invokevirtual 120, 3) := by decide +kernel
theorem dX3_spreadYear_22 : decode cX3_spreadYear 22 = .ok (.ifCond .ne 13, 3) := by decide +kernel
theorem dX3_spreadYear_25 : decode cX3_spreadYear 25 = .ok (.new 56, 3) := by decide +kernel
theorem dX3_spreadYear_28 : decode cX3_spreadYear 28 = .ok (.dup, 1) := by decide +kernel
theorem dX3_spreadYear_29 : decode cX3_spreadYear 29 = .ok (.ldc 123, 2) := by decide +kernel
theorem dX3_spreadYear_31 : decode cX3_spreadYear 31 = .ok (.invokespecial 60, 3) := by decide +kernel
theorem dX3_spreadYear_34 : decode cX3_spreadYear 34 = .ok (.athrow, 1) := by decide +kernel
theorem dX3_spreadYear_35 : decode cX3_spreadYear 35 = .ok (.aload_n 0, 1) := by decide +kernel
theorem dX3_spreadYear_36 : decode cX3_spreadYear 36 = .ok (.getfield 12, 3) := by decide +kernel
theorem dX3_spreadYear_39 : decode cX3_spreadYear 39 = .ok (.iload_n 2, 1) := by decide +kernel
theorem dX3_spreadYear_40 : decode cX3_spreadYear 40 = .ok (.invokevirtual 80, 3) := by decide +kernel
theorem dX3_spreadYear_43 : decode cX3_spreadYear 43 = .ok (.istore 4, 2) := by decide +kernel
theorem dX3_spreadYear_45 : decode cX3_spreadYear 45 = .ok (.aload_n 0, 1) := by decide +kernel
theorem dX3_spreadYear_46 : decode cX3_spreadYear 46 = .ok (.getfield 33, 3) := by decide +kernel
theorem dX3_spreadYear_49 : decode cX3_spreadYear 49 = .ok (.iload_n 3, 1) := by decide +kernel
theorem dX3_spreadYear_50 : decode cX3_spreadYear 50 = .ok (.invokevirtual 125, 3) := by decide +kernel
theorem dX3_spreadYear_53 : decode cX3_spreadYear 53 = .ok (.iconst 0, 1) := by decide +kernel
theorem dX3_spreadYear_54 : decode cX3_spreadYear 54 = .ok (.istore 5, 2) := by decide +kernel
theorem dX3_spreadYear_56 : decode cX3_spreadYear 56 = .ok (.iload 5, 2) := by decide +kernel
theorem dX3_spreadYear_58 : decode cX3_spreadYear 58 = .ok (.bipush 12, 2) := by decide +kernel
theorem dX3_spreadYear_60 : decode cX3_spreadYear 60 = .ok (.if_icmp .ge 27, 3) := by decide +kernel
theorem dX3_spreadYear_63 : decode cX3_spreadYear 63 = .ok (.aload_n 0, 1) := by decide +kernel
theorem dX3_spreadYear_64 : decode cX3_spreadYear 64 = .ok (.iload_n 1, 1) := by decide +kernel
theorem dX3_spreadYear_65 : decode cX3_spreadYear 65 = .ok (.iload 4, 2) := by decide +kernel
theorem dX3_spreadYear_67 : decode cX3_spreadYear 67 = .ok (.iload 5, 2) := by decide +kernel
theorem dX3_spreadYear_69 : decode cX3_spreadYear 69 = .ok (.aload_n 0, 1) := by decide +kernel
theorem dX3_spreadYear_70 : decode cX3_spreadYear 70 = .ok (.getfield 33, 3) := by decide +kernel
theorem dX3_spreadYear_73 : decode cX3_spreadYear 73 = .ok (.iload 5, 2) := by decide +kernel
theorem dX3_spreadYear_75 : decode cX3_spreadYear 75 = .ok (.invokevirtual 128, 3) := by decide +kernel
theorem dX3_spreadYear_78 : decode cX3_spreadYear 78 = .ok (.invokevirtual 113, 3) := by decide +kernel
theorem dX3_spreadYear_81 : decode cX3_spreadYear 81 = .ok (.iinc 5 1, 3) := by decide +kernel
theorem dX3_spreadYear_84 : decode cX3_spreadYear 84 = .ok (.goto (-28), 3) := by decide +kernel
theorem dX3_spreadYear_87 : decode cX3_spreadYear 87 = .ok (.iconst 0, 1) := by decide +kernel
theorem dX3_spreadYear_88 : decode cX3_spreadYear 88 = .ok (.istore 5, 2) := by decide +kernel
theorem dX3_spreadYear_90 : decode cX3_spreadYear 90 = .ok (.iconst 0, 1) := by decide +kernel
theorem dX3_spreadYear_91 : decode cX3_spreadYear 91 = .ok (.istore 6, 2) := by decide +kernel
theorem dX3_spreadYear_93 : decode cX3_spreadYear 93 = .ok (.iload 6, 2) := by decide +kernel
theorem dX3_spreadYear_95 : decode cX3_spreadYear 95 = .ok (.bipush 12, 2) := by decide +kernel
theorem dX3_spreadYear_97 : decode cX3_spreadYear 97 = .ok (.if_icmp .ge 33, 3) := by decide +kernel
theorem dX3_spreadYear_100 : decode cX3_spreadYear 100 = .ok (.iload 5, 2) := by decide +kernel
theorem dX3_spreadYear_102 : decode cX3_spreadYear 102 = .ok (.aload_n 0, 1) := by decide +kernel
theorem dX3_spreadYear_103 : decode cX3_spreadYear 103 = .ok (.iload_n 1, 1) := by decide +kernel
theorem dX3_spreadYear_104 : decode cX3_spreadYear 104 = .ok (.iload 4, 2) := by decide +kernel
theorem dX3_spreadYear_106 : decode cX3_spreadYear 106 = .ok (.iload 6, 2) := by decide +kernel
theorem dX3_spreadYear_108 : decode cX3_spreadYear 108 = .ok (.aload_n 0, 1) := by decide +kernel
theorem dX3_spreadYear_109 : decode cX3_spreadYear 109 = .ok (.getfield 33, 3) := by decide +kernel
theorem dX3_spreadYear_112 : decode cX3_spreadYear 112 = .ok (.iload 6, 2) := by decide +kernel
theorem dX3_spreadYear_114 : decode cX3_spreadYear 114 = .ok (.invokevirtual 128, 3) := by decide +kernel
theorem dX3_spreadYear_117 : decode cX3_spreadYear 117 = .ok (.iconst 0, 1) := by decide +kernel
theorem dX3_spreadYear_118 : decode cX3_spreadYear 118 = .ok (.invokevirtual 117, 3) := by decide +kernel
theorem dX3_spreadYear_121 : decode cX3_spreadYear 121 = .ok (.iadd, 1) := by decide +kernel
theorem dX3_spreadYear_122 : decode cX3_spreadYear 122 = .ok (.istore 5, 2) := by decide +kernel
theorem dX3_spreadYear_124 : decode cX3_spreadYear 124 = .ok (.iinc 6 1, 3) := by decide +kernel
theorem dX3_spreadYear_127 : decode cX3_spreadYear 127 = .ok (.goto (-34), 3) := by decide +kernel
theorem dX3_spreadYear_130 : decode cX3_spreadYear 130 = .ok (.iload 5, 2) := by decide +kernel
theorem dX3_spreadYear_132 : decode cX3_spreadYear 132 = .ok (.ireturn, 1) := by decide +kernel
theorem dX3_copy_0 : decode cX3_copy 0 = .ok (.iload_n 1, 1) := by decide +kernel
theorem dX3_copy_1 : decode cX3_copy 1 = .ok (.invokestatic 83, 3) := by decide +kernel
theorem dX3_copy_4 : decode cX3_copy 4 = .ok (.iload_n 2, 1) := by decide +kernel
theorem dX3_copy_5 : decode cX3_copy 5 = .ok (.invokestatic 83, 3) := by decide +kernel
theorem dX3_copy_8 : decode cX3_copy 8 = .ok (.iload_n 1, 1) := by decide +kernel
theorem dX3_copy_9 : decode cX3_copy 9 = .ok (.iload_n 2, 1) := by decide +kernel
theorem dX3_copy_10 : decode cX3_copy 10 = .ok (.if_icmp .ne 13, 3) := by decide +kernel
theorem dX3_copy_13 : decode cX3_copy 13 = .ok (.new 131, 3) := by decide +kernel
theorem dX3_copy_16 : decode cX3_copy 16 = .ok (.dup, 1) := by decide +kernel
theorem dX3_copy_17 : decode cX3_copy 17 = .ok (.ldc 133, 2) := by decide +kernel
theorem dX3_copy_19 : decode cX3_copy 19 = .ok (.invokespecial 135, 3) := by decide +kernel
theorem dX3_copy_22 : decode cX3_copy 22 = .ok (.athrow, 1) := by decide +kernel
theorem dX3_copy_23 : decode cX3_copy 23 = .ok (.aload_n 0, 1) := by decide +kernel
theorem dX3_copy_24 : decode cX3_copy 24 = .ok (.getfield 27, 3) := by decide +kernel
theorem dX3_copy_27 : decode cX3_copy 27 = .ok (.iload_n 2, 1) := by decide +kernel
theorem dX3_copy_28 : decode cX3_copy 28 = .ok (.iaload, 1) := by decide +kernel
theorem dX3_copy_29 : decode cX3_copy 29 = .ok (.ifCond .eq 13, 3) := by decide +kernel
theorem dX3_copy_32 : decode cX3_copy 32 = .ok (.new 56, 3) := by decide +kernel
theorem dX3_copy_35 : decode cX3_copy 35 = .ok (.dup, 1) := by decide +kernel
theorem dX3_copy_36 : decode cX3_copy 36 = .ok (.ldc 136, 2) := by decide +kernel
theorem dX3_copy_38 : decode cX3_copy 38 = .ok (.invokespecial 60, 3) := by decide +kernel
theorem dX3_copy_41 : decode cX3_copy 41 = .ok (.athrow, 1) := by decide +kernel
theorem dX3_copy_42 : decode cX3_copy 42 = .ok (.aload_n 0, 1) := by decide +kernel
theorem dX3_copy_43 : decode cX3_copy 43 = .ok (.getfield 19, 3) := by decide +kernel
theorem dX3_copy_46 : decode cX3_copy 46 = .ok (.iload_n 1, 1) := by decide +kernel
theorem dX3_copy_47 : decode cX3_copy 47 = .ok (.iload_n 2, 1) := by decide +kernel
theorem dX3_copy_48 : decode cX3_copy 48 = .ok (.invokevirtual 138, 3) := by decide +kernel
theorem dX3_copy_51 : decode cX3_copy 51 = .ok (.ireturn, 1) := by decide +kernel
theorem dX3_handIn_0 : decode cX3_handIn 0 = .ok (.iload_n 1, 1) := by decide +kernel
theorem dX3_handIn_1 : decode cX3_handIn 1 = .ok (.invokestatic 83, 3) := by decide +kernel
theorem dX3_handIn_4 : decode cX3_handIn 4 = .ok (.aload_n 0, 1) := by decide +kernel
theorem dX3_handIn_5 : decode cX3_handIn 5 = .ok (.iload_n 2, 1) := by decide +kernel
theorem dX3_handIn_6 : decode cX3_handIn 6 = .ok (.invokevirtual 48, 3) := by decide +kernel
theorem dX3_handIn_9 : decode cX3_handIn 9 = .ok (.aload_n 0, 1) := by decide +kernel
theorem dX3_handIn_10 : decode cX3_handIn 10 = .ok (.getfield 12, 3) := by decide +kernel
theorem dX3_handIn_13 : decode cX3_handIn 13 = .ok (.iload_n 2, 1) := by decide +kernel
theorem dX3_handIn_14 : decode cX3_handIn 14 = .ok (.invokevirtual 80, 3) := by decide +kernel
theorem dX3_handIn_17 : decode cX3_handIn 17 = .ok (.aload_n 0, 1) := by decide +kernel
theorem dX3_handIn_18 : decode cX3_handIn 18 = .ok (.getfield 27, 3) := by decide +kernel
theorem dX3_handIn_21 : decode cX3_handIn 21 = .ok (.iload_n 1, 1) := by decide +kernel
theorem dX3_handIn_22 : decode cX3_handIn 22 = .ok (.iaload, 1) := by decide +kernel
theorem dX3_handIn_23 : decode cX3_handIn 23 = .ok (.iconst (-1), 1) := by decide +kernel
theorem dX3_handIn_24 : decode cX3_handIn 24 = .ok (.ixor, 1) := by decide +kernel
theorem dX3_handIn_25 : decode cX3_handIn 25 = .ok (.iand, 1) := by decide +kernel
theorem dX3_handIn_26 : decode cX3_handIn 26 = .ok (.istore_n 3, 1) := by decide +kernel
theorem dX3_handIn_27 : decode cX3_handIn 27 = .ok (.aload_n 0, 1) := by decide +kernel
theorem dX3_handIn_28 : decode cX3_handIn 28 = .ok (.getfield 27, 3) := by decide +kernel
theorem dX3_handIn_31 : decode cX3_handIn 31 = .ok (.iload_n 1, 1) := by decide +kernel
theorem dX3_handIn_32 : decode cX3_handIn 32 = .ok (.dup2, 1) := by decide +kernel
theorem dX3_handIn_33 : decode cX3_handIn 33 = .ok (.iaload, 1) := by decide +kernel
theorem dX3_handIn_34 : decode cX3_handIn 34 = .ok (.iload_n 3, 1) := by decide +kernel
theorem dX3_handIn_35 : decode cX3_handIn 35 = .ok (.ior, 1) := by decide +kernel
theorem dX3_handIn_36 : decode cX3_handIn 36 = .ok (.iastore, 1) := by decide +kernel
theorem dX3_handIn_37 : decode cX3_handIn 37 = .ok (.iload_n 3, 1) := by decide +kernel
theorem dX3_handIn_38 : decode cX3_handIn 38 = .ok (.invokestatic 141, 3) := by decide +kernel
theorem dX3_handIn_41 : decode cX3_handIn 41 = .ok (.ireturn, 1) := by decide +kernel
theorem dX3_takeBack_0 : decode cX3_takeBack 0 = .ok (.iload_n 1, 1) := by decide +kernel
theorem dX3_takeBack_1 : decode cX3_takeBack 1 = .ok (.invokestatic 83, 3) := by decide +kernel
theorem dX3_takeBack_4 : decode cX3_takeBack 4 = .ok (.aload_n 0, 1) := by decide +kernel
theorem dX3_takeBack_5 : decode cX3_takeBack 5 = .ok (.iload_n 2, 1) := by decide +kernel
theorem dX3_takeBack_6 : decode cX3_takeBack 6 = .ok (.invokevirtual 48, 3) := by decide +kernel
theorem dX3_takeBack_9 : decode cX3_takeBack 9 = .ok (.aload_n 0, 1) := by decide +kernel
theorem dX3_takeBack_10 : decode cX3_takeBack 10 = .ok (.getfield 12, 3) := by decide +kernel
theorem dX3_takeBack_13 : decode cX3_takeBack 13 = .ok (.iload_n 2, 1) := by decide +kernel
theorem dX3_takeBack_14 : decode cX3_takeBack 14 = .ok (.invokevirtual 80, 3) := by decide +kernel
theorem dX3_takeBack_17 : decode cX3_takeBack 17 = .ok (.aload_n 0, 1) := by decide +kernel
theorem dX3_takeBack_18 : decode cX3_takeBack 18 = .ok (.getfield 27, 3) := by decide +kernel
theorem dX3_takeBack_21 : decode cX3_takeBack 21 = .ok (.iload_n 1, 1) := by decide +kernel
theorem dX3_takeBack_22 : decode cX3_takeBack 22 = .ok (.iaload, 1) := by decide +kernel
theorem dX3_takeBack_23 : decode cX3_takeBack 23 = .ok (.iand, 1) := by decide +kernel
theorem dX3_takeBack_24 : decode cX3_takeBack 24 = .ok (.istore_n 3, 1) := by decide +kernel
theorem dX3_takeBack_25 : decode cX3_takeBack 25 = .ok (.aload_n 0, 1) := by decide +kernel
theorem dX3_takeBack_26 : decode cX3_takeBack 26 = .ok (.getfield 27, 3) := by decide +kernel
theorem dX3_takeBack_29 : decode cX3_takeBack 29 = .ok (.iload_n 1, 1) := by decide +kernel
theorem dX3_takeBack_30 : decode cX3_takeBack 30 = .ok (.dup2, 1) := by decide +kernel
theorem dX3_takeBack_31 : decode cX3_takeBack 31 = .ok (.iaload, 1) := by decide +kernel
theorem dX3_takeBack_32 : decode cX3_takeBack 32 = .ok (.iload_n 3, 1) := by decide +kernel
theorem dX3_takeBack_33 : decode cX3_takeBack 33 = .ok (.iconst (-1), 1) := by decide +kernel
theorem dX3_takeBack_34 : decode cX3_takeBack 34 = .ok (.ixor, 1) := by decide +kernel
theorem dX3_takeBack_35 : decode cX3_takeBack 35 = .ok (.iand, 1) := by decide +kernel
theorem dX3_takeBack_36 : decode cX3_takeBack 36 = .ok (.iastore, 1) := by decide +kernel
theorem dX3_takeBack_37 : decode cX3_takeBack 37 = .ok (.iload_n 3, 1) := by decide +kernel
theorem dX3_takeBack_38 : decode cX3_takeBack 38 = .ok (.invokestatic 141, 3) := by decide +kernel
theorem dX3_takeBack_41 : decode cX3_takeBack 41 = .ok (.ireturn, 1) := by decide +kernel
theorem dX3_see_0 : decode cX3_see 0 = .ok (.aload_n 0, 1) := by decide +kernel
theorem dX3_see_1 : decode cX3_see 1 = .ok (.iload_n 1, 1) := by decide +kernel
theorem dX3_see_2 : decode cX3_see 2 = .ok (.invokevirtual 48, 3) := by decide +kernel
theorem dX3_see_5 : decode cX3_see 5 = .ok (.iload_n 2, 1) := by decide +kernel
theorem dX3_see_6 : decode cX3_see 6 = .ok (.invokestatic 86, 3) := by decide +kernel
theorem dX3_see_9 : decode cX3_see 9 = .ok (.iload_n 3, 1) := by decide +kernel
theorem dX3_see_10 : decode cX3_see 10 = .ok (.invokestatic 89, 3) := by decide +kernel
theorem dX3_see_13 : decode cX3_see 13 = .ok (.iload 4, 2) := by decide +kernel
theorem dX3_see_15 : decode cX3_see 15 = .ok (.iload_n 2, 1) := by decide +kernel
theorem dX3_see_16 : decode cX3_see 16 = .ok (.invokestatic 92, 3) := by decide +kernel
theorem dX3_see_19 : decode cX3_see 19 = .ok (.invokestatic 95, 3) := by decide +kernel
theorem dX3_see_22 : decode cX3_see 22 = .ok (.aload_n 0, 1) := by decide +kernel
theorem dX3_see_23 : decode cX3_see 23 = .ok (.iload_n 1, 1) := by decide +kernel
theorem dX3_see_24 : decode cX3_see 24 = .ok (.invokevirtual 99, 3) := by decide +kernel
theorem dX3_see_27 : decode cX3_see 27 = .ok (.aload_n 0, 1) := by decide +kernel
theorem dX3_see_28 : decode cX3_see 28 = .ok (.getfield 19, 3) := by decide +kernel
theorem dX3_see_31 : decode cX3_see 31 = .ok (.iconst 3, 1) := by decide +kernel
theorem dX3_see_32 : decode cX3_see 32 = .ok (.iload_n 1, 1) := by decide +kernel
theorem dX3_see_33 : decode cX3_see 33 = .ok (.iload_n 2, 1) := by decide +kernel
theorem dX3_see_34 : decode cX3_see 34 = .ok (.iload_n 3, 1) := by decide +kernel
theorem dX3_see_35 : decode cX3_see 35 = .ok (.iload 4, 2) := by decide +kernel
theorem dX3_see_37 : decode cX3_see 37 = .ok (.invokevirtual 108, 3) := by decide +kernel
theorem dX3_see_40 : decode cX3_see 40 = .ok (.ireturn, 1) := by decide +kernel
theorem dX3_closeMonth_0 : decode cX3_closeMonth 0 = .ok (.aload_n 0, 1) := by decide +kernel
theorem dX3_closeMonth_1 : decode cX3_closeMonth 1 = .ok (.getfield 40, 3) := by decide +kernel
theorem dX3_closeMonth_4 : decode cX3_closeMonth 4 = .ok (.bipush 12, 2) := by decide +kernel
theorem dX3_closeMonth_6 : decode cX3_closeMonth 6 = .ok (.if_icmp .lt 13, 3) := by decide +kernel
theorem dX3_closeMonth_9 : decode cX3_closeMonth 9 = .ok (.new 56, 3) := by decide +kernel
theorem dX3_closeMonth_12 : decode cX3_closeMonth 12 = .ok (.dup, 1) := by decide +kernel
theorem dX3_closeMonth_13 : decode cX3_closeMonth 13 = .ok (.ldc 146, 2) := by decide +kernel
theorem dX3_closeMonth_15 : decode cX3_closeMonth 15 = .ok (.invokespecial 60, 3) := by decide +kernel
theorem dX3_closeMonth_18 : decode cX3_closeMonth 18 = .ok (.athrow, 1) := by decide +kernel
theorem dX3_closeMonth_19 : decode cX3_closeMonth 19 = .ok (.aload_n 0, 1) := by decide +kernel
theorem dX3_closeMonth_20 : decode cX3_closeMonth 20 = .ok (.dup, 1) := by decide +kernel
theorem dX3_closeMonth_21 : decode cX3_closeMonth 21 = .ok (.getfield 40, 3) := by decide +kernel
theorem dX3_closeMonth_24 : decode cX3_closeMonth 24 = .ok (.iconst 1, 1) := by decide +kernel
theorem dX3_closeMonth_25 : decode cX3_closeMonth 25 = .ok (.iadd, 1) := by decide +kernel
theorem dX3_closeMonth_26 : decode cX3_closeMonth 26 = .ok (.putfield 40, 3) := by decide +kernel
theorem dX3_closeMonth_29 : decode cX3_closeMonth 29 = .ok (.aload_n 0, 1) := by decide +kernel
theorem dX3_closeMonth_30 : decode cX3_closeMonth 30 = .ok (.getfield 40, 3) := by decide +kernel
theorem dX3_closeMonth_33 : decode cX3_closeMonth 33 = .ok (.ireturn, 1) := by decide +kernel
theorem dX3_amount_0 : decode cX3_amount 0 = .ok (.iload_n 1, 1) := by decide +kernel
theorem dX3_amount_1 : decode cX3_amount 1 = .ok (.invokestatic 83, 3) := by decide +kernel
theorem dX3_amount_4 : decode cX3_amount 4 = .ok (.aload_n 0, 1) := by decide +kernel
theorem dX3_amount_5 : decode cX3_amount 5 = .ok (.iload_n 2, 1) := by decide +kernel
theorem dX3_amount_6 : decode cX3_amount 6 = .ok (.invokevirtual 48, 3) := by decide +kernel
theorem dX3_amount_9 : decode cX3_amount 9 = .ok (.iload_n 3, 1) := by decide +kernel
theorem dX3_amount_10 : decode cX3_amount 10 = .ok (.invokestatic 148, 3) := by decide +kernel
theorem dX3_amount_13 : decode cX3_amount 13 = .ok (.iload 4, 2) := by decide +kernel
theorem dX3_amount_15 : decode cX3_amount 15 = .ok (.invokestatic 89, 3) := by decide +kernel
theorem dX3_amount_18 : decode cX3_amount 18 = .ok (.aload_n 0, 1) := by decide +kernel
theorem dX3_amount_19 : decode cX3_amount 19 = .ok (.getfield 19, 3) := by decide +kernel
theorem dX3_amount_22 : decode cX3_amount 22 = .ok (.iload_n 1, 1) := by decide +kernel
theorem dX3_amount_23 : decode cX3_amount 23 = .ok (.aload_n 0, 1) := by decide +kernel
theorem dX3_amount_24 : decode cX3_amount 24 = .ok (.getfield 12, 3) := by decide +kernel
theorem dX3_amount_27 : decode cX3_amount 27 = .ok (.iload_n 2, 1) := by decide +kernel
theorem dX3_amount_28 : decode cX3_amount 28 = .ok (.invokevirtual 80, 3) := by decide +kernel
theorem dX3_amount_31 : decode cX3_amount 31 = .ok (.iload_n 3, 1) := by decide +kernel
theorem dX3_amount_32 : decode cX3_amount 32 = .ok (.iload 4, 2) := by decide +kernel
theorem dX3_amount_34 : decode cX3_amount 34 = .ok (.invokevirtual 151, 3) := by decide +kernel
theorem dX3_amount_37 : decode cX3_amount 37 = .ok (.ireturn, 1) := by decide +kernel
theorem dX3_outlook_0 : decode cX3_outlook 0 = .ok (.iload_n 1, 1) := by decide +kernel
theorem dX3_outlook_1 : decode cX3_outlook 1 = .ok (.invokestatic 83, 3) := by decide +kernel
theorem dX3_outlook_4 : decode cX3_outlook 4 = .ok (.aload_n 0, 1) := by decide +kernel
theorem dX3_outlook_5 : decode cX3_outlook 5 = .ok (.iload_n 2, 1) := by decide +kernel
theorem dX3_outlook_6 : decode cX3_outlook 6 = .ok (.invokevirtual 48, 3) := by decide +kernel
theorem dX3_outlook_9 : decode cX3_outlook 9 = .ok (.iload_n 3, 1) := by decide +kernel
theorem dX3_outlook_10 : decode cX3_outlook 10 = .ok (.invokestatic 148, 3) := by decide +kernel
theorem dX3_outlook_13 : decode cX3_outlook 13 = .ok (.iload 4, 2) := by decide +kernel
theorem dX3_outlook_15 : decode cX3_outlook 15 = .ok (.invokestatic 89, 3) := by decide +kernel
theorem dX3_outlook_18 : decode cX3_outlook 18 = .ok (.iload 4, 2) := by decide +kernel
theorem dX3_outlook_20 : decode cX3_outlook 20 = .ok (.aload_n 0, 1) := by decide +kernel
theorem dX3_outlook_21 : decode cX3_outlook 21 = .ok (.getfield 40, 3) := by decide +kernel
theorem dX3_outlook_24 : decode cX3_outlook 24 = .ok (.if_icmp .ge 7, 3) := by decide +kernel
theorem dX3_outlook_27 : decode cX3_outlook 27 = .ok (.iconst 3, 1) := by decide +kernel
theorem dX3_outlook_28 : decode cX3_outlook 28 = .ok (.goto 4, 3) := by decide +kernel
theorem dX3_outlook_31 : decode cX3_outlook 31 = .ok (.iload_n 1, 1) := by decide +kernel
theorem dX3_outlook_32 : decode cX3_outlook 32 = .ok (.istore 5, 2) := by decide +kernel
theorem dX3_outlook_34 : decode cX3_outlook 34 = .ok (.aload_n 0, 1) := by decide +kernel
theorem dX3_outlook_35 : decode cX3_outlook 35 = .ok (.getfield 19, 3) := by decide +kernel
theorem dX3_outlook_38 : decode cX3_outlook 38 = .ok (.iload 5, 2) := by decide +kernel
theorem dX3_outlook_40 : decode cX3_outlook 40 = .ok (.aload_n 0, 1) := by decide +kernel
theorem dX3_outlook_41 : decode cX3_outlook 41 = .ok (.getfield 12, 3) := by decide +kernel
theorem dX3_outlook_44 : decode cX3_outlook 44 = .ok (.iload_n 2, 1) := by decide +kernel
theorem dX3_outlook_45 : decode cX3_outlook 45 = .ok (.invokevirtual 80, 3) := by decide +kernel
theorem dX3_outlook_48 : decode cX3_outlook 48 = .ok (.iload_n 3, 1) := by decide +kernel
theorem dX3_outlook_49 : decode cX3_outlook 49 = .ok (.iload 4, 2) := by decide +kernel
theorem dX3_outlook_51 : decode cX3_outlook 51 = .ok (.invokevirtual 151, 3) := by decide +kernel
theorem dX3_outlook_54 : decode cX3_outlook 54 = .ok (.ireturn, 1) := by decide +kernel
theorem dX3_year_0 : decode cX3_year 0 = .ok (.iload_n 1, 1) := by decide +kernel
theorem dX3_year_1 : decode cX3_year 1 = .ok (.invokestatic 83, 3) := by decide +kernel
theorem dX3_year_4 : decode cX3_year 4 = .ok (.aload_n 0, 1) := by decide +kernel
theorem dX3_year_5 : decode cX3_year 5 = .ok (.iload_n 2, 1) := by decide +kernel
theorem dX3_year_6 : decode cX3_year 6 = .ok (.invokevirtual 48, 3) := by decide +kernel
theorem dX3_year_9 : decode cX3_year 9 = .ok (.iload_n 3, 1) := by decide +kernel
theorem dX3_year_10 : decode cX3_year 10 = .ok (.invokestatic 148, 3) := by decide +kernel
theorem dX3_year_13 : decode cX3_year 13 = .ok (.aload_n 0, 1) := by decide +kernel
theorem dX3_year_14 : decode cX3_year 14 = .ok (.getfield 12, 3) := by decide +kernel
theorem dX3_year_17 : decode cX3_year 17 = .ok (.iload_n 2, 1) := by decide +kernel
theorem dX3_year_18 : decode cX3_year 18 = .ok (.invokevirtual 80, 3) := by decide +kernel
theorem dX3_year_21 : decode cX3_year 21 = .ok (.istore 4, 2) := by decide +kernel
theorem dX3_year_23 : decode cX3_year 23 = .ok (.iconst 0, 1) := by decide +kernel
theorem dX3_year_24 : decode cX3_year 24 = .ok (.istore 5, 2) := by decide +kernel
theorem dX3_year_26 : decode cX3_year 26 = .ok (.iconst 0, 1) := by decide +kernel
theorem dX3_year_27 : decode cX3_year 27 = .ok (.istore 6, 2) := by decide +kernel
theorem dX3_year_29 : decode cX3_year 29 = .ok (.iload 6, 2) := by decide +kernel
theorem dX3_year_31 : decode cX3_year 31 = .ok (.bipush 12, 2) := by decide +kernel
theorem dX3_year_33 : decode cX3_year 33 = .ok (.if_icmp .ge 27, 3) := by decide +kernel
theorem dX3_year_36 : decode cX3_year 36 = .ok (.iload 5, 2) := by decide +kernel
theorem dX3_year_38 : decode cX3_year 38 = .ok (.aload_n 0, 1) := by decide +kernel
theorem dX3_year_39 : decode cX3_year 39 = .ok (.getfield 19, 3) := by decide +kernel
theorem dX3_year_42 : decode cX3_year 42 = .ok (.iload_n 1, 1) := by decide +kernel
theorem dX3_year_43 : decode cX3_year 43 = .ok (.iload 4, 2) := by decide +kernel
theorem dX3_year_45 : decode cX3_year 45 = .ok (.iload_n 3, 1) := by decide +kernel
theorem dX3_year_46 : decode cX3_year 46 = .ok (.iload 6, 2) := by decide +kernel
theorem dX3_year_48 : decode cX3_year 48 = .ok (.invokevirtual 151, 3) := by decide +kernel
theorem dX3_year_51 : decode cX3_year 51 = .ok (.iadd, 1) := by decide +kernel
theorem dX3_year_52 : decode cX3_year 52 = .ok (.istore 5, 2) := by decide +kernel
theorem dX3_year_54 : decode cX3_year 54 = .ok (.iinc 6 1, 3) := by decide +kernel
theorem dX3_year_57 : decode cX3_year 57 = .ok (.goto (-28), 3) := by decide +kernel
theorem dX3_year_60 : decode cX3_year 60 = .ok (.iload 5, 2) := by decide +kernel
theorem dX3_year_62 : decode cX3_year 62 = .ok (.ireturn, 1) := by decide +kernel
theorem dX3_yearByLeaves_0 : decode cX3_yearByLeaves 0 = .ok (.iload_n 1, 1) := by decide +kernel
theorem dX3_yearByLeaves_1 : decode cX3_yearByLeaves 1 = .ok (.invokestatic 83, 3) := by decide +kernel
theorem dX3_yearByLeaves_4 : decode cX3_yearByLeaves 4 = .ok (.aload_n 0, 1) := by decide +kernel
theorem dX3_yearByLeaves_5 : decode cX3_yearByLeaves 5 = .ok (.iload_n 2, 1) := by decide +kernel
theorem dX3_yearByLeaves_6 : decode cX3_yearByLeaves 6 = .ok (.invokevirtual 48, 3) := by decide +kernel
theorem dX3_yearByLeaves_9 : decode cX3_yearByLeaves 9 = .ok (.iload_n 3, 1) := by decide +kernel
theorem dX3_yearByLeaves_10 : decode cX3_yearByLeaves 10 = .ok (.invokestatic 148, 3) := by decide +kernel
theorem dX3_yearByLeaves_13 : decode cX3_yearByLeaves 13 = .ok (.aload_n 0, 1) := by decide +kernel
theorem dX3_yearByLeaves_14 : decode cX3_yearByLeaves 14 = .ok (.getfield 12, 3) := by decide +kernel
theorem dX3_yearByLeaves_17 : decode cX3_yearByLeaves 17 = .ok (.iload_n 2, 1) := by decide +kernel
theorem dX3_yearByLeaves_18 : decode cX3_yearByLeaves 18 = .ok (.invokevirtual 80, 3) := by decide +kernel
theorem dX3_yearByLeaves_21 : decode cX3_yearByLeaves 21 = .ok (.istore 4, 2) := by decide +kernel
theorem dX3_yearByLeaves_23 : decode cX3_yearByLeaves 23 = .ok (.iconst 0, 1) := by decide +kernel
theorem dX3_yearByLeaves_24 : decode cX3_yearByLeaves 24 = .ok (.istore 5, 2) := by decide +kernel
theorem dX3_yearByLeaves_26 : decode cX3_yearByLeaves 26 = .ok (.iconst 0, 1) := by decide +kernel
theorem dX3_yearByLeaves_27 : decode cX3_yearByLeaves 27 = .ok (.istore 6, 2) := by decide +kernel
theorem dX3_yearByLeaves_29 : decode cX3_yearByLeaves 29 = .ok (.iload 6, 2) := by decide +kernel
theorem dX3_yearByLeaves_31 : decode cX3_yearByLeaves 31 = .ok (.bipush 10, 2) := by decide +kernel
theorem dX3_yearByLeaves_33 : decode cX3_yearByLeaves 33 = .ok (.if_icmp .ge 35, 3) := by decide +kernel
theorem dX3_yearByLeaves_36 : decode cX3_yearByLeaves 36 = .ok (.iload 4, 2) := by decide +kernel
theorem dX3_yearByLeaves_38 : decode cX3_yearByLeaves 38 = .ok (.iload 6, 2) := by decide +kernel
theorem dX3_yearByLeaves_40 : decode cX3_yearByLeaves 40 = .ok (.invokestatic 102, 3) := by decide +kernel
theorem dX3_yearByLeaves_43 : decode cX3_yearByLeaves 43 = .ok (.ifCond .eq 19, 3) := by decide +kernel
theorem dX3_yearByLeaves_46 : decode cX3_yearByLeaves 46 = .ok (.iload 5, 2) := by decide +kernel
theorem dX3_yearByLeaves_48 : decode cX3_yearByLeaves 48 = .ok (.aload_n 0, 1) := by decide +kernel
theorem dX3_yearByLeaves_49 : decode cX3_yearByLeaves 49 = .ok (.getfield 19, 3) := by decide +kernel
theorem dX3_yearByLeaves_52 : decode cX3_yearByLeaves 52 = .ok (.iload_n 1, 1) := by decide +kernel
theorem dX3_yearByLeaves_53 : decode cX3_yearByLeaves 53 = .ok (.iload 6, 2) := by decide +kernel
theorem dX3_yearByLeaves_55 : decode cX3_yearByLeaves 55 = .ok (.iload_n 3, 1) := by decide +kernel
theorem dX3_yearByLeaves_56 : decode cX3_yearByLeaves 56 = .ok (.invokevirtual 155, 3) := by decide +kernel
theorem dX3_yearByLeaves_59 : decode cX3_yearByLeaves 59 = .ok (.iadd, 1) := by decide +kernel
theorem dX3_yearByLeaves_60 : decode cX3_yearByLeaves 60 = .ok (.istore 5, 2) := by decide +kernel
theorem dX3_yearByLeaves_62 : decode cX3_yearByLeaves 62 = .ok (.iinc 6 1, 3) := by decide +kernel
theorem dX3_yearByLeaves_65 : decode cX3_yearByLeaves 65 = .ok (.goto (-36), 3) := by decide +kernel
theorem dX3_yearByLeaves_68 : decode cX3_yearByLeaves 68 = .ok (.iload 5, 2) := by decide +kernel
theorem dX3_yearByLeaves_70 : decode cX3_yearByLeaves 70 = .ok (.ireturn, 1) := by decide +kernel
theorem dX3_filled_0 : decode cX3_filled 0 = .ok (.aload_n 0, 1) := by decide +kernel
theorem dX3_filled_1 : decode cX3_filled 1 = .ok (.getfield 19, 3) := by decide +kernel
theorem dX3_filled_4 : decode cX3_filled 4 = .ok (.invokevirtual 159, 3) := by decide +kernel
theorem dX3_filled_7 : decode cX3_filled 7 = .ok (.ireturn, 1) := by decide +kernel
theorem dX3_gap_0 : decode cX3_gap 0 = .ok (.iload_n 1, 1) := by decide +kernel
theorem dX3_gap_1 : decode cX3_gap 1 = .ok (.invokestatic 83, 3) := by decide +kernel
theorem dX3_gap_4 : decode cX3_gap 4 = .ok (.iload_n 2, 1) := by decide +kernel
theorem dX3_gap_5 : decode cX3_gap 5 = .ok (.invokestatic 83, 3) := by decide +kernel
theorem dX3_gap_8 : decode cX3_gap 8 = .ok (.aload_n 0, 1) := by decide +kernel
theorem dX3_gap_9 : decode cX3_gap 9 = .ok (.iload_n 3, 1) := by decide +kernel
theorem dX3_gap_10 : decode cX3_gap 10 = .ok (.invokevirtual 48, 3) := by decide +kernel
theorem dX3_gap_13 : decode cX3_gap 13 = .ok (.iload 4, 2) := by decide +kernel
theorem dX3_gap_15 : decode cX3_gap 15 = .ok (.iconst 3, 1) := by decide +kernel
theorem dX3_gap_16 : decode cX3_gap 16 = .ok (.invokestatic 95, 3) := by decide +kernel
theorem dX3_gap_19 : decode cX3_gap 19 = .ok (.aload_n 0, 1) := by decide +kernel
theorem dX3_gap_20 : decode cX3_gap 20 = .ok (.getfield 12, 3) := by decide +kernel
theorem dX3_gap_23 : decode cX3_gap 23 = .ok (.iload_n 3, 1) := by decide +kernel
theorem dX3_gap_24 : decode cX3_gap 24 = .ok (.invokevirtual 80, 3) := by decide +kernel
theorem dX3_gap_27 : decode cX3_gap 27 = .ok (.istore 5, 2) := by decide +kernel
theorem dX3_gap_29 : decode cX3_gap 29 = .ok (.iconst 0, 1) := by decide +kernel
theorem dX3_gap_30 : decode cX3_gap 30 = .ok (.istore 6, 2) := by decide +kernel
theorem dX3_gap_32 : decode cX3_gap 32 = .ok (.iconst 0, 1) := by decide +kernel
theorem dX3_gap_33 : decode cX3_gap 33 = .ok (.istore 7, 2) := by decide +kernel
theorem dX3_gap_35 : decode cX3_gap 35 = .ok (.iload 7, 2) := by decide +kernel
theorem dX3_gap_37 : decode cX3_gap 37 = .ok (.bipush 10, 2) := by decide +kernel
theorem dX3_gap_39 : decode cX3_gap 39 = .ok (.if_icmp .ge 34, 3) := by decide +kernel
theorem dX3_gap_42 : decode cX3_gap 42 = .ok (.iload 5, 2) := by decide +kernel
theorem dX3_gap_44 : decode cX3_gap 44 = .ok (.iload 7, 2) := by decide +kernel
theorem dX3_gap_46 : decode cX3_gap 46 = .ok (.invokestatic 102, 3) := by decide +kernel
theorem dX3_gap_49 : decode cX3_gap 49 = .ok (.ifCond .eq 18, 3) := by decide +kernel
theorem dX3_gap_52 : decode cX3_gap 52 = .ok (.iload 6, 2) := by decide +kernel
theorem dX3_gap_54 : decode cX3_gap 54 = .ok (.aload_n 0, 1) := by decide +kernel
theorem dX3_gap_55 : decode cX3_gap 55 = .ok (.iload_n 1, 1) := by decide +kernel
theorem dX3_gap_56 : decode cX3_gap 56 = .ok (.iload_n 2, 1) := by decide +kernel
theorem dX3_gap_57 : decode cX3_gap 57 = .ok (.iload 7, 2) := by decide +kernel
theorem dX3_gap_59 : decode cX3_gap 59 = .ok (.iload 4, 2) := by decide +kernel
theorem dX3_gap_61 : decode cX3_gap 61 = .ok (.invokevirtual 162, 3) := by decide +kernel
theorem dX3_gap_64 : decode cX3_gap 64 = .ok (.iadd, 1) := by decide +kernel
theorem dX3_gap_65 : decode cX3_gap 65 = .ok (.istore 6, 2) := by decide +kernel
theorem dX3_gap_67 : decode cX3_gap 67 = .ok (.iinc 7 1, 3) := by decide +kernel
theorem dX3_gap_70 : decode cX3_gap 70 = .ok (.goto (-35), 3) := by decide +kernel
theorem dX3_gap_73 : decode cX3_gap 73 = .ok (.iload 6, 2) := by decide +kernel
theorem dX3_gap_75 : decode cX3_gap 75 = .ok (.ireturn, 1) := by decide +kernel
theorem dX3_gapOfLeaf_0 : decode cX3_gapOfLeaf 0 = .ok (.iconst 0, 1) := by decide +kernel
theorem dX3_gapOfLeaf_1 : decode cX3_gapOfLeaf 1 = .ok (.istore 5, 2) := by decide +kernel
theorem dX3_gapOfLeaf_3 : decode cX3_gapOfLeaf 3 = .ok (.iconst 0, 1) := by decide +kernel
theorem dX3_gapOfLeaf_4 : decode cX3_gapOfLeaf 4 = .ok (.istore 6, 2) := by decide +kernel
theorem dX3_gapOfLeaf_6 : decode cX3_gapOfLeaf 6 = .ok (.iload 6, 2) := by decide +kernel
theorem dX3_gapOfLeaf_8 : decode cX3_gapOfLeaf 8 = .ok (.bipush 12, 2) := by decide +kernel
theorem dX3_gapOfLeaf_10 : decode cX3_gapOfLeaf 10 = .ok (.if_icmp .ge 83, 3) := by decide +kernel
theorem dX3_gapOfLeaf_13 : decode cX3_gapOfLeaf 13 = .ok (.aload_n 0, 1) := by decide +kernel
theorem dX3_gapOfLeaf_14 : decode cX3_gapOfLeaf 14 = .ok (.getfield 19, 3) := by decide +kernel
theorem dX3_gapOfLeaf_17 : decode cX3_gapOfLeaf 17 = .ok (.iload_n 1, 1) := by decide +kernel
theorem dX3_gapOfLeaf_18 : decode cX3_gapOfLeaf 18 = .ok (.iload_n 3, 1) := by decide +kernel
theorem dX3_gapOfLeaf_19 : decode cX3_gapOfLeaf 19 = .ok (.iconst 0, 1) := by decide +kernel
theorem dX3_gapOfLeaf_20 : decode cX3_gapOfLeaf 20 = .ok (.iload 6, 2) := by decide +kernel
theorem dX3_gapOfLeaf_22 : decode cX3_gapOfLeaf 22 = .ok (.invokevirtual 165, 3) := by decide +kernel
theorem dX3_gapOfLeaf_25 : decode cX3_gapOfLeaf 25 = .ok (.istore 7, 2) := by decide +kernel
theorem dX3_gapOfLeaf_27 : decode cX3_gapOfLeaf 27 = .ok (.aload_n 0, 1) := by decide +kernel
theorem dX3_gapOfLeaf_28 : decode cX3_gapOfLeaf 28 = .ok (.getfield 19, 3) := by decide +kernel
theorem dX3_gapOfLeaf_31 : decode cX3_gapOfLeaf 31 = .ok (.iload_n 1, 1) := by decide +kernel
theorem dX3_gapOfLeaf_32 : decode cX3_gapOfLeaf 32 = .ok (.iload_n 3, 1) := by decide +kernel
theorem dX3_gapOfLeaf_33 : decode cX3_gapOfLeaf 33 = .ok (.iconst 1, 1) := by decide +kernel
theorem dX3_gapOfLeaf_34 : decode cX3_gapOfLeaf 34 = .ok (.iload 6, 2) := by decide +kernel
theorem dX3_gapOfLeaf_36 : decode cX3_gapOfLeaf 36 = .ok (.invokevirtual 165, 3) := by decide +kernel
theorem dX3_gapOfLeaf_39 : decode cX3_gapOfLeaf 39 = .ok (.istore 8, 2) := by decide +kernel
theorem dX3_gapOfLeaf_41 : decode cX3_gapOfLeaf 41 = .ok (.aload_n 0, 1) := by decide +kernel
theorem dX3_gapOfLeaf_42 : decode cX3_gapOfLeaf 42 = .ok (.getfield 19, 3) := by decide +kernel
theorem dX3_gapOfLeaf_45 : decode cX3_gapOfLeaf 45 = .ok (.iload_n 2, 1) := by decide +kernel
theorem dX3_gapOfLeaf_46 : decode cX3_gapOfLeaf 46 = .ok (.iload_n 3, 1) := by decide +kernel
theorem dX3_gapOfLeaf_47 : decode cX3_gapOfLeaf 47 = .ok (.iconst 0, 1) := by decide +kernel
theorem dX3_gapOfLeaf_48 : decode cX3_gapOfLeaf 48 = .ok (.iload 6, 2) := by decide +kernel
theorem dX3_gapOfLeaf_50 : decode cX3_gapOfLeaf 50 = .ok (.invokevirtual 165, 3) := by decide +kernel
theorem dX3_gapOfLeaf_53 : decode cX3_gapOfLeaf 53 = .ok (.istore 9, 2) := by decide +kernel
theorem dX3_gapOfLeaf_55 : decode cX3_gapOfLeaf 55 = .ok (.aload_n 0, 1) := by decide +kernel
theorem dX3_gapOfLeaf_56 : decode cX3_gapOfLeaf 56 = .ok (.getfield 19, 3) := by decide +kernel
theorem dX3_gapOfLeaf_59 : decode cX3_gapOfLeaf 59 = .ok (.iload_n 2, 1) := by decide +kernel
theorem dX3_gapOfLeaf_60 : decode cX3_gapOfLeaf 60 = .ok (.iload_n 3, 1) := by decide +kernel
theorem dX3_gapOfLeaf_61 : decode cX3_gapOfLeaf 61 = .ok (.iconst 1, 1) := by decide +kernel
theorem dX3_gapOfLeaf_62 : decode cX3_gapOfLeaf 62 = .ok (.iload 6, 2) := by decide +kernel
theorem dX3_gapOfLeaf_64 : decode cX3_gapOfLeaf 64 = .ok (.invokevirtual 165, 3) := by decide +kernel
theorem dX3_gapOfLeaf_67 : decode cX3_gapOfLeaf 67 = .ok (.istore 10, 2) := by decide +kernel
theorem dX3_gapOfLeaf_69 : decode cX3_gapOfLeaf 69 = .ok (.iload 5, 2) := by decide +kernel
theorem dX3_gapOfLeaf_71 : decode cX3_gapOfLeaf 71 = .ok (.iload 7, 2) := by decide +kernel
theorem dX3_gapOfLeaf_73 : decode cX3_gapOfLeaf 73 = .ok (.iload 8, 2) := by decide +kernel
theorem dX3_gapOfLeaf_75 : decode cX3_gapOfLeaf 75 = .ok (.iload 9, 2) := by decide +kernel
theorem dX3_gapOfLeaf_77 : decode cX3_gapOfLeaf 77 = .ok (.iload 10, 2) := by decide +kernel
theorem dX3_gapOfLeaf_79 : decode cX3_gapOfLeaf 79 = .ok (.iload 4, 2) := by decide +kernel
theorem dX3_gapOfLeaf_81 : decode cX3_gapOfLeaf 81 = .ok (.invokestatic 168, 3) := by decide +kernel
theorem dX3_gapOfLeaf_84 : decode cX3_gapOfLeaf 84 = .ok (.iadd, 1) := by decide +kernel
theorem dX3_gapOfLeaf_85 : decode cX3_gapOfLeaf 85 = .ok (.istore 5, 2) := by decide +kernel
theorem dX3_gapOfLeaf_87 : decode cX3_gapOfLeaf 87 = .ok (.iinc 6 1, 3) := by decide +kernel
theorem dX3_gapOfLeaf_90 : decode cX3_gapOfLeaf 90 = .ok (.goto (-84), 3) := by decide +kernel
theorem dX3_gapOfLeaf_93 : decode cX3_gapOfLeaf 93 = .ok (.iload 5, 2) := by decide +kernel
theorem dX3_gapOfLeaf_95 : decode cX3_gapOfLeaf 95 = .ok (.ireturn, 1) := by decide +kernel
theorem dX3_gapPart_0 : decode cX3_gapPart 0 = .ok (.iload 4, 2) := by decide +kernel
theorem dX3_gapPart_2 : decode cX3_gapPart 2 = .ok (.tableswitch 46 0 2 #[26, 34, 40], 26) := by decide +kernel
theorem dX3_gapPart_28 : decode cX3_gapPart 28 = .ok (.iload_n 2, 1) := by decide +kernel
theorem dX3_gapPart_29 : decode cX3_gapPart 29 = .ok (.iload_n 3, 1) := by decide +kernel
theorem dX3_gapPart_30 : decode cX3_gapPart 30 = .ok (.imul, 1) := by decide +kernel
theorem dX3_gapPart_31 : decode cX3_gapPart 31 = .ok (.iload_n 0, 1) := by decide +kernel
theorem dX3_gapPart_32 : decode cX3_gapPart 32 = .ok (.iload_n 1, 1) := by decide +kernel
theorem dX3_gapPart_33 : decode cX3_gapPart 33 = .ok (.imul, 1) := by decide +kernel
theorem dX3_gapPart_34 : decode cX3_gapPart 34 = .ok (.isub, 1) := by decide +kernel
theorem dX3_gapPart_35 : decode cX3_gapPart 35 = .ok (.ireturn, 1) := by decide +kernel
theorem dX3_gapPart_36 : decode cX3_gapPart 36 = .ok (.iload_n 2, 1) := by decide +kernel
theorem dX3_gapPart_37 : decode cX3_gapPart 37 = .ok (.iload_n 0, 1) := by decide +kernel
theorem dX3_gapPart_38 : decode cX3_gapPart 38 = .ok (.isub, 1) := by decide +kernel
theorem dX3_gapPart_39 : decode cX3_gapPart 39 = .ok (.iload_n 1, 1) := by decide +kernel
theorem dX3_gapPart_40 : decode cX3_gapPart 40 = .ok (.imul, 1) := by decide +kernel
theorem dX3_gapPart_41 : decode cX3_gapPart 41 = .ok (.ireturn, 1) := by decide +kernel
theorem dX3_gapPart_42 : decode cX3_gapPart 42 = .ok (.iload_n 0, 1) := by decide +kernel
theorem dX3_gapPart_43 : decode cX3_gapPart 43 = .ok (.iload_n 3, 1) := by decide +kernel
theorem dX3_gapPart_44 : decode cX3_gapPart 44 = .ok (.iload_n 1, 1) := by decide +kernel
theorem dX3_gapPart_45 : decode cX3_gapPart 45 = .ok (.isub, 1) := by decide +kernel
theorem dX3_gapPart_46 : decode cX3_gapPart 46 = .ok (.imul, 1) := by decide +kernel
theorem dX3_gapPart_47 : decode cX3_gapPart 47 = .ok (.ireturn, 1) := by decide +kernel
theorem dX3_gapPart_48 : decode cX3_gapPart 48 = .ok (.iload_n 2, 1) := by decide +kernel
theorem dX3_gapPart_49 : decode cX3_gapPart 49 = .ok (.iload_n 0, 1) := by decide +kernel
theorem dX3_gapPart_50 : decode cX3_gapPart 50 = .ok (.isub, 1) := by decide +kernel
theorem dX3_gapPart_51 : decode cX3_gapPart 51 = .ok (.iload_n 3, 1) := by decide +kernel
theorem dX3_gapPart_52 : decode cX3_gapPart 52 = .ok (.iload_n 1, 1) := by decide +kernel
theorem dX3_gapPart_53 : decode cX3_gapPart 53 = .ok (.isub, 1) := by decide +kernel
theorem dX3_gapPart_54 : decode cX3_gapPart 54 = .ok (.imul, 1) := by decide +kernel
theorem dX3_gapPart_55 : decode cX3_gapPart 55 = .ok (.ireturn, 1) := by decide +kernel
theorem dX3_isInUse_0 : decode cX3_isInUse 0 = .ok (.iconst 0, 1) := by decide +kernel
theorem dX3_isInUse_1 : decode cX3_isInUse 1 = .ok (.istore_n 2, 1) := by decide +kernel
theorem dX3_isInUse_2 : decode cX3_isInUse 2 = .ok (.iconst 0, 1) := by decide +kernel
theorem dX3_isInUse_3 : decode cX3_isInUse 3 = .ok (.istore_n 3, 1) := by decide +kernel
theorem dX3_isInUse_4 : decode cX3_isInUse 4 = .ok (.iload_n 3, 1) := by decide +kernel
theorem dX3_isInUse_5 : decode cX3_isInUse 5 = .ok (.bipush 12, 2) := by decide +kernel
theorem dX3_isInUse_7 : decode cX3_isInUse 7 = .ok (.if_icmp .ge 18, 3) := by decide +kernel
theorem dX3_isInUse_10 : decode cX3_isInUse 10 = .ok (.iload_n 2, 1) := by decide +kernel
theorem dX3_isInUse_11 : decode cX3_isInUse 11 = .ok (.aload_n 0, 1) := by decide +kernel
theorem dX3_isInUse_12 : decode cX3_isInUse 12 = .ok (.getfield 23, 3) := by decide +kernel
theorem dX3_isInUse_15 : decode cX3_isInUse 15 = .ok (.iload_n 3, 1) := by decide +kernel
theorem dX3_isInUse_16 : decode cX3_isInUse 16 = .ok (.iaload, 1) := by decide +kernel
theorem dX3_isInUse_17 : decode cX3_isInUse 17 = .ok (.ior, 1) := by decide +kernel
theorem dX3_isInUse_18 : decode cX3_isInUse 18 = .ok (.istore_n 2, 1) := by decide +kernel
theorem dX3_isInUse_19 : decode cX3_isInUse 19 = .ok (.iinc 3 1, 3) := by decide +kernel
theorem dX3_isInUse_22 : decode cX3_isInUse 22 = .ok (.goto (-18), 3) := by decide +kernel
theorem dX3_isInUse_25 : decode cX3_isInUse 25 = .ok (.iconst 0, 1) := by decide +kernel
theorem dX3_isInUse_26 : decode cX3_isInUse 26 = .ok (.istore_n 3, 1) := by decide +kernel
theorem dX3_isInUse_27 : decode cX3_isInUse 27 = .ok (.iload_n 3, 1) := by decide +kernel
theorem dX3_isInUse_28 : decode cX3_isInUse 28 = .ok (.iconst 3, 1) := by decide +kernel
theorem dX3_isInUse_29 : decode cX3_isInUse 29 = .ok (.if_icmp .ge 18, 3) := by decide +kernel
theorem dX3_isInUse_32 : decode cX3_isInUse 32 = .ok (.iload_n 2, 1) := by decide +kernel
theorem dX3_isInUse_33 : decode cX3_isInUse 33 = .ok (.aload_n 0, 1) := by decide +kernel
theorem dX3_isInUse_34 : decode cX3_isInUse 34 = .ok (.getfield 27, 3) := by decide +kernel
theorem dX3_isInUse_37 : decode cX3_isInUse 37 = .ok (.iload_n 3, 1) := by decide +kernel
theorem dX3_isInUse_38 : decode cX3_isInUse 38 = .ok (.iaload, 1) := by decide +kernel
theorem dX3_isInUse_39 : decode cX3_isInUse 39 = .ok (.ior, 1) := by decide +kernel
theorem dX3_isInUse_40 : decode cX3_isInUse 40 = .ok (.istore_n 2, 1) := by decide +kernel
theorem dX3_isInUse_41 : decode cX3_isInUse 41 = .ok (.iinc 3 1, 3) := by decide +kernel
theorem dX3_isInUse_44 : decode cX3_isInUse 44 = .ok (.goto (-17), 3) := by decide +kernel
theorem dX3_isInUse_47 : decode cX3_isInUse 47 = .ok (.iload_n 2, 1) := by decide +kernel
theorem dX3_isInUse_48 : decode cX3_isInUse 48 = .ok (.iload_n 1, 1) := by decide +kernel
theorem dX3_isInUse_49 : decode cX3_isInUse 49 = .ok (.invokestatic 102, 3) := by decide +kernel
theorem dX3_isInUse_52 : decode cX3_isInUse 52 = .ok (.ifCond .ne 14, 3) := by decide +kernel
theorem dX3_isInUse_55 : decode cX3_isInUse 55 = .ok (.aload_n 0, 1) := by decide +kernel
theorem dX3_isInUse_56 : decode cX3_isInUse 56 = .ok (.getfield 19, 3) := by decide +kernel
theorem dX3_isInUse_59 : decode cX3_isInUse 59 = .ok (.iload_n 1, 1) := by decide +kernel
theorem dX3_isInUse_60 : decode cX3_isInUse 60 = .ok (.invokevirtual 171, 3) := by decide +kernel
theorem dX3_isInUse_63 : decode cX3_isInUse 63 = .ok (.ifCond .ne 7, 3) := by decide +kernel
theorem dX3_isInUse_66 : decode cX3_isInUse 66 = .ok (.iconst 1, 1) := by decide +kernel
theorem dX3_isInUse_67 : decode cX3_isInUse 67 = .ok (.goto 4, 3) := by decide +kernel
theorem dX3_isInUse_70 : decode cX3_isInUse 70 = .ok (.iconst 0, 1) := by decide +kernel
theorem dX3_isInUse_71 : decode cX3_isInUse 71 = .ok (.ireturn, 1) := by decide +kernel
theorem dX3_freeAmong_0 : decode cX3_freeAmong 0 = .ok (.iload_n 1, 1) := by decide +kernel
theorem dX3_freeAmong_1 : decode cX3_freeAmong 1 = .ok (.aload_n 0, 1) := by decide +kernel
theorem dX3_freeAmong_2 : decode cX3_freeAmong 2 = .ok (.getfield 23, 3) := by decide +kernel
theorem dX3_freeAmong_5 : decode cX3_freeAmong 5 = .ok (.iload_n 3, 1) := by decide +kernel
theorem dX3_freeAmong_6 : decode cX3_freeAmong 6 = .ok (.iaload, 1) := by decide +kernel
theorem dX3_freeAmong_7 : decode cX3_freeAmong 7 = .ok (.iconst (-1), 1) := by decide +kernel
theorem dX3_freeAmong_8 : decode cX3_freeAmong 8 = .ok (.ixor, 1) := by decide +kernel
theorem dX3_freeAmong_9 : decode cX3_freeAmong 9 = .ok (.iand, 1) := by decide +kernel
theorem dX3_freeAmong_10 : decode cX3_freeAmong 10 = .ok (.aload_n 0, 1) := by decide +kernel
theorem dX3_freeAmong_11 : decode cX3_freeAmong 11 = .ok (.getfield 27, 3) := by decide +kernel
theorem dX3_freeAmong_14 : decode cX3_freeAmong 14 = .ok (.iload_n 2, 1) := by decide +kernel
theorem dX3_freeAmong_15 : decode cX3_freeAmong 15 = .ok (.iaload, 1) := by decide +kernel
theorem dX3_freeAmong_16 : decode cX3_freeAmong 16 = .ok (.iconst (-1), 1) := by decide +kernel
theorem dX3_freeAmong_17 : decode cX3_freeAmong 17 = .ok (.ixor, 1) := by decide +kernel
theorem dX3_freeAmong_18 : decode cX3_freeAmong 18 = .ok (.iand, 1) := by decide +kernel
theorem dX3_freeAmong_19 : decode cX3_freeAmong 19 = .ok (.ireturn, 1) := by decide +kernel
theorem dX3_restOf_0 : decode cX3_restOf 0 = .ok (.iload_n 3, 1) := by decide +kernel
theorem dX3_restOf_1 : decode cX3_restOf 1 = .ok (.aload_n 0, 1) := by decide +kernel
theorem dX3_restOf_2 : decode cX3_restOf 2 = .ok (.iload_n 3, 1) := by decide +kernel
theorem dX3_restOf_3 : decode cX3_restOf 3 = .ok (.iload_n 2, 1) := by decide +kernel
theorem dX3_restOf_4 : decode cX3_restOf 4 = .ok (.iload 4, 2) := by decide +kernel
theorem dX3_restOf_6 : decode cX3_restOf 6 = .ok (.invokevirtual 174, 3) := by decide +kernel
theorem dX3_restOf_9 : decode cX3_restOf 9 = .ok (.iconst (-1), 1) := by decide +kernel
theorem dX3_restOf_10 : decode cX3_restOf 10 = .ok (.ixor, 1) := by decide +kernel
theorem dX3_restOf_11 : decode cX3_restOf 11 = .ok (.iand, 1) := by decide +kernel
theorem dX3_restOf_12 : decode cX3_restOf 12 = .ok (.istore 5, 2) := by decide +kernel
theorem dX3_restOf_14 : decode cX3_restOf 14 = .ok (.iload_n 1, 1) := by decide +kernel
theorem dX3_restOf_15 : decode cX3_restOf 15 = .ok (.aload_n 0, 1) := by decide +kernel
theorem dX3_restOf_16 : decode cX3_restOf 16 = .ok (.getfield 19, 3) := by decide +kernel
theorem dX3_restOf_19 : decode cX3_restOf 19 = .ok (.iload_n 2, 1) := by decide +kernel
theorem dX3_restOf_20 : decode cX3_restOf 20 = .ok (.iload 5, 2) := by decide +kernel
theorem dX3_restOf_22 : decode cX3_restOf 22 = .ok (.iconst 2, 1) := by decide +kernel
theorem dX3_restOf_23 : decode cX3_restOf 23 = .ok (.iload 4, 2) := by decide +kernel
theorem dX3_restOf_25 : decode cX3_restOf 25 = .ok (.invokevirtual 151, 3) := by decide +kernel
theorem dX3_restOf_28 : decode cX3_restOf 28 = .ok (.isub, 1) := by decide +kernel
theorem dX3_restOf_29 : decode cX3_restOf 29 = .ok (.ireturn, 1) := by decide +kernel
theorem dX3_checkSpreadable_0 : decode cX3_checkSpreadable 0 = .ok (.aload_n 0, 1) := by decide +kernel
theorem dX3_checkSpreadable_1 : decode cX3_checkSpreadable 1 = .ok (.iload_n 2, 1) := by decide +kernel
theorem dX3_checkSpreadable_2 : decode cX3_checkSpreadable 2 = .ok (.iload_n 1, 1) := by decide +kernel
theorem dX3_checkSpreadable_3 : decode cX3_checkSpreadable 3 = .ok (.iload_n 3, 1) := by decide +kernel
theorem dX3_checkSpreadable_4 : decode cX3_checkSpreadable 4 = .ok (.invokevirtual 174, 3) := by decide +kernel
theorem dX3_checkSpreadable_7 : decode cX3_checkSpreadable 7 = .ok (.ifCond .ne 13, 3) := by decide +kernel
theorem dX3_checkSpreadable_10 : decode cX3_checkSpreadable 10 = .ok (.new 56, 3) := by decide +kernel
theorem dX3_checkSpreadable_13 : decode cX3_checkSpreadable 13 = .ok (.dup, 1) := by decide +kernel
theorem dX3_checkSpreadable_14 : decode cX3_checkSpreadable 14 = .ok (.ldc 177, 2) := by decide +kernel
theorem dX3_checkSpreadable_16 : decode cX3_checkSpreadable 16 = .ok (.invokespecial 60, 3) := by decide +kernel
theorem dX3_checkSpreadable_19 : decode cX3_checkSpreadable 19 = .ok (.athrow, 1) := by decide +kernel
theorem dX3_checkSpreadable_20 : decode cX3_checkSpreadable 20 = .ok (.aload_n 0, 1) := by decide +kernel
theorem dX3_checkSpreadable_21 : decode cX3_checkSpreadable 21 = .ok (.iload 4, 2) := by decide +kernel
theorem dX3_checkSpreadable_23 : decode cX3_checkSpreadable 23 = .ok (.iload_n 1, 1) := by decide +kernel
theorem dX3_checkSpreadable_24 : decode cX3_checkSpreadable 24 = .ok (.iload_n 2, 1) := by decide +kernel
theorem dX3_checkSpreadable_25 : decode cX3_checkSpreadable 25 = .ok (.iload_n 3, 1) := by decide +kernel
theorem dX3_checkSpreadable_26 : decode cX3_checkSpreadable 26 = .ok (.invokevirtual 179, 3) := by decide +kernel
theorem dX3_checkSpreadable_29 : decode cX3_checkSpreadable 29 = .ok (.ifCond .ge 13, 3) := by decide +kernel
theorem dX3_checkSpreadable_32 : decode cX3_checkSpreadable 32 = .ok (.new 56, 3) := by decide +kernel
theorem dX3_checkSpreadable_35 : decode cX3_checkSpreadable 35 = .ok (.dup, 1) := by decide +kernel
theorem dX3_checkSpreadable_36 : decode cX3_checkSpreadable 36 = .ok (.ldc 182, 2) := by decide +kernel
theorem dX3_checkSpreadable_38 : decode cX3_checkSpreadable 38 = .ok (.invokespecial 60, 3) := by decide +kernel
theorem dX3_checkSpreadable_41 : decode cX3_checkSpreadable 41 = .ok (.athrow, 1) := by decide +kernel
theorem dX3_checkSpreadable_42 : decode cX3_checkSpreadable 42 = .ok (.return_, 1) := by decide +kernel
theorem dX3_spreadOver_0 : decode cX3_spreadOver 0 = .ok (.aload_n 0, 1) := by decide +kernel
theorem dX3_spreadOver_1 : decode cX3_spreadOver 1 = .ok (.iload_n 2, 1) := by decide +kernel
theorem dX3_spreadOver_2 : decode cX3_spreadOver 2 = .ok (.iload_n 1, 1) := by decide +kernel
theorem dX3_spreadOver_3 : decode cX3_spreadOver 3 = .ok (.iload_n 3, 1) := by decide +kernel
theorem dX3_spreadOver_4 : decode cX3_spreadOver 4 = .ok (.invokevirtual 174, 3) := by decide +kernel
theorem dX3_spreadOver_7 : decode cX3_spreadOver 7 = .ok (.istore 6, 2) := by decide +kernel
theorem dX3_spreadOver_9 : decode cX3_spreadOver 9 = .ok (.aload_n 0, 1) := by decide +kernel
theorem dX3_spreadOver_10 : decode cX3_spreadOver 10 = .ok (.iload_n 1, 1) := by decide +kernel
theorem dX3_spreadOver_11 : decode cX3_spreadOver 11 = .ok (.iload 6, 2) := by decide +kernel
theorem dX3_spreadOver_13 : decode cX3_spreadOver 13 = .ok (.iload_n 3, 1) := by decide +kernel
theorem dX3_spreadOver_14 : decode cX3_spreadOver 14 = .ok (.iload 5, 2) := by decide +kernel
theorem dX3_spreadOver_16 : decode cX3_spreadOver 16 = .ok (.invokevirtual 184, 3) := by decide +kernel
theorem dX3_spreadOver_19 : decode cX3_spreadOver 19 = .ok (.aload_n 0, 1) := by decide +kernel
theorem dX3_spreadOver_20 : decode cX3_spreadOver 20 = .ok (.getfield 37, 3) := by decide +kernel
theorem dX3_spreadOver_23 : decode cX3_spreadOver 23 = .ok (.aload_n 0, 1) := by decide +kernel
theorem dX3_spreadOver_24 : decode cX3_spreadOver 24 = .ok (.iload 4, 2) := by decide +kernel
theorem dX3_spreadOver_26 : decode cX3_spreadOver 26 = .ok (.iload_n 1, 1) := by decide +kernel
theorem dX3_spreadOver_27 : decode cX3_spreadOver 27 = .ok (.iload_n 2, 1) := by decide +kernel
theorem dX3_spreadOver_28 : decode cX3_spreadOver 28 = .ok (.iload_n 3, 1) := by decide +kernel
theorem dX3_spreadOver_29 : decode cX3_spreadOver 29 = .ok (.invokevirtual 179, 3) := by decide +kernel
theorem dX3_spreadOver_32 : decode cX3_spreadOver 32 = .ok (.invokevirtual 125, 3) := by decide +kernel
theorem dX3_spreadOver_35 : decode cX3_spreadOver 35 = .ok (.iconst 0, 1) := by decide +kernel
theorem dX3_spreadOver_36 : decode cX3_spreadOver 36 = .ok (.istore 7, 2) := by decide +kernel
theorem dX3_spreadOver_38 : decode cX3_spreadOver 38 = .ok (.iconst 0, 1) := by decide +kernel
theorem dX3_spreadOver_39 : decode cX3_spreadOver 39 = .ok (.istore 8, 2) := by decide +kernel
theorem dX3_spreadOver_41 : decode cX3_spreadOver 41 = .ok (.iload 8, 2) := by decide +kernel
theorem dX3_spreadOver_43 : decode cX3_spreadOver 43 = .ok (.bipush 10, 2) := by decide +kernel
theorem dX3_spreadOver_45 : decode cX3_spreadOver 45 = .ok (.if_icmp .ge 63, 3) := by decide +kernel
theorem dX3_spreadOver_48 : decode cX3_spreadOver 48 = .ok (.iload 6, 2) := by decide +kernel
theorem dX3_spreadOver_50 : decode cX3_spreadOver 50 = .ok (.iload 8, 2) := by decide +kernel
theorem dX3_spreadOver_52 : decode cX3_spreadOver 52 = .ok (.invokestatic 102, 3) := by decide +kernel
theorem dX3_spreadOver_55 : decode cX3_spreadOver 55 = .ok (.ifCond .eq 47, 3) := by decide +kernel
theorem dX3_spreadOver_58 : decode cX3_spreadOver 58 = .ok (.aload_n 0, 1) := by decide +kernel
theorem dX3_spreadOver_59 : decode cX3_spreadOver 59 = .ok (.getfield 37, 3) := by decide +kernel
theorem dX3_spreadOver_62 : decode cX3_spreadOver 62 = .ok (.iload 8, 2) := by decide +kernel
theorem dX3_spreadOver_64 : decode cX3_spreadOver 64 = .ok (.invokevirtual 128, 3) := by decide +kernel
theorem dX3_spreadOver_67 : decode cX3_spreadOver 67 = .ok (.istore 9, 2) := by decide +kernel
theorem dX3_spreadOver_69 : decode cX3_spreadOver 69 = .ok (.aload_n 0, 1) := by decide +kernel
theorem dX3_spreadOver_70 : decode cX3_spreadOver 70 = .ok (.getfield 19, 3) := by decide +kernel
theorem dX3_spreadOver_73 : decode cX3_spreadOver 73 = .ok (.iload_n 1, 1) := by decide +kernel
theorem dX3_spreadOver_74 : decode cX3_spreadOver 74 = .ok (.iload 8, 2) := by decide +kernel
theorem dX3_spreadOver_76 : decode cX3_spreadOver 76 = .ok (.iconst 2, 1) := by decide +kernel
theorem dX3_spreadOver_77 : decode cX3_spreadOver 77 = .ok (.iload_n 3, 1) := by decide +kernel
theorem dX3_spreadOver_78 : decode cX3_spreadOver 78 = .ok (.iload 9, 2) := by decide +kernel
theorem dX3_spreadOver_80 : decode cX3_spreadOver 80 = .ok (.invokevirtual 108, 3) := by decide +kernel
theorem dX3_spreadOver_83 : decode cX3_spreadOver 83 = .ok (.istore 10, 2) := by decide +kernel
theorem dX3_spreadOver_85 : decode cX3_spreadOver 85 = .ok (.iload 7, 2) := by decide +kernel
theorem dX3_spreadOver_87 : decode cX3_spreadOver 87 = .ok (.iload 9, 2) := by decide +kernel
theorem dX3_spreadOver_89 : decode cX3_spreadOver 89 = .ok (.iload 10, 2) := by decide +kernel
theorem dX3_spreadOver_91 : decode cX3_spreadOver 91 = .ok (.if_icmp .eq 7, 3) := by decide +kernel
theorem dX3_spreadOver_94 : decode cX3_spreadOver 94 = .ok (.iconst 1, 1) := by decide +kernel
theorem dX3_spreadOver_95 : decode cX3_spreadOver 95 = .ok (.goto 4, 3) := by decide +kernel
theorem dX3_spreadOver_98 : decode cX3_spreadOver 98 = .ok (.iconst 0, 1) := by decide +kernel
theorem dX3_spreadOver_99 : decode cX3_spreadOver 99 = .ok (.iadd, 1) := by decide +kernel
theorem dX3_spreadOver_100 : decode cX3_spreadOver 100 = .ok (.istore 7, 2) := by decide +kernel
theorem dX3_spreadOver_102 : decode cX3_spreadOver 102 = .ok (.iinc 8 1, 3) := by decide +kernel
theorem dX3_spreadOver_105 : decode cX3_spreadOver 105 = .ok (.goto (-64), 3) := by decide +kernel
theorem dX3_spreadOver_108 : decode cX3_spreadOver 108 = .ok (.iload 7, 2) := by decide +kernel
theorem dX3_spreadOver_110 : decode cX3_spreadOver 110 = .ok (.ireturn, 1) := by decide +kernel
theorem dX3_weighLeaves_0 : decode cX3_weighLeaves 0 = .ok (.iload 4, 2) := by decide +kernel
theorem dX3_weighLeaves_2 : decode cX3_weighLeaves 2 = .ok (.iconst 1, 1) := by decide +kernel
theorem dX3_weighLeaves_3 : decode cX3_weighLeaves 3 = .ok (.if_icmp .eq 17, 3) := by decide +kernel
theorem dX3_weighLeaves_6 : decode cX3_weighLeaves 6 = .ok (.aload_n 0, 1) := by decide +kernel
theorem dX3_weighLeaves_7 : decode cX3_weighLeaves 7 = .ok (.getfield 19, 3) := by decide +kernel
theorem dX3_weighLeaves_10 : decode cX3_weighLeaves 10 = .ok (.iload_n 1, 1) := by decide +kernel
theorem dX3_weighLeaves_11 : decode cX3_weighLeaves 11 = .ok (.iload_n 2, 1) := by decide +kernel
theorem dX3_weighLeaves_12 : decode cX3_weighLeaves 12 = .ok (.iconst 2, 1) := by decide +kernel
theorem dX3_weighLeaves_13 : decode cX3_weighLeaves 13 = .ok (.iload_n 3, 1) := by decide +kernel
theorem dX3_weighLeaves_14 : decode cX3_weighLeaves 14 = .ok (.invokevirtual 151, 3) := by decide +kernel
theorem dX3_weighLeaves_17 : decode cX3_weighLeaves 17 = .ok (.ifCond .ne 7, 3) := by decide +kernel
theorem dX3_weighLeaves_20 : decode cX3_weighLeaves 20 = .ok (.iconst 1, 1) := by decide +kernel
theorem dX3_weighLeaves_21 : decode cX3_weighLeaves 21 = .ok (.goto 4, 3) := by decide +kernel
theorem dX3_weighLeaves_24 : decode cX3_weighLeaves 24 = .ok (.iconst 0, 1) := by decide +kernel
theorem dX3_weighLeaves_25 : decode cX3_weighLeaves 25 = .ok (.istore 5, 2) := by decide +kernel
theorem dX3_weighLeaves_27 : decode cX3_weighLeaves 27 = .ok (.iconst 0, 1) := by decide +kernel
theorem dX3_weighLeaves_28 : decode cX3_weighLeaves 28 = .ok (.istore 6, 2) := by decide +kernel
theorem dX3_weighLeaves_30 : decode cX3_weighLeaves 30 = .ok (.iload 6, 2) := by decide +kernel
theorem dX3_weighLeaves_32 : decode cX3_weighLeaves 32 = .ok (.bipush 10, 2) := by decide +kernel
theorem dX3_weighLeaves_34 : decode cX3_weighLeaves 34 = .ok (.if_icmp .ge 56, 3) := by decide +kernel
theorem dX3_weighLeaves_37 : decode cX3_weighLeaves 37 = .ok (.iconst 0, 1) := by decide +kernel
theorem dX3_weighLeaves_38 : decode cX3_weighLeaves 38 = .ok (.istore 7, 2) := by decide +kernel
theorem dX3_weighLeaves_40 : decode cX3_weighLeaves 40 = .ok (.iload_n 2, 1) := by decide +kernel
theorem dX3_weighLeaves_41 : decode cX3_weighLeaves 41 = .ok (.iload 6, 2) := by decide +kernel
theorem dX3_weighLeaves_43 : decode cX3_weighLeaves 43 = .ok (.invokestatic 102, 3) := by decide +kernel
theorem dX3_weighLeaves_46 : decode cX3_weighLeaves 46 = .ok (.ifCond .eq 26, 3) := by decide +kernel
theorem dX3_weighLeaves_49 : decode cX3_weighLeaves 49 = .ok (.iload 5, 2) := by decide +kernel
theorem dX3_weighLeaves_51 : decode cX3_weighLeaves 51 = .ok (.ifCond .eq 7, 3) := by decide +kernel
theorem dX3_weighLeaves_54 : decode cX3_weighLeaves 54 = .ok (.iconst 1, 1) := by decide +kernel
theorem dX3_weighLeaves_55 : decode cX3_weighLeaves 55 = .ok (.goto 15, 3) := by decide +kernel
theorem dX3_weighLeaves_58 : decode cX3_weighLeaves 58 = .ok (.aload_n 0, 1) := by decide +kernel
theorem dX3_weighLeaves_59 : decode cX3_weighLeaves 59 = .ok (.getfield 19, 3) := by decide +kernel
theorem dX3_weighLeaves_62 : decode cX3_weighLeaves 62 = .ok (.iload_n 1, 1) := by decide +kernel
theorem dX3_weighLeaves_63 : decode cX3_weighLeaves 63 = .ok (.iload 6, 2) := by decide +kernel
theorem dX3_weighLeaves_65 : decode cX3_weighLeaves 65 = .ok (.iconst 2, 1) := by decide +kernel
theorem dX3_weighLeaves_66 : decode cX3_weighLeaves 66 = .ok (.iload_n 3, 1) := by decide +kernel
theorem dX3_weighLeaves_67 : decode cX3_weighLeaves 67 = .ok (.invokevirtual 165, 3) := by decide +kernel
theorem dX3_weighLeaves_70 : decode cX3_weighLeaves 70 = .ok (.istore 7, 2) := by decide +kernel
theorem dX3_weighLeaves_72 : decode cX3_weighLeaves 72 = .ok (.aload_n 0, 1) := by decide +kernel
theorem dX3_weighLeaves_73 : decode cX3_weighLeaves 73 = .ok (.getfield 37, 3) := by decide +kernel
theorem dX3_weighLeaves_76 : decode cX3_weighLeaves 76 = .ok (.iload 6, 2) := by decide +kernel
theorem dX3_weighLeaves_78 : decode cX3_weighLeaves 78 = .ok (.iload 7, 2) := by decide +kernel
theorem dX3_weighLeaves_80 : decode cX3_weighLeaves 80 = .ok (.invokevirtual 44, 3) := by decide +kernel
theorem dX3_weighLeaves_83 : decode cX3_weighLeaves 83 = .ok (.pop, 1) := by decide +kernel
theorem dX3_weighLeaves_84 : decode cX3_weighLeaves 84 = .ok (.iinc 6 1, 3) := by decide +kernel
theorem dX3_weighLeaves_87 : decode cX3_weighLeaves 87 = .ok (.goto (-57), 3) := by decide +kernel
theorem dX3_weighLeaves_90 : decode cX3_weighLeaves 90 = .ok (.return_, 1) := by decide +kernel
theorem dX3_checkVersion_0 : decode cX3_checkVersion 0 = .ok (.iload_n 0, 1) := by decide +kernel
theorem dX3_checkVersion_1 : decode cX3_checkVersion 1 = .ok (.ifCond .lt 8, 3) := by decide +kernel
theorem dX3_checkVersion_4 : decode cX3_checkVersion 4 = .ok (.iload_n 0, 1) := by decide +kernel
theorem dX3_checkVersion_5 : decode cX3_checkVersion 5 = .ok (.iconst 3, 1) := by decide +kernel
theorem dX3_checkVersion_6 : decode cX3_checkVersion 6 = .ok (.if_icmp .lt 13, 3) := by decide +kernel
theorem dX3_checkVersion_9 : decode cX3_checkVersion 9 = .ok (.new 187, 3) := by decide +kernel
theorem dX3_checkVersion_12 : decode cX3_checkVersion 12 = .ok (.dup, 1) := by decide +kernel
theorem dX3_checkVersion_13 : decode cX3_checkVersion 13 = .ok (.ldc 189, 2) := by decide +kernel
theorem dX3_checkVersion_15 : decode cX3_checkVersion 15 = .ok (.invokespecial 191, 3) := by decide +kernel
theorem dX3_checkVersion_18 : decode cX3_checkVersion 18 = .ok (.athrow, 1) := by decide +kernel
theorem dX3_checkVersion_19 : decode cX3_checkVersion 19 = .ok (.return_, 1) := by decide +kernel
theorem dX3_checkPlace_0 : decode cX3_checkPlace 0 = .ok (.aload_n 0, 1) := by decide +kernel
theorem dX3_checkPlace_1 : decode cX3_checkPlace 1 = .ok (.getfield 12, 3) := by decide +kernel
theorem dX3_checkPlace_4 : decode cX3_checkPlace 4 = .ok (.iload_n 1, 1) := by decide +kernel
theorem dX3_checkPlace_5 : decode cX3_checkPlace 5 = .ok (.invokevirtual 192, 3) := by decide +kernel
theorem dX3_checkPlace_8 : decode cX3_checkPlace 8 = .ok (.ifCond .ne 13, 3) := by decide +kernel
theorem dX3_checkPlace_11 : decode cX3_checkPlace 11 = .ok (.new 187, 3) := by decide +kernel
theorem dX3_checkPlace_14 : decode cX3_checkPlace 14 = .ok (.dup, 1) := by decide +kernel
theorem dX3_checkPlace_15 : decode cX3_checkPlace 15 = .ok (.ldc 195, 2) := by decide +kernel
theorem dX3_checkPlace_17 : decode cX3_checkPlace 17 = .ok (.invokespecial 191, 3) := by decide +kernel
theorem dX3_checkPlace_20 : decode cX3_checkPlace 20 = .ok (.athrow, 1) := by decide +kernel
theorem dX3_checkPlace_21 : decode cX3_checkPlace 21 = .ok (.return_, 1) := by decide +kernel
theorem dX3_checkAccount_0 : decode cX3_checkAccount 0 = .ok (.iload_n 0, 1) := by decide +kernel
theorem dX3_checkAccount_1 : decode cX3_checkAccount 1 = .ok (.ifCond .lt 8, 3) := by decide +kernel
theorem dX3_checkAccount_4 : decode cX3_checkAccount 4 = .ok (.iload_n 0, 1) := by decide +kernel
theorem dX3_checkAccount_5 : decode cX3_checkAccount 5 = .ok (.iconst 3, 1) := by decide +kernel
theorem dX3_checkAccount_6 : decode cX3_checkAccount 6 = .ok (.if_icmp .le 13, 3) := by decide +kernel
theorem dX3_checkAccount_9 : decode cX3_checkAccount 9 = .ok (.new 187, 3) := by decide +kernel
theorem dX3_checkAccount_12 : decode cX3_checkAccount 12 = .ok (.dup, 1) := by decide +kernel
theorem dX3_checkAccount_13 : decode cX3_checkAccount 13 = .ok (.ldc 197, 2) := by decide +kernel
theorem dX3_checkAccount_15 : decode cX3_checkAccount 15 = .ok (.invokespecial 191, 3) := by decide +kernel
theorem dX3_checkAccount_18 : decode cX3_checkAccount 18 = .ok (.athrow, 1) := by decide +kernel
theorem dX3_checkAccount_19 : decode cX3_checkAccount 19 = .ok (.return_, 1) := by decide +kernel
theorem dX3_checkCellAccount_0 : decode cX3_checkCellAccount 0 = .ok (.iload_n 0, 1) := by decide +kernel
theorem dX3_checkCellAccount_1 : decode cX3_checkCellAccount 1 = .ok (.ifCond .lt 8, 3) := by decide +kernel
theorem dX3_checkCellAccount_4 : decode cX3_checkCellAccount 4 = .ok (.iload_n 0, 1) := by decide +kernel
theorem dX3_checkCellAccount_5 : decode cX3_checkCellAccount 5 = .ok (.iconst 3, 1) := by decide +kernel
theorem dX3_checkCellAccount_6 : decode cX3_checkCellAccount 6 = .ok (.if_icmp .lt 13, 3) := by decide +kernel
theorem dX3_checkCellAccount_9 : decode cX3_checkCellAccount 9 = .ok (.new 187, 3) := by decide +kernel
theorem dX3_checkCellAccount_12 : decode cX3_checkCellAccount 12 = .ok (.dup, 1) := by decide +kernel
theorem dX3_checkCellAccount_13 : decode cX3_checkCellAccount 13 = .ok (.ldc 199, 2) := by decide +kernel
theorem dX3_checkCellAccount_15 : decode cX3_checkCellAccount 15 = .ok (.invokespecial 191, 3) := by decide +kernel
theorem dX3_checkCellAccount_18 : decode cX3_checkCellAccount 18 = .ok (.athrow, 1) := by decide +kernel
theorem dX3_checkCellAccount_19 : decode cX3_checkCellAccount 19 = .ok (.return_, 1) := by decide +kernel
theorem dX3_checkMonth_0 : decode cX3_checkMonth 0 = .ok (.iload_n 0, 1) := by decide +kernel
theorem dX3_checkMonth_1 : decode cX3_checkMonth 1 = .ok (.ifCond .lt 9, 3) := by decide +kernel
theorem dX3_checkMonth_4 : decode cX3_checkMonth 4 = .ok (.iload_n 0, 1) := by decide +kernel
theorem dX3_checkMonth_5 : decode cX3_checkMonth 5 = .ok (.bipush 12, 2) := by decide +kernel
theorem dX3_checkMonth_7 : decode cX3_checkMonth 7 = .ok (.if_icmp .lt 13, 3) := by decide +kernel
theorem dX3_checkMonth_10 : decode cX3_checkMonth 10 = .ok (.new 187, 3) := by decide +kernel
theorem dX3_checkMonth_13 : decode cX3_checkMonth 13 = .ok (.dup, 1) := by decide +kernel
theorem dX3_checkMonth_14 : decode cX3_checkMonth 14 = .ok (.ldc 201, 2) := by decide +kernel
theorem dX3_checkMonth_16 : decode cX3_checkMonth 16 = .ok (.invokespecial 191, 3) := by decide +kernel
theorem dX3_checkMonth_19 : decode cX3_checkMonth 19 = .ok (.athrow, 1) := by decide +kernel
theorem dX3_checkMonth_20 : decode cX3_checkMonth 20 = .ok (.return_, 1) := by decide +kernel
theorem dX3_checkUpTo_0 : decode cX3_checkUpTo 0 = .ok (.iload_n 0, 1) := by decide +kernel
theorem dX3_checkUpTo_1 : decode cX3_checkUpTo 1 = .ok (.ifCond .lt 8, 3) := by decide +kernel
theorem dX3_checkUpTo_4 : decode cX3_checkUpTo 4 = .ok (.iload_n 0, 1) := by decide +kernel
theorem dX3_checkUpTo_5 : decode cX3_checkUpTo 5 = .ok (.iload_n 1, 1) := by decide +kernel
theorem dX3_checkUpTo_6 : decode cX3_checkUpTo 6 = .ok (.if_icmp .le 13, 3) := by decide +kernel
theorem dX3_checkUpTo_9 : decode cX3_checkUpTo 9 = .ok (.new 131, 3) := by decide +kernel
theorem dX3_checkUpTo_12 : decode cX3_checkUpTo 12 = .ok (.dup, 1) := by decide +kernel
theorem dX3_checkUpTo_13 : decode cX3_checkUpTo 13 = .ok (.ldc 203, 2) := by decide +kernel
theorem dX3_checkUpTo_15 : decode cX3_checkUpTo 15 = .ok (.invokespecial 135, 3) := by decide +kernel
theorem dX3_checkUpTo_18 : decode cX3_checkUpTo 18 = .ok (.athrow, 1) := by decide +kernel
theorem dX3_checkUpTo_19 : decode cX3_checkUpTo 19 = .ok (.return_, 1) := by decide +kernel
theorem dX3_checkLeaf_0 : decode cX3_checkLeaf 0 = .ok (.aload_n 0, 1) := by decide +kernel
theorem dX3_checkLeaf_1 : decode cX3_checkLeaf 1 = .ok (.getfield 12, 3) := by decide +kernel
theorem dX3_checkLeaf_4 : decode cX3_checkLeaf 4 = .ok (.iload_n 1, 1) := by decide +kernel
theorem dX3_checkLeaf_5 : decode cX3_checkLeaf 5 = .ok (.invokevirtual 63, 3) := by decide +kernel
theorem dX3_checkLeaf_8 : decode cX3_checkLeaf 8 = .ok (.ifCond .ne 13, 3) := by decide +kernel
theorem dX3_checkLeaf_11 : decode cX3_checkLeaf 11 = .ok (.new 56, 3) := by decide +kernel
theorem dX3_checkLeaf_14 : decode cX3_checkLeaf 14 = .ok (.dup, 1) := by decide +kernel
theorem dX3_checkLeaf_15 : decode cX3_checkLeaf 15 = .ok (.ldc 205, 2) := by decide +kernel
theorem dX3_checkLeaf_17 : decode cX3_checkLeaf 17 = .ok (.invokespecial 60, 3) := by decide +kernel
theorem dX3_checkLeaf_20 : decode cX3_checkLeaf 20 = .ok (.athrow, 1) := by decide +kernel
theorem dX3_checkLeaf_21 : decode cX3_checkLeaf 21 = .ok (.return_, 1) := by decide +kernel
theorem dX3_mostOf_0 : decode cX3_mostOf 0 = .ok (.iload_n 0, 1) := by decide +kernel
theorem dX3_mostOf_1 : decode cX3_mostOf 1 = .ok (.iconst 2, 1) := by decide +kernel
theorem dX3_mostOf_2 : decode cX3_mostOf 2 = .ok (.if_icmp .ne 8, 3) := by decide +kernel
theorem dX3_mostOf_5 : decode cX3_mostOf 5 = .ok (.ldc 112, 2) := by decide +kernel
theorem dX3_mostOf_7 : decode cX3_mostOf 7 = .ok (.goto 6, 3) := by decide +kernel
theorem dX3_mostOf_10 : decode cX3_mostOf 10 = .ok (.sipush 1000, 3) := by decide +kernel
theorem dX3_mostOf_13 : decode cX3_mostOf 13 = .ok (.ireturn, 1) := by decide +kernel
theorem dX3_isIn_0 : decode cX3_isIn 0 = .ok (.iload_n 0, 1) := by decide +kernel
theorem dX3_isIn_1 : decode cX3_isIn 1 = .ok (.iload_n 1, 1) := by decide +kernel
theorem dX3_isIn_2 : decode cX3_isIn 2 = .ok (.ishr, 1) := by decide +kernel
theorem dX3_isIn_3 : decode cX3_isIn 3 = .ok (.iconst 1, 1) := by decide +kernel
theorem dX3_isIn_4 : decode cX3_isIn 4 = .ok (.iand, 1) := by decide +kernel
theorem dX3_isIn_5 : decode cX3_isIn 5 = .ok (.ifCond .eq 7, 3) := by decide +kernel
theorem dX3_isIn_8 : decode cX3_isIn 8 = .ok (.iconst 1, 1) := by decide +kernel
theorem dX3_isIn_9 : decode cX3_isIn 9 = .ok (.goto 4, 3) := by decide +kernel
theorem dX3_isIn_12 : decode cX3_isIn 12 = .ok (.iconst 0, 1) := by decide +kernel
theorem dX3_isIn_13 : decode cX3_isIn 13 = .ok (.ireturn, 1) := by decide +kernel
theorem dJ6_bitCount_0f7a4_0 : decode cJ6_bitCount_0f7a4 0 = .ok (.iload_n 0, 1) := by decide +kernel
theorem dJ6_bitCount_0f7a4_1 : decode cJ6_bitCount_0f7a4 1 = .ok (.iload_n 0, 1) := by decide +kernel
theorem dJ6_bitCount_0f7a4_2 : decode cJ6_bitCount_0f7a4 2 = .ok (.iconst 1, 1) := by decide +kernel
theorem dJ6_bitCount_0f7a4_3 : decode cJ6_bitCount_0f7a4 3 = .ok (.iushr, 1) := by decide +kernel
theorem dJ6_bitCount_0f7a4_4 : decode cJ6_bitCount_0f7a4 4 = .ok (.ldc_w 265, 3) := by decide +kernel
theorem dJ6_bitCount_0f7a4_7 : decode cJ6_bitCount_0f7a4 7 = .ok (.iand, 1) := by decide +kernel
theorem dJ6_bitCount_0f7a4_8 : decode cJ6_bitCount_0f7a4 8 = .ok (.isub, 1) := by decide +kernel
theorem dJ6_bitCount_0f7a4_9 : decode cJ6_bitCount_0f7a4 9 = .ok (.istore_n 0, 1) := by decide +kernel
theorem dJ6_bitCount_0f7a4_10 : decode cJ6_bitCount_0f7a4 10 = .ok (.iload_n 0, 1) := by decide +kernel
theorem dJ6_bitCount_0f7a4_11 : decode cJ6_bitCount_0f7a4 11 = .ok (.ldc_w 266, 3) := by decide +kernel
theorem dJ6_bitCount_0f7a4_14 : decode cJ6_bitCount_0f7a4 14 = .ok (.iand, 1) := by decide +kernel
theorem dJ6_bitCount_0f7a4_15 : decode cJ6_bitCount_0f7a4 15 = .ok (.iload_n 0, 1) := by decide +kernel
theorem dJ6_bitCount_0f7a4_16 : decode cJ6_bitCount_0f7a4 16 = .ok (.iconst 2, 1) := by decide +kernel
theorem dJ6_bitCount_0f7a4_17 : decode cJ6_bitCount_0f7a4 17 = .ok (.iushr, 1) := by decide +kernel
theorem dJ6_bitCount_0f7a4_18 : decode cJ6_bitCount_0f7a4 18 = .ok (.ldc_w 266, 3) := by decide +kernel
theorem dJ6_bitCount_0f7a4_21 : decode cJ6_bitCount_0f7a4 21 = .ok (.iand, 1) := by decide +kernel
theorem dJ6_bitCount_0f7a4_22 : decode cJ6_bitCount_0f7a4 22 = .ok (.iadd, 1) := by decide +kernel
theorem dJ6_bitCount_0f7a4_23 : decode cJ6_bitCount_0f7a4 23 = .ok (.istore_n 0, 1) := by decide +kernel
theorem dJ6_bitCount_0f7a4_24 : decode cJ6_bitCount_0f7a4 24 = .ok (.iload_n 0, 1) := by decide +kernel
theorem dJ6_bitCount_0f7a4_25 : decode cJ6_bitCount_0f7a4 25 = .ok (.iload_n 0, 1) := by decide +kernel
theorem dJ6_bitCount_0f7a4_26 : decode cJ6_bitCount_0f7a4 26 = .ok (.iconst 4, 1) := by decide +kernel
theorem dJ6_bitCount_0f7a4_27 : decode cJ6_bitCount_0f7a4 27 = .ok (.iushr, 1) := by decide +kernel
theorem dJ6_bitCount_0f7a4_28 : decode cJ6_bitCount_0f7a4 28 = .ok (.iadd, 1) := by decide +kernel
theorem dJ6_bitCount_0f7a4_29 : decode cJ6_bitCount_0f7a4 29 = .ok (.ldc_w 267, 3) := by decide +kernel
theorem dJ6_bitCount_0f7a4_32 : decode cJ6_bitCount_0f7a4 32 = .ok (.iand, 1) := by decide +kernel
theorem dJ6_bitCount_0f7a4_33 : decode cJ6_bitCount_0f7a4 33 = .ok (.istore_n 0, 1) := by decide +kernel
theorem dJ6_bitCount_0f7a4_34 : decode cJ6_bitCount_0f7a4 34 = .ok (.iload_n 0, 1) := by decide +kernel
theorem dJ6_bitCount_0f7a4_35 : decode cJ6_bitCount_0f7a4 35 = .ok (.iload_n 0, 1) := by decide +kernel
theorem dJ6_bitCount_0f7a4_36 : decode cJ6_bitCount_0f7a4 36 = .ok (.bipush 8, 2) := by decide +kernel
theorem dJ6_bitCount_0f7a4_38 : decode cJ6_bitCount_0f7a4 38 = .ok (.iushr, 1) := by decide +kernel
theorem dJ6_bitCount_0f7a4_39 : decode cJ6_bitCount_0f7a4 39 = .ok (.iadd, 1) := by decide +kernel
theorem dJ6_bitCount_0f7a4_40 : decode cJ6_bitCount_0f7a4 40 = .ok (.istore_n 0, 1) := by decide +kernel
theorem dJ6_bitCount_0f7a4_41 : decode cJ6_bitCount_0f7a4 41 = .ok (.iload_n 0, 1) := by decide +kernel
theorem dJ6_bitCount_0f7a4_42 : decode cJ6_bitCount_0f7a4 42 = .ok (.iload_n 0, 1) := by decide +kernel
theorem dJ6_bitCount_0f7a4_43 : decode cJ6_bitCount_0f7a4 43 = .ok (.bipush 16, 2) := by decide +kernel
theorem dJ6_bitCount_0f7a4_45 : decode cJ6_bitCount_0f7a4 45 = .ok (.iushr, 1) := by decide +kernel
theorem dJ6_bitCount_0f7a4_46 : decode cJ6_bitCount_0f7a4 46 = .ok (.iadd, 1) := by decide +kernel
theorem dJ6_bitCount_0f7a4_47 : decode cJ6_bitCount_0f7a4 47 = .ok (.istore_n 0, 1) := by decide +kernel
theorem dJ6_bitCount_0f7a4_48 : decode cJ6_bitCount_0f7a4 48 = .ok (.iload_n 0, 1) := by decide +kernel
theorem dJ6_bitCount_0f7a4_49 : decode cJ6_bitCount_0f7a4 49 = .ok (.bipush 63, 2) := by decide +kernel
theorem dJ6_bitCount_0f7a4_51 : decode cJ6_bitCount_0f7a4 51 = .ok (.iand, 1) := by decide +kernel
theorem dJ6_bitCount_0f7a4_52 : decode cJ6_bitCount_0f7a4 52 = .ok (.ireturn, 1) := by decide +kernel
