theorem d_Mod_init_0 : decode b_Mod_init 0 = .ok (.aload_n 0, 1) := by decide +kernel
theorem d_Mod_init_1 : decode b_Mod_init 1 = .ok (.invokespecial 1, 3) := by decide +kernel
theorem d_Mod_init_4 : decode b_Mod_init 4 = .ok (.aload_n 0, 1) := by decide +kernel
theorem d_Mod_init_5 : decode b_Mod_init 5 = .ok (.sipush 6144, 3) := by decide +kernel
theorem d_Mod_init_8 : decode b_Mod_init 8 = .ok (.newarray .int, 2) := by decide +kernel
theorem d_Mod_init_10 : decode b_Mod_init 10 = .ok (.putfield 7, 3) := by decide +kernel
theorem d_Mod_init_13 : decode b_Mod_init 13 = .ok (.aload_n 0, 1) := by decide +kernel
theorem d_Mod_init_14 : decode b_Mod_init 14 = .ok (.bipush 40, 2) := by decide +kernel
theorem d_Mod_init_16 : decode b_Mod_init 16 = .ok (.newarray .int, 2) := by decide +kernel
theorem d_Mod_init_18 : decode b_Mod_init 18 = .ok (.putfield 13, 3) := by decide +kernel
theorem d_Mod_init_21 : decode b_Mod_init 21 = .ok (.aload_n 0, 1) := by decide +kernel
theorem d_Mod_init_22 : decode b_Mod_init 22 = .ok (.sipush 400, 3) := by decide +kernel
theorem d_Mod_init_25 : decode b_Mod_init 25 = .ok (.newarray .int, 2) := by decide +kernel
theorem d_Mod_init_27 : decode b_Mod_init 27 = .ok (.putfield 16, 3) := by decide +kernel
theorem d_Mod_init_30 : decode b_Mod_init 30 = .ok (.aload_n 0, 1) := by decide +kernel
theorem d_Mod_init_31 : decode b_Mod_init 31 = .ok (.sipush 200, 3) := by decide +kernel
theorem d_Mod_init_34 : decode b_Mod_init 34 = .ok (.newarray .int, 2) := by decide +kernel
theorem d_Mod_init_36 : decode b_Mod_init 36 = .ok (.putfield 19, 3) := by decide +kernel
theorem d_Mod_init_39 : decode b_Mod_init 39 = .ok (.aload_n 0, 1) := by decide +kernel
theorem d_Mod_init_40 : decode b_Mod_init 40 = .ok (.sipush 8000, 3) := by decide +kernel
theorem d_Mod_init_43 : decode b_Mod_init 43 = .ok (.newarray .int, 2) := by decide +kernel
theorem d_Mod_init_45 : decode b_Mod_init 45 = .ok (.putfield 22, 3) := by decide +kernel
theorem d_Mod_init_48 : decode b_Mod_init 48 = .ok (.aload_n 0, 1) := by decide +kernel
theorem d_Mod_init_49 : decode b_Mod_init 49 = .ok (.sipush 2600, 3) := by decide +kernel
theorem d_Mod_init_52 : decode b_Mod_init 52 = .ok (.newarray .int, 2) := by decide +kernel
theorem d_Mod_init_54 : decode b_Mod_init 54 = .ok (.putfield 25, 3) := by decide +kernel
theorem d_Mod_init_57 : decode b_Mod_init 57 = .ok (.aload_n 0, 1) := by decide +kernel
theorem d_Mod_init_58 : decode b_Mod_init 58 = .ok (.sipush 300, 3) := by decide +kernel
theorem d_Mod_init_61 : decode b_Mod_init 61 = .ok (.newarray .int, 2) := by decide +kernel
theorem d_Mod_init_63 : decode b_Mod_init 63 = .ok (.putfield 28, 3) := by decide +kernel
theorem d_Mod_init_66 : decode b_Mod_init 66 = .ok (.aload_n 0, 1) := by decide +kernel
theorem d_Mod_init_67 : decode b_Mod_init 67 = .ok (.sipush 9600, 3) := by decide +kernel
theorem d_Mod_init_70 : decode b_Mod_init 70 = .ok (.newarray .int, 2) := by decide +kernel
theorem d_Mod_init_72 : decode b_Mod_init 72 = .ok (.putfield 31, 3) := by decide +kernel
theorem d_Mod_init_75 : decode b_Mod_init 75 = .ok (.aload_n 0, 1) := by decide +kernel
theorem d_Mod_init_76 : decode b_Mod_init 76 = .ok (.sipush 400, 3) := by decide +kernel
theorem d_Mod_init_79 : decode b_Mod_init 79 = .ok (.newarray .int, 2) := by decide +kernel
theorem d_Mod_init_81 : decode b_Mod_init 81 = .ok (.putfield 34, 3) := by decide +kernel
theorem d_Mod_init_84 : decode b_Mod_init 84 = .ok (.aload_n 0, 1) := by decide +kernel
theorem d_Mod_init_85 : decode b_Mod_init 85 = .ok (.getfield 7, 3) := by decide +kernel
theorem d_Mod_init_88 : decode b_Mod_init 88 = .ok (.iconst 0, 1) := by decide +kernel
theorem d_Mod_init_89 : decode b_Mod_init 89 = .ok (.iconst 1, 1) := by decide +kernel
theorem d_Mod_init_90 : decode b_Mod_init 90 = .ok (.iastore, 1) := by decide +kernel
theorem d_Mod_init_91 : decode b_Mod_init 91 = .ok (.aload_n 0, 1) := by decide +kernel
theorem d_Mod_init_92 : decode b_Mod_init 92 = .ok (.getfield 7, 3) := by decide +kernel
theorem d_Mod_init_95 : decode b_Mod_init 95 = .ok (.iconst 2, 1) := by decide +kernel
theorem d_Mod_init_96 : decode b_Mod_init 96 = .ok (.bipush 72, 2) := by decide +kernel
theorem d_Mod_init_98 : decode b_Mod_init 98 = .ok (.iastore, 1) := by decide +kernel
theorem d_Mod_init_99 : decode b_Mod_init 99 = .ok (.aload_n 0, 1) := by decide +kernel
theorem d_Mod_init_100 : decode b_Mod_init 100 = .ok (.getfield 7, 3) := by decide +kernel
theorem d_Mod_init_103 : decode b_Mod_init 103 = .ok (.iconst 3, 1) := by decide +kernel
theorem d_Mod_init_104 : decode b_Mod_init 104 = .ok (.aload_n 0, 1) := by decide +kernel
theorem d_Mod_init_105 : decode b_Mod_init 105 = .ok (.iconst 0, 1) := by decide +kernel
theorem d_Mod_init_106 : decode b_Mod_init 106 = .ok (.invokevirtual 37, 3) := by decide +kernel
theorem d_Mod_init_109 : decode b_Mod_init 109 = .ok (.iastore, 1) := by decide +kernel
theorem d_Mod_init_110 : decode b_Mod_init 110 = .ok (.aload_n 0, 1) := by decide +kernel
theorem d_Mod_init_111 : decode b_Mod_init 111 = .ok (.iconst 1, 1) := by decide +kernel
theorem d_Mod_init_112 : decode b_Mod_init 112 = .ok (.putfield 41, 3) := by decide +kernel
theorem d_Mod_init_115 : decode b_Mod_init 115 = .ok (.aload_n 0, 1) := by decide +kernel
theorem d_Mod_init_116 : decode b_Mod_init 116 = .ok (.invokevirtual 45, 3) := by decide +kernel
theorem d_Mod_init_119 : decode b_Mod_init 119 = .ok (.return_, 1) := by decide +kernel
theorem d_Mod_thrown_0 : decode b_Mod_thrown 0 = .ok (.aload_n 0, 1) := by decide +kernel
theorem d_Mod_thrown_1 : decode b_Mod_thrown 1 = .ok (.getfield 48, 3) := by decide +kernel
theorem d_Mod_thrown_4 : decode b_Mod_thrown 4 = .ok (.ireturn, 1) := by decide +kernel
theorem d_Mod_refuse_0 : decode b_Mod_refuse 0 = .ok (.aload_n 0, 1) := by decide +kernel
theorem d_Mod_refuse_1 : decode b_Mod_refuse 1 = .ok (.iload_n 1, 1) := by decide +kernel
theorem d_Mod_refuse_2 : decode b_Mod_refuse 2 = .ok (.ifCond .eq 7, 3) := by decide +kernel
theorem d_Mod_refuse_5 : decode b_Mod_refuse 5 = .ok (.iconst 1, 1) := by decide +kernel
theorem d_Mod_refuse_6 : decode b_Mod_refuse 6 = .ok (.goto 12, 3) := by decide +kernel
theorem d_Mod_refuse_9 : decode b_Mod_refuse 9 = .ok (.iload_n 2, 1) := by decide +kernel
theorem d_Mod_refuse_10 : decode b_Mod_refuse 10 = .ok (.ifCond .eq 7, 3) := by decide +kernel
theorem d_Mod_refuse_13 : decode b_Mod_refuse 13 = .ok (.iconst 2, 1) := by decide +kernel
theorem d_Mod_refuse_14 : decode b_Mod_refuse 14 = .ok (.goto 4, 3) := by decide +kernel
theorem d_Mod_refuse_17 : decode b_Mod_refuse 17 = .ok (.iconst 0, 1) := by decide +kernel
theorem d_Mod_refuse_18 : decode b_Mod_refuse 18 = .ok (.putfield 48, 3) := by decide +kernel
theorem d_Mod_refuse_21 : decode b_Mod_refuse 21 = .ok (.aload_n 0, 1) := by decide +kernel
theorem d_Mod_refuse_22 : decode b_Mod_refuse 22 = .ok (.getfield 48, 3) := by decide +kernel
theorem d_Mod_refuse_25 : decode b_Mod_refuse 25 = .ok (.ifCond .le 7, 3) := by decide +kernel
theorem d_Mod_refuse_28 : decode b_Mod_refuse 28 = .ok (.iconst 1, 1) := by decide +kernel
theorem d_Mod_refuse_29 : decode b_Mod_refuse 29 = .ok (.goto 4, 3) := by decide +kernel
theorem d_Mod_refuse_32 : decode b_Mod_refuse 32 = .ok (.iconst 0, 1) := by decide +kernel
theorem d_Mod_refuse_33 : decode b_Mod_refuse 33 = .ok (.ireturn, 1) := by decide +kernel
theorem d_Mod_sumAt_0 : decode b_Mod_sumAt 0 = .ok (.iconst 0, 1) := by decide +kernel
theorem d_Mod_sumAt_1 : decode b_Mod_sumAt 1 = .ok (.istore_n 2, 1) := by decide +kernel
theorem d_Mod_sumAt_2 : decode b_Mod_sumAt 2 = .ok (.iconst 0, 1) := by decide +kernel
theorem d_Mod_sumAt_3 : decode b_Mod_sumAt 3 = .ok (.istore_n 3, 1) := by decide +kernel
theorem d_Mod_sumAt_4 : decode b_Mod_sumAt 4 = .ok (.iload_n 3, 1) := by decide +kernel
theorem d_Mod_sumAt_5 : decode b_Mod_sumAt 5 = .ok (.bipush 32, 2) := by decide +kernel
theorem d_Mod_sumAt_7 : decode b_Mod_sumAt 7 = .ok (.if_icmp .ge 33, 3) := by decide +kernel
theorem d_Mod_sumAt_10 : decode b_Mod_sumAt 10 = .ok (.iload_n 2, 1) := by decide +kernel
theorem d_Mod_sumAt_11 : decode b_Mod_sumAt 11 = .ok (.iload_n 3, 1) := by decide +kernel
theorem d_Mod_sumAt_12 : decode b_Mod_sumAt 12 = .ok (.iconst 3, 1) := by decide +kernel
theorem d_Mod_sumAt_13 : decode b_Mod_sumAt 13 = .ok (.if_icmp .ne 7, 3) := by decide +kernel
theorem d_Mod_sumAt_16 : decode b_Mod_sumAt 16 = .ok (.iconst 0, 1) := by decide +kernel
theorem d_Mod_sumAt_17 : decode b_Mod_sumAt 17 = .ok (.goto 15, 3) := by decide +kernel
theorem d_Mod_sumAt_20 : decode b_Mod_sumAt 20 = .ok (.aload_n 0, 1) := by decide +kernel
theorem d_Mod_sumAt_21 : decode b_Mod_sumAt 21 = .ok (.getfield 7, 3) := by decide +kernel
theorem d_Mod_sumAt_24 : decode b_Mod_sumAt 24 = .ok (.iload_n 1, 1) := by decide +kernel
theorem d_Mod_sumAt_25 : decode b_Mod_sumAt 25 = .ok (.iload_n 3, 1) := by decide +kernel
theorem d_Mod_sumAt_26 : decode b_Mod_sumAt 26 = .ok (.iadd, 1) := by decide +kernel
theorem d_Mod_sumAt_27 : decode b_Mod_sumAt 27 = .ok (.iaload, 1) := by decide +kernel
theorem d_Mod_sumAt_28 : decode b_Mod_sumAt 28 = .ok (.iload_n 3, 1) := by decide +kernel
theorem d_Mod_sumAt_29 : decode b_Mod_sumAt 29 = .ok (.iconst 1, 1) := by decide +kernel
theorem d_Mod_sumAt_30 : decode b_Mod_sumAt 30 = .ok (.iadd, 1) := by decide +kernel
theorem d_Mod_sumAt_31 : decode b_Mod_sumAt 31 = .ok (.imul, 1) := by decide +kernel
theorem d_Mod_sumAt_32 : decode b_Mod_sumAt 32 = .ok (.iadd, 1) := by decide +kernel
theorem d_Mod_sumAt_33 : decode b_Mod_sumAt 33 = .ok (.istore_n 2, 1) := by decide +kernel
theorem d_Mod_sumAt_34 : decode b_Mod_sumAt 34 = .ok (.iinc 3 1, 3) := by decide +kernel
theorem d_Mod_sumAt_37 : decode b_Mod_sumAt 37 = .ok (.goto (-33), 3) := by decide +kernel
theorem d_Mod_sumAt_40 : decode b_Mod_sumAt 40 = .ok (.iload_n 2, 1) := by decide +kernel
theorem d_Mod_sumAt_41 : decode b_Mod_sumAt 41 = .ok (.sipush 255, 3) := by decide +kernel
theorem d_Mod_sumAt_44 : decode b_Mod_sumAt 44 = .ok (.iand, 1) := by decide +kernel
theorem d_Mod_sumAt_45 : decode b_Mod_sumAt 45 = .ok (.ireturn, 1) := by decide +kernel
theorem d_Mod_epochAt_0 : decode b_Mod_epochAt 0 = .ok (.aload_n 0, 1) := by decide +kernel
theorem d_Mod_epochAt_1 : decode b_Mod_epochAt 1 = .ok (.getfield 7, 3) := by decide +kernel
theorem d_Mod_epochAt_4 : decode b_Mod_epochAt 4 = .ok (.iload_n 1, 1) := by decide +kernel
theorem d_Mod_epochAt_5 : decode b_Mod_epochAt 5 = .ok (.iaload, 1) := by decide +kernel
theorem d_Mod_epochAt_6 : decode b_Mod_epochAt 6 = .ok (.sipush 256, 3) := by decide +kernel
theorem d_Mod_epochAt_9 : decode b_Mod_epochAt 9 = .ok (.aload_n 0, 1) := by decide +kernel
theorem d_Mod_epochAt_10 : decode b_Mod_epochAt 10 = .ok (.getfield 7, 3) := by decide +kernel
theorem d_Mod_epochAt_13 : decode b_Mod_epochAt 13 = .ok (.iload_n 1, 1) := by decide +kernel
theorem d_Mod_epochAt_14 : decode b_Mod_epochAt 14 = .ok (.iconst 1, 1) := by decide +kernel
theorem d_Mod_epochAt_15 : decode b_Mod_epochAt 15 = .ok (.iadd, 1) := by decide +kernel
theorem d_Mod_epochAt_16 : decode b_Mod_epochAt 16 = .ok (.iaload, 1) := by decide +kernel
theorem d_Mod_epochAt_17 : decode b_Mod_epochAt 17 = .ok (.imul, 1) := by decide +kernel
theorem d_Mod_epochAt_18 : decode b_Mod_epochAt 18 = .ok (.iadd, 1) := by decide +kernel
theorem d_Mod_epochAt_19 : decode b_Mod_epochAt 19 = .ok (.ireturn, 1) := by decide +kernel
theorem d_Mod_counts_0 : decode b_Mod_counts 0 = .ok (.sipush 3072, 3) := by decide +kernel
theorem d_Mod_counts_3 : decode b_Mod_counts 3 = .ok (.iload_n 1, 1) := by decide +kernel
theorem d_Mod_counts_4 : decode b_Mod_counts 4 = .ok (.imul, 1) := by decide +kernel
theorem d_Mod_counts_5 : decode b_Mod_counts 5 = .ok (.istore_n 2, 1) := by decide +kernel
theorem d_Mod_counts_6 : decode b_Mod_counts 6 = .ok (.iconst 1, 1) := by decide +kernel
theorem d_Mod_counts_7 : decode b_Mod_counts 7 = .ok (.istore_n 3, 1) := by decide +kernel
theorem d_Mod_counts_8 : decode b_Mod_counts 8 = .ok (.iconst 4, 1) := by decide +kernel
theorem d_Mod_counts_9 : decode b_Mod_counts 9 = .ok (.istore 4, 2) := by decide +kernel
theorem d_Mod_counts_11 : decode b_Mod_counts 11 = .ok (.iload 4, 2) := by decide +kernel
theorem d_Mod_counts_13 : decode b_Mod_counts 13 = .ok (.bipush 32, 2) := by decide +kernel
theorem d_Mod_counts_15 : decode b_Mod_counts 15 = .ok (.if_icmp .ge 31, 3) := by decide +kernel
theorem d_Mod_counts_18 : decode b_Mod_counts 18 = .ok (.iload_n 3, 1) := by decide +kernel
theorem d_Mod_counts_19 : decode b_Mod_counts 19 = .ok (.ifCond .eq 19, 3) := by decide +kernel
theorem d_Mod_counts_22 : decode b_Mod_counts 22 = .ok (.aload_n 0, 1) := by decide +kernel
theorem d_Mod_counts_23 : decode b_Mod_counts 23 = .ok (.getfield 7, 3) := by decide +kernel
theorem d_Mod_counts_26 : decode b_Mod_counts 26 = .ok (.iload_n 2, 1) := by decide +kernel
theorem d_Mod_counts_27 : decode b_Mod_counts 27 = .ok (.iload 4, 2) := by decide +kernel
theorem d_Mod_counts_29 : decode b_Mod_counts 29 = .ok (.iadd, 1) := by decide +kernel
theorem d_Mod_counts_30 : decode b_Mod_counts 30 = .ok (.iaload, 1) := by decide +kernel
theorem d_Mod_counts_31 : decode b_Mod_counts 31 = .ok (.ifCond .ne 7, 3) := by decide +kernel
theorem d_Mod_counts_34 : decode b_Mod_counts 34 = .ok (.iconst 1, 1) := by decide +kernel
theorem d_Mod_counts_35 : decode b_Mod_counts 35 = .ok (.goto 4, 3) := by decide +kernel
theorem d_Mod_counts_38 : decode b_Mod_counts 38 = .ok (.iconst 0, 1) := by decide +kernel
theorem d_Mod_counts_39 : decode b_Mod_counts 39 = .ok (.istore_n 3, 1) := by decide +kernel
theorem d_Mod_counts_40 : decode b_Mod_counts 40 = .ok (.iinc 4 1, 3) := by decide +kernel
theorem d_Mod_counts_43 : decode b_Mod_counts 43 = .ok (.goto (-32), 3) := by decide +kernel
theorem d_Mod_counts_46 : decode b_Mod_counts 46 = .ok (.iload_n 3, 1) := by decide +kernel
theorem d_Mod_counts_47 : decode b_Mod_counts 47 = .ok (.ifCond .eq 36, 3) := by decide +kernel
theorem d_Mod_counts_50 : decode b_Mod_counts 50 = .ok (.aload_n 0, 1) := by decide +kernel
theorem d_Mod_counts_51 : decode b_Mod_counts 51 = .ok (.getfield 7, 3) := by decide +kernel
theorem d_Mod_counts_54 : decode b_Mod_counts 54 = .ok (.iload_n 2, 1) := by decide +kernel
theorem d_Mod_counts_55 : decode b_Mod_counts 55 = .ok (.iconst 2, 1) := by decide +kernel
theorem d_Mod_counts_56 : decode b_Mod_counts 56 = .ok (.iadd, 1) := by decide +kernel
theorem d_Mod_counts_57 : decode b_Mod_counts 57 = .ok (.iaload, 1) := by decide +kernel
theorem d_Mod_counts_58 : decode b_Mod_counts 58 = .ok (.bipush 72, 2) := by decide +kernel
theorem d_Mod_counts_60 : decode b_Mod_counts 60 = .ok (.if_icmp .ne 23, 3) := by decide +kernel
theorem d_Mod_counts_63 : decode b_Mod_counts 63 = .ok (.aload_n 0, 1) := by decide +kernel
theorem d_Mod_counts_64 : decode b_Mod_counts 64 = .ok (.getfield 7, 3) := by decide +kernel
theorem d_Mod_counts_67 : decode b_Mod_counts 67 = .ok (.iload_n 2, 1) := by decide +kernel
theorem d_Mod_counts_68 : decode b_Mod_counts 68 = .ok (.iconst 3, 1) := by decide +kernel
theorem d_Mod_counts_69 : decode b_Mod_counts 69 = .ok (.iadd, 1) := by decide +kernel
theorem d_Mod_counts_70 : decode b_Mod_counts 70 = .ok (.iaload, 1) := by decide +kernel
theorem d_Mod_counts_71 : decode b_Mod_counts 71 = .ok (.aload_n 0, 1) := by decide +kernel
theorem d_Mod_counts_72 : decode b_Mod_counts 72 = .ok (.iload_n 2, 1) := by decide +kernel
theorem d_Mod_counts_73 : decode b_Mod_counts 73 = .ok (.invokevirtual 37, 3) := by decide +kernel
theorem d_Mod_counts_76 : decode b_Mod_counts 76 = .ok (.if_icmp .ne 7, 3) := by decide +kernel
theorem d_Mod_counts_79 : decode b_Mod_counts 79 = .ok (.iconst 1, 1) := by decide +kernel
theorem d_Mod_counts_80 : decode b_Mod_counts 80 = .ok (.goto 4, 3) := by decide +kernel
theorem d_Mod_counts_83 : decode b_Mod_counts 83 = .ok (.iconst 0, 1) := by decide +kernel
theorem d_Mod_counts_84 : decode b_Mod_counts 84 = .ok (.ireturn, 1) := by decide +kernel
theorem d_Mod_isRight_0 : decode b_Mod_isRight 0 = .ok (.sipush 3072, 3) := by decide +kernel
theorem d_Mod_isRight_3 : decode b_Mod_isRight 3 = .ok (.aload_n 0, 1) := by decide +kernel
theorem d_Mod_isRight_4 : decode b_Mod_isRight 4 = .ok (.getfield 51, 3) := by decide +kernel
theorem d_Mod_isRight_7 : decode b_Mod_isRight 7 = .ok (.imul, 1) := by decide +kernel
theorem d_Mod_isRight_8 : decode b_Mod_isRight 8 = .ok (.bipush 32, 2) := by decide +kernel
theorem d_Mod_isRight_10 : decode b_Mod_isRight 10 = .ok (.iload_n 1, 1) := by decide +kernel
theorem d_Mod_isRight_11 : decode b_Mod_isRight 11 = .ok (.imul, 1) := by decide +kernel
theorem d_Mod_isRight_12 : decode b_Mod_isRight 12 = .ok (.iadd, 1) := by decide +kernel
theorem d_Mod_isRight_13 : decode b_Mod_isRight 13 = .ok (.istore_n 3, 1) := by decide +kernel
theorem d_Mod_isRight_14 : decode b_Mod_isRight 14 = .ok (.aload_n 0, 1) := by decide +kernel
theorem d_Mod_isRight_15 : decode b_Mod_isRight 15 = .ok (.getfield 7, 3) := by decide +kernel
theorem d_Mod_isRight_18 : decode b_Mod_isRight 18 = .ok (.iload_n 3, 1) := by decide +kernel
theorem d_Mod_isRight_19 : decode b_Mod_isRight 19 = .ok (.iconst 2, 1) := by decide +kernel
theorem d_Mod_isRight_20 : decode b_Mod_isRight 20 = .ok (.iadd, 1) := by decide +kernel
theorem d_Mod_isRight_21 : decode b_Mod_isRight 21 = .ok (.iaload, 1) := by decide +kernel
theorem d_Mod_isRight_22 : decode b_Mod_isRight 22 = .ok (.bipush 63, 2) := by decide +kernel
theorem d_Mod_isRight_24 : decode b_Mod_isRight 24 = .ok (.iand, 1) := by decide +kernel
theorem d_Mod_isRight_25 : decode b_Mod_isRight 25 = .ok (.istore 4, 2) := by decide +kernel
theorem d_Mod_isRight_27 : decode b_Mod_isRight 27 = .ok (.aload_n 0, 1) := by decide +kernel
theorem d_Mod_isRight_28 : decode b_Mod_isRight 28 = .ok (.iload_n 3, 1) := by decide +kernel
theorem d_Mod_isRight_29 : decode b_Mod_isRight 29 = .ok (.invokevirtual 54, 3) := by decide +kernel
theorem d_Mod_isRight_32 : decode b_Mod_isRight 32 = .ok (.aload_n 0, 1) := by decide +kernel
theorem d_Mod_isRight_33 : decode b_Mod_isRight 33 = .ok (.getfield 57, 3) := by decide +kernel
theorem d_Mod_isRight_36 : decode b_Mod_isRight 36 = .ok (.if_icmp .ne 45, 3) := by decide +kernel
theorem d_Mod_isRight_39 : decode b_Mod_isRight 39 = .ok (.aload_n 0, 1) := by decide +kernel
theorem d_Mod_isRight_40 : decode b_Mod_isRight 40 = .ok (.getfield 7, 3) := by decide +kernel
theorem d_Mod_isRight_43 : decode b_Mod_isRight 43 = .ok (.iload_n 3, 1) := by decide +kernel
theorem d_Mod_isRight_44 : decode b_Mod_isRight 44 = .ok (.iconst 4, 1) := by decide +kernel
theorem d_Mod_isRight_45 : decode b_Mod_isRight 45 = .ok (.iadd, 1) := by decide +kernel
theorem d_Mod_isRight_46 : decode b_Mod_isRight 46 = .ok (.iaload, 1) := by decide +kernel
theorem d_Mod_isRight_47 : decode b_Mod_isRight 47 = .ok (.sipush 256, 3) := by decide +kernel
theorem d_Mod_isRight_50 : decode b_Mod_isRight 50 = .ok (.aload_n 0, 1) := by decide +kernel
theorem d_Mod_isRight_51 : decode b_Mod_isRight 51 = .ok (.getfield 7, 3) := by decide +kernel
theorem d_Mod_isRight_54 : decode b_Mod_isRight 54 = .ok (.iload_n 3, 1) := by decide +kernel
theorem d_Mod_isRight_55 : decode b_Mod_isRight 55 = .ok (.iconst 5, 1) := by decide +kernel
theorem d_Mod_isRight_56 : decode b_Mod_isRight 56 = .ok (.iadd, 1) := by decide +kernel
theorem d_Mod_isRight_57 : decode b_Mod_isRight 57 = .ok (.iaload, 1) := by decide +kernel
theorem d_Mod_isRight_58 : decode b_Mod_isRight 58 = .ok (.imul, 1) := by decide +kernel
theorem d_Mod_isRight_59 : decode b_Mod_isRight 59 = .ok (.iadd, 1) := by decide +kernel
theorem d_Mod_isRight_60 : decode b_Mod_isRight 60 = .ok (.iload_n 1, 1) := by decide +kernel
theorem d_Mod_isRight_61 : decode b_Mod_isRight 61 = .ok (.if_icmp .ne 20, 3) := by decide +kernel
theorem d_Mod_isRight_64 : decode b_Mod_isRight 64 = .ok (.iload 4, 2) := by decide +kernel
theorem d_Mod_isRight_66 : decode b_Mod_isRight 66 = .ok (.iconst 1, 1) := by decide +kernel
theorem d_Mod_isRight_67 : decode b_Mod_isRight 67 = .ok (.if_icmp .lt 14, 3) := by decide +kernel
theorem d_Mod_isRight_70 : decode b_Mod_isRight 70 = .ok (.iload 4, 2) := by decide +kernel
theorem d_Mod_isRight_72 : decode b_Mod_isRight 72 = .ok (.bipush 26, 2) := by decide +kernel
theorem d_Mod_isRight_74 : decode b_Mod_isRight 74 = .ok (.if_icmp .gt 7, 3) := by decide +kernel
theorem d_Mod_isRight_77 : decode b_Mod_isRight 77 = .ok (.iconst 1, 1) := by decide +kernel
theorem d_Mod_isRight_78 : decode b_Mod_isRight 78 = .ok (.goto 4, 3) := by decide +kernel
theorem d_Mod_isRight_81 : decode b_Mod_isRight 81 = .ok (.iconst 0, 1) := by decide +kernel
theorem d_Mod_isRight_82 : decode b_Mod_isRight 82 = .ok (.istore 5, 2) := by decide +kernel
theorem d_Mod_isRight_84 : decode b_Mod_isRight 84 = .ok (.iload 5, 2) := by decide +kernel
theorem d_Mod_isRight_86 : decode b_Mod_isRight 86 = .ok (.ifCond .eq 46, 3) := by decide +kernel
theorem d_Mod_isRight_89 : decode b_Mod_isRight 89 = .ok (.aload_n 0, 1) := by decide +kernel
theorem d_Mod_isRight_90 : decode b_Mod_isRight 90 = .ok (.getfield 7, 3) := by decide +kernel
theorem d_Mod_isRight_93 : decode b_Mod_isRight 93 = .ok (.iload_n 3, 1) := by decide +kernel
theorem d_Mod_isRight_94 : decode b_Mod_isRight 94 = .ok (.iconst 3, 1) := by decide +kernel
theorem d_Mod_isRight_95 : decode b_Mod_isRight 95 = .ok (.iadd, 1) := by decide +kernel
theorem d_Mod_isRight_96 : decode b_Mod_isRight 96 = .ok (.iaload, 1) := by decide +kernel
theorem d_Mod_isRight_97 : decode b_Mod_isRight 97 = .ok (.aload_n 0, 1) := by decide +kernel
theorem d_Mod_isRight_98 : decode b_Mod_isRight 98 = .ok (.iload_n 3, 1) := by decide +kernel
theorem d_Mod_isRight_99 : decode b_Mod_isRight 99 = .ok (.invokevirtual 37, 3) := by decide +kernel
theorem d_Mod_isRight_102 : decode b_Mod_isRight 102 = .ok (.if_icmp .ne 30, 3) := by decide +kernel
theorem d_Mod_isRight_105 : decode b_Mod_isRight 105 = .ok (.aload_n 0, 1) := by decide +kernel
theorem d_Mod_isRight_106 : decode b_Mod_isRight 106 = .ok (.getfield 7, 3) := by decide +kernel
theorem d_Mod_isRight_109 : decode b_Mod_isRight 109 = .ok (.iload_n 3, 1) := by decide +kernel
theorem d_Mod_isRight_110 : decode b_Mod_isRight 110 = .ok (.iconst 2, 1) := by decide +kernel
theorem d_Mod_isRight_111 : decode b_Mod_isRight 111 = .ok (.iadd, 1) := by decide +kernel
theorem d_Mod_isRight_112 : decode b_Mod_isRight 112 = .ok (.iaload, 1) := by decide +kernel
theorem d_Mod_isRight_113 : decode b_Mod_isRight 113 = .ok (.bipush 64, 2) := by decide +kernel
theorem d_Mod_isRight_115 : decode b_Mod_isRight 115 = .ok (.iand, 1) := by decide +kernel
theorem d_Mod_isRight_116 : decode b_Mod_isRight 116 = .ok (.ifCond .eq 7, 3) := by decide +kernel
theorem d_Mod_isRight_119 : decode b_Mod_isRight 119 = .ok (.iconst 1, 1) := by decide +kernel
theorem d_Mod_isRight_120 : decode b_Mod_isRight 120 = .ok (.goto 4, 3) := by decide +kernel
theorem d_Mod_isRight_123 : decode b_Mod_isRight 123 = .ok (.iconst 0, 1) := by decide +kernel
theorem d_Mod_isRight_124 : decode b_Mod_isRight 124 = .ok (.iload_n 2, 1) := by decide +kernel
theorem d_Mod_isRight_125 : decode b_Mod_isRight 125 = .ok (.if_icmp .ne 7, 3) := by decide +kernel
theorem d_Mod_isRight_128 : decode b_Mod_isRight 128 = .ok (.iconst 1, 1) := by decide +kernel
theorem d_Mod_isRight_129 : decode b_Mod_isRight 129 = .ok (.goto 4, 3) := by decide +kernel
theorem d_Mod_isRight_132 : decode b_Mod_isRight 132 = .ok (.iconst 0, 1) := by decide +kernel
theorem d_Mod_isRight_133 : decode b_Mod_isRight 133 = .ok (.ireturn, 1) := by decide +kernel
theorem d_Mod_isEntry_0 : decode b_Mod_isEntry 0 = .ok (.aload_n 0, 1) := by decide +kernel
theorem d_Mod_isEntry_1 : decode b_Mod_isEntry 1 = .ok (.getfield 25, 3) := by decide +kernel
theorem d_Mod_isEntry_4 : decode b_Mod_isEntry 4 = .ok (.iconst 0, 1) := by decide +kernel
theorem d_Mod_isEntry_5 : decode b_Mod_isEntry 5 = .ok (.iaload, 1) := by decide +kernel
theorem d_Mod_isEntry_6 : decode b_Mod_isEntry 6 = .ok (.istore_n 2, 1) := by decide +kernel
theorem d_Mod_isEntry_7 : decode b_Mod_isEntry 7 = .ok (.iconst 1, 1) := by decide +kernel
theorem d_Mod_isEntry_8 : decode b_Mod_isEntry 8 = .ok (.istore_n 3, 1) := by decide +kernel
theorem d_Mod_isEntry_9 : decode b_Mod_isEntry 9 = .ok (.iload_n 2, 1) := by decide +kernel
theorem d_Mod_isEntry_10 : decode b_Mod_isEntry 10 = .ok (.iconst 1, 1) := by decide +kernel
theorem d_Mod_isEntry_11 : decode b_Mod_isEntry 11 = .ok (.if_icmp .lt 13, 3) := by decide +kernel
theorem d_Mod_isEntry_14 : decode b_Mod_isEntry 14 = .ok (.iload_n 2, 1) := by decide +kernel
theorem d_Mod_isEntry_15 : decode b_Mod_isEntry 15 = .ok (.bipush 8, 2) := by decide +kernel
theorem d_Mod_isEntry_17 : decode b_Mod_isEntry 17 = .ok (.if_icmp .gt 7, 3) := by decide +kernel
theorem d_Mod_isEntry_20 : decode b_Mod_isEntry 20 = .ok (.iconst 1, 1) := by decide +kernel
theorem d_Mod_isEntry_21 : decode b_Mod_isEntry 21 = .ok (.goto 4, 3) := by decide +kernel
theorem d_Mod_isEntry_24 : decode b_Mod_isEntry 24 = .ok (.iconst 0, 1) := by decide +kernel
theorem d_Mod_isEntry_25 : decode b_Mod_isEntry 25 = .ok (.istore 4, 2) := by decide +kernel
theorem d_Mod_isEntry_27 : decode b_Mod_isEntry 27 = .ok (.iconst 0, 1) := by decide +kernel
theorem d_Mod_isEntry_28 : decode b_Mod_isEntry 28 = .ok (.istore 5, 2) := by decide +kernel
theorem d_Mod_isEntry_30 : decode b_Mod_isEntry 30 = .ok (.iload 5, 2) := by decide +kernel
theorem d_Mod_isEntry_32 : decode b_Mod_isEntry 32 = .ok (.iload_n 2, 1) := by decide +kernel
theorem d_Mod_isEntry_33 : decode b_Mod_isEntry 33 = .ok (.if_icmp .ge 144, 3) := by decide +kernel
theorem d_Mod_isEntry_36 : decode b_Mod_isEntry 36 = .ok (.iload 4, 2) := by decide +kernel
theorem d_Mod_isEntry_38 : decode b_Mod_isEntry 38 = .ok (.ifCond .eq 139, 3) := by decide +kernel
theorem d_Mod_isEntry_41 : decode b_Mod_isEntry 41 = .ok (.iload_n 3, 1) := by decide +kernel
theorem d_Mod_isEntry_42 : decode b_Mod_isEntry 42 = .ok (.iconst 2, 1) := by decide +kernel
theorem d_Mod_isEntry_43 : decode b_Mod_isEntry 43 = .ok (.iadd, 1) := by decide +kernel
theorem d_Mod_isEntry_44 : decode b_Mod_isEntry 44 = .ok (.aload_n 0, 1) := by decide +kernel
theorem d_Mod_isEntry_45 : decode b_Mod_isEntry 45 = .ok (.getfield 60, 3) := by decide +kernel
theorem d_Mod_isEntry_48 : decode b_Mod_isEntry 48 = .ok (.if_icmp .gt 46, 3) := by decide +kernel
theorem d_Mod_isEntry_51 : decode b_Mod_isEntry 51 = .ok (.aload_n 0, 1) := by decide +kernel
theorem d_Mod_isEntry_52 : decode b_Mod_isEntry 52 = .ok (.getfield 25, 3) := by decide +kernel
theorem d_Mod_isEntry_55 : decode b_Mod_isEntry 55 = .ok (.iload_n 3, 1) := by decide +kernel
theorem d_Mod_isEntry_56 : decode b_Mod_isEntry 56 = .ok (.iaload, 1) := by decide +kernel
theorem d_Mod_isEntry_57 : decode b_Mod_isEntry 57 = .ok (.sipush 200, 3) := by decide +kernel
theorem d_Mod_isEntry_60 : decode b_Mod_isEntry 60 = .ok (.if_icmp .ge 34, 3) := by decide +kernel
theorem d_Mod_isEntry_63 : decode b_Mod_isEntry 63 = .ok (.aload_n 0, 1) := by decide +kernel
theorem d_Mod_isEntry_64 : decode b_Mod_isEntry 64 = .ok (.getfield 25, 3) := by decide +kernel
theorem d_Mod_isEntry_67 : decode b_Mod_isEntry 67 = .ok (.iload_n 3, 1) := by decide +kernel
theorem d_Mod_isEntry_68 : decode b_Mod_isEntry 68 = .ok (.iconst 1, 1) := by decide +kernel
theorem d_Mod_isEntry_69 : decode b_Mod_isEntry 69 = .ok (.iadd, 1) := by decide +kernel
theorem d_Mod_isEntry_70 : decode b_Mod_isEntry 70 = .ok (.iaload, 1) := by decide +kernel
theorem d_Mod_isEntry_71 : decode b_Mod_isEntry 71 = .ok (.bipush 40, 2) := by decide +kernel
theorem d_Mod_isEntry_73 : decode b_Mod_isEntry 73 = .ok (.if_icmp .le 17, 3) := by decide +kernel
theorem d_Mod_isEntry_76 : decode b_Mod_isEntry 76 = .ok (.aload_n 0, 1) := by decide +kernel
theorem d_Mod_isEntry_77 : decode b_Mod_isEntry 77 = .ok (.getfield 25, 3) := by decide +kernel
theorem d_Mod_isEntry_80 : decode b_Mod_isEntry 80 = .ok (.iload_n 3, 1) := by decide +kernel
theorem d_Mod_isEntry_81 : decode b_Mod_isEntry 81 = .ok (.iconst 1, 1) := by decide +kernel
theorem d_Mod_isEntry_82 : decode b_Mod_isEntry 82 = .ok (.iadd, 1) := by decide +kernel
theorem d_Mod_isEntry_83 : decode b_Mod_isEntry 83 = .ok (.iaload, 1) := by decide +kernel
theorem d_Mod_isEntry_84 : decode b_Mod_isEntry 84 = .ok (.sipush 255, 3) := by decide +kernel
theorem d_Mod_isEntry_87 : decode b_Mod_isEntry 87 = .ok (.if_icmp .ne 7, 3) := by decide +kernel
theorem d_Mod_isEntry_90 : decode b_Mod_isEntry 90 = .ok (.iconst 1, 1) := by decide +kernel
theorem d_Mod_isEntry_91 : decode b_Mod_isEntry 91 = .ok (.goto 4, 3) := by decide +kernel
theorem d_Mod_isEntry_94 : decode b_Mod_isEntry 94 = .ok (.iconst 0, 1) := by decide +kernel
theorem d_Mod_isEntry_95 : decode b_Mod_isEntry 95 = .ok (.istore 4, 2) := by decide +kernel
theorem d_Mod_isEntry_97 : decode b_Mod_isEntry 97 = .ok (.iload 4, 2) := by decide +kernel
theorem d_Mod_isEntry_99 : decode b_Mod_isEntry 99 = .ok (.ifCond .eq 72, 3) := by decide +kernel
theorem d_Mod_isEntry_102 : decode b_Mod_isEntry 102 = .ok (.aload_n 0, 1) := by decide +kernel
theorem d_Mod_isEntry_103 : decode b_Mod_isEntry 103 = .ok (.getfield 25, 3) := by decide +kernel
theorem d_Mod_isEntry_106 : decode b_Mod_isEntry 106 = .ok (.iload_n 3, 1) := by decide +kernel
theorem d_Mod_isEntry_107 : decode b_Mod_isEntry 107 = .ok (.iconst 1, 1) := by decide +kernel
theorem d_Mod_isEntry_108 : decode b_Mod_isEntry 108 = .ok (.iadd, 1) := by decide +kernel
theorem d_Mod_isEntry_109 : decode b_Mod_isEntry 109 = .ok (.iaload, 1) := by decide +kernel
theorem d_Mod_isEntry_110 : decode b_Mod_isEntry 110 = .ok (.sipush 255, 3) := by decide +kernel
theorem d_Mod_isEntry_113 : decode b_Mod_isEntry 113 = .ok (.if_icmp .ne 7, 3) := by decide +kernel
theorem d_Mod_isEntry_116 : decode b_Mod_isEntry 116 = .ok (.iconst 0, 1) := by decide +kernel
theorem d_Mod_isEntry_117 : decode b_Mod_isEntry 117 = .ok (.goto 11, 3) := by decide +kernel
theorem d_Mod_isEntry_120 : decode b_Mod_isEntry 120 = .ok (.aload_n 0, 1) := by decide +kernel
theorem d_Mod_isEntry_121 : decode b_Mod_isEntry 121 = .ok (.getfield 25, 3) := by decide +kernel
theorem d_Mod_isEntry_124 : decode b_Mod_isEntry 124 = .ok (.iload_n 3, 1) := by decide +kernel
theorem d_Mod_isEntry_125 : decode b_Mod_isEntry 125 = .ok (.iconst 1, 1) := by decide +kernel
theorem d_Mod_isEntry_126 : decode b_Mod_isEntry 126 = .ok (.iadd, 1) := by decide +kernel
theorem d_Mod_isEntry_127 : decode b_Mod_isEntry 127 = .ok (.iaload, 1) := by decide +kernel
theorem d_Mod_isEntry_128 : decode b_Mod_isEntry 128 = .ok (.istore 6, 2) := by decide +kernel
theorem d_Mod_isEntry_130 : decode b_Mod_isEntry 130 = .ok (.iload_n 3, 1) := by decide +kernel
theorem d_Mod_isEntry_131 : decode b_Mod_isEntry 131 = .ok (.iconst 2, 1) := by decide +kernel
theorem d_Mod_isEntry_132 : decode b_Mod_isEntry 132 = .ok (.iadd, 1) := by decide +kernel
theorem d_Mod_isEntry_133 : decode b_Mod_isEntry 133 = .ok (.iload 6, 2) := by decide +kernel
theorem d_Mod_isEntry_135 : decode b_Mod_isEntry 135 = .ok (.iadd, 1) := by decide +kernel
theorem d_Mod_isEntry_136 : decode b_Mod_isEntry 136 = .ok (.aload_n 0, 1) := by decide +kernel
theorem d_Mod_isEntry_137 : decode b_Mod_isEntry 137 = .ok (.getfield 60, 3) := by decide +kernel
theorem d_Mod_isEntry_140 : decode b_Mod_isEntry 140 = .ok (.if_icmp .gt 7, 3) := by decide +kernel
theorem d_Mod_isEntry_143 : decode b_Mod_isEntry 143 = .ok (.iconst 1, 1) := by decide +kernel
theorem d_Mod_isEntry_144 : decode b_Mod_isEntry 144 = .ok (.goto 4, 3) := by decide +kernel
theorem d_Mod_isEntry_147 : decode b_Mod_isEntry 147 = .ok (.iconst 0, 1) := by decide +kernel
theorem d_Mod_isEntry_148 : decode b_Mod_isEntry 148 = .ok (.istore 4, 2) := by decide +kernel
theorem d_Mod_isEntry_150 : decode b_Mod_isEntry 150 = .ok (.iload 4, 2) := by decide +kernel
theorem d_Mod_isEntry_152 : decode b_Mod_isEntry 152 = .ok (.ifCond .eq 12, 3) := by decide +kernel
theorem d_Mod_isEntry_155 : decode b_Mod_isEntry 155 = .ok (.iload_n 1, 1) := by decide +kernel
theorem d_Mod_isEntry_156 : decode b_Mod_isEntry 156 = .ok (.ifCond .eq 8, 3) := by decide +kernel
theorem d_Mod_isEntry_159 : decode b_Mod_isEntry 159 = .ok (.aload_n 0, 1) := by decide +kernel
theorem d_Mod_isEntry_160 : decode b_Mod_isEntry 160 = .ok (.iload_n 3, 1) := by decide +kernel
theorem d_Mod_isEntry_161 : decode b_Mod_isEntry 161 = .ok (.invokevirtual 63, 3) := by decide +kernel
theorem d_Mod_isEntry_164 : decode b_Mod_isEntry 164 = .ok (.iload_n 3, 1) := by decide +kernel
theorem d_Mod_isEntry_165 : decode b_Mod_isEntry 165 = .ok (.iconst 2, 1) := by decide +kernel
theorem d_Mod_isEntry_166 : decode b_Mod_isEntry 166 = .ok (.iload 6, 2) := by decide +kernel
theorem d_Mod_isEntry_168 : decode b_Mod_isEntry 168 = .ok (.iadd, 1) := by decide +kernel
theorem d_Mod_isEntry_169 : decode b_Mod_isEntry 169 = .ok (.iadd, 1) := by decide +kernel
theorem d_Mod_isEntry_170 : decode b_Mod_isEntry 170 = .ok (.istore_n 3, 1) := by decide +kernel
theorem d_Mod_isEntry_171 : decode b_Mod_isEntry 171 = .ok (.iinc 5 1, 3) := by decide +kernel
theorem d_Mod_isEntry_174 : decode b_Mod_isEntry 174 = .ok (.goto (-144), 3) := by decide +kernel
theorem d_Mod_isEntry_177 : decode b_Mod_isEntry 177 = .ok (.iload 4, 2) := by decide +kernel
theorem d_Mod_isEntry_179 : decode b_Mod_isEntry 179 = .ok (.ifCond .eq 15, 3) := by decide +kernel
theorem d_Mod_isEntry_182 : decode b_Mod_isEntry 182 = .ok (.iload_n 3, 1) := by decide +kernel
theorem d_Mod_isEntry_183 : decode b_Mod_isEntry 183 = .ok (.aload_n 0, 1) := by decide +kernel
theorem d_Mod_isEntry_184 : decode b_Mod_isEntry 184 = .ok (.getfield 60, 3) := by decide +kernel
theorem d_Mod_isEntry_187 : decode b_Mod_isEntry 187 = .ok (.if_icmp .ne 7, 3) := by decide +kernel
theorem d_Mod_isEntry_190 : decode b_Mod_isEntry 190 = .ok (.iconst 1, 1) := by decide +kernel
theorem d_Mod_isEntry_191 : decode b_Mod_isEntry 191 = .ok (.goto 4, 3) := by decide +kernel
theorem d_Mod_isEntry_194 : decode b_Mod_isEntry 194 = .ok (.iconst 0, 1) := by decide +kernel
theorem d_Mod_isEntry_195 : decode b_Mod_isEntry 195 = .ok (.ireturn, 1) := by decide +kernel
theorem d_Mod_change_0 : decode b_Mod_change 0 = .ok (.aload_n 0, 1) := by decide +kernel
theorem d_Mod_change_1 : decode b_Mod_change 1 = .ok (.getfield 25, 3) := by decide +kernel
theorem d_Mod_change_4 : decode b_Mod_change 4 = .ok (.iload_n 1, 1) := by decide +kernel
theorem d_Mod_change_5 : decode b_Mod_change 5 = .ok (.iaload, 1) := by decide +kernel
theorem d_Mod_change_6 : decode b_Mod_change 6 = .ok (.istore_n 2, 1) := by decide +kernel
theorem d_Mod_change_7 : decode b_Mod_change 7 = .ok (.aload_n 0, 1) := by decide +kernel
theorem d_Mod_change_8 : decode b_Mod_change 8 = .ok (.getfield 25, 3) := by decide +kernel
theorem d_Mod_change_11 : decode b_Mod_change 11 = .ok (.iload_n 1, 1) := by decide +kernel
theorem d_Mod_change_12 : decode b_Mod_change 12 = .ok (.iconst 1, 1) := by decide +kernel
theorem d_Mod_change_13 : decode b_Mod_change 13 = .ok (.iadd, 1) := by decide +kernel
theorem d_Mod_change_14 : decode b_Mod_change 14 = .ok (.iaload, 1) := by decide +kernel
theorem d_Mod_change_15 : decode b_Mod_change 15 = .ok (.istore_n 3, 1) := by decide +kernel
theorem d_Mod_change_16 : decode b_Mod_change 16 = .ok (.aload_n 0, 1) := by decide +kernel
theorem d_Mod_change_17 : decode b_Mod_change 17 = .ok (.getfield 19, 3) := by decide +kernel
theorem d_Mod_change_20 : decode b_Mod_change 20 = .ok (.iload_n 2, 1) := by decide +kernel
theorem d_Mod_change_21 : decode b_Mod_change 21 = .ok (.iload_n 3, 1) := by decide +kernel
theorem d_Mod_change_22 : decode b_Mod_change 22 = .ok (.sipush 255, 3) := by decide +kernel
theorem d_Mod_change_25 : decode b_Mod_change 25 = .ok (.if_icmp .ne 7, 3) := by decide +kernel
theorem d_Mod_change_28 : decode b_Mod_change 28 = .ok (.iconst (-1), 1) := by decide +kernel
theorem d_Mod_change_29 : decode b_Mod_change 29 = .ok (.goto 4, 3) := by decide +kernel
theorem d_Mod_change_32 : decode b_Mod_change 32 = .ok (.iload_n 3, 1) := by decide +kernel
theorem d_Mod_change_33 : decode b_Mod_change 33 = .ok (.iastore, 1) := by decide +kernel
theorem d_Mod_change_34 : decode b_Mod_change 34 = .ok (.iconst 0, 1) := by decide +kernel
theorem d_Mod_change_35 : decode b_Mod_change 35 = .ok (.istore 4, 2) := by decide +kernel
theorem d_Mod_change_37 : decode b_Mod_change 37 = .ok (.iload 4, 2) := by decide +kernel
theorem d_Mod_change_39 : decode b_Mod_change 39 = .ok (.aload_n 0, 1) := by decide +kernel
theorem d_Mod_change_40 : decode b_Mod_change 40 = .ok (.getfield 19, 3) := by decide +kernel
theorem d_Mod_change_43 : decode b_Mod_change 43 = .ok (.iload_n 2, 1) := by decide +kernel
theorem d_Mod_change_44 : decode b_Mod_change 44 = .ok (.iaload, 1) := by decide +kernel
theorem d_Mod_change_45 : decode b_Mod_change 45 = .ok (.if_icmp .ge 32, 3) := by decide +kernel
theorem d_Mod_change_48 : decode b_Mod_change 48 = .ok (.aload_n 0, 1) := by decide +kernel
theorem d_Mod_change_49 : decode b_Mod_change 49 = .ok (.getfield 22, 3) := by decide +kernel
theorem d_Mod_change_52 : decode b_Mod_change 52 = .ok (.bipush 40, 2) := by decide +kernel
theorem d_Mod_change_54 : decode b_Mod_change 54 = .ok (.iload_n 2, 1) := by decide +kernel
theorem d_Mod_change_55 : decode b_Mod_change 55 = .ok (.imul, 1) := by decide +kernel
theorem d_Mod_change_56 : decode b_Mod_change 56 = .ok (.iload 4, 2) := by decide +kernel
theorem d_Mod_change_58 : decode b_Mod_change 58 = .ok (.iadd, 1) := by decide +kernel
theorem d_Mod_change_59 : decode b_Mod_change 59 = .ok (.aload_n 0, 1) := by decide +kernel
theorem d_Mod_change_60 : decode b_Mod_change 60 = .ok (.getfield 25, 3) := by decide +kernel
theorem d_Mod_change_63 : decode b_Mod_change 63 = .ok (.iload_n 1, 1) := by decide +kernel
theorem d_Mod_change_64 : decode b_Mod_change 64 = .ok (.iconst 2, 1) := by decide +kernel
theorem d_Mod_change_65 : decode b_Mod_change 65 = .ok (.iadd, 1) := by decide +kernel
theorem d_Mod_change_66 : decode b_Mod_change 66 = .ok (.iload 4, 2) := by decide +kernel
theorem d_Mod_change_68 : decode b_Mod_change 68 = .ok (.iadd, 1) := by decide +kernel
theorem d_Mod_change_69 : decode b_Mod_change 69 = .ok (.iaload, 1) := by decide +kernel
theorem d_Mod_change_70 : decode b_Mod_change 70 = .ok (.iastore, 1) := by decide +kernel
theorem d_Mod_change_71 : decode b_Mod_change 71 = .ok (.iinc 4 1, 3) := by decide +kernel
theorem d_Mod_change_74 : decode b_Mod_change 74 = .ok (.goto (-37), 3) := by decide +kernel
theorem d_Mod_change_77 : decode b_Mod_change 77 = .ok (.return_, 1) := by decide +kernel
theorem d_Mod_read_0 : decode b_Mod_read 0 = .ok (.aload_n 0, 1) := by decide +kernel
theorem d_Mod_read_1 : decode b_Mod_read 1 = .ok (.iconst 1, 1) := by decide +kernel
theorem d_Mod_read_2 : decode b_Mod_read 2 = .ok (.invokevirtual 67, 3) := by decide +kernel
theorem d_Mod_read_5 : decode b_Mod_read 5 = .ok (.ifCond .eq 30, 3) := by decide +kernel
theorem d_Mod_read_8 : decode b_Mod_read 8 = .ok (.aload_n 0, 1) := by decide +kernel
theorem d_Mod_read_9 : decode b_Mod_read 9 = .ok (.iconst 0, 1) := by decide +kernel
theorem d_Mod_read_10 : decode b_Mod_read 10 = .ok (.invokevirtual 67, 3) := by decide +kernel
theorem d_Mod_read_13 : decode b_Mod_read 13 = .ok (.ifCond .eq 18, 3) := by decide +kernel
theorem d_Mod_read_16 : decode b_Mod_read 16 = .ok (.aload_n 0, 1) := by decide +kernel
theorem d_Mod_read_17 : decode b_Mod_read 17 = .ok (.sipush 3072, 3) := by decide +kernel
theorem d_Mod_read_20 : decode b_Mod_read 20 = .ok (.invokevirtual 54, 3) := by decide +kernel
theorem d_Mod_read_23 : decode b_Mod_read 23 = .ok (.aload_n 0, 1) := by decide +kernel
theorem d_Mod_read_24 : decode b_Mod_read 24 = .ok (.iconst 0, 1) := by decide +kernel
theorem d_Mod_read_25 : decode b_Mod_read 25 = .ok (.invokevirtual 54, 3) := by decide +kernel
theorem d_Mod_read_28 : decode b_Mod_read 28 = .ok (.if_icmp .le 7, 3) := by decide +kernel
theorem d_Mod_read_31 : decode b_Mod_read 31 = .ok (.iconst 1, 1) := by decide +kernel
theorem d_Mod_read_32 : decode b_Mod_read 32 = .ok (.goto 4, 3) := by decide +kernel
theorem d_Mod_read_35 : decode b_Mod_read 35 = .ok (.iconst 0, 1) := by decide +kernel
theorem d_Mod_read_36 : decode b_Mod_read 36 = .ok (.istore_n 1, 1) := by decide +kernel
theorem d_Mod_read_37 : decode b_Mod_read 37 = .ok (.aload_n 0, 1) := by decide +kernel
theorem d_Mod_read_38 : decode b_Mod_read 38 = .ok (.iload_n 1, 1) := by decide +kernel
theorem d_Mod_read_39 : decode b_Mod_read 39 = .ok (.ifCond .eq 7, 3) := by decide +kernel
theorem d_Mod_read_42 : decode b_Mod_read 42 = .ok (.iconst 1, 1) := by decide +kernel
theorem d_Mod_read_43 : decode b_Mod_read 43 = .ok (.goto 4, 3) := by decide +kernel
theorem d_Mod_read_46 : decode b_Mod_read 46 = .ok (.iconst 0, 1) := by decide +kernel
theorem d_Mod_read_47 : decode b_Mod_read 47 = .ok (.putfield 51, 3) := by decide +kernel
theorem d_Mod_read_50 : decode b_Mod_read 50 = .ok (.aload_n 0, 1) := by decide +kernel
theorem d_Mod_read_51 : decode b_Mod_read 51 = .ok (.iload_n 1, 1) := by decide +kernel
theorem d_Mod_read_52 : decode b_Mod_read 52 = .ok (.ifCond .ne 11, 3) := by decide +kernel
theorem d_Mod_read_55 : decode b_Mod_read 55 = .ok (.aload_n 0, 1) := by decide +kernel
theorem d_Mod_read_56 : decode b_Mod_read 56 = .ok (.iconst 0, 1) := by decide +kernel
theorem d_Mod_read_57 : decode b_Mod_read 57 = .ok (.invokevirtual 67, 3) := by decide +kernel
theorem d_Mod_read_60 : decode b_Mod_read 60 = .ok (.ifCond .eq 18, 3) := by decide +kernel
theorem d_Mod_read_63 : decode b_Mod_read 63 = .ok (.aload_n 0, 1) := by decide +kernel
theorem d_Mod_read_64 : decode b_Mod_read 64 = .ok (.sipush 3072, 3) := by decide +kernel
theorem d_Mod_read_67 : decode b_Mod_read 67 = .ok (.aload_n 0, 1) := by decide +kernel
theorem d_Mod_read_68 : decode b_Mod_read 68 = .ok (.getfield 51, 3) := by decide +kernel
theorem d_Mod_read_71 : decode b_Mod_read 71 = .ok (.imul, 1) := by decide +kernel
theorem d_Mod_read_72 : decode b_Mod_read 72 = .ok (.invokevirtual 54, 3) := by decide +kernel
theorem d_Mod_read_75 : decode b_Mod_read 75 = .ok (.goto 4, 3) := by decide +kernel
theorem d_Mod_read_78 : decode b_Mod_read 78 = .ok (.iconst 0, 1) := by decide +kernel
theorem d_Mod_read_79 : decode b_Mod_read 79 = .ok (.putfield 57, 3) := by decide +kernel
theorem d_Mod_read_82 : decode b_Mod_read 82 = .ok (.aload_n 0, 1) := by decide +kernel
theorem d_Mod_read_83 : decode b_Mod_read 83 = .ok (.iconst 0, 1) := by decide +kernel
theorem d_Mod_read_84 : decode b_Mod_read 84 = .ok (.putfield 71, 3) := by decide +kernel
theorem d_Mod_read_87 : decode b_Mod_read 87 = .ok (.aload_n 0, 1) := by decide +kernel
theorem d_Mod_read_88 : decode b_Mod_read 88 = .ok (.iconst 0, 1) := by decide +kernel
theorem d_Mod_read_89 : decode b_Mod_read 89 = .ok (.putfield 74, 3) := by decide +kernel
theorem d_Mod_read_92 : decode b_Mod_read 92 = .ok (.iconst 0, 1) := by decide +kernel
theorem d_Mod_read_93 : decode b_Mod_read 93 = .ok (.istore_n 2, 1) := by decide +kernel
theorem d_Mod_read_94 : decode b_Mod_read 94 = .ok (.iload_n 2, 1) := by decide +kernel
theorem d_Mod_read_95 : decode b_Mod_read 95 = .ok (.sipush 200, 3) := by decide +kernel
theorem d_Mod_read_98 : decode b_Mod_read 98 = .ok (.if_icmp .ge 16, 3) := by decide +kernel
theorem d_Mod_read_101 : decode b_Mod_read 101 = .ok (.aload_n 0, 1) := by decide +kernel
theorem d_Mod_read_102 : decode b_Mod_read 102 = .ok (.getfield 19, 3) := by decide +kernel
theorem d_Mod_read_105 : decode b_Mod_read 105 = .ok (.iload_n 2, 1) := by decide +kernel
theorem d_Mod_read_106 : decode b_Mod_read 106 = .ok (.iconst (-1), 1) := by decide +kernel
theorem d_Mod_read_107 : decode b_Mod_read 107 = .ok (.iastore, 1) := by decide +kernel
theorem d_Mod_read_108 : decode b_Mod_read 108 = .ok (.iinc 2 1, 3) := by decide +kernel
theorem d_Mod_read_111 : decode b_Mod_read 111 = .ok (.goto (-17), 3) := by decide +kernel
theorem d_Mod_read_114 : decode b_Mod_read 114 = .ok (.aload_n 0, 1) := by decide +kernel
theorem d_Mod_read_115 : decode b_Mod_read 115 = .ok (.iconst 0, 1) := by decide +kernel
theorem d_Mod_read_116 : decode b_Mod_read 116 = .ok (.putfield 60, 3) := by decide +kernel
theorem d_Mod_read_119 : decode b_Mod_read 119 = .ok (.iconst 1, 1) := by decide +kernel
theorem d_Mod_read_120 : decode b_Mod_read 120 = .ok (.istore_n 2, 1) := by decide +kernel
theorem d_Mod_read_121 : decode b_Mod_read 121 = .ok (.iconst 1, 1) := by decide +kernel
theorem d_Mod_read_122 : decode b_Mod_read 122 = .ok (.istore_n 3, 1) := by decide +kernel
theorem d_Mod_read_123 : decode b_Mod_read 123 = .ok (.iconst 1, 1) := by decide +kernel
theorem d_Mod_read_124 : decode b_Mod_read 124 = .ok (.istore 4, 2) := by decide +kernel
theorem d_Mod_read_126 : decode b_Mod_read 126 = .ok (.iload 4, 2) := by decide +kernel
theorem d_Mod_read_128 : decode b_Mod_read 128 = .ok (.bipush 96, 2) := by decide +kernel
theorem d_Mod_read_130 : decode b_Mod_read 130 = .ok (.if_icmp .ge 132, 3) := by decide +kernel
theorem d_Mod_read_133 : decode b_Mod_read 133 = .ok (.iload_n 3, 1) := by decide +kernel
theorem d_Mod_read_134 : decode b_Mod_read 134 = .ok (.ifCond .eq 128, 3) := by decide +kernel
theorem d_Mod_read_137 : decode b_Mod_read 137 = .ok (.aload_n 0, 1) := by decide +kernel
theorem d_Mod_read_138 : decode b_Mod_read 138 = .ok (.iload 4, 2) := by decide +kernel
theorem d_Mod_read_140 : decode b_Mod_read 140 = .ok (.iload_n 2, 1) := by decide +kernel
theorem d_Mod_read_141 : decode b_Mod_read 141 = .ok (.invokevirtual 77, 3) := by decide +kernel
theorem d_Mod_read_144 : decode b_Mod_read 144 = .ok (.istore_n 3, 1) := by decide +kernel
theorem d_Mod_read_145 : decode b_Mod_read 145 = .ok (.iload_n 3, 1) := by decide +kernel
theorem d_Mod_read_146 : decode b_Mod_read 146 = .ok (.ifCond .eq 110, 3) := by decide +kernel
theorem d_Mod_read_149 : decode b_Mod_read 149 = .ok (.sipush 3072, 3) := by decide +kernel
theorem d_Mod_read_152 : decode b_Mod_read 152 = .ok (.aload_n 0, 1) := by decide +kernel
theorem d_Mod_read_153 : decode b_Mod_read 153 = .ok (.getfield 51, 3) := by decide +kernel
theorem d_Mod_read_156 : decode b_Mod_read 156 = .ok (.imul, 1) := by decide +kernel
theorem d_Mod_read_157 : decode b_Mod_read 157 = .ok (.bipush 32, 2) := by decide +kernel
theorem d_Mod_read_159 : decode b_Mod_read 159 = .ok (.iload 4, 2) := by decide +kernel
theorem d_Mod_read_161 : decode b_Mod_read 161 = .ok (.imul, 1) := by decide +kernel
theorem d_Mod_read_162 : decode b_Mod_read 162 = .ok (.iadd, 1) := by decide +kernel
theorem d_Mod_read_163 : decode b_Mod_read 163 = .ok (.istore 5, 2) := by decide +kernel
theorem d_Mod_read_165 : decode b_Mod_read 165 = .ok (.iconst 0, 1) := by decide +kernel
theorem d_Mod_read_166 : decode b_Mod_read 166 = .ok (.istore 6, 2) := by decide +kernel
theorem d_Mod_read_168 : decode b_Mod_read 168 = .ok (.iload 6, 2) := by decide +kernel
theorem d_Mod_read_170 : decode b_Mod_read 170 = .ok (.aload_n 0, 1) := by decide +kernel
theorem d_Mod_read_171 : decode b_Mod_read 171 = .ok (.getfield 7, 3) := by decide +kernel
theorem d_Mod_read_174 : decode b_Mod_read 174 = .ok (.iload 5, 2) := by decide +kernel
theorem d_Mod_read_176 : decode b_Mod_read 176 = .ok (.iconst 2, 1) := by decide +kernel
theorem d_Mod_read_177 : decode b_Mod_read 177 = .ok (.iadd, 1) := by decide +kernel
theorem d_Mod_read_178 : decode b_Mod_read 178 = .ok (.iaload, 1) := by decide +kernel
theorem d_Mod_read_179 : decode b_Mod_read 179 = .ok (.bipush 63, 2) := by decide +kernel
theorem d_Mod_read_181 : decode b_Mod_read 181 = .ok (.iand, 1) := by decide +kernel
theorem d_Mod_read_182 : decode b_Mod_read 182 = .ok (.if_icmp .ge 41, 3) := by decide +kernel
theorem d_Mod_read_185 : decode b_Mod_read 185 = .ok (.aload_n 0, 1) := by decide +kernel
theorem d_Mod_read_186 : decode b_Mod_read 186 = .ok (.getfield 25, 3) := by decide +kernel
theorem d_Mod_read_189 : decode b_Mod_read 189 = .ok (.aload_n 0, 1) := by decide +kernel
theorem d_Mod_read_190 : decode b_Mod_read 190 = .ok (.getfield 60, 3) := by decide +kernel
theorem d_Mod_read_193 : decode b_Mod_read 193 = .ok (.aload_n 0, 1) := by decide +kernel
theorem d_Mod_read_194 : decode b_Mod_read 194 = .ok (.getfield 7, 3) := by decide +kernel
theorem d_Mod_read_197 : decode b_Mod_read 197 = .ok (.iload 5, 2) := by decide +kernel
theorem d_Mod_read_199 : decode b_Mod_read 199 = .ok (.bipush 6, 2) := by decide +kernel
theorem d_Mod_read_201 : decode b_Mod_read 201 = .ok (.iadd, 1) := by decide +kernel
theorem d_Mod_read_202 : decode b_Mod_read 202 = .ok (.iload 6, 2) := by decide +kernel
theorem d_Mod_read_204 : decode b_Mod_read 204 = .ok (.iadd, 1) := by decide +kernel
theorem d_Mod_read_205 : decode b_Mod_read 205 = .ok (.iaload, 1) := by decide +kernel
theorem d_Mod_read_206 : decode b_Mod_read 206 = .ok (.iastore, 1) := by decide +kernel
theorem d_Mod_read_207 : decode b_Mod_read 207 = .ok (.aload_n 0, 1) := by decide +kernel
theorem d_Mod_read_208 : decode b_Mod_read 208 = .ok (.dup, 1) := by decide +kernel
theorem d_Mod_read_209 : decode b_Mod_read 209 = .ok (.getfield 60, 3) := by decide +kernel
theorem d_Mod_read_212 : decode b_Mod_read 212 = .ok (.iconst 1, 1) := by decide +kernel
theorem d_Mod_read_213 : decode b_Mod_read 213 = .ok (.iadd, 1) := by decide +kernel
theorem d_Mod_read_214 : decode b_Mod_read 214 = .ok (.putfield 60, 3) := by decide +kernel
theorem d_Mod_read_217 : decode b_Mod_read 217 = .ok (.iinc 6 1, 3) := by decide +kernel
theorem d_Mod_read_220 : decode b_Mod_read 220 = .ok (.goto (-52), 3) := by decide +kernel
theorem d_Mod_read_223 : decode b_Mod_read 223 = .ok (.aload_n 0, 1) := by decide +kernel
theorem d_Mod_read_224 : decode b_Mod_read 224 = .ok (.getfield 7, 3) := by decide +kernel
theorem d_Mod_read_227 : decode b_Mod_read 227 = .ok (.iload 5, 2) := by decide +kernel
theorem d_Mod_read_229 : decode b_Mod_read 229 = .ok (.iconst 2, 1) := by decide +kernel
theorem d_Mod_read_230 : decode b_Mod_read 230 = .ok (.iadd, 1) := by decide +kernel
theorem d_Mod_read_231 : decode b_Mod_read 231 = .ok (.iaload, 1) := by decide +kernel
theorem d_Mod_read_232 : decode b_Mod_read 232 = .ok (.sipush 128, 3) := by decide +kernel
theorem d_Mod_read_235 : decode b_Mod_read 235 = .ok (.iand, 1) := by decide +kernel
theorem d_Mod_read_236 : decode b_Mod_read 236 = .ok (.ifCond .eq 7, 3) := by decide +kernel
theorem d_Mod_read_239 : decode b_Mod_read 239 = .ok (.iconst 1, 1) := by decide +kernel
theorem d_Mod_read_240 : decode b_Mod_read 240 = .ok (.goto 4, 3) := by decide +kernel
theorem d_Mod_read_243 : decode b_Mod_read 243 = .ok (.iconst 0, 1) := by decide +kernel
theorem d_Mod_read_244 : decode b_Mod_read 244 = .ok (.istore_n 2, 1) := by decide +kernel
theorem d_Mod_read_245 : decode b_Mod_read 245 = .ok (.iload_n 2, 1) := by decide +kernel
theorem d_Mod_read_246 : decode b_Mod_read 246 = .ok (.ifCond .eq 10, 3) := by decide +kernel
theorem d_Mod_read_249 : decode b_Mod_read 249 = .ok (.aload_n 0, 1) := by decide +kernel
theorem d_Mod_read_250 : decode b_Mod_read 250 = .ok (.iload 4, 2) := by decide +kernel
theorem d_Mod_read_252 : decode b_Mod_read 252 = .ok (.invokevirtual 81, 3) := by decide +kernel
theorem d_Mod_read_255 : decode b_Mod_read 255 = .ok (.istore_n 3, 1) := by decide +kernel
theorem d_Mod_read_256 : decode b_Mod_read 256 = .ok (.iinc 4 1, 3) := by decide +kernel
theorem d_Mod_read_259 : decode b_Mod_read 259 = .ok (.goto (-133), 3) := by decide +kernel
theorem d_Mod_read_262 : decode b_Mod_read 262 = .ok (.return_, 1) := by decide +kernel
theorem d_Mod_endEntry_0 : decode b_Mod_endEntry 0 = .ok (.aload_n 0, 1) := by decide +kernel
theorem d_Mod_endEntry_1 : decode b_Mod_endEntry 1 = .ok (.iconst 0, 1) := by decide +kernel
theorem d_Mod_endEntry_2 : decode b_Mod_endEntry 2 = .ok (.invokevirtual 84, 3) := by decide +kernel
theorem d_Mod_endEntry_5 : decode b_Mod_endEntry 5 = .ok (.istore_n 2, 1) := by decide +kernel
theorem d_Mod_endEntry_6 : decode b_Mod_endEntry 6 = .ok (.iload_n 2, 1) := by decide +kernel
theorem d_Mod_endEntry_7 : decode b_Mod_endEntry 7 = .ok (.ifCond .eq 24, 3) := by decide +kernel
theorem d_Mod_endEntry_10 : decode b_Mod_endEntry 10 = .ok (.aload_n 0, 1) := by decide +kernel
theorem d_Mod_endEntry_11 : decode b_Mod_endEntry 11 = .ok (.iconst 1, 1) := by decide +kernel
theorem d_Mod_endEntry_12 : decode b_Mod_endEntry 12 = .ok (.invokevirtual 84, 3) := by decide +kernel
theorem d_Mod_endEntry_15 : decode b_Mod_endEntry 15 = .ok (.pop, 1) := by decide +kernel
theorem d_Mod_endEntry_16 : decode b_Mod_endEntry 16 = .ok (.aload_n 0, 1) := by decide +kernel
theorem d_Mod_endEntry_17 : decode b_Mod_endEntry 17 = .ok (.iload_n 1, 1) := by decide +kernel
theorem d_Mod_endEntry_18 : decode b_Mod_endEntry 18 = .ok (.putfield 71, 3) := by decide +kernel
theorem d_Mod_endEntry_21 : decode b_Mod_endEntry 21 = .ok (.aload_n 0, 1) := by decide +kernel
theorem d_Mod_endEntry_22 : decode b_Mod_endEntry 22 = .ok (.dup, 1) := by decide +kernel
theorem d_Mod_endEntry_23 : decode b_Mod_endEntry 23 = .ok (.getfield 74, 3) := by decide +kernel
theorem d_Mod_endEntry_26 : decode b_Mod_endEntry 26 = .ok (.iconst 1, 1) := by decide +kernel
theorem d_Mod_endEntry_27 : decode b_Mod_endEntry 27 = .ok (.iadd, 1) := by decide +kernel
theorem d_Mod_endEntry_28 : decode b_Mod_endEntry 28 = .ok (.putfield 74, 3) := by decide +kernel
theorem d_Mod_endEntry_31 : decode b_Mod_endEntry 31 = .ok (.aload_n 0, 1) := by decide +kernel
theorem d_Mod_endEntry_32 : decode b_Mod_endEntry 32 = .ok (.iconst 0, 1) := by decide +kernel
theorem d_Mod_endEntry_33 : decode b_Mod_endEntry 33 = .ok (.putfield 60, 3) := by decide +kernel
theorem d_Mod_endEntry_36 : decode b_Mod_endEntry 36 = .ok (.iload_n 2, 1) := by decide +kernel
theorem d_Mod_endEntry_37 : decode b_Mod_endEntry 37 = .ok (.ireturn, 1) := by decide +kernel
theorem d_Mod_setSum_0 : decode b_Mod_setSum 0 = .ok (.iconst 0, 1) := by decide +kernel
theorem d_Mod_setSum_1 : decode b_Mod_setSum 1 = .ok (.istore_n 2, 1) := by decide +kernel
theorem d_Mod_setSum_2 : decode b_Mod_setSum 2 = .ok (.iconst 0, 1) := by decide +kernel
theorem d_Mod_setSum_3 : decode b_Mod_setSum 3 = .ok (.istore_n 3, 1) := by decide +kernel
theorem d_Mod_setSum_4 : decode b_Mod_setSum 4 = .ok (.iload_n 3, 1) := by decide +kernel
theorem d_Mod_setSum_5 : decode b_Mod_setSum 5 = .ok (.bipush 32, 2) := by decide +kernel
theorem d_Mod_setSum_7 : decode b_Mod_setSum 7 = .ok (.if_icmp .ge 33, 3) := by decide +kernel
theorem d_Mod_setSum_10 : decode b_Mod_setSum 10 = .ok (.iload_n 2, 1) := by decide +kernel
theorem d_Mod_setSum_11 : decode b_Mod_setSum 11 = .ok (.iload_n 3, 1) := by decide +kernel
theorem d_Mod_setSum_12 : decode b_Mod_setSum 12 = .ok (.iconst 3, 1) := by decide +kernel
theorem d_Mod_setSum_13 : decode b_Mod_setSum 13 = .ok (.if_icmp .ne 7, 3) := by decide +kernel
theorem d_Mod_setSum_16 : decode b_Mod_setSum 16 = .ok (.iconst 0, 1) := by decide +kernel
theorem d_Mod_setSum_17 : decode b_Mod_setSum 17 = .ok (.goto 15, 3) := by decide +kernel
theorem d_Mod_setSum_20 : decode b_Mod_setSum 20 = .ok (.aload_n 0, 1) := by decide +kernel
theorem d_Mod_setSum_21 : decode b_Mod_setSum 21 = .ok (.getfield 31, 3) := by decide +kernel
theorem d_Mod_setSum_24 : decode b_Mod_setSum 24 = .ok (.iload_n 1, 1) := by decide +kernel
theorem d_Mod_setSum_25 : decode b_Mod_setSum 25 = .ok (.iload_n 3, 1) := by decide +kernel
theorem d_Mod_setSum_26 : decode b_Mod_setSum 26 = .ok (.iadd, 1) := by decide +kernel
theorem d_Mod_setSum_27 : decode b_Mod_setSum 27 = .ok (.iaload, 1) := by decide +kernel
theorem d_Mod_setSum_28 : decode b_Mod_setSum 28 = .ok (.iload_n 3, 1) := by decide +kernel
theorem d_Mod_setSum_29 : decode b_Mod_setSum 29 = .ok (.iconst 1, 1) := by decide +kernel
theorem d_Mod_setSum_30 : decode b_Mod_setSum 30 = .ok (.iadd, 1) := by decide +kernel
theorem d_Mod_setSum_31 : decode b_Mod_setSum 31 = .ok (.imul, 1) := by decide +kernel
theorem d_Mod_setSum_32 : decode b_Mod_setSum 32 = .ok (.iadd, 1) := by decide +kernel
theorem d_Mod_setSum_33 : decode b_Mod_setSum 33 = .ok (.istore_n 2, 1) := by decide +kernel
theorem d_Mod_setSum_34 : decode b_Mod_setSum 34 = .ok (.iinc 3 1, 3) := by decide +kernel
theorem d_Mod_setSum_37 : decode b_Mod_setSum 37 = .ok (.goto (-33), 3) := by decide +kernel
theorem d_Mod_setSum_40 : decode b_Mod_setSum 40 = .ok (.aload_n 0, 1) := by decide +kernel
theorem d_Mod_setSum_41 : decode b_Mod_setSum 41 = .ok (.getfield 31, 3) := by decide +kernel
theorem d_Mod_setSum_44 : decode b_Mod_setSum 44 = .ok (.iload_n 1, 1) := by decide +kernel
theorem d_Mod_setSum_45 : decode b_Mod_setSum 45 = .ok (.iconst 3, 1) := by decide +kernel
theorem d_Mod_setSum_46 : decode b_Mod_setSum 46 = .ok (.iadd, 1) := by decide +kernel
theorem d_Mod_setSum_47 : decode b_Mod_setSum 47 = .ok (.iload_n 2, 1) := by decide +kernel
theorem d_Mod_setSum_48 : decode b_Mod_setSum 48 = .ok (.sipush 255, 3) := by decide +kernel
theorem d_Mod_setSum_51 : decode b_Mod_setSum 51 = .ok (.iand, 1) := by decide +kernel
theorem d_Mod_setSum_52 : decode b_Mod_setSum 52 = .ok (.iastore, 1) := by decide +kernel
theorem d_Mod_setSum_53 : decode b_Mod_setSum 53 = .ok (.return_, 1) := by decide +kernel
theorem d_Mod_beginBlock_0 : decode b_Mod_beginBlock 0 = .ok (.bipush 32, 2) := by decide +kernel
theorem d_Mod_beginBlock_2 : decode b_Mod_beginBlock 2 = .ok (.aload_n 0, 1) := by decide +kernel
theorem d_Mod_beginBlock_3 : decode b_Mod_beginBlock 3 = .ok (.getfield 88, 3) := by decide +kernel
theorem d_Mod_beginBlock_6 : decode b_Mod_beginBlock 6 = .ok (.imul, 1) := by decide +kernel
theorem d_Mod_beginBlock_7 : decode b_Mod_beginBlock 7 = .ok (.istore 4, 2) := by decide +kernel
theorem d_Mod_beginBlock_9 : decode b_Mod_beginBlock 9 = .ok (.aload_n 0, 1) := by decide +kernel
theorem d_Mod_beginBlock_10 : decode b_Mod_beginBlock 10 = .ok (.getfield 28, 3) := by decide +kernel
theorem d_Mod_beginBlock_13 : decode b_Mod_beginBlock 13 = .ok (.aload_n 0, 1) := by decide +kernel
theorem d_Mod_beginBlock_14 : decode b_Mod_beginBlock 14 = .ok (.getfield 88, 3) := by decide +kernel
theorem d_Mod_beginBlock_17 : decode b_Mod_beginBlock 17 = .ok (.bipush 96, 2) := by decide +kernel
theorem d_Mod_beginBlock_19 : decode b_Mod_beginBlock 19 = .ok (.iload_n 1, 1) := by decide +kernel
theorem d_Mod_beginBlock_20 : decode b_Mod_beginBlock 20 = .ok (.imul, 1) := by decide +kernel
theorem d_Mod_beginBlock_21 : decode b_Mod_beginBlock 21 = .ok (.iload_n 2, 1) := by decide +kernel
theorem d_Mod_beginBlock_22 : decode b_Mod_beginBlock 22 = .ok (.iadd, 1) := by decide +kernel
theorem d_Mod_beginBlock_23 : decode b_Mod_beginBlock 23 = .ok (.iastore, 1) := by decide +kernel
theorem d_Mod_beginBlock_24 : decode b_Mod_beginBlock 24 = .ok (.aload_n 0, 1) := by decide +kernel
theorem d_Mod_beginBlock_25 : decode b_Mod_beginBlock 25 = .ok (.dup, 1) := by decide +kernel
theorem d_Mod_beginBlock_26 : decode b_Mod_beginBlock 26 = .ok (.getfield 88, 3) := by decide +kernel
theorem d_Mod_beginBlock_29 : decode b_Mod_beginBlock 29 = .ok (.iconst 1, 1) := by decide +kernel
theorem d_Mod_beginBlock_30 : decode b_Mod_beginBlock 30 = .ok (.iadd, 1) := by decide +kernel
theorem d_Mod_beginBlock_31 : decode b_Mod_beginBlock 31 = .ok (.putfield 88, 3) := by decide +kernel
theorem d_Mod_beginBlock_34 : decode b_Mod_beginBlock 34 = .ok (.iconst 0, 1) := by decide +kernel
theorem d_Mod_beginBlock_35 : decode b_Mod_beginBlock 35 = .ok (.istore 5, 2) := by decide +kernel
theorem d_Mod_beginBlock_37 : decode b_Mod_beginBlock 37 = .ok (.iload 5, 2) := by decide +kernel
theorem d_Mod_beginBlock_39 : decode b_Mod_beginBlock 39 = .ok (.bipush 32, 2) := by decide +kernel
theorem d_Mod_beginBlock_41 : decode b_Mod_beginBlock 41 = .ok (.if_icmp .ge 20, 3) := by decide +kernel
theorem d_Mod_beginBlock_44 : decode b_Mod_beginBlock 44 = .ok (.aload_n 0, 1) := by decide +kernel
theorem d_Mod_beginBlock_45 : decode b_Mod_beginBlock 45 = .ok (.getfield 31, 3) := by decide +kernel
theorem d_Mod_beginBlock_48 : decode b_Mod_beginBlock 48 = .ok (.iload 4, 2) := by decide +kernel
theorem d_Mod_beginBlock_50 : decode b_Mod_beginBlock 50 = .ok (.iload 5, 2) := by decide +kernel
theorem d_Mod_beginBlock_52 : decode b_Mod_beginBlock 52 = .ok (.iadd, 1) := by decide +kernel
theorem d_Mod_beginBlock_53 : decode b_Mod_beginBlock 53 = .ok (.iconst 0, 1) := by decide +kernel
theorem d_Mod_beginBlock_54 : decode b_Mod_beginBlock 54 = .ok (.iastore, 1) := by decide +kernel
theorem d_Mod_beginBlock_55 : decode b_Mod_beginBlock 55 = .ok (.iinc 5 1, 3) := by decide +kernel
theorem d_Mod_beginBlock_58 : decode b_Mod_beginBlock 58 = .ok (.goto (-21), 3) := by decide +kernel
theorem d_Mod_beginBlock_61 : decode b_Mod_beginBlock 61 = .ok (.aload_n 0, 1) := by decide +kernel
theorem d_Mod_beginBlock_62 : decode b_Mod_beginBlock 62 = .ok (.getfield 31, 3) := by decide +kernel
theorem d_Mod_beginBlock_65 : decode b_Mod_beginBlock 65 = .ok (.iload 4, 2) := by decide +kernel
theorem d_Mod_beginBlock_67 : decode b_Mod_beginBlock 67 = .ok (.iload_n 3, 1) := by decide +kernel
theorem d_Mod_beginBlock_68 : decode b_Mod_beginBlock 68 = .ok (.sipush 255, 3) := by decide +kernel
theorem d_Mod_beginBlock_71 : decode b_Mod_beginBlock 71 = .ok (.iand, 1) := by decide +kernel
theorem d_Mod_beginBlock_72 : decode b_Mod_beginBlock 72 = .ok (.iastore, 1) := by decide +kernel
theorem d_Mod_beginBlock_73 : decode b_Mod_beginBlock 73 = .ok (.aload_n 0, 1) := by decide +kernel
theorem d_Mod_beginBlock_74 : decode b_Mod_beginBlock 74 = .ok (.getfield 31, 3) := by decide +kernel
theorem d_Mod_beginBlock_77 : decode b_Mod_beginBlock 77 = .ok (.iload 4, 2) := by decide +kernel
theorem d_Mod_beginBlock_79 : decode b_Mod_beginBlock 79 = .ok (.iconst 1, 1) := by decide +kernel
theorem d_Mod_beginBlock_80 : decode b_Mod_beginBlock 80 = .ok (.iadd, 1) := by decide +kernel
theorem d_Mod_beginBlock_81 : decode b_Mod_beginBlock 81 = .ok (.iload_n 3, 1) := by decide +kernel
theorem d_Mod_beginBlock_82 : decode b_Mod_beginBlock 82 = .ok (.bipush 8, 2) := by decide +kernel
theorem d_Mod_beginBlock_84 : decode b_Mod_beginBlock 84 = .ok (.ishr, 1) := by decide +kernel
theorem d_Mod_beginBlock_85 : decode b_Mod_beginBlock 85 = .ok (.iastore, 1) := by decide +kernel
theorem d_Mod_beginBlock_86 : decode b_Mod_beginBlock 86 = .ok (.iload 4, 2) := by decide +kernel
theorem d_Mod_beginBlock_88 : decode b_Mod_beginBlock 88 = .ok (.ireturn, 1) := by decide +kernel
theorem d_Mod_planEntry_0 : decode b_Mod_planEntry 0 = .ok (.iload 5, 2) := by decide +kernel
theorem d_Mod_planEntry_2 : decode b_Mod_planEntry 2 = .ok (.istore 6, 2) := by decide +kernel
theorem d_Mod_planEntry_4 : decode b_Mod_planEntry 4 = .ok (.iconst 0, 1) := by decide +kernel
theorem d_Mod_planEntry_5 : decode b_Mod_planEntry 5 = .ok (.istore 7, 2) := by decide +kernel
theorem d_Mod_planEntry_7 : decode b_Mod_planEntry 7 = .ok (.iload 7, 2) := by decide +kernel
theorem d_Mod_planEntry_9 : decode b_Mod_planEntry 9 = .ok (.iload_n 2, 1) := by decide +kernel
theorem d_Mod_planEntry_10 : decode b_Mod_planEntry 10 = .ok (.if_icmp .ge 154, 3) := by decide +kernel
theorem d_Mod_planEntry_13 : decode b_Mod_planEntry 13 = .ok (.iload_n 2, 1) := by decide +kernel
theorem d_Mod_planEntry_14 : decode b_Mod_planEntry 14 = .ok (.iload 7, 2) := by decide +kernel
theorem d_Mod_planEntry_16 : decode b_Mod_planEntry 16 = .ok (.isub, 1) := by decide +kernel
theorem d_Mod_planEntry_17 : decode b_Mod_planEntry 17 = .ok (.bipush 26, 2) := by decide +kernel
theorem d_Mod_planEntry_19 : decode b_Mod_planEntry 19 = .ok (.if_icmp .ge 10, 3) := by decide +kernel
theorem d_Mod_planEntry_22 : decode b_Mod_planEntry 22 = .ok (.iload_n 2, 1) := by decide +kernel
theorem d_Mod_planEntry_23 : decode b_Mod_planEntry 23 = .ok (.iload 7, 2) := by decide +kernel
theorem d_Mod_planEntry_25 : decode b_Mod_planEntry 25 = .ok (.isub, 1) := by decide +kernel
theorem d_Mod_planEntry_26 : decode b_Mod_planEntry 26 = .ok (.goto 5, 3) := by decide +kernel
theorem d_Mod_planEntry_29 : decode b_Mod_planEntry 29 = .ok (.bipush 26, 2) := by decide +kernel
theorem d_Mod_planEntry_31 : decode b_Mod_planEntry 31 = .ok (.istore 8, 2) := by decide +kernel
theorem d_Mod_planEntry_33 : decode b_Mod_planEntry 33 = .ok (.aload_n 0, 1) := by decide +kernel
theorem d_Mod_planEntry_34 : decode b_Mod_planEntry 34 = .ok (.iload_n 3, 1) := by decide +kernel
theorem d_Mod_planEntry_35 : decode b_Mod_planEntry 35 = .ok (.iload 6, 2) := by decide +kernel
theorem d_Mod_planEntry_37 : decode b_Mod_planEntry 37 = .ok (.iload 4, 2) := by decide +kernel
theorem d_Mod_planEntry_39 : decode b_Mod_planEntry 39 = .ok (.invokevirtual 91, 3) := by decide +kernel
theorem d_Mod_planEntry_42 : decode b_Mod_planEntry 42 = .ok (.istore 9, 2) := by decide +kernel
theorem d_Mod_planEntry_44 : decode b_Mod_planEntry 44 = .ok (.aload_n 0, 1) := by decide +kernel
theorem d_Mod_planEntry_45 : decode b_Mod_planEntry 45 = .ok (.getfield 31, 3) := by decide +kernel
theorem d_Mod_planEntry_48 : decode b_Mod_planEntry 48 = .ok (.iload 9, 2) := by decide +kernel
theorem d_Mod_planEntry_50 : decode b_Mod_planEntry 50 = .ok (.iconst 2, 1) := by decide +kernel
theorem d_Mod_planEntry_51 : decode b_Mod_planEntry 51 = .ok (.iadd, 1) := by decide +kernel
theorem d_Mod_planEntry_52 : decode b_Mod_planEntry 52 = .ok (.iload 8, 2) := by decide +kernel
theorem d_Mod_planEntry_54 : decode b_Mod_planEntry 54 = .ok (.iload 7, 2) := by decide +kernel
theorem d_Mod_planEntry_56 : decode b_Mod_planEntry 56 = .ok (.ifCond .ne 8, 3) := by decide +kernel
theorem d_Mod_planEntry_59 : decode b_Mod_planEntry 59 = .ok (.bipush 64, 2) := by decide +kernel
theorem d_Mod_planEntry_61 : decode b_Mod_planEntry 61 = .ok (.goto 4, 3) := by decide +kernel
theorem d_Mod_planEntry_64 : decode b_Mod_planEntry 64 = .ok (.iconst 0, 1) := by decide +kernel
theorem d_Mod_planEntry_65 : decode b_Mod_planEntry 65 = .ok (.iadd, 1) := by decide +kernel
theorem d_Mod_planEntry_66 : decode b_Mod_planEntry 66 = .ok (.iload 7, 2) := by decide +kernel
theorem d_Mod_planEntry_68 : decode b_Mod_planEntry 68 = .ok (.iload 8, 2) := by decide +kernel
theorem d_Mod_planEntry_70 : decode b_Mod_planEntry 70 = .ok (.iadd, 1) := by decide +kernel
theorem d_Mod_planEntry_71 : decode b_Mod_planEntry 71 = .ok (.iload_n 2, 1) := by decide +kernel
theorem d_Mod_planEntry_72 : decode b_Mod_planEntry 72 = .ok (.if_icmp .ne 9, 3) := by decide +kernel
theorem d_Mod_planEntry_75 : decode b_Mod_planEntry 75 = .ok (.sipush 128, 3) := by decide +kernel
theorem d_Mod_planEntry_78 : decode b_Mod_planEntry 78 = .ok (.goto 4, 3) := by decide +kernel
theorem d_Mod_planEntry_81 : decode b_Mod_planEntry 81 = .ok (.iconst 0, 1) := by decide +kernel
theorem d_Mod_planEntry_82 : decode b_Mod_planEntry 82 = .ok (.iadd, 1) := by decide +kernel
theorem d_Mod_planEntry_83 : decode b_Mod_planEntry 83 = .ok (.iastore, 1) := by decide +kernel
theorem d_Mod_planEntry_84 : decode b_Mod_planEntry 84 = .ok (.aload_n 0, 1) := by decide +kernel
theorem d_Mod_planEntry_85 : decode b_Mod_planEntry 85 = .ok (.getfield 31, 3) := by decide +kernel
theorem d_Mod_planEntry_88 : decode b_Mod_planEntry 88 = .ok (.iload 9, 2) := by decide +kernel
theorem d_Mod_planEntry_90 : decode b_Mod_planEntry 90 = .ok (.iconst 4, 1) := by decide +kernel
theorem d_Mod_planEntry_91 : decode b_Mod_planEntry 91 = .ok (.iadd, 1) := by decide +kernel
theorem d_Mod_planEntry_92 : decode b_Mod_planEntry 92 = .ok (.iload 6, 2) := by decide +kernel
theorem d_Mod_planEntry_94 : decode b_Mod_planEntry 94 = .ok (.sipush 255, 3) := by decide +kernel
theorem d_Mod_planEntry_97 : decode b_Mod_planEntry 97 = .ok (.iand, 1) := by decide +kernel
theorem d_Mod_planEntry_98 : decode b_Mod_planEntry 98 = .ok (.iastore, 1) := by decide +kernel
theorem d_Mod_planEntry_99 : decode b_Mod_planEntry 99 = .ok (.aload_n 0, 1) := by decide +kernel
theorem d_Mod_planEntry_100 : decode b_Mod_planEntry 100 = .ok (.getfield 31, 3) := by decide +kernel
theorem d_Mod_planEntry_103 : decode b_Mod_planEntry 103 = .ok (.iload 9, 2) := by decide +kernel
theorem d_Mod_planEntry_105 : decode b_Mod_planEntry 105 = .ok (.iconst 5, 1) := by decide +kernel
theorem d_Mod_planEntry_106 : decode b_Mod_planEntry 106 = .ok (.iadd, 1) := by decide +kernel
theorem d_Mod_planEntry_107 : decode b_Mod_planEntry 107 = .ok (.iload 6, 2) := by decide +kernel
theorem d_Mod_planEntry_109 : decode b_Mod_planEntry 109 = .ok (.bipush 8, 2) := by decide +kernel
theorem d_Mod_planEntry_111 : decode b_Mod_planEntry 111 = .ok (.ishr, 1) := by decide +kernel
theorem d_Mod_planEntry_112 : decode b_Mod_planEntry 112 = .ok (.iastore, 1) := by decide +kernel
theorem d_Mod_planEntry_113 : decode b_Mod_planEntry 113 = .ok (.iconst 0, 1) := by decide +kernel
theorem d_Mod_planEntry_114 : decode b_Mod_planEntry 114 = .ok (.istore 10, 2) := by decide +kernel
theorem d_Mod_planEntry_116 : decode b_Mod_planEntry 116 = .ok (.iload 10, 2) := by decide +kernel
theorem d_Mod_planEntry_118 : decode b_Mod_planEntry 118 = .ok (.iload 8, 2) := by decide +kernel
theorem d_Mod_planEntry_120 : decode b_Mod_planEntry 120 = .ok (.if_icmp .ge 29, 3) := by decide +kernel
theorem d_Mod_planEntry_123 : decode b_Mod_planEntry 123 = .ok (.aload_n 0, 1) := by decide +kernel
theorem d_Mod_planEntry_124 : decode b_Mod_planEntry 124 = .ok (.getfield 31, 3) := by decide +kernel
theorem d_Mod_planEntry_127 : decode b_Mod_planEntry 127 = .ok (.iload 9, 2) := by decide +kernel
theorem d_Mod_planEntry_129 : decode b_Mod_planEntry 129 = .ok (.bipush 6, 2) := by decide +kernel
theorem d_Mod_planEntry_131 : decode b_Mod_planEntry 131 = .ok (.iadd, 1) := by decide +kernel
theorem d_Mod_planEntry_132 : decode b_Mod_planEntry 132 = .ok (.iload 10, 2) := by decide +kernel
theorem d_Mod_planEntry_134 : decode b_Mod_planEntry 134 = .ok (.iadd, 1) := by decide +kernel
theorem d_Mod_planEntry_135 : decode b_Mod_planEntry 135 = .ok (.aload_n 1, 1) := by decide +kernel
theorem d_Mod_planEntry_136 : decode b_Mod_planEntry 136 = .ok (.iload 7, 2) := by decide +kernel
theorem d_Mod_planEntry_138 : decode b_Mod_planEntry 138 = .ok (.iload 10, 2) := by decide +kernel
theorem d_Mod_planEntry_140 : decode b_Mod_planEntry 140 = .ok (.iadd, 1) := by decide +kernel
theorem d_Mod_planEntry_141 : decode b_Mod_planEntry 141 = .ok (.iaload, 1) := by decide +kernel
theorem d_Mod_planEntry_142 : decode b_Mod_planEntry 142 = .ok (.iastore, 1) := by decide +kernel
theorem d_Mod_planEntry_143 : decode b_Mod_planEntry 143 = .ok (.iinc 10 1, 3) := by decide +kernel
theorem d_Mod_planEntry_146 : decode b_Mod_planEntry 146 = .ok (.goto (-30), 3) := by decide +kernel
theorem d_Mod_planEntry_149 : decode b_Mod_planEntry 149 = .ok (.aload_n 0, 1) := by decide +kernel
theorem d_Mod_planEntry_150 : decode b_Mod_planEntry 150 = .ok (.iload 9, 2) := by decide +kernel
theorem d_Mod_planEntry_152 : decode b_Mod_planEntry 152 = .ok (.invokevirtual 95, 3) := by decide +kernel
theorem d_Mod_planEntry_155 : decode b_Mod_planEntry 155 = .ok (.iinc 6 1, 3) := by decide +kernel
theorem d_Mod_planEntry_158 : decode b_Mod_planEntry 158 = .ok (.iinc 7 26, 3) := by decide +kernel
theorem d_Mod_planEntry_161 : decode b_Mod_planEntry 161 = .ok (.goto (-154), 3) := by decide +kernel
theorem d_Mod_planEntry_164 : decode b_Mod_planEntry 164 = .ok (.iload 6, 2) := by decide +kernel
theorem d_Mod_planEntry_166 : decode b_Mod_planEntry 166 = .ok (.ireturn, 1) := by decide +kernel
theorem d_Mod_blocksOf_0 : decode b_Mod_blocksOf 0 = .ok (.iload_n 0, 1) := by decide +kernel
theorem d_Mod_blocksOf_1 : decode b_Mod_blocksOf 1 = .ok (.bipush 25, 2) := by decide +kernel
theorem d_Mod_blocksOf_3 : decode b_Mod_blocksOf 3 = .ok (.iadd, 1) := by decide +kernel
theorem d_Mod_blocksOf_4 : decode b_Mod_blocksOf 4 = .ok (.bipush 26, 2) := by decide +kernel
theorem d_Mod_blocksOf_6 : decode b_Mod_blocksOf 6 = .ok (.idiv, 1) := by decide +kernel
theorem d_Mod_blocksOf_7 : decode b_Mod_blocksOf 7 = .ok (.ireturn, 1) := by decide +kernel
theorem d_Mod_gather_0 : decode b_Mod_gather 0 = .ok (.iload_n 1, 1) := by decide +kernel
theorem d_Mod_gather_1 : decode b_Mod_gather 1 = .ok (.istore_n 2, 1) := by decide +kernel
theorem d_Mod_gather_2 : decode b_Mod_gather 2 = .ok (.aload_n 0, 1) := by decide +kernel
theorem d_Mod_gather_3 : decode b_Mod_gather 3 = .ok (.getfield 34, 3) := by decide +kernel
theorem d_Mod_gather_6 : decode b_Mod_gather 6 = .ok (.iconst 0, 1) := by decide +kernel
theorem d_Mod_gather_7 : decode b_Mod_gather 7 = .ok (.iconst 0, 1) := by decide +kernel
theorem d_Mod_gather_8 : decode b_Mod_gather 8 = .ok (.iastore, 1) := by decide +kernel
theorem d_Mod_gather_9 : decode b_Mod_gather 9 = .ok (.aload_n 0, 1) := by decide +kernel
theorem d_Mod_gather_10 : decode b_Mod_gather 10 = .ok (.iconst 1, 1) := by decide +kernel
theorem d_Mod_gather_11 : decode b_Mod_gather 11 = .ok (.putfield 98, 3) := by decide +kernel
theorem d_Mod_gather_14 : decode b_Mod_gather 14 = .ok (.iload_n 2, 1) := by decide +kernel
theorem d_Mod_gather_15 : decode b_Mod_gather 15 = .ok (.sipush 200, 3) := by decide +kernel
theorem d_Mod_gather_18 : decode b_Mod_gather 18 = .ok (.if_icmp .ge 125, 3) := by decide +kernel
theorem d_Mod_gather_21 : decode b_Mod_gather 21 = .ok (.aload_n 0, 1) := by decide +kernel
theorem d_Mod_gather_22 : decode b_Mod_gather 22 = .ok (.getfield 34, 3) := by decide +kernel
theorem d_Mod_gather_25 : decode b_Mod_gather 25 = .ok (.iconst 0, 1) := by decide +kernel
theorem d_Mod_gather_26 : decode b_Mod_gather 26 = .ok (.iaload, 1) := by decide +kernel
theorem d_Mod_gather_27 : decode b_Mod_gather 27 = .ok (.bipush 8, 2) := by decide +kernel
theorem d_Mod_gather_29 : decode b_Mod_gather 29 = .ok (.if_icmp .ge 114, 3) := by decide +kernel
theorem d_Mod_gather_32 : decode b_Mod_gather 32 = .ok (.aload_n 0, 1) := by decide +kernel
theorem d_Mod_gather_33 : decode b_Mod_gather 33 = .ok (.getfield 19, 3) := by decide +kernel
theorem d_Mod_gather_36 : decode b_Mod_gather 36 = .ok (.iload_n 2, 1) := by decide +kernel
theorem d_Mod_gather_37 : decode b_Mod_gather 37 = .ok (.iaload, 1) := by decide +kernel
theorem d_Mod_gather_38 : decode b_Mod_gather 38 = .ok (.ifCond .lt 99, 3) := by decide +kernel
theorem d_Mod_gather_41 : decode b_Mod_gather 41 = .ok (.aload_n 0, 1) := by decide +kernel
theorem d_Mod_gather_42 : decode b_Mod_gather 42 = .ok (.getfield 34, 3) := by decide +kernel
theorem d_Mod_gather_45 : decode b_Mod_gather 45 = .ok (.iconst 0, 1) := by decide +kernel
theorem d_Mod_gather_46 : decode b_Mod_gather 46 = .ok (.dup2, 1) := by decide +kernel
theorem d_Mod_gather_47 : decode b_Mod_gather 47 = .ok (.iaload, 1) := by decide +kernel
theorem d_Mod_gather_48 : decode b_Mod_gather 48 = .ok (.iconst 1, 1) := by decide +kernel
theorem d_Mod_gather_49 : decode b_Mod_gather 49 = .ok (.iadd, 1) := by decide +kernel
theorem d_Mod_gather_50 : decode b_Mod_gather 50 = .ok (.iastore, 1) := by decide +kernel
theorem d_Mod_gather_51 : decode b_Mod_gather 51 = .ok (.aload_n 0, 1) := by decide +kernel
theorem d_Mod_gather_52 : decode b_Mod_gather 52 = .ok (.getfield 34, 3) := by decide +kernel
theorem d_Mod_gather_55 : decode b_Mod_gather 55 = .ok (.aload_n 0, 1) := by decide +kernel
theorem d_Mod_gather_56 : decode b_Mod_gather 56 = .ok (.getfield 98, 3) := by decide +kernel
theorem d_Mod_gather_59 : decode b_Mod_gather 59 = .ok (.iload_n 2, 1) := by decide +kernel
theorem d_Mod_gather_60 : decode b_Mod_gather 60 = .ok (.iastore, 1) := by decide +kernel
theorem d_Mod_gather_61 : decode b_Mod_gather 61 = .ok (.aload_n 0, 1) := by decide +kernel
theorem d_Mod_gather_62 : decode b_Mod_gather 62 = .ok (.getfield 34, 3) := by decide +kernel
theorem d_Mod_gather_65 : decode b_Mod_gather 65 = .ok (.aload_n 0, 1) := by decide +kernel
theorem d_Mod_gather_66 : decode b_Mod_gather 66 = .ok (.getfield 98, 3) := by decide +kernel
theorem d_Mod_gather_69 : decode b_Mod_gather 69 = .ok (.iconst 1, 1) := by decide +kernel
theorem d_Mod_gather_70 : decode b_Mod_gather 70 = .ok (.iadd, 1) := by decide +kernel
theorem d_Mod_gather_71 : decode b_Mod_gather 71 = .ok (.aload_n 0, 1) := by decide +kernel
theorem d_Mod_gather_72 : decode b_Mod_gather 72 = .ok (.getfield 19, 3) := by decide +kernel
theorem d_Mod_gather_75 : decode b_Mod_gather 75 = .ok (.iload_n 2, 1) := by decide +kernel
theorem d_Mod_gather_76 : decode b_Mod_gather 76 = .ok (.iaload, 1) := by decide +kernel
theorem d_Mod_gather_77 : decode b_Mod_gather 77 = .ok (.iastore, 1) := by decide +kernel
theorem d_Mod_gather_78 : decode b_Mod_gather 78 = .ok (.iconst 0, 1) := by decide +kernel
theorem d_Mod_gather_79 : decode b_Mod_gather 79 = .ok (.istore_n 3, 1) := by decide +kernel
theorem d_Mod_gather_80 : decode b_Mod_gather 80 = .ok (.iload_n 3, 1) := by decide +kernel
theorem d_Mod_gather_81 : decode b_Mod_gather 81 = .ok (.aload_n 0, 1) := by decide +kernel
theorem d_Mod_gather_82 : decode b_Mod_gather 82 = .ok (.getfield 19, 3) := by decide +kernel
theorem d_Mod_gather_85 : decode b_Mod_gather 85 = .ok (.iload_n 2, 1) := by decide +kernel
theorem d_Mod_gather_86 : decode b_Mod_gather 86 = .ok (.iaload, 1) := by decide +kernel
theorem d_Mod_gather_87 : decode b_Mod_gather 87 = .ok (.if_icmp .ge 33, 3) := by decide +kernel
theorem d_Mod_gather_90 : decode b_Mod_gather 90 = .ok (.aload_n 0, 1) := by decide +kernel
theorem d_Mod_gather_91 : decode b_Mod_gather 91 = .ok (.getfield 34, 3) := by decide +kernel
theorem d_Mod_gather_94 : decode b_Mod_gather 94 = .ok (.aload_n 0, 1) := by decide +kernel
theorem d_Mod_gather_95 : decode b_Mod_gather 95 = .ok (.getfield 98, 3) := by decide +kernel
theorem d_Mod_gather_98 : decode b_Mod_gather 98 = .ok (.iconst 2, 1) := by decide +kernel
theorem d_Mod_gather_99 : decode b_Mod_gather 99 = .ok (.iadd, 1) := by decide +kernel
theorem d_Mod_gather_100 : decode b_Mod_gather 100 = .ok (.iload_n 3, 1) := by decide +kernel
theorem d_Mod_gather_101 : decode b_Mod_gather 101 = .ok (.iadd, 1) := by decide +kernel
theorem d_Mod_gather_102 : decode b_Mod_gather 102 = .ok (.aload_n 0, 1) := by decide +kernel
theorem d_Mod_gather_103 : decode b_Mod_gather 103 = .ok (.getfield 22, 3) := by decide +kernel
theorem d_Mod_gather_106 : decode b_Mod_gather 106 = .ok (.bipush 40, 2) := by decide +kernel
theorem d_Mod_gather_108 : decode b_Mod_gather 108 = .ok (.iload_n 2, 1) := by decide +kernel
theorem d_Mod_gather_109 : decode b_Mod_gather 109 = .ok (.imul, 1) := by decide +kernel
theorem d_Mod_gather_110 : decode b_Mod_gather 110 = .ok (.iload_n 3, 1) := by decide +kernel
theorem d_Mod_gather_111 : decode b_Mod_gather 111 = .ok (.iadd, 1) := by decide +kernel
theorem d_Mod_gather_112 : decode b_Mod_gather 112 = .ok (.iaload, 1) := by decide +kernel
theorem d_Mod_gather_113 : decode b_Mod_gather 113 = .ok (.iastore, 1) := by decide +kernel
theorem d_Mod_gather_114 : decode b_Mod_gather 114 = .ok (.iinc 3 1, 3) := by decide +kernel
theorem d_Mod_gather_117 : decode b_Mod_gather 117 = .ok (.goto (-37), 3) := by decide +kernel
theorem d_Mod_gather_120 : decode b_Mod_gather 120 = .ok (.aload_n 0, 1) := by decide +kernel
theorem d_Mod_gather_121 : decode b_Mod_gather 121 = .ok (.dup, 1) := by decide +kernel
theorem d_Mod_gather_122 : decode b_Mod_gather 122 = .ok (.getfield 98, 3) := by decide +kernel
theorem d_Mod_gather_125 : decode b_Mod_gather 125 = .ok (.iconst 2, 1) := by decide +kernel
theorem d_Mod_gather_126 : decode b_Mod_gather 126 = .ok (.aload_n 0, 1) := by decide +kernel
theorem d_Mod_gather_127 : decode b_Mod_gather 127 = .ok (.getfield 19, 3) := by decide +kernel
theorem d_Mod_gather_130 : decode b_Mod_gather 130 = .ok (.iload_n 2, 1) := by decide +kernel
theorem d_Mod_gather_131 : decode b_Mod_gather 131 = .ok (.iaload, 1) := by decide +kernel
theorem d_Mod_gather_132 : decode b_Mod_gather 132 = .ok (.iadd, 1) := by decide +kernel
theorem d_Mod_gather_133 : decode b_Mod_gather 133 = .ok (.iadd, 1) := by decide +kernel
theorem d_Mod_gather_134 : decode b_Mod_gather 134 = .ok (.putfield 98, 3) := by decide +kernel
theorem d_Mod_gather_137 : decode b_Mod_gather 137 = .ok (.iinc 2 1, 3) := by decide +kernel
theorem d_Mod_gather_140 : decode b_Mod_gather 140 = .ok (.goto (-126), 3) := by decide +kernel
theorem d_Mod_gather_143 : decode b_Mod_gather 143 = .ok (.iload_n 2, 1) := by decide +kernel
theorem d_Mod_gather_144 : decode b_Mod_gather 144 = .ok (.ireturn, 1) := by decide +kernel
theorem d_Mod_greatestEpoch_0 : decode b_Mod_greatestEpoch 0 = .ok (.aload_n 0, 1) := by decide +kernel
theorem d_Mod_greatestEpoch_1 : decode b_Mod_greatestEpoch 1 = .ok (.getfield 57, 3) := by decide +kernel
theorem d_Mod_greatestEpoch_4 : decode b_Mod_greatestEpoch 4 = .ok (.istore_n 1, 1) := by decide +kernel
theorem d_Mod_greatestEpoch_5 : decode b_Mod_greatestEpoch 5 = .ok (.iconst 0, 1) := by decide +kernel
theorem d_Mod_greatestEpoch_6 : decode b_Mod_greatestEpoch 6 = .ok (.istore_n 2, 1) := by decide +kernel
theorem d_Mod_greatestEpoch_7 : decode b_Mod_greatestEpoch 7 = .ok (.iload_n 2, 1) := by decide +kernel
theorem d_Mod_greatestEpoch_8 : decode b_Mod_greatestEpoch 8 = .ok (.bipush 96, 2) := by decide +kernel
theorem d_Mod_greatestEpoch_10 : decode b_Mod_greatestEpoch 10 = .ok (.if_icmp .ge 40, 3) := by decide +kernel
theorem d_Mod_greatestEpoch_13 : decode b_Mod_greatestEpoch 13 = .ok (.aload_n 0, 1) := by decide +kernel
theorem d_Mod_greatestEpoch_14 : decode b_Mod_greatestEpoch 14 = .ok (.sipush 3072, 3) := by decide +kernel
theorem d_Mod_greatestEpoch_17 : decode b_Mod_greatestEpoch 17 = .ok (.iconst 1, 1) := by decide +kernel
theorem d_Mod_greatestEpoch_18 : decode b_Mod_greatestEpoch 18 = .ok (.aload_n 0, 1) := by decide +kernel
theorem d_Mod_greatestEpoch_19 : decode b_Mod_greatestEpoch 19 = .ok (.getfield 51, 3) := by decide +kernel
theorem d_Mod_greatestEpoch_22 : decode b_Mod_greatestEpoch 22 = .ok (.isub, 1) := by decide +kernel
theorem d_Mod_greatestEpoch_23 : decode b_Mod_greatestEpoch 23 = .ok (.imul, 1) := by decide +kernel
theorem d_Mod_greatestEpoch_24 : decode b_Mod_greatestEpoch 24 = .ok (.bipush 32, 2) := by decide +kernel
theorem d_Mod_greatestEpoch_26 : decode b_Mod_greatestEpoch 26 = .ok (.iload_n 2, 1) := by decide +kernel
theorem d_Mod_greatestEpoch_27 : decode b_Mod_greatestEpoch 27 = .ok (.imul, 1) := by decide +kernel
theorem d_Mod_greatestEpoch_28 : decode b_Mod_greatestEpoch 28 = .ok (.iadd, 1) := by decide +kernel
theorem d_Mod_greatestEpoch_29 : decode b_Mod_greatestEpoch 29 = .ok (.invokevirtual 54, 3) := by decide +kernel
theorem d_Mod_greatestEpoch_32 : decode b_Mod_greatestEpoch 32 = .ok (.istore_n 3, 1) := by decide +kernel
theorem d_Mod_greatestEpoch_33 : decode b_Mod_greatestEpoch 33 = .ok (.iload_n 3, 1) := by decide +kernel
theorem d_Mod_greatestEpoch_34 : decode b_Mod_greatestEpoch 34 = .ok (.iload_n 1, 1) := by decide +kernel
theorem d_Mod_greatestEpoch_35 : decode b_Mod_greatestEpoch 35 = .ok (.if_icmp .le 7, 3) := by decide +kernel
theorem d_Mod_greatestEpoch_38 : decode b_Mod_greatestEpoch 38 = .ok (.iload_n 3, 1) := by decide +kernel
theorem d_Mod_greatestEpoch_39 : decode b_Mod_greatestEpoch 39 = .ok (.goto 4, 3) := by decide +kernel
theorem d_Mod_greatestEpoch_42 : decode b_Mod_greatestEpoch 42 = .ok (.iload_n 1, 1) := by decide +kernel
theorem d_Mod_greatestEpoch_43 : decode b_Mod_greatestEpoch 43 = .ok (.istore_n 1, 1) := by decide +kernel
theorem d_Mod_greatestEpoch_44 : decode b_Mod_greatestEpoch 44 = .ok (.iinc 2 1, 3) := by decide +kernel
theorem d_Mod_greatestEpoch_47 : decode b_Mod_greatestEpoch 47 = .ok (.goto (-40), 3) := by decide +kernel
theorem d_Mod_greatestEpoch_50 : decode b_Mod_greatestEpoch 50 = .ok (.iload_n 1, 1) := by decide +kernel
theorem d_Mod_greatestEpoch_51 : decode b_Mod_greatestEpoch 51 = .ok (.ireturn, 1) := by decide +kernel
theorem d_Mod_plan_0 : decode b_Mod_plan 0 = .ok (.aload_n 0, 1) := by decide +kernel
theorem d_Mod_plan_1 : decode b_Mod_plan 1 = .ok (.iconst 0, 1) := by decide +kernel
theorem d_Mod_plan_2 : decode b_Mod_plan 2 = .ok (.putfield 88, 3) := by decide +kernel
theorem d_Mod_plan_5 : decode b_Mod_plan 5 = .ok (.aload_n 0, 1) := by decide +kernel
theorem d_Mod_plan_6 : decode b_Mod_plan 6 = .ok (.iconst (-1), 1) := by decide +kernel
theorem d_Mod_plan_7 : decode b_Mod_plan 7 = .ok (.putfield 101, 3) := by decide +kernel
theorem d_Mod_plan_10 : decode b_Mod_plan 10 = .ok (.aload_n 0, 1) := by decide +kernel
theorem d_Mod_plan_11 : decode b_Mod_plan 11 = .ok (.getfield 41, 3) := by decide +kernel
theorem d_Mod_plan_14 : decode b_Mod_plan 14 = .ok (.invokestatic 104, 3) := by decide +kernel
theorem d_Mod_plan_17 : decode b_Mod_plan 17 = .ok (.istore_n 1, 1) := by decide +kernel
theorem d_Mod_plan_18 : decode b_Mod_plan 18 = .ok (.aload_n 0, 1) := by decide +kernel
theorem d_Mod_plan_19 : decode b_Mod_plan 19 = .ok (.getfield 71, 3) := by decide +kernel
theorem d_Mod_plan_22 : decode b_Mod_plan 22 = .ok (.iload_n 1, 1) := by decide +kernel
theorem d_Mod_plan_23 : decode b_Mod_plan 23 = .ok (.iadd, 1) := by decide +kernel
theorem d_Mod_plan_24 : decode b_Mod_plan 24 = .ok (.bipush 95, 2) := by decide +kernel
theorem d_Mod_plan_26 : decode b_Mod_plan 26 = .ok (.if_icmp .gt 32, 3) := by decide +kernel
theorem d_Mod_plan_29 : decode b_Mod_plan 29 = .ok (.aload_n 0, 1) := by decide +kernel
theorem d_Mod_plan_30 : decode b_Mod_plan 30 = .ok (.aload_n 0, 1) := by decide +kernel
theorem d_Mod_plan_31 : decode b_Mod_plan 31 = .ok (.getfield 16, 3) := by decide +kernel
theorem d_Mod_plan_34 : decode b_Mod_plan 34 = .ok (.aload_n 0, 1) := by decide +kernel
theorem d_Mod_plan_35 : decode b_Mod_plan 35 = .ok (.getfield 41, 3) := by decide +kernel
theorem d_Mod_plan_38 : decode b_Mod_plan 38 = .ok (.aload_n 0, 1) := by decide +kernel
theorem d_Mod_plan_39 : decode b_Mod_plan 39 = .ok (.getfield 51, 3) := by decide +kernel
theorem d_Mod_plan_42 : decode b_Mod_plan 42 = .ok (.aload_n 0, 1) := by decide +kernel
theorem d_Mod_plan_43 : decode b_Mod_plan 43 = .ok (.getfield 57, 3) := by decide +kernel
theorem d_Mod_plan_46 : decode b_Mod_plan 46 = .ok (.aload_n 0, 1) := by decide +kernel
theorem d_Mod_plan_47 : decode b_Mod_plan 47 = .ok (.getfield 71, 3) := by decide +kernel
theorem d_Mod_plan_50 : decode b_Mod_plan 50 = .ok (.iconst 1, 1) := by decide +kernel
theorem d_Mod_plan_51 : decode b_Mod_plan 51 = .ok (.iadd, 1) := by decide +kernel
theorem d_Mod_plan_52 : decode b_Mod_plan 52 = .ok (.invokevirtual 107, 3) := by decide +kernel
theorem d_Mod_plan_55 : decode b_Mod_plan 55 = .ok (.pop, 1) := by decide +kernel
theorem d_Mod_plan_56 : decode b_Mod_plan 56 = .ok (.iconst 1, 1) := by decide +kernel
theorem d_Mod_plan_57 : decode b_Mod_plan 57 = .ok (.ireturn, 1) := by decide +kernel
theorem d_Mod_plan_58 : decode b_Mod_plan 58 = .ok (.aload_n 0, 1) := by decide +kernel
theorem d_Mod_plan_59 : decode b_Mod_plan 59 = .ok (.invokevirtual 111, 3) := by decide +kernel
theorem d_Mod_plan_62 : decode b_Mod_plan 62 = .ok (.iconst 1, 1) := by decide +kernel
theorem d_Mod_plan_63 : decode b_Mod_plan 63 = .ok (.iadd, 1) := by decide +kernel
theorem d_Mod_plan_64 : decode b_Mod_plan 64 = .ok (.istore_n 2, 1) := by decide +kernel
theorem d_Mod_plan_65 : decode b_Mod_plan 65 = .ok (.iconst 1, 1) := by decide +kernel
theorem d_Mod_plan_66 : decode b_Mod_plan 66 = .ok (.istore_n 3, 1) := by decide +kernel
theorem d_Mod_plan_67 : decode b_Mod_plan 67 = .ok (.iconst 0, 1) := by decide +kernel
theorem d_Mod_plan_68 : decode b_Mod_plan 68 = .ok (.istore 4, 2) := by decide +kernel
theorem d_Mod_plan_70 : decode b_Mod_plan 70 = .ok (.iload 4, 2) := by decide +kernel
theorem d_Mod_plan_72 : decode b_Mod_plan 72 = .ok (.sipush 200, 3) := by decide +kernel
theorem d_Mod_plan_75 : decode b_Mod_plan 75 = .ok (.if_icmp .ge 66, 3) := by decide +kernel
theorem d_Mod_plan_78 : decode b_Mod_plan 78 = .ok (.iload_n 3, 1) := by decide +kernel
theorem d_Mod_plan_79 : decode b_Mod_plan 79 = .ok (.bipush 96, 2) := by decide +kernel
theorem d_Mod_plan_81 : decode b_Mod_plan 81 = .ok (.if_icmp .gt 60, 3) := by decide +kernel
theorem d_Mod_plan_84 : decode b_Mod_plan 84 = .ok (.aload_n 0, 1) := by decide +kernel
theorem d_Mod_plan_85 : decode b_Mod_plan 85 = .ok (.iload 4, 2) := by decide +kernel
theorem d_Mod_plan_87 : decode b_Mod_plan 87 = .ok (.invokevirtual 115, 3) := by decide +kernel
theorem d_Mod_plan_90 : decode b_Mod_plan 90 = .ok (.istore 4, 2) := by decide +kernel
theorem d_Mod_plan_92 : decode b_Mod_plan 92 = .ok (.aload_n 0, 1) := by decide +kernel
theorem d_Mod_plan_93 : decode b_Mod_plan 93 = .ok (.getfield 34, 3) := by decide +kernel
theorem d_Mod_plan_96 : decode b_Mod_plan 96 = .ok (.iconst 0, 1) := by decide +kernel
theorem d_Mod_plan_97 : decode b_Mod_plan 97 = .ok (.iaload, 1) := by decide +kernel
theorem d_Mod_plan_98 : decode b_Mod_plan 98 = .ok (.ifCond .le (-28), 3) := by decide +kernel
theorem d_Mod_plan_101 : decode b_Mod_plan 101 = .ok (.iload_n 3, 1) := by decide +kernel
theorem d_Mod_plan_102 : decode b_Mod_plan 102 = .ok (.aload_n 0, 1) := by decide +kernel
theorem d_Mod_plan_103 : decode b_Mod_plan 103 = .ok (.getfield 98, 3) := by decide +kernel
theorem d_Mod_plan_106 : decode b_Mod_plan 106 = .ok (.invokestatic 104, 3) := by decide +kernel
theorem d_Mod_plan_109 : decode b_Mod_plan 109 = .ok (.iadd, 1) := by decide +kernel
theorem d_Mod_plan_110 : decode b_Mod_plan 110 = .ok (.bipush 96, 2) := by decide +kernel
theorem d_Mod_plan_112 : decode b_Mod_plan 112 = .ok (.if_icmp .le 5, 3) := by decide +kernel
theorem d_Mod_plan_115 : decode b_Mod_plan 115 = .ok (.iconst 0, 1) := by decide +kernel
theorem d_Mod_plan_116 : decode b_Mod_plan 116 = .ok (.ireturn, 1) := by decide +kernel
theorem d_Mod_plan_117 : decode b_Mod_plan 117 = .ok (.aload_n 0, 1) := by decide +kernel
theorem d_Mod_plan_118 : decode b_Mod_plan 118 = .ok (.aload_n 0, 1) := by decide +kernel
theorem d_Mod_plan_119 : decode b_Mod_plan 119 = .ok (.getfield 34, 3) := by decide +kernel
theorem d_Mod_plan_122 : decode b_Mod_plan 122 = .ok (.aload_n 0, 1) := by decide +kernel
theorem d_Mod_plan_123 : decode b_Mod_plan 123 = .ok (.getfield 98, 3) := by decide +kernel
theorem d_Mod_plan_126 : decode b_Mod_plan 126 = .ok (.iconst 1, 1) := by decide +kernel
theorem d_Mod_plan_127 : decode b_Mod_plan 127 = .ok (.aload_n 0, 1) := by decide +kernel
theorem d_Mod_plan_128 : decode b_Mod_plan 128 = .ok (.getfield 51, 3) := by decide +kernel
theorem d_Mod_plan_131 : decode b_Mod_plan 131 = .ok (.isub, 1) := by decide +kernel
theorem d_Mod_plan_132 : decode b_Mod_plan 132 = .ok (.iload_n 2, 1) := by decide +kernel
theorem d_Mod_plan_133 : decode b_Mod_plan 133 = .ok (.iload_n 3, 1) := by decide +kernel
theorem d_Mod_plan_134 : decode b_Mod_plan 134 = .ok (.invokevirtual 107, 3) := by decide +kernel
theorem d_Mod_plan_137 : decode b_Mod_plan 137 = .ok (.istore_n 3, 1) := by decide +kernel
theorem d_Mod_plan_138 : decode b_Mod_plan 138 = .ok (.goto (-68), 3) := by decide +kernel
theorem d_Mod_plan_141 : decode b_Mod_plan 141 = .ok (.aload_n 0, 1) := by decide +kernel
theorem d_Mod_plan_142 : decode b_Mod_plan 142 = .ok (.aload_n 0, 1) := by decide +kernel
theorem d_Mod_plan_143 : decode b_Mod_plan 143 = .ok (.getfield 88, 3) := by decide +kernel
theorem d_Mod_plan_146 : decode b_Mod_plan 146 = .ok (.putfield 101, 3) := by decide +kernel
theorem d_Mod_plan_149 : decode b_Mod_plan 149 = .ok (.aload_n 0, 1) := by decide +kernel
theorem d_Mod_plan_150 : decode b_Mod_plan 150 = .ok (.iconst 1, 1) := by decide +kernel
theorem d_Mod_plan_151 : decode b_Mod_plan 151 = .ok (.aload_n 0, 1) := by decide +kernel
theorem d_Mod_plan_152 : decode b_Mod_plan 152 = .ok (.getfield 51, 3) := by decide +kernel
theorem d_Mod_plan_155 : decode b_Mod_plan 155 = .ok (.isub, 1) := by decide +kernel
theorem d_Mod_plan_156 : decode b_Mod_plan 156 = .ok (.iconst 0, 1) := by decide +kernel
theorem d_Mod_plan_157 : decode b_Mod_plan 157 = .ok (.iload_n 2, 1) := by decide +kernel
theorem d_Mod_plan_158 : decode b_Mod_plan 158 = .ok (.invokevirtual 91, 3) := by decide +kernel
theorem d_Mod_plan_161 : decode b_Mod_plan 161 = .ok (.istore 5, 2) := by decide +kernel
theorem d_Mod_plan_163 : decode b_Mod_plan 163 = .ok (.aload_n 0, 1) := by decide +kernel
theorem d_Mod_plan_164 : decode b_Mod_plan 164 = .ok (.getfield 31, 3) := by decide +kernel
theorem d_Mod_plan_167 : decode b_Mod_plan 167 = .ok (.iload 5, 2) := by decide +kernel
theorem d_Mod_plan_169 : decode b_Mod_plan 169 = .ok (.iconst 2, 1) := by decide +kernel
theorem d_Mod_plan_170 : decode b_Mod_plan 170 = .ok (.iadd, 1) := by decide +kernel
theorem d_Mod_plan_171 : decode b_Mod_plan 171 = .ok (.bipush 72, 2) := by decide +kernel
theorem d_Mod_plan_173 : decode b_Mod_plan 173 = .ok (.iastore, 1) := by decide +kernel
theorem d_Mod_plan_174 : decode b_Mod_plan 174 = .ok (.aload_n 0, 1) := by decide +kernel
theorem d_Mod_plan_175 : decode b_Mod_plan 175 = .ok (.iload 5, 2) := by decide +kernel
theorem d_Mod_plan_177 : decode b_Mod_plan 177 = .ok (.invokevirtual 95, 3) := by decide +kernel
theorem d_Mod_plan_180 : decode b_Mod_plan 180 = .ok (.iload_n 2, 1) := by decide +kernel
theorem d_Mod_plan_181 : decode b_Mod_plan 181 = .ok (.ldc 118, 2) := by decide +kernel
theorem d_Mod_plan_183 : decode b_Mod_plan 183 = .ok (.if_icmp .gt 11, 3) := by decide +kernel
theorem d_Mod_plan_186 : decode b_Mod_plan 186 = .ok (.iload_n 3, 1) := by decide +kernel
theorem d_Mod_plan_187 : decode b_Mod_plan 187 = .ok (.iload_n 1, 1) := by decide +kernel
theorem d_Mod_plan_188 : decode b_Mod_plan 188 = .ok (.iadd, 1) := by decide +kernel
theorem d_Mod_plan_189 : decode b_Mod_plan 189 = .ok (.bipush 96, 2) := by decide +kernel
theorem d_Mod_plan_191 : decode b_Mod_plan 191 = .ok (.if_icmp .le 5, 3) := by decide +kernel
theorem d_Mod_plan_194 : decode b_Mod_plan 194 = .ok (.iconst 0, 1) := by decide +kernel
theorem d_Mod_plan_195 : decode b_Mod_plan 195 = .ok (.ireturn, 1) := by decide +kernel
theorem d_Mod_plan_196 : decode b_Mod_plan 196 = .ok (.aload_n 0, 1) := by decide +kernel
theorem d_Mod_plan_197 : decode b_Mod_plan 197 = .ok (.aload_n 0, 1) := by decide +kernel
theorem d_Mod_plan_198 : decode b_Mod_plan 198 = .ok (.getfield 16, 3) := by decide +kernel
theorem d_Mod_plan_201 : decode b_Mod_plan 201 = .ok (.aload_n 0, 1) := by decide +kernel
theorem d_Mod_plan_202 : decode b_Mod_plan 202 = .ok (.getfield 41, 3) := by decide +kernel
theorem d_Mod_plan_205 : decode b_Mod_plan 205 = .ok (.iconst 1, 1) := by decide +kernel
theorem d_Mod_plan_206 : decode b_Mod_plan 206 = .ok (.aload_n 0, 1) := by decide +kernel
theorem d_Mod_plan_207 : decode b_Mod_plan 207 = .ok (.getfield 51, 3) := by decide +kernel
theorem d_Mod_plan_210 : decode b_Mod_plan 210 = .ok (.isub, 1) := by decide +kernel
theorem d_Mod_plan_211 : decode b_Mod_plan 211 = .ok (.iload_n 2, 1) := by decide +kernel
theorem d_Mod_plan_212 : decode b_Mod_plan 212 = .ok (.iload_n 3, 1) := by decide +kernel
theorem d_Mod_plan_213 : decode b_Mod_plan 213 = .ok (.invokevirtual 107, 3) := by decide +kernel
theorem d_Mod_plan_216 : decode b_Mod_plan 216 = .ok (.pop, 1) := by decide +kernel
theorem d_Mod_plan_217 : decode b_Mod_plan 217 = .ok (.iconst 1, 1) := by decide +kernel
theorem d_Mod_plan_218 : decode b_Mod_plan 218 = .ok (.ireturn, 1) := by decide +kernel
theorem d_Mod_write_0 : decode b_Mod_write 0 = .ok (.iconst 0, 1) := by decide +kernel
theorem d_Mod_write_1 : decode b_Mod_write 1 = .ok (.istore_n 3, 1) := by decide +kernel
theorem d_Mod_write_2 : decode b_Mod_write 2 = .ok (.iload_n 3, 1) := by decide +kernel
theorem d_Mod_write_3 : decode b_Mod_write 3 = .ok (.iload_n 2, 1) := by decide +kernel
theorem d_Mod_write_4 : decode b_Mod_write 4 = .ok (.if_icmp .ge 36, 3) := by decide +kernel
theorem d_Mod_write_7 : decode b_Mod_write 7 = .ok (.aload_n 0, 1) := by decide +kernel
theorem d_Mod_write_8 : decode b_Mod_write 8 = .ok (.getfield 7, 3) := by decide +kernel
theorem d_Mod_write_11 : decode b_Mod_write 11 = .ok (.bipush 32, 2) := by decide +kernel
theorem d_Mod_write_13 : decode b_Mod_write 13 = .ok (.aload_n 0, 1) := by decide +kernel
theorem d_Mod_write_14 : decode b_Mod_write 14 = .ok (.getfield 28, 3) := by decide +kernel
theorem d_Mod_write_17 : decode b_Mod_write 17 = .ok (.iload_n 1, 1) := by decide +kernel
theorem d_Mod_write_18 : decode b_Mod_write 18 = .ok (.iaload, 1) := by decide +kernel
theorem d_Mod_write_19 : decode b_Mod_write 19 = .ok (.imul, 1) := by decide +kernel
theorem d_Mod_write_20 : decode b_Mod_write 20 = .ok (.iload_n 3, 1) := by decide +kernel
theorem d_Mod_write_21 : decode b_Mod_write 21 = .ok (.iadd, 1) := by decide +kernel
theorem d_Mod_write_22 : decode b_Mod_write 22 = .ok (.aload_n 0, 1) := by decide +kernel
theorem d_Mod_write_23 : decode b_Mod_write 23 = .ok (.getfield 31, 3) := by decide +kernel
theorem d_Mod_write_26 : decode b_Mod_write 26 = .ok (.bipush 32, 2) := by decide +kernel
theorem d_Mod_write_28 : decode b_Mod_write 28 = .ok (.iload_n 1, 1) := by decide +kernel
theorem d_Mod_write_29 : decode b_Mod_write 29 = .ok (.imul, 1) := by decide +kernel
theorem d_Mod_write_30 : decode b_Mod_write 30 = .ok (.iload_n 3, 1) := by decide +kernel
theorem d_Mod_write_31 : decode b_Mod_write 31 = .ok (.iadd, 1) := by decide +kernel
theorem d_Mod_write_32 : decode b_Mod_write 32 = .ok (.iaload, 1) := by decide +kernel
theorem d_Mod_write_33 : decode b_Mod_write 33 = .ok (.iastore, 1) := by decide +kernel
theorem d_Mod_write_34 : decode b_Mod_write 34 = .ok (.iinc 3 1, 3) := by decide +kernel
theorem d_Mod_write_37 : decode b_Mod_write 37 = .ok (.goto (-35), 3) := by decide +kernel
theorem d_Mod_write_40 : decode b_Mod_write 40 = .ok (.iload_n 2, 1) := by decide +kernel
theorem d_Mod_write_41 : decode b_Mod_write 41 = .ok (.bipush 32, 2) := by decide +kernel
theorem d_Mod_write_43 : decode b_Mod_write 43 = .ok (.if_icmp .ne 35, 3) := by decide +kernel
theorem d_Mod_write_46 : decode b_Mod_write 46 = .ok (.aload_n 0, 1) := by decide +kernel
theorem d_Mod_write_47 : decode b_Mod_write 47 = .ok (.dup, 1) := by decide +kernel
theorem d_Mod_write_48 : decode b_Mod_write 48 = .ok (.getfield 119, 3) := by decide +kernel
theorem d_Mod_write_51 : decode b_Mod_write 51 = .ok (.iconst 1, 1) := by decide +kernel
theorem d_Mod_write_52 : decode b_Mod_write 52 = .ok (.iadd, 1) := by decide +kernel
theorem d_Mod_write_53 : decode b_Mod_write 53 = .ok (.putfield 119, 3) := by decide +kernel
theorem d_Mod_write_56 : decode b_Mod_write 56 = .ok (.aload_n 0, 1) := by decide +kernel
theorem d_Mod_write_57 : decode b_Mod_write 57 = .ok (.dup, 1) := by decide +kernel
theorem d_Mod_write_58 : decode b_Mod_write 58 = .ok (.getfield 122, 3) := by decide +kernel
theorem d_Mod_write_61 : decode b_Mod_write 61 = .ok (.iload_n 1, 1) := by decide +kernel
theorem d_Mod_write_62 : decode b_Mod_write 62 = .ok (.aload_n 0, 1) := by decide +kernel
theorem d_Mod_write_63 : decode b_Mod_write 63 = .ok (.getfield 101, 3) := by decide +kernel
theorem d_Mod_write_66 : decode b_Mod_write 66 = .ok (.if_icmp .ne 7, 3) := by decide +kernel
theorem d_Mod_write_69 : decode b_Mod_write 69 = .ok (.iconst 1, 1) := by decide +kernel
theorem d_Mod_write_70 : decode b_Mod_write 70 = .ok (.goto 4, 3) := by decide +kernel
theorem d_Mod_write_73 : decode b_Mod_write 73 = .ok (.iconst 0, 1) := by decide +kernel
theorem d_Mod_write_74 : decode b_Mod_write 74 = .ok (.iadd, 1) := by decide +kernel
theorem d_Mod_write_75 : decode b_Mod_write 75 = .ok (.putfield 122, 3) := by decide +kernel
theorem d_Mod_write_78 : decode b_Mod_write 78 = .ok (.return_, 1) := by decide +kernel
theorem d_Mod_put_0 : decode b_Mod_put 0 = .ok (.aload_n 0, 1) := by decide +kernel
theorem d_Mod_put_1 : decode b_Mod_put 1 = .ok (.iload_n 1, 1) := by decide +kernel
theorem d_Mod_put_2 : decode b_Mod_put 2 = .ok (.iconst 1, 1) := by decide +kernel
theorem d_Mod_put_3 : decode b_Mod_put 3 = .ok (.if_icmp .lt 8, 3) := by decide +kernel
theorem d_Mod_put_6 : decode b_Mod_put 6 = .ok (.iload_n 1, 1) := by decide +kernel
theorem d_Mod_put_7 : decode b_Mod_put 7 = .ok (.iconst 4, 1) := by decide +kernel
theorem d_Mod_put_8 : decode b_Mod_put 8 = .ok (.if_icmp .le 7, 3) := by decide +kernel
theorem d_Mod_put_11 : decode b_Mod_put 11 = .ok (.iconst 1, 1) := by decide +kernel
theorem d_Mod_put_12 : decode b_Mod_put 12 = .ok (.goto 4, 3) := by decide +kernel
theorem d_Mod_put_15 : decode b_Mod_put 15 = .ok (.iconst 0, 1) := by decide +kernel
theorem d_Mod_put_16 : decode b_Mod_put 16 = .ok (.aload_n 0, 1) := by decide +kernel
theorem d_Mod_put_17 : decode b_Mod_put 17 = .ok (.getfield 125, 3) := by decide +kernel
theorem d_Mod_put_20 : decode b_Mod_put 20 = .ok (.iload_n 1, 1) := by decide +kernel
theorem d_Mod_put_21 : decode b_Mod_put 21 = .ok (.iadd, 1) := by decide +kernel
theorem d_Mod_put_22 : decode b_Mod_put 22 = .ok (.bipush 40, 2) := by decide +kernel
theorem d_Mod_put_24 : decode b_Mod_put 24 = .ok (.if_icmp .le 7, 3) := by decide +kernel
theorem d_Mod_put_27 : decode b_Mod_put 27 = .ok (.iconst 1, 1) := by decide +kernel
theorem d_Mod_put_28 : decode b_Mod_put 28 = .ok (.goto 4, 3) := by decide +kernel
theorem d_Mod_put_31 : decode b_Mod_put 31 = .ok (.iconst 0, 1) := by decide +kernel
theorem d_Mod_put_32 : decode b_Mod_put 32 = .ok (.invokevirtual 128, 3) := by decide +kernel
theorem d_Mod_put_35 : decode b_Mod_put 35 = .ok (.ifCond .eq 5, 3) := by decide +kernel
theorem d_Mod_put_38 : decode b_Mod_put 38 = .ok (.iconst 0, 1) := by decide +kernel
theorem d_Mod_put_39 : decode b_Mod_put 39 = .ok (.ireturn, 1) := by decide +kernel
theorem d_Mod_put_40 : decode b_Mod_put 40 = .ok (.iconst 0, 1) := by decide +kernel
theorem d_Mod_put_41 : decode b_Mod_put 41 = .ok (.istore_n 3, 1) := by decide +kernel
theorem d_Mod_put_42 : decode b_Mod_put 42 = .ok (.iload_n 3, 1) := by decide +kernel
theorem d_Mod_put_43 : decode b_Mod_put 43 = .ok (.iload_n 1, 1) := by decide +kernel
theorem d_Mod_put_44 : decode b_Mod_put 44 = .ok (.if_icmp .ge 38, 3) := by decide +kernel
theorem d_Mod_put_47 : decode b_Mod_put 47 = .ok (.aload_n 0, 1) := by decide +kernel
theorem d_Mod_put_48 : decode b_Mod_put 48 = .ok (.getfield 13, 3) := by decide +kernel
theorem d_Mod_put_51 : decode b_Mod_put 51 = .ok (.aload_n 0, 1) := by decide +kernel
theorem d_Mod_put_52 : decode b_Mod_put 52 = .ok (.getfield 125, 3) := by decide +kernel
theorem d_Mod_put_55 : decode b_Mod_put 55 = .ok (.iload_n 2, 1) := by decide +kernel
theorem d_Mod_put_56 : decode b_Mod_put 56 = .ok (.bipush 8, 2) := by decide +kernel
theorem d_Mod_put_58 : decode b_Mod_put 58 = .ok (.iload_n 3, 1) := by decide +kernel
theorem d_Mod_put_59 : decode b_Mod_put 59 = .ok (.imul, 1) := by decide +kernel
theorem d_Mod_put_60 : decode b_Mod_put 60 = .ok (.ishr, 1) := by decide +kernel
theorem d_Mod_put_61 : decode b_Mod_put 61 = .ok (.sipush 255, 3) := by decide +kernel
theorem d_Mod_put_64 : decode b_Mod_put 64 = .ok (.iand, 1) := by decide +kernel
theorem d_Mod_put_65 : decode b_Mod_put 65 = .ok (.iastore, 1) := by decide +kernel
theorem d_Mod_put_66 : decode b_Mod_put 66 = .ok (.aload_n 0, 1) := by decide +kernel
theorem d_Mod_put_67 : decode b_Mod_put 67 = .ok (.dup, 1) := by decide +kernel
theorem d_Mod_put_68 : decode b_Mod_put 68 = .ok (.getfield 125, 3) := by decide +kernel
theorem d_Mod_put_71 : decode b_Mod_put 71 = .ok (.iconst 1, 1) := by decide +kernel
theorem d_Mod_put_72 : decode b_Mod_put 72 = .ok (.iadd, 1) := by decide +kernel
theorem d_Mod_put_73 : decode b_Mod_put 73 = .ok (.putfield 125, 3) := by decide +kernel
theorem d_Mod_put_76 : decode b_Mod_put 76 = .ok (.iinc 3 1, 3) := by decide +kernel
theorem d_Mod_put_79 : decode b_Mod_put 79 = .ok (.goto (-37), 3) := by decide +kernel
theorem d_Mod_put_82 : decode b_Mod_put 82 = .ok (.aload_n 0, 1) := by decide +kernel
theorem d_Mod_put_83 : decode b_Mod_put 83 = .ok (.getfield 125, 3) := by decide +kernel
theorem d_Mod_put_86 : decode b_Mod_put 86 = .ok (.ireturn, 1) := by decide +kernel
theorem d_Mod_set_0 : decode b_Mod_set 0 = .ok (.aload_n 0, 1) := by decide +kernel
theorem d_Mod_set_1 : decode b_Mod_set 1 = .ok (.iload_n 1, 1) := by decide +kernel
theorem d_Mod_set_2 : decode b_Mod_set 2 = .ok (.ifCond .lt 10, 3) := by decide +kernel
theorem d_Mod_set_5 : decode b_Mod_set 5 = .ok (.iload_n 1, 1) := by decide +kernel
theorem d_Mod_set_6 : decode b_Mod_set 6 = .ok (.sipush 199, 3) := by decide +kernel
theorem d_Mod_set_9 : decode b_Mod_set 9 = .ok (.if_icmp .le 7, 3) := by decide +kernel
theorem d_Mod_set_12 : decode b_Mod_set 12 = .ok (.iconst 1, 1) := by decide +kernel
theorem d_Mod_set_13 : decode b_Mod_set 13 = .ok (.goto 4, 3) := by decide +kernel
theorem d_Mod_set_16 : decode b_Mod_set 16 = .ok (.iconst 0, 1) := by decide +kernel
theorem d_Mod_set_17 : decode b_Mod_set 17 = .ok (.aload_n 0, 1) := by decide +kernel
theorem d_Mod_set_18 : decode b_Mod_set 18 = .ok (.getfield 132, 3) := by decide +kernel
theorem d_Mod_set_21 : decode b_Mod_set 21 = .ok (.bipush 8, 2) := by decide +kernel
theorem d_Mod_set_23 : decode b_Mod_set 23 = .ok (.if_icmp .ne 7, 3) := by decide +kernel
theorem d_Mod_set_26 : decode b_Mod_set 26 = .ok (.iconst 1, 1) := by decide +kernel
theorem d_Mod_set_27 : decode b_Mod_set 27 = .ok (.goto 4, 3) := by decide +kernel
theorem d_Mod_set_30 : decode b_Mod_set 30 = .ok (.iconst 0, 1) := by decide +kernel
theorem d_Mod_set_31 : decode b_Mod_set 31 = .ok (.invokevirtual 128, 3) := by decide +kernel
theorem d_Mod_set_34 : decode b_Mod_set 34 = .ok (.ifCond .eq 5, 3) := by decide +kernel
theorem d_Mod_set_37 : decode b_Mod_set 37 = .ok (.iconst 0, 1) := by decide +kernel
theorem d_Mod_set_38 : decode b_Mod_set 38 = .ok (.ireturn, 1) := by decide +kernel
theorem d_Mod_set_39 : decode b_Mod_set 39 = .ok (.aload_n 0, 1) := by decide +kernel
theorem d_Mod_set_40 : decode b_Mod_set 40 = .ok (.getfield 16, 3) := by decide +kernel
theorem d_Mod_set_43 : decode b_Mod_set 43 = .ok (.aload_n 0, 1) := by decide +kernel
theorem d_Mod_set_44 : decode b_Mod_set 44 = .ok (.getfield 41, 3) := by decide +kernel
theorem d_Mod_set_47 : decode b_Mod_set 47 = .ok (.iload_n 1, 1) := by decide +kernel
theorem d_Mod_set_48 : decode b_Mod_set 48 = .ok (.iastore, 1) := by decide +kernel
theorem d_Mod_set_49 : decode b_Mod_set 49 = .ok (.aload_n 0, 1) := by decide +kernel
theorem d_Mod_set_50 : decode b_Mod_set 50 = .ok (.getfield 16, 3) := by decide +kernel
theorem d_Mod_set_53 : decode b_Mod_set 53 = .ok (.aload_n 0, 1) := by decide +kernel
theorem d_Mod_set_54 : decode b_Mod_set 54 = .ok (.getfield 41, 3) := by decide +kernel
theorem d_Mod_set_57 : decode b_Mod_set 57 = .ok (.iconst 1, 1) := by decide +kernel
theorem d_Mod_set_58 : decode b_Mod_set 58 = .ok (.iadd, 1) := by decide +kernel
theorem d_Mod_set_59 : decode b_Mod_set 59 = .ok (.aload_n 0, 1) := by decide +kernel
theorem d_Mod_set_60 : decode b_Mod_set 60 = .ok (.getfield 125, 3) := by decide +kernel
theorem d_Mod_set_63 : decode b_Mod_set 63 = .ok (.iastore, 1) := by decide +kernel
theorem d_Mod_set_64 : decode b_Mod_set 64 = .ok (.iconst 0, 1) := by decide +kernel
theorem d_Mod_set_65 : decode b_Mod_set 65 = .ok (.istore_n 2, 1) := by decide +kernel
theorem d_Mod_set_66 : decode b_Mod_set 66 = .ok (.iload_n 2, 1) := by decide +kernel
theorem d_Mod_set_67 : decode b_Mod_set 67 = .ok (.aload_n 0, 1) := by decide +kernel
theorem d_Mod_set_68 : decode b_Mod_set 68 = .ok (.getfield 125, 3) := by decide +kernel
theorem d_Mod_set_71 : decode b_Mod_set 71 = .ok (.if_icmp .ge 28, 3) := by decide +kernel
theorem d_Mod_set_74 : decode b_Mod_set 74 = .ok (.aload_n 0, 1) := by decide +kernel
theorem d_Mod_set_75 : decode b_Mod_set 75 = .ok (.getfield 16, 3) := by decide +kernel
theorem d_Mod_set_78 : decode b_Mod_set 78 = .ok (.aload_n 0, 1) := by decide +kernel
theorem d_Mod_set_79 : decode b_Mod_set 79 = .ok (.getfield 41, 3) := by decide +kernel
theorem d_Mod_set_82 : decode b_Mod_set 82 = .ok (.iconst 2, 1) := by decide +kernel
theorem d_Mod_set_83 : decode b_Mod_set 83 = .ok (.iadd, 1) := by decide +kernel
theorem d_Mod_set_84 : decode b_Mod_set 84 = .ok (.iload_n 2, 1) := by decide +kernel
theorem d_Mod_set_85 : decode b_Mod_set 85 = .ok (.iadd, 1) := by decide +kernel
theorem d_Mod_set_86 : decode b_Mod_set 86 = .ok (.aload_n 0, 1) := by decide +kernel
theorem d_Mod_set_87 : decode b_Mod_set 87 = .ok (.getfield 13, 3) := by decide +kernel
theorem d_Mod_set_90 : decode b_Mod_set 90 = .ok (.iload_n 2, 1) := by decide +kernel
theorem d_Mod_set_91 : decode b_Mod_set 91 = .ok (.iaload, 1) := by decide +kernel
theorem d_Mod_set_92 : decode b_Mod_set 92 = .ok (.iastore, 1) := by decide +kernel
theorem d_Mod_set_93 : decode b_Mod_set 93 = .ok (.iinc 2 1, 3) := by decide +kernel
theorem d_Mod_set_96 : decode b_Mod_set 96 = .ok (.goto (-30), 3) := by decide +kernel
theorem d_Mod_set_99 : decode b_Mod_set 99 = .ok (.aload_n 0, 1) := by decide +kernel
theorem d_Mod_set_100 : decode b_Mod_set 100 = .ok (.dup, 1) := by decide +kernel
theorem d_Mod_set_101 : decode b_Mod_set 101 = .ok (.getfield 41, 3) := by decide +kernel
theorem d_Mod_set_104 : decode b_Mod_set 104 = .ok (.iconst 2, 1) := by decide +kernel
theorem d_Mod_set_105 : decode b_Mod_set 105 = .ok (.aload_n 0, 1) := by decide +kernel
theorem d_Mod_set_106 : decode b_Mod_set 106 = .ok (.getfield 125, 3) := by decide +kernel
theorem d_Mod_set_109 : decode b_Mod_set 109 = .ok (.iadd, 1) := by decide +kernel
theorem d_Mod_set_110 : decode b_Mod_set 110 = .ok (.iadd, 1) := by decide +kernel
theorem d_Mod_set_111 : decode b_Mod_set 111 = .ok (.putfield 41, 3) := by decide +kernel
theorem d_Mod_set_114 : decode b_Mod_set 114 = .ok (.aload_n 0, 1) := by decide +kernel
theorem d_Mod_set_115 : decode b_Mod_set 115 = .ok (.iconst 0, 1) := by decide +kernel
theorem d_Mod_set_116 : decode b_Mod_set 116 = .ok (.putfield 125, 3) := by decide +kernel
theorem d_Mod_set_119 : decode b_Mod_set 119 = .ok (.aload_n 0, 1) := by decide +kernel
theorem d_Mod_set_120 : decode b_Mod_set 120 = .ok (.dup, 1) := by decide +kernel
theorem d_Mod_set_121 : decode b_Mod_set 121 = .ok (.getfield 132, 3) := by decide +kernel
theorem d_Mod_set_124 : decode b_Mod_set 124 = .ok (.iconst 1, 1) := by decide +kernel
theorem d_Mod_set_125 : decode b_Mod_set 125 = .ok (.iadd, 1) := by decide +kernel
theorem d_Mod_set_126 : decode b_Mod_set 126 = .ok (.putfield 132, 3) := by decide +kernel
theorem d_Mod_set_129 : decode b_Mod_set 129 = .ok (.aload_n 0, 1) := by decide +kernel
theorem d_Mod_set_130 : decode b_Mod_set 130 = .ok (.getfield 16, 3) := by decide +kernel
theorem d_Mod_set_133 : decode b_Mod_set 133 = .ok (.iconst 0, 1) := by decide +kernel
theorem d_Mod_set_134 : decode b_Mod_set 134 = .ok (.aload_n 0, 1) := by decide +kernel
theorem d_Mod_set_135 : decode b_Mod_set 135 = .ok (.getfield 132, 3) := by decide +kernel
theorem d_Mod_set_138 : decode b_Mod_set 138 = .ok (.iastore, 1) := by decide +kernel
theorem d_Mod_set_139 : decode b_Mod_set 139 = .ok (.aload_n 0, 1) := by decide +kernel
theorem d_Mod_set_140 : decode b_Mod_set 140 = .ok (.getfield 132, 3) := by decide +kernel
theorem d_Mod_set_143 : decode b_Mod_set 143 = .ok (.ireturn, 1) := by decide +kernel
theorem d_Mod_drop_0 : decode b_Mod_drop 0 = .ok (.aload_n 0, 1) := by decide +kernel
theorem d_Mod_drop_1 : decode b_Mod_drop 1 = .ok (.iload_n 1, 1) := by decide +kernel
theorem d_Mod_drop_2 : decode b_Mod_drop 2 = .ok (.ifCond .lt 10, 3) := by decide +kernel
theorem d_Mod_drop_5 : decode b_Mod_drop 5 = .ok (.iload_n 1, 1) := by decide +kernel
theorem d_Mod_drop_6 : decode b_Mod_drop 6 = .ok (.sipush 199, 3) := by decide +kernel
theorem d_Mod_drop_9 : decode b_Mod_drop 9 = .ok (.if_icmp .le 7, 3) := by decide +kernel
theorem d_Mod_drop_12 : decode b_Mod_drop 12 = .ok (.iconst 1, 1) := by decide +kernel
theorem d_Mod_drop_13 : decode b_Mod_drop 13 = .ok (.goto 4, 3) := by decide +kernel
theorem d_Mod_drop_16 : decode b_Mod_drop 16 = .ok (.iconst 0, 1) := by decide +kernel
theorem d_Mod_drop_17 : decode b_Mod_drop 17 = .ok (.aload_n 0, 1) := by decide +kernel
theorem d_Mod_drop_18 : decode b_Mod_drop 18 = .ok (.getfield 132, 3) := by decide +kernel
theorem d_Mod_drop_21 : decode b_Mod_drop 21 = .ok (.bipush 8, 2) := by decide +kernel
theorem d_Mod_drop_23 : decode b_Mod_drop 23 = .ok (.if_icmp .ne 7, 3) := by decide +kernel
theorem d_Mod_drop_26 : decode b_Mod_drop 26 = .ok (.iconst 1, 1) := by decide +kernel
theorem d_Mod_drop_27 : decode b_Mod_drop 27 = .ok (.goto 4, 3) := by decide +kernel
theorem d_Mod_drop_30 : decode b_Mod_drop 30 = .ok (.iconst 0, 1) := by decide +kernel
theorem d_Mod_drop_31 : decode b_Mod_drop 31 = .ok (.invokevirtual 128, 3) := by decide +kernel
theorem d_Mod_drop_34 : decode b_Mod_drop 34 = .ok (.ifCond .eq 5, 3) := by decide +kernel
theorem d_Mod_drop_37 : decode b_Mod_drop 37 = .ok (.iconst 0, 1) := by decide +kernel
theorem d_Mod_drop_38 : decode b_Mod_drop 38 = .ok (.ireturn, 1) := by decide +kernel
theorem d_Mod_drop_39 : decode b_Mod_drop 39 = .ok (.aload_n 0, 1) := by decide +kernel
theorem d_Mod_drop_40 : decode b_Mod_drop 40 = .ok (.getfield 16, 3) := by decide +kernel
theorem d_Mod_drop_43 : decode b_Mod_drop 43 = .ok (.aload_n 0, 1) := by decide +kernel
theorem d_Mod_drop_44 : decode b_Mod_drop 44 = .ok (.getfield 41, 3) := by decide +kernel
theorem d_Mod_drop_47 : decode b_Mod_drop 47 = .ok (.iload_n 1, 1) := by decide +kernel
theorem d_Mod_drop_48 : decode b_Mod_drop 48 = .ok (.iastore, 1) := by decide +kernel
theorem d_Mod_drop_49 : decode b_Mod_drop 49 = .ok (.aload_n 0, 1) := by decide +kernel
theorem d_Mod_drop_50 : decode b_Mod_drop 50 = .ok (.getfield 16, 3) := by decide +kernel
theorem d_Mod_drop_53 : decode b_Mod_drop 53 = .ok (.aload_n 0, 1) := by decide +kernel
theorem d_Mod_drop_54 : decode b_Mod_drop 54 = .ok (.getfield 41, 3) := by decide +kernel
theorem d_Mod_drop_57 : decode b_Mod_drop 57 = .ok (.iconst 1, 1) := by decide +kernel
theorem d_Mod_drop_58 : decode b_Mod_drop 58 = .ok (.iadd, 1) := by decide +kernel
theorem d_Mod_drop_59 : decode b_Mod_drop 59 = .ok (.sipush 255, 3) := by decide +kernel
theorem d_Mod_drop_62 : decode b_Mod_drop 62 = .ok (.iastore, 1) := by decide +kernel
theorem d_Mod_drop_63 : decode b_Mod_drop 63 = .ok (.aload_n 0, 1) := by decide +kernel
theorem d_Mod_drop_64 : decode b_Mod_drop 64 = .ok (.dup, 1) := by decide +kernel
theorem d_Mod_drop_65 : decode b_Mod_drop 65 = .ok (.getfield 41, 3) := by decide +kernel
theorem d_Mod_drop_68 : decode b_Mod_drop 68 = .ok (.iconst 2, 1) := by decide +kernel
theorem d_Mod_drop_69 : decode b_Mod_drop 69 = .ok (.iadd, 1) := by decide +kernel
theorem d_Mod_drop_70 : decode b_Mod_drop 70 = .ok (.putfield 41, 3) := by decide +kernel
theorem d_Mod_drop_73 : decode b_Mod_drop 73 = .ok (.aload_n 0, 1) := by decide +kernel
theorem d_Mod_drop_74 : decode b_Mod_drop 74 = .ok (.dup, 1) := by decide +kernel
theorem d_Mod_drop_75 : decode b_Mod_drop 75 = .ok (.getfield 132, 3) := by decide +kernel
theorem d_Mod_drop_78 : decode b_Mod_drop 78 = .ok (.iconst 1, 1) := by decide +kernel
theorem d_Mod_drop_79 : decode b_Mod_drop 79 = .ok (.iadd, 1) := by decide +kernel
theorem d_Mod_drop_80 : decode b_Mod_drop 80 = .ok (.putfield 132, 3) := by decide +kernel
theorem d_Mod_drop_83 : decode b_Mod_drop 83 = .ok (.aload_n 0, 1) := by decide +kernel
theorem d_Mod_drop_84 : decode b_Mod_drop 84 = .ok (.getfield 16, 3) := by decide +kernel
theorem d_Mod_drop_87 : decode b_Mod_drop 87 = .ok (.iconst 0, 1) := by decide +kernel
theorem d_Mod_drop_88 : decode b_Mod_drop 88 = .ok (.aload_n 0, 1) := by decide +kernel
theorem d_Mod_drop_89 : decode b_Mod_drop 89 = .ok (.getfield 132, 3) := by decide +kernel
theorem d_Mod_drop_92 : decode b_Mod_drop 92 = .ok (.iastore, 1) := by decide +kernel
theorem d_Mod_drop_93 : decode b_Mod_drop 93 = .ok (.aload_n 0, 1) := by decide +kernel
theorem d_Mod_drop_94 : decode b_Mod_drop 94 = .ok (.getfield 132, 3) := by decide +kernel
theorem d_Mod_drop_97 : decode b_Mod_drop 97 = .ok (.ireturn, 1) := by decide +kernel
theorem d_Mod_emptyBatch_0 : decode b_Mod_emptyBatch 0 = .ok (.aload_n 0, 1) := by decide +kernel
theorem d_Mod_emptyBatch_1 : decode b_Mod_emptyBatch 1 = .ok (.iconst 1, 1) := by decide +kernel
theorem d_Mod_emptyBatch_2 : decode b_Mod_emptyBatch 2 = .ok (.putfield 41, 3) := by decide +kernel
theorem d_Mod_emptyBatch_5 : decode b_Mod_emptyBatch 5 = .ok (.aload_n 0, 1) := by decide +kernel
theorem d_Mod_emptyBatch_6 : decode b_Mod_emptyBatch 6 = .ok (.iconst 0, 1) := by decide +kernel
theorem d_Mod_emptyBatch_7 : decode b_Mod_emptyBatch 7 = .ok (.putfield 132, 3) := by decide +kernel
theorem d_Mod_emptyBatch_10 : decode b_Mod_emptyBatch 10 = .ok (.return_, 1) := by decide +kernel
theorem d_Mod_forget_0 : decode b_Mod_forget 0 = .ok (.aload_n 0, 1) := by decide +kernel
theorem d_Mod_forget_1 : decode b_Mod_forget 1 = .ok (.iconst 0, 1) := by decide +kernel
theorem d_Mod_forget_2 : decode b_Mod_forget 2 = .ok (.putfield 48, 3) := by decide +kernel
theorem d_Mod_forget_5 : decode b_Mod_forget 5 = .ok (.aload_n 0, 1) := by decide +kernel
theorem d_Mod_forget_6 : decode b_Mod_forget 6 = .ok (.invokevirtual 135, 3) := by decide +kernel
theorem d_Mod_forget_9 : decode b_Mod_forget 9 = .ok (.aload_n 0, 1) := by decide +kernel
theorem d_Mod_forget_10 : decode b_Mod_forget 10 = .ok (.iconst 0, 1) := by decide +kernel
theorem d_Mod_forget_11 : decode b_Mod_forget 11 = .ok (.putfield 125, 3) := by decide +kernel
theorem d_Mod_forget_14 : decode b_Mod_forget 14 = .ok (.return_, 1) := by decide +kernel
theorem d_Mod_commit_0 : decode b_Mod_commit 0 = .ok (.aload_n 0, 1) := by decide +kernel
theorem d_Mod_commit_1 : decode b_Mod_commit 1 = .ok (.getfield 132, 3) := by decide +kernel
theorem d_Mod_commit_4 : decode b_Mod_commit 4 = .ok (.ifCond .ne 10, 3) := by decide +kernel
theorem d_Mod_commit_7 : decode b_Mod_commit 7 = .ok (.aload_n 0, 1) := by decide +kernel
theorem d_Mod_commit_8 : decode b_Mod_commit 8 = .ok (.iconst 0, 1) := by decide +kernel
theorem d_Mod_commit_9 : decode b_Mod_commit 9 = .ok (.putfield 48, 3) := by decide +kernel
theorem d_Mod_commit_12 : decode b_Mod_commit 12 = .ok (.iconst 0, 1) := by decide +kernel
theorem d_Mod_commit_13 : decode b_Mod_commit 13 = .ok (.ireturn, 1) := by decide +kernel
theorem d_Mod_commit_14 : decode b_Mod_commit 14 = .ok (.aload_n 0, 1) := by decide +kernel
theorem d_Mod_commit_15 : decode b_Mod_commit 15 = .ok (.aload_n 0, 1) := by decide +kernel
theorem d_Mod_commit_16 : decode b_Mod_commit 16 = .ok (.invokevirtual 138, 3) := by decide +kernel
theorem d_Mod_commit_19 : decode b_Mod_commit 19 = .ok (.ifCond .ne 7, 3) := by decide +kernel
theorem d_Mod_commit_22 : decode b_Mod_commit 22 = .ok (.iconst 1, 1) := by decide +kernel
theorem d_Mod_commit_23 : decode b_Mod_commit 23 = .ok (.goto 4, 3) := by decide +kernel
theorem d_Mod_commit_26 : decode b_Mod_commit 26 = .ok (.iconst 0, 1) := by decide +kernel
theorem d_Mod_commit_27 : decode b_Mod_commit 27 = .ok (.iconst 0, 1) := by decide +kernel
theorem d_Mod_commit_28 : decode b_Mod_commit 28 = .ok (.invokevirtual 128, 3) := by decide +kernel
theorem d_Mod_commit_31 : decode b_Mod_commit 31 = .ok (.ifCond .eq 5, 3) := by decide +kernel
theorem d_Mod_commit_34 : decode b_Mod_commit 34 = .ok (.iconst 0, 1) := by decide +kernel
theorem d_Mod_commit_35 : decode b_Mod_commit 35 = .ok (.ireturn, 1) := by decide +kernel
theorem d_Mod_commit_36 : decode b_Mod_commit 36 = .ok (.iconst 0, 1) := by decide +kernel
theorem d_Mod_commit_37 : decode b_Mod_commit 37 = .ok (.istore_n 1, 1) := by decide +kernel
theorem d_Mod_commit_38 : decode b_Mod_commit 38 = .ok (.iload_n 1, 1) := by decide +kernel
theorem d_Mod_commit_39 : decode b_Mod_commit 39 = .ok (.aload_n 0, 1) := by decide +kernel
theorem d_Mod_commit_40 : decode b_Mod_commit 40 = .ok (.getfield 88, 3) := by decide +kernel
theorem d_Mod_commit_43 : decode b_Mod_commit 43 = .ok (.if_icmp .ge 16, 3) := by decide +kernel
theorem d_Mod_commit_46 : decode b_Mod_commit 46 = .ok (.aload_n 0, 1) := by decide +kernel
theorem d_Mod_commit_47 : decode b_Mod_commit 47 = .ok (.iload_n 1, 1) := by decide +kernel
theorem d_Mod_commit_48 : decode b_Mod_commit 48 = .ok (.bipush 32, 2) := by decide +kernel
theorem d_Mod_commit_50 : decode b_Mod_commit 50 = .ok (.invokevirtual 142, 3) := by decide +kernel
theorem d_Mod_commit_53 : decode b_Mod_commit 53 = .ok (.iinc 1 1, 3) := by decide +kernel
theorem d_Mod_commit_56 : decode b_Mod_commit 56 = .ok (.goto (-18), 3) := by decide +kernel
theorem d_Mod_commit_59 : decode b_Mod_commit 59 = .ok (.aload_n 0, 1) := by decide +kernel
theorem d_Mod_commit_60 : decode b_Mod_commit 60 = .ok (.invokevirtual 135, 3) := by decide +kernel
theorem d_Mod_commit_63 : decode b_Mod_commit 63 = .ok (.aload_n 0, 1) := by decide +kernel
theorem d_Mod_commit_64 : decode b_Mod_commit 64 = .ok (.invokevirtual 45, 3) := by decide +kernel
theorem d_Mod_commit_67 : decode b_Mod_commit 67 = .ok (.aload_n 0, 1) := by decide +kernel
theorem d_Mod_commit_68 : decode b_Mod_commit 68 = .ok (.getfield 88, 3) := by decide +kernel
theorem d_Mod_commit_71 : decode b_Mod_commit 71 = .ok (.ireturn, 1) := by decide +kernel
theorem d_Mod_crash_0 : decode b_Mod_crash 0 = .ok (.aload_n 0, 1) := by decide +kernel
theorem d_Mod_crash_1 : decode b_Mod_crash 1 = .ok (.iload_n 1, 1) := by decide +kernel
theorem d_Mod_crash_2 : decode b_Mod_crash 2 = .ok (.ifCond .lt 13, 3) := by decide +kernel
theorem d_Mod_crash_5 : decode b_Mod_crash 5 = .ok (.iload_n 2, 1) := by decide +kernel
theorem d_Mod_crash_6 : decode b_Mod_crash 6 = .ok (.ifCond .lt 9, 3) := by decide +kernel
theorem d_Mod_crash_9 : decode b_Mod_crash 9 = .ok (.iload_n 2, 1) := by decide +kernel
theorem d_Mod_crash_10 : decode b_Mod_crash 10 = .ok (.bipush 31, 2) := by decide +kernel
theorem d_Mod_crash_12 : decode b_Mod_crash 12 = .ok (.if_icmp .le 7, 3) := by decide +kernel
theorem d_Mod_crash_15 : decode b_Mod_crash 15 = .ok (.iconst 1, 1) := by decide +kernel
theorem d_Mod_crash_16 : decode b_Mod_crash 16 = .ok (.goto 4, 3) := by decide +kernel
theorem d_Mod_crash_19 : decode b_Mod_crash 19 = .ok (.iconst 0, 1) := by decide +kernel
theorem d_Mod_crash_20 : decode b_Mod_crash 20 = .ok (.iconst 0, 1) := by decide +kernel
theorem d_Mod_crash_21 : decode b_Mod_crash 21 = .ok (.invokevirtual 128, 3) := by decide +kernel
theorem d_Mod_crash_24 : decode b_Mod_crash 24 = .ok (.ifCond .eq 5, 3) := by decide +kernel
theorem d_Mod_crash_27 : decode b_Mod_crash 27 = .ok (.iconst 0, 1) := by decide +kernel
theorem d_Mod_crash_28 : decode b_Mod_crash 28 = .ok (.ireturn, 1) := by decide +kernel
theorem d_Mod_crash_29 : decode b_Mod_crash 29 = .ok (.aload_n 0, 1) := by decide +kernel
theorem d_Mod_crash_30 : decode b_Mod_crash 30 = .ok (.iconst 0, 1) := by decide +kernel
theorem d_Mod_crash_31 : decode b_Mod_crash 31 = .ok (.aload_n 0, 1) := by decide +kernel
theorem d_Mod_crash_32 : decode b_Mod_crash 32 = .ok (.getfield 132, 3) := by decide +kernel
theorem d_Mod_crash_35 : decode b_Mod_crash 35 = .ok (.ifCond .eq 10, 3) := by decide +kernel
theorem d_Mod_crash_38 : decode b_Mod_crash 38 = .ok (.aload_n 0, 1) := by decide +kernel
theorem d_Mod_crash_39 : decode b_Mod_crash 39 = .ok (.invokevirtual 138, 3) := by decide +kernel
theorem d_Mod_crash_42 : decode b_Mod_crash 42 = .ok (.ifCond .ne 7, 3) := by decide +kernel
theorem d_Mod_crash_45 : decode b_Mod_crash 45 = .ok (.iconst 1, 1) := by decide +kernel
theorem d_Mod_crash_46 : decode b_Mod_crash 46 = .ok (.goto 4, 3) := by decide +kernel
theorem d_Mod_crash_49 : decode b_Mod_crash 49 = .ok (.iconst 0, 1) := by decide +kernel
theorem d_Mod_crash_50 : decode b_Mod_crash 50 = .ok (.invokevirtual 128, 3) := by decide +kernel
theorem d_Mod_crash_53 : decode b_Mod_crash 53 = .ok (.ifCond .eq 5, 3) := by decide +kernel
theorem d_Mod_crash_56 : decode b_Mod_crash 56 = .ok (.iconst 0, 1) := by decide +kernel
theorem d_Mod_crash_57 : decode b_Mod_crash 57 = .ok (.ireturn, 1) := by decide +kernel
theorem d_Mod_crash_58 : decode b_Mod_crash 58 = .ok (.iconst 0, 1) := by decide +kernel
theorem d_Mod_crash_59 : decode b_Mod_crash 59 = .ok (.istore_n 3, 1) := by decide +kernel
theorem d_Mod_crash_60 : decode b_Mod_crash 60 = .ok (.iload_n 3, 1) := by decide +kernel
theorem d_Mod_crash_61 : decode b_Mod_crash 61 = .ok (.aload_n 0, 1) := by decide +kernel
theorem d_Mod_crash_62 : decode b_Mod_crash 62 = .ok (.getfield 88, 3) := by decide +kernel
theorem d_Mod_crash_65 : decode b_Mod_crash 65 = .ok (.if_icmp .ge 30, 3) := by decide +kernel
theorem d_Mod_crash_68 : decode b_Mod_crash 68 = .ok (.iload_n 3, 1) := by decide +kernel
theorem d_Mod_crash_69 : decode b_Mod_crash 69 = .ok (.iload_n 1, 1) := by decide +kernel
theorem d_Mod_crash_70 : decode b_Mod_crash 70 = .ok (.if_icmp .gt 25, 3) := by decide +kernel
theorem d_Mod_crash_73 : decode b_Mod_crash 73 = .ok (.aload_n 0, 1) := by decide +kernel
theorem d_Mod_crash_74 : decode b_Mod_crash 74 = .ok (.iload_n 3, 1) := by decide +kernel
theorem d_Mod_crash_75 : decode b_Mod_crash 75 = .ok (.iload_n 3, 1) := by decide +kernel
theorem d_Mod_crash_76 : decode b_Mod_crash 76 = .ok (.iload_n 1, 1) := by decide +kernel
theorem d_Mod_crash_77 : decode b_Mod_crash 77 = .ok (.if_icmp .ge 8, 3) := by decide +kernel
theorem d_Mod_crash_80 : decode b_Mod_crash 80 = .ok (.bipush 32, 2) := by decide +kernel
theorem d_Mod_crash_82 : decode b_Mod_crash 82 = .ok (.goto 4, 3) := by decide +kernel
theorem d_Mod_crash_85 : decode b_Mod_crash 85 = .ok (.iload_n 2, 1) := by decide +kernel
theorem d_Mod_crash_86 : decode b_Mod_crash 86 = .ok (.invokevirtual 142, 3) := by decide +kernel
theorem d_Mod_crash_89 : decode b_Mod_crash 89 = .ok (.iinc 3 1, 3) := by decide +kernel
theorem d_Mod_crash_92 : decode b_Mod_crash 92 = .ok (.goto (-32), 3) := by decide +kernel
theorem d_Mod_crash_95 : decode b_Mod_crash 95 = .ok (.iconst 1, 1) := by decide +kernel
theorem d_Mod_crash_96 : decode b_Mod_crash 96 = .ok (.istore_n 3, 1) := by decide +kernel
theorem d_Mod_crash_97 : decode b_Mod_crash 97 = .ok (.iconst 0, 1) := by decide +kernel
theorem d_Mod_crash_98 : decode b_Mod_crash 98 = .ok (.istore 4, 2) := by decide +kernel
theorem d_Mod_crash_100 : decode b_Mod_crash 100 = .ok (.iload 4, 2) := by decide +kernel
theorem d_Mod_crash_102 : decode b_Mod_crash 102 = .ok (.aload_n 0, 1) := by decide +kernel
theorem d_Mod_crash_103 : decode b_Mod_crash 103 = .ok (.getfield 88, 3) := by decide +kernel
theorem d_Mod_crash_106 : decode b_Mod_crash 106 = .ok (.if_icmp .ge 65, 3) := by decide +kernel
theorem d_Mod_crash_109 : decode b_Mod_crash 109 = .ok (.iconst 0, 1) := by decide +kernel
theorem d_Mod_crash_110 : decode b_Mod_crash 110 = .ok (.istore 5, 2) := by decide +kernel
theorem d_Mod_crash_112 : decode b_Mod_crash 112 = .ok (.iload 5, 2) := by decide +kernel
theorem d_Mod_crash_114 : decode b_Mod_crash 114 = .ok (.bipush 32, 2) := by decide +kernel
theorem d_Mod_crash_116 : decode b_Mod_crash 116 = .ok (.if_icmp .ge 49, 3) := by decide +kernel
theorem d_Mod_crash_119 : decode b_Mod_crash 119 = .ok (.aload_n 0, 1) := by decide +kernel
theorem d_Mod_crash_120 : decode b_Mod_crash 120 = .ok (.getfield 7, 3) := by decide +kernel
theorem d_Mod_crash_123 : decode b_Mod_crash 123 = .ok (.bipush 32, 2) := by decide +kernel
theorem d_Mod_crash_125 : decode b_Mod_crash 125 = .ok (.aload_n 0, 1) := by decide +kernel
theorem d_Mod_crash_126 : decode b_Mod_crash 126 = .ok (.getfield 28, 3) := by decide +kernel
theorem d_Mod_crash_129 : decode b_Mod_crash 129 = .ok (.iload 4, 2) := by decide +kernel
theorem d_Mod_crash_131 : decode b_Mod_crash 131 = .ok (.iaload, 1) := by decide +kernel
theorem d_Mod_crash_132 : decode b_Mod_crash 132 = .ok (.imul, 1) := by decide +kernel
theorem d_Mod_crash_133 : decode b_Mod_crash 133 = .ok (.iload 5, 2) := by decide +kernel
theorem d_Mod_crash_135 : decode b_Mod_crash 135 = .ok (.iadd, 1) := by decide +kernel
theorem d_Mod_crash_136 : decode b_Mod_crash 136 = .ok (.iaload, 1) := by decide +kernel
theorem d_Mod_crash_137 : decode b_Mod_crash 137 = .ok (.aload_n 0, 1) := by decide +kernel
theorem d_Mod_crash_138 : decode b_Mod_crash 138 = .ok (.getfield 31, 3) := by decide +kernel
theorem d_Mod_crash_141 : decode b_Mod_crash 141 = .ok (.bipush 32, 2) := by decide +kernel
theorem d_Mod_crash_143 : decode b_Mod_crash 143 = .ok (.iload 4, 2) := by decide +kernel
theorem d_Mod_crash_145 : decode b_Mod_crash 145 = .ok (.imul, 1) := by decide +kernel
theorem d_Mod_crash_146 : decode b_Mod_crash 146 = .ok (.iload 5, 2) := by decide +kernel
theorem d_Mod_crash_148 : decode b_Mod_crash 148 = .ok (.iadd, 1) := by decide +kernel
theorem d_Mod_crash_149 : decode b_Mod_crash 149 = .ok (.iaload, 1) := by decide +kernel
theorem d_Mod_crash_150 : decode b_Mod_crash 150 = .ok (.if_icmp .ne 7, 3) := by decide +kernel
theorem d_Mod_crash_153 : decode b_Mod_crash 153 = .ok (.iload_n 3, 1) := by decide +kernel
theorem d_Mod_crash_154 : decode b_Mod_crash 154 = .ok (.goto 4, 3) := by decide +kernel
theorem d_Mod_crash_157 : decode b_Mod_crash 157 = .ok (.iconst 0, 1) := by decide +kernel
theorem d_Mod_crash_158 : decode b_Mod_crash 158 = .ok (.istore_n 3, 1) := by decide +kernel
theorem d_Mod_crash_159 : decode b_Mod_crash 159 = .ok (.iinc 5 1, 3) := by decide +kernel
theorem d_Mod_crash_162 : decode b_Mod_crash 162 = .ok (.goto (-50), 3) := by decide +kernel
theorem d_Mod_crash_165 : decode b_Mod_crash 165 = .ok (.iinc 4 1, 3) := by decide +kernel
theorem d_Mod_crash_168 : decode b_Mod_crash 168 = .ok (.goto (-68), 3) := by decide +kernel
theorem d_Mod_crash_171 : decode b_Mod_crash 171 = .ok (.aload_n 0, 1) := by decide +kernel
theorem d_Mod_crash_172 : decode b_Mod_crash 172 = .ok (.invokevirtual 146, 3) := by decide +kernel
theorem d_Mod_crash_175 : decode b_Mod_crash 175 = .ok (.aload_n 0, 1) := by decide +kernel
theorem d_Mod_crash_176 : decode b_Mod_crash 176 = .ok (.invokevirtual 45, 3) := by decide +kernel
theorem d_Mod_crash_179 : decode b_Mod_crash 179 = .ok (.iload_n 3, 1) := by decide +kernel
theorem d_Mod_crash_180 : decode b_Mod_crash 180 = .ok (.ireturn, 1) := by decide +kernel
theorem d_Mod_spoil_0 : decode b_Mod_spoil 0 = .ok (.aload_n 0, 1) := by decide +kernel
theorem d_Mod_spoil_1 : decode b_Mod_spoil 1 = .ok (.iload_n 1, 1) := by decide +kernel
theorem d_Mod_spoil_2 : decode b_Mod_spoil 2 = .ok (.ifCond .lt 10, 3) := by decide +kernel
theorem d_Mod_spoil_5 : decode b_Mod_spoil 5 = .ok (.iload_n 1, 1) := by decide +kernel
theorem d_Mod_spoil_6 : decode b_Mod_spoil 6 = .ok (.sipush 6144, 3) := by decide +kernel
theorem d_Mod_spoil_9 : decode b_Mod_spoil 9 = .ok (.if_icmp .lt 7, 3) := by decide +kernel
theorem d_Mod_spoil_12 : decode b_Mod_spoil 12 = .ok (.iconst 1, 1) := by decide +kernel
theorem d_Mod_spoil_13 : decode b_Mod_spoil 13 = .ok (.goto 4, 3) := by decide +kernel
theorem d_Mod_spoil_16 : decode b_Mod_spoil 16 = .ok (.iconst 0, 1) := by decide +kernel
theorem d_Mod_spoil_17 : decode b_Mod_spoil 17 = .ok (.iconst 0, 1) := by decide +kernel
theorem d_Mod_spoil_18 : decode b_Mod_spoil 18 = .ok (.invokevirtual 128, 3) := by decide +kernel
theorem d_Mod_spoil_21 : decode b_Mod_spoil 21 = .ok (.ifCond .eq 4, 3) := by decide +kernel
theorem d_Mod_spoil_24 : decode b_Mod_spoil 24 = .ok (.return_, 1) := by decide +kernel
theorem d_Mod_spoil_25 : decode b_Mod_spoil 25 = .ok (.aload_n 0, 1) := by decide +kernel
theorem d_Mod_spoil_26 : decode b_Mod_spoil 26 = .ok (.getfield 7, 3) := by decide +kernel
theorem d_Mod_spoil_29 : decode b_Mod_spoil 29 = .ok (.iload_n 1, 1) := by decide +kernel
theorem d_Mod_spoil_30 : decode b_Mod_spoil 30 = .ok (.iload_n 2, 1) := by decide +kernel
theorem d_Mod_spoil_31 : decode b_Mod_spoil 31 = .ok (.sipush 255, 3) := by decide +kernel
theorem d_Mod_spoil_34 : decode b_Mod_spoil 34 = .ok (.iand, 1) := by decide +kernel
theorem d_Mod_spoil_35 : decode b_Mod_spoil 35 = .ok (.iastore, 1) := by decide +kernel
theorem d_Mod_spoil_36 : decode b_Mod_spoil 36 = .ok (.aload_n 0, 1) := by decide +kernel
theorem d_Mod_spoil_37 : decode b_Mod_spoil 37 = .ok (.invokevirtual 45, 3) := by decide +kernel
theorem d_Mod_spoil_40 : decode b_Mod_spoil 40 = .ok (.return_, 1) := by decide +kernel
theorem d_Mod_size_0 : decode b_Mod_size 0 = .ok (.aload_n 0, 1) := by decide +kernel
theorem d_Mod_size_1 : decode b_Mod_size 1 = .ok (.iload_n 1, 1) := by decide +kernel
theorem d_Mod_size_2 : decode b_Mod_size 2 = .ok (.ifCond .lt 10, 3) := by decide +kernel
theorem d_Mod_size_5 : decode b_Mod_size 5 = .ok (.iload_n 1, 1) := by decide +kernel
theorem d_Mod_size_6 : decode b_Mod_size 6 = .ok (.sipush 199, 3) := by decide +kernel
theorem d_Mod_size_9 : decode b_Mod_size 9 = .ok (.if_icmp .le 7, 3) := by decide +kernel
theorem d_Mod_size_12 : decode b_Mod_size 12 = .ok (.iconst 1, 1) := by decide +kernel
theorem d_Mod_size_13 : decode b_Mod_size 13 = .ok (.goto 4, 3) := by decide +kernel
theorem d_Mod_size_16 : decode b_Mod_size 16 = .ok (.iconst 0, 1) := by decide +kernel
theorem d_Mod_size_17 : decode b_Mod_size 17 = .ok (.iconst 0, 1) := by decide +kernel
theorem d_Mod_size_18 : decode b_Mod_size 18 = .ok (.invokevirtual 128, 3) := by decide +kernel
theorem d_Mod_size_21 : decode b_Mod_size 21 = .ok (.ifCond .eq 5, 3) := by decide +kernel
theorem d_Mod_size_24 : decode b_Mod_size 24 = .ok (.iconst 0, 1) := by decide +kernel
theorem d_Mod_size_25 : decode b_Mod_size 25 = .ok (.ireturn, 1) := by decide +kernel
theorem d_Mod_size_26 : decode b_Mod_size 26 = .ok (.aload_n 0, 1) := by decide +kernel
theorem d_Mod_size_27 : decode b_Mod_size 27 = .ok (.getfield 19, 3) := by decide +kernel
theorem d_Mod_size_30 : decode b_Mod_size 30 = .ok (.iload_n 1, 1) := by decide +kernel
theorem d_Mod_size_31 : decode b_Mod_size 31 = .ok (.iaload, 1) := by decide +kernel
theorem d_Mod_size_32 : decode b_Mod_size 32 = .ok (.ireturn, 1) := by decide +kernel
theorem d_Mod_get_0 : decode b_Mod_get 0 = .ok (.aload_n 0, 1) := by decide +kernel
theorem d_Mod_get_1 : decode b_Mod_get 1 = .ok (.iload_n 1, 1) := by decide +kernel
theorem d_Mod_get_2 : decode b_Mod_get 2 = .ok (.ifCond .lt 10, 3) := by decide +kernel
theorem d_Mod_get_5 : decode b_Mod_get 5 = .ok (.iload_n 1, 1) := by decide +kernel
theorem d_Mod_get_6 : decode b_Mod_get 6 = .ok (.sipush 199, 3) := by decide +kernel
theorem d_Mod_get_9 : decode b_Mod_get 9 = .ok (.if_icmp .le 7, 3) := by decide +kernel
theorem d_Mod_get_12 : decode b_Mod_get 12 = .ok (.iconst 1, 1) := by decide +kernel
theorem d_Mod_get_13 : decode b_Mod_get 13 = .ok (.goto 4, 3) := by decide +kernel
theorem d_Mod_get_16 : decode b_Mod_get 16 = .ok (.iconst 0, 1) := by decide +kernel
theorem d_Mod_get_17 : decode b_Mod_get 17 = .ok (.iconst 0, 1) := by decide +kernel
theorem d_Mod_get_18 : decode b_Mod_get 18 = .ok (.invokevirtual 128, 3) := by decide +kernel
theorem d_Mod_get_21 : decode b_Mod_get 21 = .ok (.ifCond .eq 5, 3) := by decide +kernel
theorem d_Mod_get_24 : decode b_Mod_get 24 = .ok (.iconst 0, 1) := by decide +kernel
theorem d_Mod_get_25 : decode b_Mod_get 25 = .ok (.ireturn, 1) := by decide +kernel
theorem d_Mod_get_26 : decode b_Mod_get 26 = .ok (.aload_n 0, 1) := by decide +kernel
theorem d_Mod_get_27 : decode b_Mod_get 27 = .ok (.iconst 0, 1) := by decide +kernel
theorem d_Mod_get_28 : decode b_Mod_get 28 = .ok (.iload_n 2, 1) := by decide +kernel
theorem d_Mod_get_29 : decode b_Mod_get 29 = .ok (.ifCond .lt 13, 3) := by decide +kernel
theorem d_Mod_get_32 : decode b_Mod_get 32 = .ok (.iload_n 2, 1) := by decide +kernel
theorem d_Mod_get_33 : decode b_Mod_get 33 = .ok (.aload_n 0, 1) := by decide +kernel
theorem d_Mod_get_34 : decode b_Mod_get 34 = .ok (.getfield 19, 3) := by decide +kernel
theorem d_Mod_get_37 : decode b_Mod_get 37 = .ok (.iload_n 1, 1) := by decide +kernel
theorem d_Mod_get_38 : decode b_Mod_get 38 = .ok (.iaload, 1) := by decide +kernel
theorem d_Mod_get_39 : decode b_Mod_get 39 = .ok (.if_icmp .lt 7, 3) := by decide +kernel
theorem d_Mod_get_42 : decode b_Mod_get 42 = .ok (.iconst 1, 1) := by decide +kernel
theorem d_Mod_get_43 : decode b_Mod_get 43 = .ok (.goto 4, 3) := by decide +kernel
theorem d_Mod_get_46 : decode b_Mod_get 46 = .ok (.iconst 0, 1) := by decide +kernel
theorem d_Mod_get_47 : decode b_Mod_get 47 = .ok (.invokevirtual 128, 3) := by decide +kernel
theorem d_Mod_get_50 : decode b_Mod_get 50 = .ok (.ifCond .eq 5, 3) := by decide +kernel
theorem d_Mod_get_53 : decode b_Mod_get 53 = .ok (.iconst 0, 1) := by decide +kernel
theorem d_Mod_get_54 : decode b_Mod_get 54 = .ok (.ireturn, 1) := by decide +kernel
theorem d_Mod_get_55 : decode b_Mod_get 55 = .ok (.aload_n 0, 1) := by decide +kernel
theorem d_Mod_get_56 : decode b_Mod_get 56 = .ok (.getfield 22, 3) := by decide +kernel
theorem d_Mod_get_59 : decode b_Mod_get 59 = .ok (.bipush 40, 2) := by decide +kernel
theorem d_Mod_get_61 : decode b_Mod_get 61 = .ok (.iload_n 1, 1) := by decide +kernel
theorem d_Mod_get_62 : decode b_Mod_get 62 = .ok (.imul, 1) := by decide +kernel
theorem d_Mod_get_63 : decode b_Mod_get 63 = .ok (.iload_n 2, 1) := by decide +kernel
theorem d_Mod_get_64 : decode b_Mod_get 64 = .ok (.iadd, 1) := by decide +kernel
theorem d_Mod_get_65 : decode b_Mod_get 65 = .ok (.iaload, 1) := by decide +kernel
theorem d_Mod_get_66 : decode b_Mod_get 66 = .ok (.ireturn, 1) := by decide +kernel
theorem d_Mod_disk_0 : decode b_Mod_disk 0 = .ok (.aload_n 0, 1) := by decide +kernel
theorem d_Mod_disk_1 : decode b_Mod_disk 1 = .ok (.iload_n 1, 1) := by decide +kernel
theorem d_Mod_disk_2 : decode b_Mod_disk 2 = .ok (.ifCond .lt 10, 3) := by decide +kernel
theorem d_Mod_disk_5 : decode b_Mod_disk 5 = .ok (.iload_n 1, 1) := by decide +kernel
theorem d_Mod_disk_6 : decode b_Mod_disk 6 = .ok (.sipush 6144, 3) := by decide +kernel
theorem d_Mod_disk_9 : decode b_Mod_disk 9 = .ok (.if_icmp .lt 7, 3) := by decide +kernel
theorem d_Mod_disk_12 : decode b_Mod_disk 12 = .ok (.iconst 1, 1) := by decide +kernel
theorem d_Mod_disk_13 : decode b_Mod_disk 13 = .ok (.goto 4, 3) := by decide +kernel
theorem d_Mod_disk_16 : decode b_Mod_disk 16 = .ok (.iconst 0, 1) := by decide +kernel
theorem d_Mod_disk_17 : decode b_Mod_disk 17 = .ok (.iconst 0, 1) := by decide +kernel
theorem d_Mod_disk_18 : decode b_Mod_disk 18 = .ok (.invokevirtual 128, 3) := by decide +kernel
theorem d_Mod_disk_21 : decode b_Mod_disk 21 = .ok (.ifCond .eq 5, 3) := by decide +kernel
theorem d_Mod_disk_24 : decode b_Mod_disk 24 = .ok (.iconst 0, 1) := by decide +kernel
theorem d_Mod_disk_25 : decode b_Mod_disk 25 = .ok (.ireturn, 1) := by decide +kernel
theorem d_Mod_disk_26 : decode b_Mod_disk 26 = .ok (.aload_n 0, 1) := by decide +kernel
theorem d_Mod_disk_27 : decode b_Mod_disk 27 = .ok (.getfield 7, 3) := by decide +kernel
theorem d_Mod_disk_30 : decode b_Mod_disk 30 = .ok (.iload_n 1, 1) := by decide +kernel
theorem d_Mod_disk_31 : decode b_Mod_disk 31 = .ok (.iaload, 1) := by decide +kernel
theorem d_Mod_disk_32 : decode b_Mod_disk 32 = .ok (.ireturn, 1) := by decide +kernel
theorem d_Mod_about_0 : decode b_Mod_about 0 = .ok (.aload_n 0, 1) := by decide +kernel
theorem d_Mod_about_1 : decode b_Mod_about 1 = .ok (.iload_n 1, 1) := by decide +kernel
theorem d_Mod_about_2 : decode b_Mod_about 2 = .ok (.ifCond .lt 9, 3) := by decide +kernel
theorem d_Mod_about_5 : decode b_Mod_about 5 = .ok (.iload_n 1, 1) := by decide +kernel
theorem d_Mod_about_6 : decode b_Mod_about 6 = .ok (.bipush 8, 2) := by decide +kernel
theorem d_Mod_about_8 : decode b_Mod_about 8 = .ok (.if_icmp .le 7, 3) := by decide +kernel
theorem d_Mod_about_11 : decode b_Mod_about 11 = .ok (.iconst 1, 1) := by decide +kernel
theorem d_Mod_about_12 : decode b_Mod_about 12 = .ok (.goto 4, 3) := by decide +kernel
theorem d_Mod_about_15 : decode b_Mod_about 15 = .ok (.iconst 0, 1) := by decide +kernel
theorem d_Mod_about_16 : decode b_Mod_about 16 = .ok (.iconst 0, 1) := by decide +kernel
theorem d_Mod_about_17 : decode b_Mod_about 17 = .ok (.invokevirtual 128, 3) := by decide +kernel
theorem d_Mod_about_20 : decode b_Mod_about 20 = .ok (.ifCond .eq 5, 3) := by decide +kernel
theorem d_Mod_about_23 : decode b_Mod_about 23 = .ok (.iconst 0, 1) := by decide +kernel
theorem d_Mod_about_24 : decode b_Mod_about 24 = .ok (.ireturn, 1) := by decide +kernel
theorem d_Mod_about_25 : decode b_Mod_about 25 = .ok (.iload_n 1, 1) := by decide +kernel
theorem d_Mod_about_26 : decode b_Mod_about 26 = .ok (.tableswitch 117 0 7 #[46, 51, 56, 61, 66, 102, 107, 112], 46) := by decide +kernel
theorem d_Mod_about_72 : decode b_Mod_about 72 = .ok (.aload_n 0, 1) := by decide +kernel
theorem d_Mod_about_73 : decode b_Mod_about 73 = .ok (.getfield 51, 3) := by decide +kernel
theorem d_Mod_about_76 : decode b_Mod_about 76 = .ok (.ireturn, 1) := by decide +kernel
theorem d_Mod_about_77 : decode b_Mod_about 77 = .ok (.aload_n 0, 1) := by decide +kernel
theorem d_Mod_about_78 : decode b_Mod_about 78 = .ok (.getfield 57, 3) := by decide +kernel
theorem d_Mod_about_81 : decode b_Mod_about 81 = .ok (.ireturn, 1) := by decide +kernel
theorem d_Mod_about_82 : decode b_Mod_about 82 = .ok (.aload_n 0, 1) := by decide +kernel
theorem d_Mod_about_83 : decode b_Mod_about 83 = .ok (.getfield 71, 3) := by decide +kernel
theorem d_Mod_about_86 : decode b_Mod_about 86 = .ok (.ireturn, 1) := by decide +kernel
theorem d_Mod_about_87 : decode b_Mod_about 87 = .ok (.aload_n 0, 1) := by decide +kernel
theorem d_Mod_about_88 : decode b_Mod_about 88 = .ok (.getfield 74, 3) := by decide +kernel
theorem d_Mod_about_91 : decode b_Mod_about 91 = .ok (.ireturn, 1) := by decide +kernel
theorem d_Mod_about_92 : decode b_Mod_about 92 = .ok (.iconst 0, 1) := by decide +kernel
theorem d_Mod_about_93 : decode b_Mod_about 93 = .ok (.istore_n 2, 1) := by decide +kernel
theorem d_Mod_about_94 : decode b_Mod_about 94 = .ok (.iconst 0, 1) := by decide +kernel
theorem d_Mod_about_95 : decode b_Mod_about 95 = .ok (.istore_n 3, 1) := by decide +kernel
theorem d_Mod_about_96 : decode b_Mod_about 96 = .ok (.iload_n 3, 1) := by decide +kernel
theorem d_Mod_about_97 : decode b_Mod_about 97 = .ok (.sipush 200, 3) := by decide +kernel
theorem d_Mod_about_100 : decode b_Mod_about 100 = .ok (.if_icmp .ge 26, 3) := by decide +kernel
theorem d_Mod_about_103 : decode b_Mod_about 103 = .ok (.iload_n 2, 1) := by decide +kernel
theorem d_Mod_about_104 : decode b_Mod_about 104 = .ok (.aload_n 0, 1) := by decide +kernel
theorem d_Mod_about_105 : decode b_Mod_about 105 = .ok (.getfield 19, 3) := by decide +kernel
theorem d_Mod_about_108 : decode b_Mod_about 108 = .ok (.iload_n 3, 1) := by decide +kernel
theorem d_Mod_about_109 : decode b_Mod_about 109 = .ok (.iaload, 1) := by decide +kernel
theorem d_Mod_about_110 : decode b_Mod_about 110 = .ok (.ifCond .lt 7, 3) := by decide +kernel
theorem d_Mod_about_113 : decode b_Mod_about 113 = .ok (.iconst 1, 1) := by decide +kernel
theorem d_Mod_about_114 : decode b_Mod_about 114 = .ok (.goto 4, 3) := by decide +kernel
theorem d_Mod_about_117 : decode b_Mod_about 117 = .ok (.iconst 0, 1) := by decide +kernel
theorem d_Mod_about_118 : decode b_Mod_about 118 = .ok (.iadd, 1) := by decide +kernel
theorem d_Mod_about_119 : decode b_Mod_about 119 = .ok (.istore_n 2, 1) := by decide +kernel
theorem d_Mod_about_120 : decode b_Mod_about 120 = .ok (.iinc 3 1, 3) := by decide +kernel
theorem d_Mod_about_123 : decode b_Mod_about 123 = .ok (.goto (-27), 3) := by decide +kernel
theorem d_Mod_about_126 : decode b_Mod_about 126 = .ok (.iload_n 2, 1) := by decide +kernel
theorem d_Mod_about_127 : decode b_Mod_about 127 = .ok (.ireturn, 1) := by decide +kernel
theorem d_Mod_about_128 : decode b_Mod_about 128 = .ok (.aload_n 0, 1) := by decide +kernel
theorem d_Mod_about_129 : decode b_Mod_about 129 = .ok (.getfield 119, 3) := by decide +kernel
theorem d_Mod_about_132 : decode b_Mod_about 132 = .ok (.ireturn, 1) := by decide +kernel
theorem d_Mod_about_133 : decode b_Mod_about 133 = .ok (.aload_n 0, 1) := by decide +kernel
theorem d_Mod_about_134 : decode b_Mod_about 134 = .ok (.getfield 122, 3) := by decide +kernel
theorem d_Mod_about_137 : decode b_Mod_about 137 = .ok (.ireturn, 1) := by decide +kernel
theorem d_Mod_about_138 : decode b_Mod_about 138 = .ok (.aload_n 0, 1) := by decide +kernel
theorem d_Mod_about_139 : decode b_Mod_about 139 = .ok (.getfield 132, 3) := by decide +kernel
theorem d_Mod_about_142 : decode b_Mod_about 142 = .ok (.ireturn, 1) := by decide +kernel
theorem d_Mod_about_143 : decode b_Mod_about 143 = .ok (.aload_n 0, 1) := by decide +kernel
theorem d_Mod_about_144 : decode b_Mod_about 144 = .ok (.getfield 125, 3) := by decide +kernel
theorem d_Mod_about_147 : decode b_Mod_about 147 = .ok (.ireturn, 1) := by decide +kernel
