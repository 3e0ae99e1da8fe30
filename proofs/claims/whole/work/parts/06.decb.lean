theorem d_Top_init_0 : decode b_Top_init 0 = .ok (.aload_n 0, 1) := by decide +kernel
theorem d_Top_init_1 : decode b_Top_init 1 = .ok (.invokespecial 3, 3) := by decide +kernel
theorem d_Top_init_4 : decode b_Top_init 4 = .ok (.aload_n 0, 1) := by decide +kernel
theorem d_Top_init_5 : decode b_Top_init 5 = .ok (.new 9, 3) := by decide +kernel
theorem d_Top_init_8 : decode b_Top_init 8 = .ok (.dup, 1) := by decide +kernel
theorem d_Top_init_9 : decode b_Top_init 9 = .ok (.invokespecial 11, 3) := by decide +kernel
theorem d_Top_init_12 : decode b_Top_init 12 = .ok (.putfield 12, 3) := by decide +kernel
theorem d_Top_init_15 : decode b_Top_init 15 = .ok (.aload_n 0, 1) := by decide +kernel
theorem d_Top_init_16 : decode b_Top_init 16 = .ok (.new 16, 3) := by decide +kernel
theorem d_Top_init_19 : decode b_Top_init 19 = .ok (.dup, 1) := by decide +kernel
theorem d_Top_init_20 : decode b_Top_init 20 = .ok (.invokespecial 18, 3) := by decide +kernel
theorem d_Top_init_23 : decode b_Top_init 23 = .ok (.putfield 19, 3) := by decide +kernel
theorem d_Top_init_26 : decode b_Top_init 26 = .ok (.aload_n 0, 1) := by decide +kernel
theorem d_Top_init_27 : decode b_Top_init 27 = .ok (.new 23, 3) := by decide +kernel
theorem d_Top_init_30 : decode b_Top_init 30 = .ok (.dup, 1) := by decide +kernel
theorem d_Top_init_31 : decode b_Top_init 31 = .ok (.bipush 40, 2) := by decide +kernel
theorem d_Top_init_33 : decode b_Top_init 33 = .ok (.invokespecial 25, 3) := by decide +kernel
theorem d_Top_init_36 : decode b_Top_init 36 = .ok (.putfield 28, 3) := by decide +kernel
theorem d_Top_init_39 : decode b_Top_init 39 = .ok (.aload_n 0, 1) := by decide +kernel
theorem d_Top_init_40 : decode b_Top_init 40 = .ok (.new 32, 3) := by decide +kernel
theorem d_Top_init_43 : decode b_Top_init 43 = .ok (.dup, 1) := by decide +kernel
theorem d_Top_init_44 : decode b_Top_init 44 = .ok (.invokespecial 34, 3) := by decide +kernel
theorem d_Top_init_47 : decode b_Top_init 47 = .ok (.putfield 35, 3) := by decide +kernel
theorem d_Top_init_50 : decode b_Top_init 50 = .ok (.aload_n 0, 1) := by decide +kernel
theorem d_Top_init_51 : decode b_Top_init 51 = .ok (.new 32, 3) := by decide +kernel
theorem d_Top_init_54 : decode b_Top_init 54 = .ok (.dup, 1) := by decide +kernel
theorem d_Top_init_55 : decode b_Top_init 55 = .ok (.invokespecial 34, 3) := by decide +kernel
theorem d_Top_init_58 : decode b_Top_init 58 = .ok (.putfield 39, 3) := by decide +kernel
theorem d_Top_init_61 : decode b_Top_init 61 = .ok (.aload_n 0, 1) := by decide +kernel
theorem d_Top_init_62 : decode b_Top_init 62 = .ok (.new 42, 3) := by decide +kernel
theorem d_Top_init_65 : decode b_Top_init 65 = .ok (.dup, 1) := by decide +kernel
theorem d_Top_init_66 : decode b_Top_init 66 = .ok (.invokespecial 44, 3) := by decide +kernel
theorem d_Top_init_69 : decode b_Top_init 69 = .ok (.putfield 45, 3) := by decide +kernel
theorem d_Top_init_72 : decode b_Top_init 72 = .ok (.aload_n 0, 1) := by decide +kernel
theorem d_Top_init_73 : decode b_Top_init 73 = .ok (.new 49, 3) := by decide +kernel
theorem d_Top_init_76 : decode b_Top_init 76 = .ok (.dup, 1) := by decide +kernel
theorem d_Top_init_77 : decode b_Top_init 77 = .ok (.invokespecial 51, 3) := by decide +kernel
theorem d_Top_init_80 : decode b_Top_init 80 = .ok (.putfield 52, 3) := by decide +kernel
theorem d_Top_init_83 : decode b_Top_init 83 = .ok (.aload_n 0, 1) := by decide +kernel
theorem d_Top_init_84 : decode b_Top_init 84 = .ok (.iconst 0, 1) := by decide +kernel
theorem d_Top_init_85 : decode b_Top_init 85 = .ok (.putfield 56, 3) := by decide +kernel
theorem d_Top_init_88 : decode b_Top_init 88 = .ok (.aload_n 0, 1) := by decide +kernel
theorem d_Top_init_89 : decode b_Top_init 89 = .ok (.iconst 0, 1) := by decide +kernel
theorem d_Top_init_90 : decode b_Top_init 90 = .ok (.putfield 60, 3) := by decide +kernel
theorem d_Top_init_93 : decode b_Top_init 93 = .ok (.aload_n 0, 1) := by decide +kernel
theorem d_Top_init_94 : decode b_Top_init 94 = .ok (.getfield 45, 3) := by decide +kernel
theorem d_Top_init_97 : decode b_Top_init 97 = .ok (.iconst 1, 1) := by decide +kernel
theorem d_Top_init_98 : decode b_Top_init 98 = .ok (.invokevirtual 63, 3) := by decide +kernel
theorem d_Top_init_101 : decode b_Top_init 101 = .ok (.aload_n 0, 1) := by decide +kernel
theorem d_Top_init_102 : decode b_Top_init 102 = .ok (.getfield 12, 3) := by decide +kernel
theorem d_Top_init_105 : decode b_Top_init 105 = .ok (.iconst 0, 1) := by decide +kernel
theorem d_Top_init_106 : decode b_Top_init 106 = .ok (.aload_n 0, 1) := by decide +kernel
theorem d_Top_init_107 : decode b_Top_init 107 = .ok (.getfield 45, 3) := by decide +kernel
theorem d_Top_init_110 : decode b_Top_init 110 = .ok (.bipush 32, 2) := by decide +kernel
theorem d_Top_init_112 : decode b_Top_init 112 = .ok (.invokevirtual 66, 3) := by decide +kernel
theorem d_Top_init_115 : decode b_Top_init 115 = .ok (.aload_n 0, 1) := by decide +kernel
theorem d_Top_init_116 : decode b_Top_init 116 = .ok (.getfield 19, 3) := by decide +kernel
theorem d_Top_init_119 : decode b_Top_init 119 = .ok (.aload_n 0, 1) := by decide +kernel
theorem d_Top_init_120 : decode b_Top_init 120 = .ok (.getfield 12, 3) := by decide +kernel
theorem d_Top_init_123 : decode b_Top_init 123 = .ok (.invokevirtual 70, 3) := by decide +kernel
theorem d_Top_init_126 : decode b_Top_init 126 = .ok (.return_, 1) := by decide +kernel
theorem d_Top_put_0 : decode b_Top_put 0 = .ok (.iload_n 1, 1) := by decide +kernel
theorem d_Top_put_1 : decode b_Top_put 1 = .ok (.iconst 1, 1) := by decide +kernel
theorem d_Top_put_2 : decode b_Top_put 2 = .ok (.if_icmp .lt 8, 3) := by decide +kernel
theorem d_Top_put_5 : decode b_Top_put 5 = .ok (.iload_n 1, 1) := by decide +kernel
theorem d_Top_put_6 : decode b_Top_put 6 = .ok (.iconst 4, 1) := by decide +kernel
theorem d_Top_put_7 : decode b_Top_put 7 = .ok (.if_icmp .le 13, 3) := by decide +kernel
theorem d_Top_put_10 : decode b_Top_put 10 = .ok (.new 74, 3) := by decide +kernel
theorem d_Top_put_13 : decode b_Top_put 13 = .ok (.dup, 1) := by decide +kernel
theorem d_Top_put_14 : decode b_Top_put 14 = .ok (.ldc 76, 2) := by decide +kernel
theorem d_Top_put_16 : decode b_Top_put 16 = .ok (.invokespecial 78, 3) := by decide +kernel
theorem d_Top_put_19 : decode b_Top_put 19 = .ok (.athrow, 1) := by decide +kernel
theorem d_Top_put_20 : decode b_Top_put 20 = .ok (.aload_n 0, 1) := by decide +kernel
theorem d_Top_put_21 : decode b_Top_put 21 = .ok (.getfield 28, 3) := by decide +kernel
theorem d_Top_put_24 : decode b_Top_put 24 = .ok (.invokevirtual 81, 3) := by decide +kernel
theorem d_Top_put_27 : decode b_Top_put 27 = .ok (.iload_n 1, 1) := by decide +kernel
theorem d_Top_put_28 : decode b_Top_put 28 = .ok (.iadd, 1) := by decide +kernel
theorem d_Top_put_29 : decode b_Top_put 29 = .ok (.bipush 40, 2) := by decide +kernel
theorem d_Top_put_31 : decode b_Top_put 31 = .ok (.if_icmp .le 13, 3) := by decide +kernel
theorem d_Top_put_34 : decode b_Top_put 34 = .ok (.new 85, 3) := by decide +kernel
theorem d_Top_put_37 : decode b_Top_put 37 = .ok (.dup, 1) := by decide +kernel
theorem d_Top_put_38 : decode b_Top_put 38 = .ok (.ldc 87, 2) := by decide +kernel
theorem d_Top_put_40 : decode b_Top_put 40 = .ok (.invokespecial 89, 3) := by decide +kernel
theorem d_Top_put_43 : decode b_Top_put 43 = .ok (.athrow, 1) := by decide +kernel
theorem d_Top_put_44 : decode b_Top_put 44 = .ok (.iconst 0, 1) := by decide +kernel
theorem d_Top_put_45 : decode b_Top_put 45 = .ok (.istore_n 3, 1) := by decide +kernel
theorem d_Top_put_46 : decode b_Top_put 46 = .ok (.iload_n 3, 1) := by decide +kernel
theorem d_Top_put_47 : decode b_Top_put 47 = .ok (.iload_n 1, 1) := by decide +kernel
theorem d_Top_put_48 : decode b_Top_put 48 = .ok (.if_icmp .ge 22, 3) := by decide +kernel
theorem d_Top_put_51 : decode b_Top_put 51 = .ok (.aload_n 0, 1) := by decide +kernel
theorem d_Top_put_52 : decode b_Top_put 52 = .ok (.getfield 28, 3) := by decide +kernel
theorem d_Top_put_55 : decode b_Top_put 55 = .ok (.iload_n 2, 1) := by decide +kernel
theorem d_Top_put_56 : decode b_Top_put 56 = .ok (.bipush 8, 2) := by decide +kernel
theorem d_Top_put_58 : decode b_Top_put 58 = .ok (.iload_n 3, 1) := by decide +kernel
theorem d_Top_put_59 : decode b_Top_put 59 = .ok (.imul, 1) := by decide +kernel
theorem d_Top_put_60 : decode b_Top_put 60 = .ok (.iushr, 1) := by decide +kernel
theorem d_Top_put_61 : decode b_Top_put 61 = .ok (.invokevirtual 90, 3) := by decide +kernel
theorem d_Top_put_64 : decode b_Top_put 64 = .ok (.iinc 3 1, 3) := by decide +kernel
theorem d_Top_put_67 : decode b_Top_put 67 = .ok (.goto (-21), 3) := by decide +kernel
theorem d_Top_put_70 : decode b_Top_put 70 = .ok (.aload_n 0, 1) := by decide +kernel
theorem d_Top_put_71 : decode b_Top_put 71 = .ok (.getfield 28, 3) := by decide +kernel
theorem d_Top_put_74 : decode b_Top_put 74 = .ok (.invokevirtual 81, 3) := by decide +kernel
theorem d_Top_put_77 : decode b_Top_put 77 = .ok (.ireturn, 1) := by decide +kernel
theorem d_Top_set_0 : decode b_Top_set 0 = .ok (.iload_n 1, 1) := by decide +kernel
theorem d_Top_set_1 : decode b_Top_set 1 = .ok (.invokestatic 93, 3) := by decide +kernel
theorem d_Top_set_4 : decode b_Top_set 4 = .ok (.ifCond .ne 13, 3) := by decide +kernel
theorem d_Top_set_7 : decode b_Top_set 7 = .ok (.new 74, 3) := by decide +kernel
theorem d_Top_set_10 : decode b_Top_set 10 = .ok (.dup, 1) := by decide +kernel
theorem d_Top_set_11 : decode b_Top_set 11 = .ok (.ldc 97, 2) := by decide +kernel
theorem d_Top_set_13 : decode b_Top_set 13 = .ok (.invokespecial 78, 3) := by decide +kernel
theorem d_Top_set_16 : decode b_Top_set 16 = .ok (.athrow, 1) := by decide +kernel
theorem d_Top_set_17 : decode b_Top_set 17 = .ok (.aload_n 0, 1) := by decide +kernel
theorem d_Top_set_18 : decode b_Top_set 18 = .ok (.getfield 35, 3) := by decide +kernel
theorem d_Top_set_21 : decode b_Top_set 21 = .ok (.invokevirtual 99, 3) := by decide +kernel
theorem d_Top_set_24 : decode b_Top_set 24 = .ok (.ifCond .eq 13, 3) := by decide +kernel
theorem d_Top_set_27 : decode b_Top_set 27 = .ok (.new 85, 3) := by decide +kernel
theorem d_Top_set_30 : decode b_Top_set 30 = .ok (.dup, 1) := by decide +kernel
theorem d_Top_set_31 : decode b_Top_set 31 = .ok (.ldc 103, 2) := by decide +kernel
theorem d_Top_set_33 : decode b_Top_set 33 = .ok (.invokespecial 89, 3) := by decide +kernel
theorem d_Top_set_36 : decode b_Top_set 36 = .ok (.athrow, 1) := by decide +kernel
theorem d_Top_set_37 : decode b_Top_set 37 = .ok (.aload_n 0, 1) := by decide +kernel
theorem d_Top_set_38 : decode b_Top_set 38 = .ok (.getfield 35, 3) := by decide +kernel
theorem d_Top_set_41 : decode b_Top_set 41 = .ok (.iload_n 1, 1) := by decide +kernel
theorem d_Top_set_42 : decode b_Top_set 42 = .ok (.aload_n 0, 1) := by decide +kernel
theorem d_Top_set_43 : decode b_Top_set 43 = .ok (.getfield 28, 3) := by decide +kernel
theorem d_Top_set_46 : decode b_Top_set 46 = .ok (.iconst 0, 1) := by decide +kernel
theorem d_Top_set_47 : decode b_Top_set 47 = .ok (.aload_n 0, 1) := by decide +kernel
theorem d_Top_set_48 : decode b_Top_set 48 = .ok (.getfield 28, 3) := by decide +kernel
theorem d_Top_set_51 : decode b_Top_set 51 = .ok (.invokevirtual 81, 3) := by decide +kernel
theorem d_Top_set_54 : decode b_Top_set 54 = .ok (.invokevirtual 105, 3) := by decide +kernel
theorem d_Top_set_57 : decode b_Top_set 57 = .ok (.aload_n 0, 1) := by decide +kernel
theorem d_Top_set_58 : decode b_Top_set 58 = .ok (.getfield 28, 3) := by decide +kernel
theorem d_Top_set_61 : decode b_Top_set 61 = .ok (.invokevirtual 109, 3) := by decide +kernel
theorem d_Top_set_64 : decode b_Top_set 64 = .ok (.aload_n 0, 1) := by decide +kernel
theorem d_Top_set_65 : decode b_Top_set 65 = .ok (.getfield 35, 3) := by decide +kernel
theorem d_Top_set_68 : decode b_Top_set 68 = .ok (.invokevirtual 112, 3) := by decide +kernel
theorem d_Top_set_71 : decode b_Top_set 71 = .ok (.ireturn, 1) := by decide +kernel
theorem d_Top_drop_0 : decode b_Top_drop 0 = .ok (.iload_n 1, 1) := by decide +kernel
theorem d_Top_drop_1 : decode b_Top_drop 1 = .ok (.invokestatic 93, 3) := by decide +kernel
theorem d_Top_drop_4 : decode b_Top_drop 4 = .ok (.ifCond .ne 13, 3) := by decide +kernel
theorem d_Top_drop_7 : decode b_Top_drop 7 = .ok (.new 74, 3) := by decide +kernel
theorem d_Top_drop_10 : decode b_Top_drop 10 = .ok (.dup, 1) := by decide +kernel
theorem d_Top_drop_11 : decode b_Top_drop 11 = .ok (.ldc 97, 2) := by decide +kernel
theorem d_Top_drop_13 : decode b_Top_drop 13 = .ok (.invokespecial 78, 3) := by decide +kernel
theorem d_Top_drop_16 : decode b_Top_drop 16 = .ok (.athrow, 1) := by decide +kernel
theorem d_Top_drop_17 : decode b_Top_drop 17 = .ok (.aload_n 0, 1) := by decide +kernel
theorem d_Top_drop_18 : decode b_Top_drop 18 = .ok (.getfield 35, 3) := by decide +kernel
theorem d_Top_drop_21 : decode b_Top_drop 21 = .ok (.invokevirtual 99, 3) := by decide +kernel
theorem d_Top_drop_24 : decode b_Top_drop 24 = .ok (.ifCond .eq 13, 3) := by decide +kernel
theorem d_Top_drop_27 : decode b_Top_drop 27 = .ok (.new 85, 3) := by decide +kernel
theorem d_Top_drop_30 : decode b_Top_drop 30 = .ok (.dup, 1) := by decide +kernel
theorem d_Top_drop_31 : decode b_Top_drop 31 = .ok (.ldc 103, 2) := by decide +kernel
theorem d_Top_drop_33 : decode b_Top_drop 33 = .ok (.invokespecial 89, 3) := by decide +kernel
theorem d_Top_drop_36 : decode b_Top_drop 36 = .ok (.athrow, 1) := by decide +kernel
theorem d_Top_drop_37 : decode b_Top_drop 37 = .ok (.aload_n 0, 1) := by decide +kernel
theorem d_Top_drop_38 : decode b_Top_drop 38 = .ok (.getfield 35, 3) := by decide +kernel
theorem d_Top_drop_41 : decode b_Top_drop 41 = .ok (.iload_n 1, 1) := by decide +kernel
theorem d_Top_drop_42 : decode b_Top_drop 42 = .ok (.invokevirtual 115, 3) := by decide +kernel
theorem d_Top_drop_45 : decode b_Top_drop 45 = .ok (.aload_n 0, 1) := by decide +kernel
theorem d_Top_drop_46 : decode b_Top_drop 46 = .ok (.getfield 35, 3) := by decide +kernel
theorem d_Top_drop_49 : decode b_Top_drop 49 = .ok (.invokevirtual 112, 3) := by decide +kernel
theorem d_Top_drop_52 : decode b_Top_drop 52 = .ok (.ireturn, 1) := by decide +kernel
theorem d_Top_forget_0 : decode b_Top_forget 0 = .ok (.aload_n 0, 1) := by decide +kernel
theorem d_Top_forget_1 : decode b_Top_forget 1 = .ok (.getfield 35, 3) := by decide +kernel
theorem d_Top_forget_4 : decode b_Top_forget 4 = .ok (.invokevirtual 118, 3) := by decide +kernel
theorem d_Top_forget_7 : decode b_Top_forget 7 = .ok (.aload_n 0, 1) := by decide +kernel
theorem d_Top_forget_8 : decode b_Top_forget 8 = .ok (.getfield 28, 3) := by decide +kernel
theorem d_Top_forget_11 : decode b_Top_forget 11 = .ok (.invokevirtual 109, 3) := by decide +kernel
theorem d_Top_forget_14 : decode b_Top_forget 14 = .ok (.return_, 1) := by decide +kernel
theorem d_Top_commit_0 : decode b_Top_commit 0 = .ok (.aload_n 0, 1) := by decide +kernel
theorem d_Top_commit_1 : decode b_Top_commit 1 = .ok (.getfield 35, 3) := by decide +kernel
theorem d_Top_commit_4 : decode b_Top_commit 4 = .ok (.invokevirtual 112, 3) := by decide +kernel
theorem d_Top_commit_7 : decode b_Top_commit 7 = .ok (.ifCond .ne 5, 3) := by decide +kernel
theorem d_Top_commit_10 : decode b_Top_commit 10 = .ok (.iconst 0, 1) := by decide +kernel
theorem d_Top_commit_11 : decode b_Top_commit 11 = .ok (.ireturn, 1) := by decide +kernel
theorem d_Top_commit_12 : decode b_Top_commit 12 = .ok (.aload_n 0, 1) := by decide +kernel
theorem d_Top_commit_13 : decode b_Top_commit 13 = .ok (.invokevirtual 119, 3) := by decide +kernel
theorem d_Top_commit_16 : decode b_Top_commit 16 = .ok (.ifCond .eq 13, 3) := by decide +kernel
theorem d_Top_commit_19 : decode b_Top_commit 19 = .ok (.new 85, 3) := by decide +kernel
theorem d_Top_commit_22 : decode b_Top_commit 22 = .ok (.dup, 1) := by decide +kernel
theorem d_Top_commit_23 : decode b_Top_commit 23 = .ok (.ldc 122, 2) := by decide +kernel
theorem d_Top_commit_25 : decode b_Top_commit 25 = .ok (.invokespecial 89, 3) := by decide +kernel
theorem d_Top_commit_28 : decode b_Top_commit 28 = .ok (.athrow, 1) := by decide +kernel
theorem d_Top_commit_29 : decode b_Top_commit 29 = .ok (.aload_n 0, 1) := by decide +kernel
theorem d_Top_commit_30 : decode b_Top_commit 30 = .ok (.getfield 52, 3) := by decide +kernel
theorem d_Top_commit_33 : decode b_Top_commit 33 = .ok (.bipush 96, 2) := by decide +kernel
theorem d_Top_commit_35 : decode b_Top_commit 35 = .ok (.iconst 0, 1) := by decide +kernel
theorem d_Top_commit_36 : decode b_Top_commit 36 = .ok (.invokevirtual 124, 3) := by decide +kernel
theorem d_Top_commit_39 : decode b_Top_commit 39 = .ok (.aload_n 0, 1) := by decide +kernel
theorem d_Top_commit_40 : decode b_Top_commit 40 = .ok (.invokevirtual 128, 3) := by decide +kernel
theorem d_Top_commit_43 : decode b_Top_commit 43 = .ok (.aload_n 0, 1) := by decide +kernel
theorem d_Top_commit_44 : decode b_Top_commit 44 = .ok (.getfield 35, 3) := by decide +kernel
theorem d_Top_commit_47 : decode b_Top_commit 47 = .ok (.invokevirtual 118, 3) := by decide +kernel
theorem d_Top_commit_50 : decode b_Top_commit 50 = .ok (.aload_n 0, 1) := by decide +kernel
theorem d_Top_commit_51 : decode b_Top_commit 51 = .ok (.getfield 52, 3) := by decide +kernel
theorem d_Top_commit_54 : decode b_Top_commit 54 = .ok (.invokevirtual 131, 3) := by decide +kernel
theorem d_Top_commit_57 : decode b_Top_commit 57 = .ok (.ireturn, 1) := by decide +kernel
theorem d_Top_crash_0 : decode b_Top_crash 0 = .ok (.iload_n 1, 1) := by decide +kernel
theorem d_Top_crash_1 : decode b_Top_crash 1 = .ok (.ifCond .lt 13, 3) := by decide +kernel
theorem d_Top_crash_4 : decode b_Top_crash 4 = .ok (.iload_n 2, 1) := by decide +kernel
theorem d_Top_crash_5 : decode b_Top_crash 5 = .ok (.ifCond .lt 9, 3) := by decide +kernel
theorem d_Top_crash_8 : decode b_Top_crash 8 = .ok (.iload_n 2, 1) := by decide +kernel
theorem d_Top_crash_9 : decode b_Top_crash 9 = .ok (.bipush 32, 2) := by decide +kernel
theorem d_Top_crash_11 : decode b_Top_crash 11 = .ok (.if_icmp .lt 13, 3) := by decide +kernel
theorem d_Top_crash_14 : decode b_Top_crash 14 = .ok (.new 74, 3) := by decide +kernel
theorem d_Top_crash_17 : decode b_Top_crash 17 = .ok (.dup, 1) := by decide +kernel
theorem d_Top_crash_18 : decode b_Top_crash 18 = .ok (.ldc 134, 2) := by decide +kernel
theorem d_Top_crash_20 : decode b_Top_crash 20 = .ok (.invokespecial 78, 3) := by decide +kernel
theorem d_Top_crash_23 : decode b_Top_crash 23 = .ok (.athrow, 1) := by decide +kernel
theorem d_Top_crash_24 : decode b_Top_crash 24 = .ok (.aload_n 0, 1) := by decide +kernel
theorem d_Top_crash_25 : decode b_Top_crash 25 = .ok (.getfield 35, 3) := by decide +kernel
theorem d_Top_crash_28 : decode b_Top_crash 28 = .ok (.invokevirtual 112, 3) := by decide +kernel
theorem d_Top_crash_31 : decode b_Top_crash 31 = .ok (.ifCond .ne 13, 3) := by decide +kernel
theorem d_Top_crash_34 : decode b_Top_crash 34 = .ok (.new 85, 3) := by decide +kernel
theorem d_Top_crash_37 : decode b_Top_crash 37 = .ok (.dup, 1) := by decide +kernel
theorem d_Top_crash_38 : decode b_Top_crash 38 = .ok (.ldc 136, 2) := by decide +kernel
theorem d_Top_crash_40 : decode b_Top_crash 40 = .ok (.invokespecial 89, 3) := by decide +kernel
theorem d_Top_crash_43 : decode b_Top_crash 43 = .ok (.athrow, 1) := by decide +kernel
theorem d_Top_crash_44 : decode b_Top_crash 44 = .ok (.aload_n 0, 1) := by decide +kernel
theorem d_Top_crash_45 : decode b_Top_crash 45 = .ok (.invokevirtual 119, 3) := by decide +kernel
theorem d_Top_crash_48 : decode b_Top_crash 48 = .ok (.ifCond .eq 13, 3) := by decide +kernel
theorem d_Top_crash_51 : decode b_Top_crash 51 = .ok (.new 85, 3) := by decide +kernel
theorem d_Top_crash_54 : decode b_Top_crash 54 = .ok (.dup, 1) := by decide +kernel
theorem d_Top_crash_55 : decode b_Top_crash 55 = .ok (.ldc 122, 2) := by decide +kernel
theorem d_Top_crash_57 : decode b_Top_crash 57 = .ok (.invokespecial 89, 3) := by decide +kernel
theorem d_Top_crash_60 : decode b_Top_crash 60 = .ok (.athrow, 1) := by decide +kernel
theorem d_Top_crash_61 : decode b_Top_crash 61 = .ok (.aload_n 0, 1) := by decide +kernel
theorem d_Top_crash_62 : decode b_Top_crash 62 = .ok (.getfield 52, 3) := by decide +kernel
theorem d_Top_crash_65 : decode b_Top_crash 65 = .ok (.iload_n 1, 1) := by decide +kernel
theorem d_Top_crash_66 : decode b_Top_crash 66 = .ok (.iload_n 2, 1) := by decide +kernel
theorem d_Top_crash_67 : decode b_Top_crash 67 = .ok (.invokevirtual 124, 3) := by decide +kernel
theorem d_Top_crash_70 : decode b_Top_crash 70 = .ok (.aload_n 0, 1) := by decide +kernel
theorem d_Top_crash_71 : decode b_Top_crash 71 = .ok (.invokevirtual 128, 3) := by decide +kernel
theorem d_Top_crash_74 : decode b_Top_crash 74 = .ok (.aload_n 0, 1) := by decide +kernel
theorem d_Top_crash_75 : decode b_Top_crash 75 = .ok (.getfield 35, 3) := by decide +kernel
theorem d_Top_crash_78 : decode b_Top_crash 78 = .ok (.invokevirtual 118, 3) := by decide +kernel
theorem d_Top_crash_81 : decode b_Top_crash 81 = .ok (.aload_n 0, 1) := by decide +kernel
theorem d_Top_crash_82 : decode b_Top_crash 82 = .ok (.getfield 28, 3) := by decide +kernel
theorem d_Top_crash_85 : decode b_Top_crash 85 = .ok (.invokevirtual 109, 3) := by decide +kernel
theorem d_Top_crash_88 : decode b_Top_crash 88 = .ok (.aload_n 0, 1) := by decide +kernel
theorem d_Top_crash_89 : decode b_Top_crash 89 = .ok (.getfield 52, 3) := by decide +kernel
theorem d_Top_crash_92 : decode b_Top_crash 92 = .ok (.invokevirtual 138, 3) := by decide +kernel
theorem d_Top_crash_95 : decode b_Top_crash 95 = .ok (.ifCond .eq 7, 3) := by decide +kernel
theorem d_Top_crash_98 : decode b_Top_crash 98 = .ok (.iconst 1, 1) := by decide +kernel
theorem d_Top_crash_99 : decode b_Top_crash 99 = .ok (.goto 4, 3) := by decide +kernel
theorem d_Top_crash_102 : decode b_Top_crash 102 = .ok (.iconst 0, 1) := by decide +kernel
theorem d_Top_crash_103 : decode b_Top_crash 103 = .ok (.ireturn, 1) := by decide +kernel
theorem d_Top_spoil_0 : decode b_Top_spoil 0 = .ok (.aload_n 0, 1) := by decide +kernel
theorem d_Top_spoil_1 : decode b_Top_spoil 1 = .ok (.getfield 12, 3) := by decide +kernel
theorem d_Top_spoil_4 : decode b_Top_spoil 4 = .ok (.iload_n 1, 1) := by decide +kernel
theorem d_Top_spoil_5 : decode b_Top_spoil 5 = .ok (.invokevirtual 141, 3) := by decide +kernel
theorem d_Top_spoil_8 : decode b_Top_spoil 8 = .ok (.ifCond .ne 13, 3) := by decide +kernel
theorem d_Top_spoil_11 : decode b_Top_spoil 11 = .ok (.new 144, 3) := by decide +kernel
theorem d_Top_spoil_14 : decode b_Top_spoil 14 = .ok (.dup, 1) := by decide +kernel
theorem d_Top_spoil_15 : decode b_Top_spoil 15 = .ok (.ldc 146, 2) := by decide +kernel
theorem d_Top_spoil_17 : decode b_Top_spoil 17 = .ok (.invokespecial 148, 3) := by decide +kernel
theorem d_Top_spoil_20 : decode b_Top_spoil 20 = .ok (.athrow, 1) := by decide +kernel
theorem d_Top_spoil_21 : decode b_Top_spoil 21 = .ok (.aload_n 0, 1) := by decide +kernel
theorem d_Top_spoil_22 : decode b_Top_spoil 22 = .ok (.getfield 12, 3) := by decide +kernel
theorem d_Top_spoil_25 : decode b_Top_spoil 25 = .ok (.iload_n 1, 1) := by decide +kernel
theorem d_Top_spoil_26 : decode b_Top_spoil 26 = .ok (.iload_n 2, 1) := by decide +kernel
theorem d_Top_spoil_27 : decode b_Top_spoil 27 = .ok (.invokevirtual 149, 3) := by decide +kernel
theorem d_Top_spoil_30 : decode b_Top_spoil 30 = .ok (.aload_n 0, 1) := by decide +kernel
theorem d_Top_spoil_31 : decode b_Top_spoil 31 = .ok (.getfield 19, 3) := by decide +kernel
theorem d_Top_spoil_34 : decode b_Top_spoil 34 = .ok (.aload_n 0, 1) := by decide +kernel
theorem d_Top_spoil_35 : decode b_Top_spoil 35 = .ok (.getfield 12, 3) := by decide +kernel
theorem d_Top_spoil_38 : decode b_Top_spoil 38 = .ok (.invokevirtual 70, 3) := by decide +kernel
theorem d_Top_spoil_41 : decode b_Top_spoil 41 = .ok (.return_, 1) := by decide +kernel
theorem d_Top_size_0 : decode b_Top_size 0 = .ok (.iload_n 1, 1) := by decide +kernel
theorem d_Top_size_1 : decode b_Top_size 1 = .ok (.invokestatic 93, 3) := by decide +kernel
theorem d_Top_size_4 : decode b_Top_size 4 = .ok (.ifCond .ne 13, 3) := by decide +kernel
theorem d_Top_size_7 : decode b_Top_size 7 = .ok (.new 74, 3) := by decide +kernel
theorem d_Top_size_10 : decode b_Top_size 10 = .ok (.dup, 1) := by decide +kernel
theorem d_Top_size_11 : decode b_Top_size 11 = .ok (.ldc 97, 2) := by decide +kernel
theorem d_Top_size_13 : decode b_Top_size 13 = .ok (.invokespecial 78, 3) := by decide +kernel
theorem d_Top_size_16 : decode b_Top_size 16 = .ok (.athrow, 1) := by decide +kernel
theorem d_Top_size_17 : decode b_Top_size 17 = .ok (.aload_n 0, 1) := by decide +kernel
theorem d_Top_size_18 : decode b_Top_size 18 = .ok (.getfield 19, 3) := by decide +kernel
theorem d_Top_size_21 : decode b_Top_size 21 = .ok (.iload_n 1, 1) := by decide +kernel
theorem d_Top_size_22 : decode b_Top_size 22 = .ok (.invokevirtual 152, 3) := by decide +kernel
theorem d_Top_size_25 : decode b_Top_size 25 = .ok (.ireturn, 1) := by decide +kernel
theorem d_Top_get_0 : decode b_Top_get 0 = .ok (.iload_n 1, 1) := by decide +kernel
theorem d_Top_get_1 : decode b_Top_get 1 = .ok (.invokestatic 93, 3) := by decide +kernel
theorem d_Top_get_4 : decode b_Top_get 4 = .ok (.ifCond .ne 13, 3) := by decide +kernel
theorem d_Top_get_7 : decode b_Top_get 7 = .ok (.new 74, 3) := by decide +kernel
theorem d_Top_get_10 : decode b_Top_get 10 = .ok (.dup, 1) := by decide +kernel
theorem d_Top_get_11 : decode b_Top_get 11 = .ok (.ldc 97, 2) := by decide +kernel
theorem d_Top_get_13 : decode b_Top_get 13 = .ok (.invokespecial 78, 3) := by decide +kernel
theorem d_Top_get_16 : decode b_Top_get 16 = .ok (.athrow, 1) := by decide +kernel
theorem d_Top_get_17 : decode b_Top_get 17 = .ok (.iload_n 2, 1) := by decide +kernel
theorem d_Top_get_18 : decode b_Top_get 18 = .ok (.ifCond .lt 15, 3) := by decide +kernel
theorem d_Top_get_21 : decode b_Top_get 21 = .ok (.iload_n 2, 1) := by decide +kernel
theorem d_Top_get_22 : decode b_Top_get 22 = .ok (.aload_n 0, 1) := by decide +kernel
theorem d_Top_get_23 : decode b_Top_get 23 = .ok (.getfield 19, 3) := by decide +kernel
theorem d_Top_get_26 : decode b_Top_get 26 = .ok (.iload_n 1, 1) := by decide +kernel
theorem d_Top_get_27 : decode b_Top_get 27 = .ok (.invokevirtual 152, 3) := by decide +kernel
theorem d_Top_get_30 : decode b_Top_get 30 = .ok (.if_icmp .lt 13, 3) := by decide +kernel
theorem d_Top_get_33 : decode b_Top_get 33 = .ok (.new 156, 3) := by decide +kernel
theorem d_Top_get_36 : decode b_Top_get 36 = .ok (.dup, 1) := by decide +kernel
theorem d_Top_get_37 : decode b_Top_get 37 = .ok (.ldc 158, 2) := by decide +kernel
theorem d_Top_get_39 : decode b_Top_get 39 = .ok (.invokespecial 160, 3) := by decide +kernel
theorem d_Top_get_42 : decode b_Top_get 42 = .ok (.athrow, 1) := by decide +kernel
theorem d_Top_get_43 : decode b_Top_get 43 = .ok (.aload_n 0, 1) := by decide +kernel
theorem d_Top_get_44 : decode b_Top_get 44 = .ok (.getfield 19, 3) := by decide +kernel
theorem d_Top_get_47 : decode b_Top_get 47 = .ok (.invokevirtual 161, 3) := by decide +kernel
theorem d_Top_get_50 : decode b_Top_get 50 = .ok (.aload_n 0, 1) := by decide +kernel
theorem d_Top_get_51 : decode b_Top_get 51 = .ok (.getfield 19, 3) := by decide +kernel
theorem d_Top_get_54 : decode b_Top_get 54 = .ok (.iload_n 1, 1) := by decide +kernel
theorem d_Top_get_55 : decode b_Top_get 55 = .ok (.invokevirtual 165, 3) := by decide +kernel
theorem d_Top_get_58 : decode b_Top_get 58 = .ok (.iload_n 2, 1) := by decide +kernel
theorem d_Top_get_59 : decode b_Top_get 59 = .ok (.iadd, 1) := by decide +kernel
theorem d_Top_get_60 : decode b_Top_get 60 = .ok (.invokevirtual 168, 3) := by decide +kernel
theorem d_Top_get_63 : decode b_Top_get 63 = .ok (.ireturn, 1) := by decide +kernel
theorem d_Top_disk_0 : decode b_Top_disk 0 = .ok (.aload_n 0, 1) := by decide +kernel
theorem d_Top_disk_1 : decode b_Top_disk 1 = .ok (.getfield 12, 3) := by decide +kernel
theorem d_Top_disk_4 : decode b_Top_disk 4 = .ok (.iload_n 1, 1) := by decide +kernel
theorem d_Top_disk_5 : decode b_Top_disk 5 = .ok (.invokevirtual 141, 3) := by decide +kernel
theorem d_Top_disk_8 : decode b_Top_disk 8 = .ok (.ifCond .ne 13, 3) := by decide +kernel
theorem d_Top_disk_11 : decode b_Top_disk 11 = .ok (.new 144, 3) := by decide +kernel
theorem d_Top_disk_14 : decode b_Top_disk 14 = .ok (.dup, 1) := by decide +kernel
theorem d_Top_disk_15 : decode b_Top_disk 15 = .ok (.ldc 146, 2) := by decide +kernel
theorem d_Top_disk_17 : decode b_Top_disk 17 = .ok (.invokespecial 148, 3) := by decide +kernel
theorem d_Top_disk_20 : decode b_Top_disk 20 = .ok (.athrow, 1) := by decide +kernel
theorem d_Top_disk_21 : decode b_Top_disk 21 = .ok (.aload_n 0, 1) := by decide +kernel
theorem d_Top_disk_22 : decode b_Top_disk 22 = .ok (.getfield 12, 3) := by decide +kernel
theorem d_Top_disk_25 : decode b_Top_disk 25 = .ok (.iload_n 1, 1) := by decide +kernel
theorem d_Top_disk_26 : decode b_Top_disk 26 = .ok (.invokevirtual 171, 3) := by decide +kernel
theorem d_Top_disk_29 : decode b_Top_disk 29 = .ok (.ireturn, 1) := by decide +kernel
theorem d_Top_about_0 : decode b_Top_about 0 = .ok (.iload_n 1, 1) := by decide +kernel
theorem d_Top_about_1 : decode b_Top_about 1 = .ok (.tableswitch 117 0 8 #[51, 59, 67, 75, 83, 91, 96, 101, 109], 51) := by decide +kernel
theorem d_Top_about_52 : decode b_Top_about 52 = .ok (.aload_n 0, 1) := by decide +kernel
theorem d_Top_about_53 : decode b_Top_about 53 = .ok (.getfield 19, 3) := by decide +kernel
theorem d_Top_about_56 : decode b_Top_about 56 = .ok (.invokevirtual 174, 3) := by decide +kernel
theorem d_Top_about_59 : decode b_Top_about 59 = .ok (.ireturn, 1) := by decide +kernel
theorem d_Top_about_60 : decode b_Top_about 60 = .ok (.aload_n 0, 1) := by decide +kernel
theorem d_Top_about_61 : decode b_Top_about 61 = .ok (.getfield 19, 3) := by decide +kernel
theorem d_Top_about_64 : decode b_Top_about 64 = .ok (.invokevirtual 177, 3) := by decide +kernel
theorem d_Top_about_67 : decode b_Top_about 67 = .ok (.ireturn, 1) := by decide +kernel
theorem d_Top_about_68 : decode b_Top_about 68 = .ok (.aload_n 0, 1) := by decide +kernel
theorem d_Top_about_69 : decode b_Top_about 69 = .ok (.getfield 19, 3) := by decide +kernel
theorem d_Top_about_72 : decode b_Top_about 72 = .ok (.invokevirtual 180, 3) := by decide +kernel
theorem d_Top_about_75 : decode b_Top_about 75 = .ok (.ireturn, 1) := by decide +kernel
theorem d_Top_about_76 : decode b_Top_about 76 = .ok (.aload_n 0, 1) := by decide +kernel
theorem d_Top_about_77 : decode b_Top_about 77 = .ok (.getfield 19, 3) := by decide +kernel
theorem d_Top_about_80 : decode b_Top_about 80 = .ok (.invokevirtual 183, 3) := by decide +kernel
theorem d_Top_about_83 : decode b_Top_about 83 = .ok (.ireturn, 1) := by decide +kernel
theorem d_Top_about_84 : decode b_Top_about 84 = .ok (.aload_n 0, 1) := by decide +kernel
theorem d_Top_about_85 : decode b_Top_about 85 = .ok (.getfield 19, 3) := by decide +kernel
theorem d_Top_about_88 : decode b_Top_about 88 = .ok (.invokevirtual 186, 3) := by decide +kernel
theorem d_Top_about_91 : decode b_Top_about 91 = .ok (.ireturn, 1) := by decide +kernel
theorem d_Top_about_92 : decode b_Top_about 92 = .ok (.aload_n 0, 1) := by decide +kernel
theorem d_Top_about_93 : decode b_Top_about 93 = .ok (.getfield 56, 3) := by decide +kernel
theorem d_Top_about_96 : decode b_Top_about 96 = .ok (.ireturn, 1) := by decide +kernel
theorem d_Top_about_97 : decode b_Top_about 97 = .ok (.aload_n 0, 1) := by decide +kernel
theorem d_Top_about_98 : decode b_Top_about 98 = .ok (.getfield 60, 3) := by decide +kernel
theorem d_Top_about_101 : decode b_Top_about 101 = .ok (.ireturn, 1) := by decide +kernel
theorem d_Top_about_102 : decode b_Top_about 102 = .ok (.aload_n 0, 1) := by decide +kernel
theorem d_Top_about_103 : decode b_Top_about 103 = .ok (.getfield 35, 3) := by decide +kernel
theorem d_Top_about_106 : decode b_Top_about 106 = .ok (.invokevirtual 112, 3) := by decide +kernel
theorem d_Top_about_109 : decode b_Top_about 109 = .ok (.ireturn, 1) := by decide +kernel
theorem d_Top_about_110 : decode b_Top_about 110 = .ok (.aload_n 0, 1) := by decide +kernel
theorem d_Top_about_111 : decode b_Top_about 111 = .ok (.getfield 28, 3) := by decide +kernel
theorem d_Top_about_114 : decode b_Top_about 114 = .ok (.invokevirtual 81, 3) := by decide +kernel
theorem d_Top_about_117 : decode b_Top_about 117 = .ok (.ireturn, 1) := by decide +kernel
theorem d_Top_about_118 : decode b_Top_about 118 = .ok (.new 74, 3) := by decide +kernel
theorem d_Top_about_121 : decode b_Top_about 121 = .ok (.dup, 1) := by decide +kernel
theorem d_Top_about_122 : decode b_Top_about 122 = .ok (.ldc 189, 2) := by decide +kernel
theorem d_Top_about_124 : decode b_Top_about 124 = .ok (.invokespecial 78, 3) := by decide +kernel
theorem d_Top_about_127 : decode b_Top_about 127 = .ok (.athrow, 1) := by decide +kernel
theorem d_Top_isKey_0 : decode b_Top_isKey 0 = .ok (.iload_n 0, 1) := by decide +kernel
theorem d_Top_isKey_1 : decode b_Top_isKey 1 = .ok (.ifCond .lt 14, 3) := by decide +kernel
theorem d_Top_isKey_4 : decode b_Top_isKey 4 = .ok (.iload_n 0, 1) := by decide +kernel
theorem d_Top_isKey_5 : decode b_Top_isKey 5 = .ok (.sipush 200, 3) := by decide +kernel
theorem d_Top_isKey_8 : decode b_Top_isKey 8 = .ok (.if_icmp .ge 7, 3) := by decide +kernel
theorem d_Top_isKey_11 : decode b_Top_isKey 11 = .ok (.iconst 1, 1) := by decide +kernel
theorem d_Top_isKey_12 : decode b_Top_isKey 12 = .ok (.goto 4, 3) := by decide +kernel
theorem d_Top_isKey_15 : decode b_Top_isKey 15 = .ok (.iconst 0, 1) := by decide +kernel
theorem d_Top_isKey_16 : decode b_Top_isKey 16 = .ok (.ireturn, 1) := by decide +kernel
theorem d_Top_needsAnew_0 : decode b_Top_needsAnew 0 = .ok (.aload_n 0, 1) := by decide +kernel
theorem d_Top_needsAnew_1 : decode b_Top_needsAnew 1 = .ok (.getfield 19, 3) := by decide +kernel
theorem d_Top_needsAnew_4 : decode b_Top_needsAnew 4 = .ok (.invokevirtual 180, 3) := by decide +kernel
theorem d_Top_needsAnew_7 : decode b_Top_needsAnew 7 = .ok (.aload_n 0, 1) := by decide +kernel
theorem d_Top_needsAnew_8 : decode b_Top_needsAnew 8 = .ok (.getfield 35, 3) := by decide +kernel
theorem d_Top_needsAnew_11 : decode b_Top_needsAnew 11 = .ok (.invokevirtual 191, 3) := by decide +kernel
theorem d_Top_needsAnew_14 : decode b_Top_needsAnew 14 = .ok (.iadd, 1) := by decide +kernel
theorem d_Top_needsAnew_15 : decode b_Top_needsAnew 15 = .ok (.bipush 95, 2) := by decide +kernel
theorem d_Top_needsAnew_17 : decode b_Top_needsAnew 17 = .ok (.if_icmp .le 7, 3) := by decide +kernel
theorem d_Top_needsAnew_20 : decode b_Top_needsAnew 20 = .ok (.iconst 1, 1) := by decide +kernel
theorem d_Top_needsAnew_21 : decode b_Top_needsAnew 21 = .ok (.goto 4, 3) := by decide +kernel
theorem d_Top_needsAnew_24 : decode b_Top_needsAnew 24 = .ok (.iconst 0, 1) := by decide +kernel
theorem d_Top_needsAnew_25 : decode b_Top_needsAnew 25 = .ok (.ireturn, 1) := by decide +kernel
theorem d_Top_isRefused_0 : decode b_Top_isRefused 0 = .ok (.aload_n 0, 1) := by decide +kernel
theorem d_Top_isRefused_1 : decode b_Top_isRefused 1 = .ok (.invokevirtual 192, 3) := by decide +kernel
theorem d_Top_isRefused_4 : decode b_Top_isRefused 4 = .ok (.ifCond .ne 5, 3) := by decide +kernel
theorem d_Top_isRefused_7 : decode b_Top_isRefused 7 = .ok (.iconst 0, 1) := by decide +kernel
theorem d_Top_isRefused_8 : decode b_Top_isRefused 8 = .ok (.ireturn, 1) := by decide +kernel
theorem d_Top_isRefused_9 : decode b_Top_isRefused 9 = .ok (.aload_n 0, 1) := by decide +kernel
theorem d_Top_isRefused_10 : decode b_Top_isRefused 10 = .ok (.invokevirtual 195, 3) := by decide +kernel
theorem d_Top_isRefused_13 : decode b_Top_isRefused 13 = .ok (.aload_n 0, 1) := by decide +kernel
theorem d_Top_isRefused_14 : decode b_Top_isRefused 14 = .ok (.getfield 35, 3) := by decide +kernel
theorem d_Top_isRefused_17 : decode b_Top_isRefused 17 = .ok (.invokevirtual 191, 3) := by decide +kernel
theorem d_Top_isRefused_20 : decode b_Top_isRefused 20 = .ok (.iadd, 1) := by decide +kernel
theorem d_Top_isRefused_21 : decode b_Top_isRefused 21 = .ok (.bipush 95, 2) := by decide +kernel
theorem d_Top_isRefused_23 : decode b_Top_isRefused 23 = .ok (.if_icmp .gt 12, 3) := by decide +kernel
theorem d_Top_isRefused_26 : decode b_Top_isRefused 26 = .ok (.aload_n 0, 1) := by decide +kernel
theorem d_Top_isRefused_27 : decode b_Top_isRefused 27 = .ok (.invokevirtual 198, 3) := by decide +kernel
theorem d_Top_isRefused_30 : decode b_Top_isRefused 30 = .ok (.ldc 201, 2) := by decide +kernel
theorem d_Top_isRefused_32 : decode b_Top_isRefused 32 = .ok (.if_icmp .le 7, 3) := by decide +kernel
theorem d_Top_isRefused_35 : decode b_Top_isRefused 35 = .ok (.iconst 1, 1) := by decide +kernel
theorem d_Top_isRefused_36 : decode b_Top_isRefused 36 = .ok (.goto 4, 3) := by decide +kernel
theorem d_Top_isRefused_39 : decode b_Top_isRefused 39 = .ok (.iconst 0, 1) := by decide +kernel
theorem d_Top_isRefused_40 : decode b_Top_isRefused 40 = .ok (.ireturn, 1) := by decide +kernel
theorem d_Top_epochAnew_0 : decode b_Top_epochAnew 0 = .ok (.aload_n 0, 1) := by decide +kernel
theorem d_Top_epochAnew_1 : decode b_Top_epochAnew 1 = .ok (.getfield 12, 3) := by decide +kernel
theorem d_Top_epochAnew_4 : decode b_Top_epochAnew 4 = .ok (.iconst 1, 1) := by decide +kernel
theorem d_Top_epochAnew_5 : decode b_Top_epochAnew 5 = .ok (.aload_n 0, 1) := by decide +kernel
theorem d_Top_epochAnew_6 : decode b_Top_epochAnew 6 = .ok (.getfield 19, 3) := by decide +kernel
theorem d_Top_epochAnew_9 : decode b_Top_epochAnew 9 = .ok (.invokevirtual 174, 3) := by decide +kernel
theorem d_Top_epochAnew_12 : decode b_Top_epochAnew 12 = .ok (.isub, 1) := by decide +kernel
theorem d_Top_epochAnew_13 : decode b_Top_epochAnew 13 = .ok (.invokevirtual 202, 3) := by decide +kernel
theorem d_Top_epochAnew_16 : decode b_Top_epochAnew 16 = .ok (.aload_n 0, 1) := by decide +kernel
theorem d_Top_epochAnew_17 : decode b_Top_epochAnew 17 = .ok (.getfield 19, 3) := by decide +kernel
theorem d_Top_epochAnew_20 : decode b_Top_epochAnew 20 = .ok (.invokevirtual 177, 3) := by decide +kernel
theorem d_Top_epochAnew_23 : decode b_Top_epochAnew 23 = .ok (.invokestatic 205, 3) := by decide +kernel
theorem d_Top_epochAnew_26 : decode b_Top_epochAnew 26 = .ok (.iconst 1, 1) := by decide +kernel
theorem d_Top_epochAnew_27 : decode b_Top_epochAnew 27 = .ok (.iadd, 1) := by decide +kernel
theorem d_Top_epochAnew_28 : decode b_Top_epochAnew 28 = .ok (.ireturn, 1) := by decide +kernel
theorem d_Top_blocksAnew_0 : decode b_Top_blocksAnew 0 = .ok (.iconst 0, 1) := by decide +kernel
theorem d_Top_blocksAnew_1 : decode b_Top_blocksAnew 1 = .ok (.istore_n 1, 1) := by decide +kernel
theorem d_Top_blocksAnew_2 : decode b_Top_blocksAnew 2 = .ok (.aload_n 0, 1) := by decide +kernel
theorem d_Top_blocksAnew_3 : decode b_Top_blocksAnew 3 = .ok (.getfield 39, 3) := by decide +kernel
theorem d_Top_blocksAnew_6 : decode b_Top_blocksAnew 6 = .ok (.invokevirtual 118, 3) := by decide +kernel
theorem d_Top_blocksAnew_9 : decode b_Top_blocksAnew 9 = .ok (.iconst 0, 1) := by decide +kernel
theorem d_Top_blocksAnew_10 : decode b_Top_blocksAnew 10 = .ok (.istore_n 2, 1) := by decide +kernel
theorem d_Top_blocksAnew_11 : decode b_Top_blocksAnew 11 = .ok (.iload_n 2, 1) := by decide +kernel
theorem d_Top_blocksAnew_12 : decode b_Top_blocksAnew 12 = .ok (.sipush 200, 3) := by decide +kernel
theorem d_Top_blocksAnew_15 : decode b_Top_blocksAnew 15 = .ok (.if_icmp .ge 48, 3) := by decide +kernel
theorem d_Top_blocksAnew_18 : decode b_Top_blocksAnew 18 = .ok (.aload_n 0, 1) := by decide +kernel
theorem d_Top_blocksAnew_19 : decode b_Top_blocksAnew 19 = .ok (.iload_n 2, 1) := by decide +kernel
theorem d_Top_blocksAnew_20 : decode b_Top_blocksAnew 20 = .ok (.invokevirtual 211, 3) := by decide +kernel
theorem d_Top_blocksAnew_23 : decode b_Top_blocksAnew 23 = .ok (.aload_n 0, 1) := by decide +kernel
theorem d_Top_blocksAnew_24 : decode b_Top_blocksAnew 24 = .ok (.getfield 39, 3) := by decide +kernel
theorem d_Top_blocksAnew_27 : decode b_Top_blocksAnew 27 = .ok (.invokevirtual 99, 3) := by decide +kernel
theorem d_Top_blocksAnew_30 : decode b_Top_blocksAnew 30 = .ok (.ifCond .ne 10, 3) := by decide +kernel
theorem d_Top_blocksAnew_33 : decode b_Top_blocksAnew 33 = .ok (.iload_n 2, 1) := by decide +kernel
theorem d_Top_blocksAnew_34 : decode b_Top_blocksAnew 34 = .ok (.sipush 199, 3) := by decide +kernel
theorem d_Top_blocksAnew_37 : decode b_Top_blocksAnew 37 = .ok (.if_icmp .ne 20, 3) := by decide +kernel
theorem d_Top_blocksAnew_40 : decode b_Top_blocksAnew 40 = .ok (.iload_n 1, 1) := by decide +kernel
theorem d_Top_blocksAnew_41 : decode b_Top_blocksAnew 41 = .ok (.aload_n 0, 1) := by decide +kernel
theorem d_Top_blocksAnew_42 : decode b_Top_blocksAnew 42 = .ok (.getfield 39, 3) := by decide +kernel
theorem d_Top_blocksAnew_45 : decode b_Top_blocksAnew 45 = .ok (.invokevirtual 191, 3) := by decide +kernel
theorem d_Top_blocksAnew_48 : decode b_Top_blocksAnew 48 = .ok (.iadd, 1) := by decide +kernel
theorem d_Top_blocksAnew_49 : decode b_Top_blocksAnew 49 = .ok (.istore_n 1, 1) := by decide +kernel
theorem d_Top_blocksAnew_50 : decode b_Top_blocksAnew 50 = .ok (.aload_n 0, 1) := by decide +kernel
theorem d_Top_blocksAnew_51 : decode b_Top_blocksAnew 51 = .ok (.getfield 39, 3) := by decide +kernel
theorem d_Top_blocksAnew_54 : decode b_Top_blocksAnew 54 = .ok (.invokevirtual 118, 3) := by decide +kernel
theorem d_Top_blocksAnew_57 : decode b_Top_blocksAnew 57 = .ok (.iinc 2 1, 3) := by decide +kernel
theorem d_Top_blocksAnew_60 : decode b_Top_blocksAnew 60 = .ok (.goto (-49), 3) := by decide +kernel
theorem d_Top_blocksAnew_63 : decode b_Top_blocksAnew 63 = .ok (.iload_n 1, 1) := by decide +kernel
theorem d_Top_blocksAnew_64 : decode b_Top_blocksAnew 64 = .ok (.ireturn, 1) := by decide +kernel
theorem d_Top_gather_0 : decode b_Top_gather 0 = .ok (.aload_n 0, 1) := by decide +kernel
theorem d_Top_gather_1 : decode b_Top_gather 1 = .ok (.getfield 19, 3) := by decide +kernel
theorem d_Top_gather_4 : decode b_Top_gather 4 = .ok (.iload_n 1, 1) := by decide +kernel
theorem d_Top_gather_5 : decode b_Top_gather 5 = .ok (.invokevirtual 152, 3) := by decide +kernel
theorem d_Top_gather_8 : decode b_Top_gather 8 = .ok (.istore_n 2, 1) := by decide +kernel
theorem d_Top_gather_9 : decode b_Top_gather 9 = .ok (.iload_n 2, 1) := by decide +kernel
theorem d_Top_gather_10 : decode b_Top_gather 10 = .ok (.iconst (-1), 1) := by decide +kernel
theorem d_Top_gather_11 : decode b_Top_gather 11 = .ok (.if_icmp .eq 27, 3) := by decide +kernel
theorem d_Top_gather_14 : decode b_Top_gather 14 = .ok (.aload_n 0, 1) := by decide +kernel
theorem d_Top_gather_15 : decode b_Top_gather 15 = .ok (.getfield 39, 3) := by decide +kernel
theorem d_Top_gather_18 : decode b_Top_gather 18 = .ok (.iload_n 1, 1) := by decide +kernel
theorem d_Top_gather_19 : decode b_Top_gather 19 = .ok (.aload_n 0, 1) := by decide +kernel
theorem d_Top_gather_20 : decode b_Top_gather 20 = .ok (.getfield 19, 3) := by decide +kernel
theorem d_Top_gather_23 : decode b_Top_gather 23 = .ok (.invokevirtual 161, 3) := by decide +kernel
theorem d_Top_gather_26 : decode b_Top_gather 26 = .ok (.aload_n 0, 1) := by decide +kernel
theorem d_Top_gather_27 : decode b_Top_gather 27 = .ok (.getfield 19, 3) := by decide +kernel
theorem d_Top_gather_30 : decode b_Top_gather 30 = .ok (.iload_n 1, 1) := by decide +kernel
theorem d_Top_gather_31 : decode b_Top_gather 31 = .ok (.invokevirtual 165, 3) := by decide +kernel
theorem d_Top_gather_34 : decode b_Top_gather 34 = .ok (.iload_n 2, 1) := by decide +kernel
theorem d_Top_gather_35 : decode b_Top_gather 35 = .ok (.invokevirtual 105, 3) := by decide +kernel
theorem d_Top_gather_38 : decode b_Top_gather 38 = .ok (.return_, 1) := by decide +kernel
theorem d_Top_writeBatch_0 : decode b_Top_writeBatch 0 = .ok (.aload_n 0, 1) := by decide +kernel
theorem d_Top_writeBatch_1 : decode b_Top_writeBatch 1 = .ok (.getfield 19, 3) := by decide +kernel
theorem d_Top_writeBatch_4 : decode b_Top_writeBatch 4 = .ok (.invokevirtual 174, 3) := by decide +kernel
theorem d_Top_writeBatch_7 : decode b_Top_writeBatch 7 = .ok (.istore_n 1, 1) := by decide +kernel
theorem d_Top_writeBatch_8 : decode b_Top_writeBatch 8 = .ok (.aload_n 0, 1) := by decide +kernel
theorem d_Top_writeBatch_9 : decode b_Top_writeBatch 9 = .ok (.getfield 19, 3) := by decide +kernel
theorem d_Top_writeBatch_12 : decode b_Top_writeBatch 12 = .ok (.invokevirtual 177, 3) := by decide +kernel
theorem d_Top_writeBatch_15 : decode b_Top_writeBatch 15 = .ok (.istore_n 2, 1) := by decide +kernel
theorem d_Top_writeBatch_16 : decode b_Top_writeBatch 16 = .ok (.aload_n 0, 1) := by decide +kernel
theorem d_Top_writeBatch_17 : decode b_Top_writeBatch 17 = .ok (.getfield 19, 3) := by decide +kernel
theorem d_Top_writeBatch_20 : decode b_Top_writeBatch 20 = .ok (.invokevirtual 180, 3) := by decide +kernel
theorem d_Top_writeBatch_23 : decode b_Top_writeBatch 23 = .ok (.istore_n 3, 1) := by decide +kernel
theorem d_Top_writeBatch_24 : decode b_Top_writeBatch 24 = .ok (.aload_n 0, 1) := by decide +kernel
theorem d_Top_writeBatch_25 : decode b_Top_writeBatch 25 = .ok (.invokevirtual 192, 3) := by decide +kernel
theorem d_Top_writeBatch_28 : decode b_Top_writeBatch 28 = .ok (.ifCond .eq 19, 3) := by decide +kernel
theorem d_Top_writeBatch_31 : decode b_Top_writeBatch 31 = .ok (.aload_n 0, 1) := by decide +kernel
theorem d_Top_writeBatch_32 : decode b_Top_writeBatch 32 = .ok (.invokevirtual 198, 3) := by decide +kernel
theorem d_Top_writeBatch_35 : decode b_Top_writeBatch 35 = .ok (.istore_n 2, 1) := by decide +kernel
theorem d_Top_writeBatch_36 : decode b_Top_writeBatch 36 = .ok (.iconst 1, 1) := by decide +kernel
theorem d_Top_writeBatch_37 : decode b_Top_writeBatch 37 = .ok (.iload_n 1, 1) := by decide +kernel
theorem d_Top_writeBatch_38 : decode b_Top_writeBatch 38 = .ok (.isub, 1) := by decide +kernel
theorem d_Top_writeBatch_39 : decode b_Top_writeBatch 39 = .ok (.istore_n 1, 1) := by decide +kernel
theorem d_Top_writeBatch_40 : decode b_Top_writeBatch 40 = .ok (.aload_n 0, 1) := by decide +kernel
theorem d_Top_writeBatch_41 : decode b_Top_writeBatch 41 = .ok (.iload_n 1, 1) := by decide +kernel
theorem d_Top_writeBatch_42 : decode b_Top_writeBatch 42 = .ok (.iload_n 2, 1) := by decide +kernel
theorem d_Top_writeBatch_43 : decode b_Top_writeBatch 43 = .ok (.invokevirtual 214, 3) := by decide +kernel
theorem d_Top_writeBatch_46 : decode b_Top_writeBatch 46 = .ok (.istore_n 3, 1) := by decide +kernel
theorem d_Top_writeBatch_47 : decode b_Top_writeBatch 47 = .ok (.aload_n 0, 1) := by decide +kernel
theorem d_Top_writeBatch_48 : decode b_Top_writeBatch 48 = .ok (.aload_n 0, 1) := by decide +kernel
theorem d_Top_writeBatch_49 : decode b_Top_writeBatch 49 = .ok (.getfield 35, 3) := by decide +kernel
theorem d_Top_writeBatch_52 : decode b_Top_writeBatch 52 = .ok (.iload_n 1, 1) := by decide +kernel
theorem d_Top_writeBatch_53 : decode b_Top_writeBatch 53 = .ok (.iload_n 2, 1) := by decide +kernel
theorem d_Top_writeBatch_54 : decode b_Top_writeBatch 54 = .ok (.iload_n 3, 1) := by decide +kernel
theorem d_Top_writeBatch_55 : decode b_Top_writeBatch 55 = .ok (.invokevirtual 217, 3) := by decide +kernel
theorem d_Top_writeBatch_58 : decode b_Top_writeBatch 58 = .ok (.aload_n 0, 1) := by decide +kernel
theorem d_Top_writeBatch_59 : decode b_Top_writeBatch 59 = .ok (.dup, 1) := by decide +kernel
theorem d_Top_writeBatch_60 : decode b_Top_writeBatch 60 = .ok (.getfield 56, 3) := by decide +kernel
theorem d_Top_writeBatch_63 : decode b_Top_writeBatch 63 = .ok (.aload_n 0, 1) := by decide +kernel
theorem d_Top_writeBatch_64 : decode b_Top_writeBatch 64 = .ok (.getfield 52, 3) := by decide +kernel
theorem d_Top_writeBatch_67 : decode b_Top_writeBatch 67 = .ok (.invokevirtual 131, 3) := by decide +kernel
theorem d_Top_writeBatch_70 : decode b_Top_writeBatch 70 = .ok (.iadd, 1) := by decide +kernel
theorem d_Top_writeBatch_71 : decode b_Top_writeBatch 71 = .ok (.putfield 56, 3) := by decide +kernel
theorem d_Top_writeBatch_74 : decode b_Top_writeBatch 74 = .ok (.aload_n 0, 1) := by decide +kernel
theorem d_Top_writeBatch_75 : decode b_Top_writeBatch 75 = .ok (.getfield 19, 3) := by decide +kernel
theorem d_Top_writeBatch_78 : decode b_Top_writeBatch 78 = .ok (.aload_n 0, 1) := by decide +kernel
theorem d_Top_writeBatch_79 : decode b_Top_writeBatch 79 = .ok (.getfield 12, 3) := by decide +kernel
theorem d_Top_writeBatch_82 : decode b_Top_writeBatch 82 = .ok (.invokevirtual 70, 3) := by decide +kernel
theorem d_Top_writeBatch_85 : decode b_Top_writeBatch 85 = .ok (.return_, 1) := by decide +kernel
theorem d_Top_writeAnew_0 : decode b_Top_writeAnew 0 = .ok (.iconst 0, 1) := by decide +kernel
theorem d_Top_writeAnew_1 : decode b_Top_writeAnew 1 = .ok (.istore_n 3, 1) := by decide +kernel
theorem d_Top_writeAnew_2 : decode b_Top_writeAnew 2 = .ok (.aload_n 0, 1) := by decide +kernel
theorem d_Top_writeAnew_3 : decode b_Top_writeAnew 3 = .ok (.getfield 39, 3) := by decide +kernel
theorem d_Top_writeAnew_6 : decode b_Top_writeAnew 6 = .ok (.invokevirtual 118, 3) := by decide +kernel
theorem d_Top_writeAnew_9 : decode b_Top_writeAnew 9 = .ok (.iconst 0, 1) := by decide +kernel
theorem d_Top_writeAnew_10 : decode b_Top_writeAnew 10 = .ok (.istore 4, 2) := by decide +kernel
theorem d_Top_writeAnew_12 : decode b_Top_writeAnew 12 = .ok (.iload 4, 2) := by decide +kernel
theorem d_Top_writeAnew_14 : decode b_Top_writeAnew 14 = .ok (.sipush 200, 3) := by decide +kernel
theorem d_Top_writeAnew_17 : decode b_Top_writeAnew 17 = .ok (.if_icmp .ge 61, 3) := by decide +kernel
theorem d_Top_writeAnew_20 : decode b_Top_writeAnew 20 = .ok (.aload_n 0, 1) := by decide +kernel
theorem d_Top_writeAnew_21 : decode b_Top_writeAnew 21 = .ok (.iload 4, 2) := by decide +kernel
theorem d_Top_writeAnew_23 : decode b_Top_writeAnew 23 = .ok (.invokevirtual 211, 3) := by decide +kernel
theorem d_Top_writeAnew_26 : decode b_Top_writeAnew 26 = .ok (.aload_n 0, 1) := by decide +kernel
theorem d_Top_writeAnew_27 : decode b_Top_writeAnew 27 = .ok (.getfield 39, 3) := by decide +kernel
theorem d_Top_writeAnew_30 : decode b_Top_writeAnew 30 = .ok (.invokevirtual 99, 3) := by decide +kernel
theorem d_Top_writeAnew_33 : decode b_Top_writeAnew 33 = .ok (.ifCond .ne 11, 3) := by decide +kernel
theorem d_Top_writeAnew_36 : decode b_Top_writeAnew 36 = .ok (.iload 4, 2) := by decide +kernel
theorem d_Top_writeAnew_38 : decode b_Top_writeAnew 38 = .ok (.sipush 199, 3) := by decide +kernel
theorem d_Top_writeAnew_41 : decode b_Top_writeAnew 41 = .ok (.if_icmp .ne 31, 3) := by decide +kernel
theorem d_Top_writeAnew_44 : decode b_Top_writeAnew 44 = .ok (.aload_n 0, 1) := by decide +kernel
theorem d_Top_writeAnew_45 : decode b_Top_writeAnew 45 = .ok (.aload_n 0, 1) := by decide +kernel
theorem d_Top_writeAnew_46 : decode b_Top_writeAnew 46 = .ok (.getfield 39, 3) := by decide +kernel
theorem d_Top_writeAnew_49 : decode b_Top_writeAnew 49 = .ok (.iload_n 1, 1) := by decide +kernel
theorem d_Top_writeAnew_50 : decode b_Top_writeAnew 50 = .ok (.iload_n 2, 1) := by decide +kernel
theorem d_Top_writeAnew_51 : decode b_Top_writeAnew 51 = .ok (.iload_n 3, 1) := by decide +kernel
theorem d_Top_writeAnew_52 : decode b_Top_writeAnew 52 = .ok (.invokevirtual 217, 3) := by decide +kernel
theorem d_Top_writeAnew_55 : decode b_Top_writeAnew 55 = .ok (.iload_n 3, 1) := by decide +kernel
theorem d_Top_writeAnew_56 : decode b_Top_writeAnew 56 = .ok (.aload_n 0, 1) := by decide +kernel
theorem d_Top_writeAnew_57 : decode b_Top_writeAnew 57 = .ok (.getfield 39, 3) := by decide +kernel
theorem d_Top_writeAnew_60 : decode b_Top_writeAnew 60 = .ok (.invokevirtual 191, 3) := by decide +kernel
theorem d_Top_writeAnew_63 : decode b_Top_writeAnew 63 = .ok (.iadd, 1) := by decide +kernel
theorem d_Top_writeAnew_64 : decode b_Top_writeAnew 64 = .ok (.istore_n 3, 1) := by decide +kernel
theorem d_Top_writeAnew_65 : decode b_Top_writeAnew 65 = .ok (.aload_n 0, 1) := by decide +kernel
theorem d_Top_writeAnew_66 : decode b_Top_writeAnew 66 = .ok (.getfield 39, 3) := by decide +kernel
theorem d_Top_writeAnew_69 : decode b_Top_writeAnew 69 = .ok (.invokevirtual 118, 3) := by decide +kernel
theorem d_Top_writeAnew_72 : decode b_Top_writeAnew 72 = .ok (.iinc 4 1, 3) := by decide +kernel
theorem d_Top_writeAnew_75 : decode b_Top_writeAnew 75 = .ok (.goto (-63), 3) := by decide +kernel
theorem d_Top_writeAnew_78 : decode b_Top_writeAnew 78 = .ok (.aload_n 0, 1) := by decide +kernel
theorem d_Top_writeAnew_79 : decode b_Top_writeAnew 79 = .ok (.getfield 45, 3) := by decide +kernel
theorem d_Top_writeAnew_82 : decode b_Top_writeAnew 82 = .ok (.iload_n 2, 1) := by decide +kernel
theorem d_Top_writeAnew_83 : decode b_Top_writeAnew 83 = .ok (.invokevirtual 63, 3) := by decide +kernel
theorem d_Top_writeAnew_86 : decode b_Top_writeAnew 86 = .ok (.aload_n 0, 1) := by decide +kernel
theorem d_Top_writeAnew_87 : decode b_Top_writeAnew 87 = .ok (.getfield 52, 3) := by decide +kernel
theorem d_Top_writeAnew_90 : decode b_Top_writeAnew 90 = .ok (.aload_n 0, 1) := by decide +kernel
theorem d_Top_writeAnew_91 : decode b_Top_writeAnew 91 = .ok (.getfield 12, 3) := by decide +kernel
theorem d_Top_writeAnew_94 : decode b_Top_writeAnew 94 = .ok (.iload_n 1, 1) := by decide +kernel
theorem d_Top_writeAnew_95 : decode b_Top_writeAnew 95 = .ok (.bipush 96, 2) := by decide +kernel
theorem d_Top_writeAnew_97 : decode b_Top_writeAnew 97 = .ok (.imul, 1) := by decide +kernel
theorem d_Top_writeAnew_98 : decode b_Top_writeAnew 98 = .ok (.aload_n 0, 1) := by decide +kernel
theorem d_Top_writeAnew_99 : decode b_Top_writeAnew 99 = .ok (.getfield 45, 3) := by decide +kernel
theorem d_Top_writeAnew_102 : decode b_Top_writeAnew 102 = .ok (.invokevirtual 221, 3) := by decide +kernel
theorem d_Top_writeAnew_105 : decode b_Top_writeAnew 105 = .ok (.ifCond .eq 13, 3) := by decide +kernel
theorem d_Top_writeAnew_108 : decode b_Top_writeAnew 108 = .ok (.aload_n 0, 1) := by decide +kernel
theorem d_Top_writeAnew_109 : decode b_Top_writeAnew 109 = .ok (.dup, 1) := by decide +kernel
theorem d_Top_writeAnew_110 : decode b_Top_writeAnew 110 = .ok (.getfield 60, 3) := by decide +kernel
theorem d_Top_writeAnew_113 : decode b_Top_writeAnew 113 = .ok (.iconst 1, 1) := by decide +kernel
theorem d_Top_writeAnew_114 : decode b_Top_writeAnew 114 = .ok (.iadd, 1) := by decide +kernel
theorem d_Top_writeAnew_115 : decode b_Top_writeAnew 115 = .ok (.putfield 60, 3) := by decide +kernel
theorem d_Top_writeAnew_118 : decode b_Top_writeAnew 118 = .ok (.iload_n 3, 1) := by decide +kernel
theorem d_Top_writeAnew_119 : decode b_Top_writeAnew 119 = .ok (.ireturn, 1) := by decide +kernel
theorem d_Top_writeEntry_0 : decode b_Top_writeEntry 0 = .ok (.aload_n 1, 1) := by decide +kernel
theorem d_Top_writeEntry_1 : decode b_Top_writeEntry 1 = .ok (.invokevirtual 191, 3) := by decide +kernel
theorem d_Top_writeEntry_4 : decode b_Top_writeEntry 4 = .ok (.istore 5, 2) := by decide +kernel
theorem d_Top_writeEntry_6 : decode b_Top_writeEntry 6 = .ok (.iconst 0, 1) := by decide +kernel
theorem d_Top_writeEntry_7 : decode b_Top_writeEntry 7 = .ok (.istore 6, 2) := by decide +kernel
theorem d_Top_writeEntry_9 : decode b_Top_writeEntry 9 = .ok (.iload 6, 2) := by decide +kernel
theorem d_Top_writeEntry_11 : decode b_Top_writeEntry 11 = .ok (.iload 5, 2) := by decide +kernel
theorem d_Top_writeEntry_13 : decode b_Top_writeEntry 13 = .ok (.if_icmp .ge 60, 3) := by decide +kernel
theorem d_Top_writeEntry_16 : decode b_Top_writeEntry 16 = .ok (.iload 4, 2) := by decide +kernel
theorem d_Top_writeEntry_18 : decode b_Top_writeEntry 18 = .ok (.iconst 1, 1) := by decide +kernel
theorem d_Top_writeEntry_19 : decode b_Top_writeEntry 19 = .ok (.iadd, 1) := by decide +kernel
theorem d_Top_writeEntry_20 : decode b_Top_writeEntry 20 = .ok (.iload 6, 2) := by decide +kernel
theorem d_Top_writeEntry_22 : decode b_Top_writeEntry 22 = .ok (.iadd, 1) := by decide +kernel
theorem d_Top_writeEntry_23 : decode b_Top_writeEntry 23 = .ok (.istore 7, 2) := by decide +kernel
theorem d_Top_writeEntry_25 : decode b_Top_writeEntry 25 = .ok (.aload_n 0, 1) := by decide +kernel
theorem d_Top_writeEntry_26 : decode b_Top_writeEntry 26 = .ok (.getfield 45, 3) := by decide +kernel
theorem d_Top_writeEntry_29 : decode b_Top_writeEntry 29 = .ok (.iload_n 3, 1) := by decide +kernel
theorem d_Top_writeEntry_30 : decode b_Top_writeEntry 30 = .ok (.iload 7, 2) := by decide +kernel
theorem d_Top_writeEntry_32 : decode b_Top_writeEntry 32 = .ok (.aload_n 1, 1) := by decide +kernel
theorem d_Top_writeEntry_33 : decode b_Top_writeEntry 33 = .ok (.invokevirtual 225, 3) := by decide +kernel
theorem d_Top_writeEntry_36 : decode b_Top_writeEntry 36 = .ok (.iload 6, 2) := by decide +kernel
theorem d_Top_writeEntry_38 : decode b_Top_writeEntry 38 = .ok (.bipush 26, 2) := by decide +kernel
theorem d_Top_writeEntry_40 : decode b_Top_writeEntry 40 = .ok (.imul, 1) := by decide +kernel
theorem d_Top_writeEntry_41 : decode b_Top_writeEntry 41 = .ok (.invokevirtual 226, 3) := by decide +kernel
theorem d_Top_writeEntry_44 : decode b_Top_writeEntry 44 = .ok (.aload_n 0, 1) := by decide +kernel
theorem d_Top_writeEntry_45 : decode b_Top_writeEntry 45 = .ok (.getfield 52, 3) := by decide +kernel
theorem d_Top_writeEntry_48 : decode b_Top_writeEntry 48 = .ok (.aload_n 0, 1) := by decide +kernel
theorem d_Top_writeEntry_49 : decode b_Top_writeEntry 49 = .ok (.getfield 12, 3) := by decide +kernel
theorem d_Top_writeEntry_52 : decode b_Top_writeEntry 52 = .ok (.iload_n 2, 1) := by decide +kernel
theorem d_Top_writeEntry_53 : decode b_Top_writeEntry 53 = .ok (.bipush 96, 2) := by decide +kernel
theorem d_Top_writeEntry_55 : decode b_Top_writeEntry 55 = .ok (.imul, 1) := by decide +kernel
theorem d_Top_writeEntry_56 : decode b_Top_writeEntry 56 = .ok (.iload 7, 2) := by decide +kernel
theorem d_Top_writeEntry_58 : decode b_Top_writeEntry 58 = .ok (.iadd, 1) := by decide +kernel
theorem d_Top_writeEntry_59 : decode b_Top_writeEntry 59 = .ok (.aload_n 0, 1) := by decide +kernel
theorem d_Top_writeEntry_60 : decode b_Top_writeEntry 60 = .ok (.getfield 45, 3) := by decide +kernel
theorem d_Top_writeEntry_63 : decode b_Top_writeEntry 63 = .ok (.invokevirtual 221, 3) := by decide +kernel
theorem d_Top_writeEntry_66 : decode b_Top_writeEntry 66 = .ok (.pop, 1) := by decide +kernel
theorem d_Top_writeEntry_67 : decode b_Top_writeEntry 67 = .ok (.iinc 6 1, 3) := by decide +kernel
theorem d_Top_writeEntry_70 : decode b_Top_writeEntry 70 = .ok (.goto (-61), 3) := by decide +kernel
theorem d_Top_writeEntry_73 : decode b_Top_writeEntry 73 = .ok (.return_, 1) := by decide +kernel
theorem d_Top_sumOf_0 : decode b_Top_sumOf 0 = .ok (.iload_n 1, 1) := by decide +kernel
theorem d_Top_sumOf_1 : decode b_Top_sumOf 1 = .ok (.ifCond .lt 12, 3) := by decide +kernel
theorem d_Top_sumOf_4 : decode b_Top_sumOf 4 = .ok (.iload_n 1, 1) := by decide +kernel
theorem d_Top_sumOf_5 : decode b_Top_sumOf 5 = .ok (.aload_n 0, 1) := by decide +kernel
theorem d_Top_sumOf_6 : decode b_Top_sumOf 6 = .ok (.arraylength, 1) := by decide +kernel
theorem d_Top_sumOf_7 : decode b_Top_sumOf 7 = .ok (.bipush 32, 2) := by decide +kernel
theorem d_Top_sumOf_9 : decode b_Top_sumOf 9 = .ok (.isub, 1) := by decide +kernel
theorem d_Top_sumOf_10 : decode b_Top_sumOf 10 = .ok (.if_icmp .le 5, 3) := by decide +kernel
theorem d_Top_sumOf_13 : decode b_Top_sumOf 13 = .ok (.iconst 0, 1) := by decide +kernel
theorem d_Top_sumOf_14 : decode b_Top_sumOf 14 = .ok (.ireturn, 1) := by decide +kernel
theorem d_Top_sumOf_15 : decode b_Top_sumOf 15 = .ok (.iconst 0, 1) := by decide +kernel
theorem d_Top_sumOf_16 : decode b_Top_sumOf 16 = .ok (.istore_n 2, 1) := by decide +kernel
theorem d_Top_sumOf_17 : decode b_Top_sumOf 17 = .ok (.iconst 0, 1) := by decide +kernel
theorem d_Top_sumOf_18 : decode b_Top_sumOf 18 = .ok (.istore_n 3, 1) := by decide +kernel
theorem d_Top_sumOf_19 : decode b_Top_sumOf 19 = .ok (.iload_n 3, 1) := by decide +kernel
theorem d_Top_sumOf_20 : decode b_Top_sumOf 20 = .ok (.bipush 32, 2) := by decide +kernel
theorem d_Top_sumOf_22 : decode b_Top_sumOf 22 = .ok (.if_icmp .ge 26, 3) := by decide +kernel
theorem d_Top_sumOf_25 : decode b_Top_sumOf 25 = .ok (.iload_n 3, 1) := by decide +kernel
theorem d_Top_sumOf_26 : decode b_Top_sumOf 26 = .ok (.iconst 3, 1) := by decide +kernel
theorem d_Top_sumOf_27 : decode b_Top_sumOf 27 = .ok (.if_icmp .eq 15, 3) := by decide +kernel
theorem d_Top_sumOf_30 : decode b_Top_sumOf 30 = .ok (.iload_n 2, 1) := by decide +kernel
theorem d_Top_sumOf_31 : decode b_Top_sumOf 31 = .ok (.aload_n 0, 1) := by decide +kernel
theorem d_Top_sumOf_32 : decode b_Top_sumOf 32 = .ok (.iload_n 1, 1) := by decide +kernel
theorem d_Top_sumOf_33 : decode b_Top_sumOf 33 = .ok (.iload_n 3, 1) := by decide +kernel
theorem d_Top_sumOf_34 : decode b_Top_sumOf 34 = .ok (.iadd, 1) := by decide +kernel
theorem d_Top_sumOf_35 : decode b_Top_sumOf 35 = .ok (.iaload, 1) := by decide +kernel
theorem d_Top_sumOf_36 : decode b_Top_sumOf 36 = .ok (.iload_n 3, 1) := by decide +kernel
theorem d_Top_sumOf_37 : decode b_Top_sumOf 37 = .ok (.iconst 1, 1) := by decide +kernel
theorem d_Top_sumOf_38 : decode b_Top_sumOf 38 = .ok (.iadd, 1) := by decide +kernel
theorem d_Top_sumOf_39 : decode b_Top_sumOf 39 = .ok (.imul, 1) := by decide +kernel
theorem d_Top_sumOf_40 : decode b_Top_sumOf 40 = .ok (.iadd, 1) := by decide +kernel
theorem d_Top_sumOf_41 : decode b_Top_sumOf 41 = .ok (.istore_n 2, 1) := by decide +kernel
theorem d_Top_sumOf_42 : decode b_Top_sumOf 42 = .ok (.iinc 3 1, 3) := by decide +kernel
theorem d_Top_sumOf_45 : decode b_Top_sumOf 45 = .ok (.goto (-26), 3) := by decide +kernel
theorem d_Top_sumOf_48 : decode b_Top_sumOf 48 = .ok (.iload_n 2, 1) := by decide +kernel
theorem d_Top_sumOf_49 : decode b_Top_sumOf 49 = .ok (.sipush 255, 3) := by decide +kernel
theorem d_Top_sumOf_52 : decode b_Top_sumOf 52 = .ok (.iand, 1) := by decide +kernel
theorem d_Top_sumOf_53 : decode b_Top_sumOf 53 = .ok (.ireturn, 1) := by decide +kernel
