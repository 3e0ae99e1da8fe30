theorem d_Law_put_0 : decode b_Law_put 0 = .ok (.aload_n 3, 1) := by decide +kernel
theorem d_Law_put_1 : decode b_Law_put 1 = .ok (.iconst 0, 1) := by decide +kernel
theorem d_Law_put_2 : decode b_Law_put 2 = .ok (.aload_n 0, 1) := by decide +kernel
theorem d_Law_put_3 : decode b_Law_put 3 = .ok (.iload_n 1, 1) := by decide +kernel
theorem d_Law_put_4 : decode b_Law_put 4 = .ok (.iload_n 2, 1) := by decide +kernel
theorem d_Law_put_5 : decode b_Law_put 5 = .ok (.invokevirtual 7, 3) := by decide +kernel
theorem d_Law_put_8 : decode b_Law_put 8 = .ok (.i2l, 1) := by decide +kernel
theorem d_Law_put_9 : decode b_Law_put 9 = .ok (.lastore, 1) := by decide +kernel
theorem d_Law_put_10 : decode b_Law_put 10 = .ok (.goto 11, 3) := by decide +kernel
theorem d_Law_put_13 : decode b_Law_put 13 = .ok (.astore 4, 2) := by decide +kernel
theorem d_Law_put_15 : decode b_Law_put 15 = .ok (.iconst 1, 1) := by decide +kernel
theorem d_Law_put_16 : decode b_Law_put 16 = .ok (.ireturn, 1) := by decide +kernel
theorem d_Law_put_17 : decode b_Law_put 17 = .ok (.astore 4, 2) := by decide +kernel
theorem d_Law_put_19 : decode b_Law_put 19 = .ok (.iconst 2, 1) := by decide +kernel
theorem d_Law_put_20 : decode b_Law_put 20 = .ok (.ireturn, 1) := by decide +kernel
theorem d_Law_put_21 : decode b_Law_put 21 = .ok (.iconst 0, 1) := by decide +kernel
theorem d_Law_put_22 : decode b_Law_put 22 = .ok (.ireturn, 1) := by decide +kernel
theorem d_Law_set_0 : decode b_Law_set 0 = .ok (.aload_n 2, 1) := by decide +kernel
theorem d_Law_set_1 : decode b_Law_set 1 = .ok (.iconst 0, 1) := by decide +kernel
theorem d_Law_set_2 : decode b_Law_set 2 = .ok (.aload_n 0, 1) := by decide +kernel
theorem d_Law_set_3 : decode b_Law_set 3 = .ok (.iload_n 1, 1) := by decide +kernel
theorem d_Law_set_4 : decode b_Law_set 4 = .ok (.invokevirtual 17, 3) := by decide +kernel
theorem d_Law_set_7 : decode b_Law_set 7 = .ok (.i2l, 1) := by decide +kernel
theorem d_Law_set_8 : decode b_Law_set 8 = .ok (.lastore, 1) := by decide +kernel
theorem d_Law_set_9 : decode b_Law_set 9 = .ok (.goto 9, 3) := by decide +kernel
theorem d_Law_set_12 : decode b_Law_set 12 = .ok (.astore_n 3, 1) := by decide +kernel
theorem d_Law_set_13 : decode b_Law_set 13 = .ok (.iconst 1, 1) := by decide +kernel
theorem d_Law_set_14 : decode b_Law_set 14 = .ok (.ireturn, 1) := by decide +kernel
theorem d_Law_set_15 : decode b_Law_set 15 = .ok (.astore_n 3, 1) := by decide +kernel
theorem d_Law_set_16 : decode b_Law_set 16 = .ok (.iconst 2, 1) := by decide +kernel
theorem d_Law_set_17 : decode b_Law_set 17 = .ok (.ireturn, 1) := by decide +kernel
theorem d_Law_set_18 : decode b_Law_set 18 = .ok (.iconst 0, 1) := by decide +kernel
theorem d_Law_set_19 : decode b_Law_set 19 = .ok (.ireturn, 1) := by decide +kernel
theorem d_Law_drop_0 : decode b_Law_drop 0 = .ok (.aload_n 2, 1) := by decide +kernel
theorem d_Law_drop_1 : decode b_Law_drop 1 = .ok (.iconst 0, 1) := by decide +kernel
theorem d_Law_drop_2 : decode b_Law_drop 2 = .ok (.aload_n 0, 1) := by decide +kernel
theorem d_Law_drop_3 : decode b_Law_drop 3 = .ok (.iload_n 1, 1) := by decide +kernel
theorem d_Law_drop_4 : decode b_Law_drop 4 = .ok (.invokevirtual 21, 3) := by decide +kernel
theorem d_Law_drop_7 : decode b_Law_drop 7 = .ok (.i2l, 1) := by decide +kernel
theorem d_Law_drop_8 : decode b_Law_drop 8 = .ok (.lastore, 1) := by decide +kernel
theorem d_Law_drop_9 : decode b_Law_drop 9 = .ok (.goto 9, 3) := by decide +kernel
theorem d_Law_drop_12 : decode b_Law_drop 12 = .ok (.astore_n 3, 1) := by decide +kernel
theorem d_Law_drop_13 : decode b_Law_drop 13 = .ok (.iconst 1, 1) := by decide +kernel
theorem d_Law_drop_14 : decode b_Law_drop 14 = .ok (.ireturn, 1) := by decide +kernel
theorem d_Law_drop_15 : decode b_Law_drop 15 = .ok (.astore_n 3, 1) := by decide +kernel
theorem d_Law_drop_16 : decode b_Law_drop 16 = .ok (.iconst 2, 1) := by decide +kernel
theorem d_Law_drop_17 : decode b_Law_drop 17 = .ok (.ireturn, 1) := by decide +kernel
theorem d_Law_drop_18 : decode b_Law_drop 18 = .ok (.iconst 0, 1) := by decide +kernel
theorem d_Law_drop_19 : decode b_Law_drop 19 = .ok (.ireturn, 1) := by decide +kernel
theorem d_Law_commit_0 : decode b_Law_commit 0 = .ok (.aload_n 1, 1) := by decide +kernel
theorem d_Law_commit_1 : decode b_Law_commit 1 = .ok (.iconst 0, 1) := by decide +kernel
theorem d_Law_commit_2 : decode b_Law_commit 2 = .ok (.aload_n 0, 1) := by decide +kernel
theorem d_Law_commit_3 : decode b_Law_commit 3 = .ok (.invokevirtual 24, 3) := by decide +kernel
theorem d_Law_commit_6 : decode b_Law_commit 6 = .ok (.i2l, 1) := by decide +kernel
theorem d_Law_commit_7 : decode b_Law_commit 7 = .ok (.lastore, 1) := by decide +kernel
theorem d_Law_commit_8 : decode b_Law_commit 8 = .ok (.goto 6, 3) := by decide +kernel
theorem d_Law_commit_11 : decode b_Law_commit 11 = .ok (.astore_n 2, 1) := by decide +kernel
theorem d_Law_commit_12 : decode b_Law_commit 12 = .ok (.iconst 1, 1) := by decide +kernel
theorem d_Law_commit_13 : decode b_Law_commit 13 = .ok (.ireturn, 1) := by decide +kernel
theorem d_Law_commit_14 : decode b_Law_commit 14 = .ok (.iconst 0, 1) := by decide +kernel
theorem d_Law_commit_15 : decode b_Law_commit 15 = .ok (.ireturn, 1) := by decide +kernel
theorem d_Law_crash_0 : decode b_Law_crash 0 = .ok (.aload_n 3, 1) := by decide +kernel
theorem d_Law_crash_1 : decode b_Law_crash 1 = .ok (.iconst 0, 1) := by decide +kernel
theorem d_Law_crash_2 : decode b_Law_crash 2 = .ok (.aload_n 0, 1) := by decide +kernel
theorem d_Law_crash_3 : decode b_Law_crash 3 = .ok (.iload_n 1, 1) := by decide +kernel
theorem d_Law_crash_4 : decode b_Law_crash 4 = .ok (.iload_n 2, 1) := by decide +kernel
theorem d_Law_crash_5 : decode b_Law_crash 5 = .ok (.invokevirtual 28, 3) := by decide +kernel
theorem d_Law_crash_8 : decode b_Law_crash 8 = .ok (.i2l, 1) := by decide +kernel
theorem d_Law_crash_9 : decode b_Law_crash 9 = .ok (.lastore, 1) := by decide +kernel
theorem d_Law_crash_10 : decode b_Law_crash 10 = .ok (.goto 11, 3) := by decide +kernel
theorem d_Law_crash_13 : decode b_Law_crash 13 = .ok (.astore 4, 2) := by decide +kernel
theorem d_Law_crash_15 : decode b_Law_crash 15 = .ok (.iconst 1, 1) := by decide +kernel
theorem d_Law_crash_16 : decode b_Law_crash 16 = .ok (.ireturn, 1) := by decide +kernel
theorem d_Law_crash_17 : decode b_Law_crash 17 = .ok (.astore 4, 2) := by decide +kernel
theorem d_Law_crash_19 : decode b_Law_crash 19 = .ok (.iconst 2, 1) := by decide +kernel
theorem d_Law_crash_20 : decode b_Law_crash 20 = .ok (.ireturn, 1) := by decide +kernel
theorem d_Law_crash_21 : decode b_Law_crash 21 = .ok (.iconst 0, 1) := by decide +kernel
theorem d_Law_crash_22 : decode b_Law_crash 22 = .ok (.ireturn, 1) := by decide +kernel
theorem d_Law_spoil_0 : decode b_Law_spoil 0 = .ok (.aload_n 0, 1) := by decide +kernel
theorem d_Law_spoil_1 : decode b_Law_spoil 1 = .ok (.iload_n 1, 1) := by decide +kernel
theorem d_Law_spoil_2 : decode b_Law_spoil 2 = .ok (.iload_n 2, 1) := by decide +kernel
theorem d_Law_spoil_3 : decode b_Law_spoil 3 = .ok (.invokevirtual 31, 3) := by decide +kernel
theorem d_Law_spoil_6 : decode b_Law_spoil 6 = .ok (.goto 6, 3) := by decide +kernel
theorem d_Law_spoil_9 : decode b_Law_spoil 9 = .ok (.astore_n 3, 1) := by decide +kernel
theorem d_Law_spoil_10 : decode b_Law_spoil 10 = .ok (.iconst 1, 1) := by decide +kernel
theorem d_Law_spoil_11 : decode b_Law_spoil 11 = .ok (.ireturn, 1) := by decide +kernel
theorem d_Law_spoil_12 : decode b_Law_spoil 12 = .ok (.iconst 0, 1) := by decide +kernel
theorem d_Law_spoil_13 : decode b_Law_spoil 13 = .ok (.ireturn, 1) := by decide +kernel
theorem d_Law_size_0 : decode b_Law_size 0 = .ok (.aload_n 2, 1) := by decide +kernel
theorem d_Law_size_1 : decode b_Law_size 1 = .ok (.iconst 0, 1) := by decide +kernel
theorem d_Law_size_2 : decode b_Law_size 2 = .ok (.aload_n 0, 1) := by decide +kernel
theorem d_Law_size_3 : decode b_Law_size 3 = .ok (.iload_n 1, 1) := by decide +kernel
theorem d_Law_size_4 : decode b_Law_size 4 = .ok (.invokevirtual 37, 3) := by decide +kernel
theorem d_Law_size_7 : decode b_Law_size 7 = .ok (.i2l, 1) := by decide +kernel
theorem d_Law_size_8 : decode b_Law_size 8 = .ok (.lastore, 1) := by decide +kernel
theorem d_Law_size_9 : decode b_Law_size 9 = .ok (.goto 6, 3) := by decide +kernel
theorem d_Law_size_12 : decode b_Law_size 12 = .ok (.astore_n 3, 1) := by decide +kernel
theorem d_Law_size_13 : decode b_Law_size 13 = .ok (.iconst 1, 1) := by decide +kernel
theorem d_Law_size_14 : decode b_Law_size 14 = .ok (.ireturn, 1) := by decide +kernel
theorem d_Law_size_15 : decode b_Law_size 15 = .ok (.iconst 0, 1) := by decide +kernel
theorem d_Law_size_16 : decode b_Law_size 16 = .ok (.ireturn, 1) := by decide +kernel
theorem d_Law_get_0 : decode b_Law_get 0 = .ok (.aload_n 3, 1) := by decide +kernel
theorem d_Law_get_1 : decode b_Law_get 1 = .ok (.iconst 0, 1) := by decide +kernel
theorem d_Law_get_2 : decode b_Law_get 2 = .ok (.aload_n 0, 1) := by decide +kernel
theorem d_Law_get_3 : decode b_Law_get 3 = .ok (.iload_n 1, 1) := by decide +kernel
theorem d_Law_get_4 : decode b_Law_get 4 = .ok (.iload_n 2, 1) := by decide +kernel
theorem d_Law_get_5 : decode b_Law_get 5 = .ok (.invokevirtual 40, 3) := by decide +kernel
theorem d_Law_get_8 : decode b_Law_get 8 = .ok (.i2l, 1) := by decide +kernel
theorem d_Law_get_9 : decode b_Law_get 9 = .ok (.lastore, 1) := by decide +kernel
theorem d_Law_get_10 : decode b_Law_get 10 = .ok (.goto 11, 3) := by decide +kernel
theorem d_Law_get_13 : decode b_Law_get 13 = .ok (.astore 4, 2) := by decide +kernel
theorem d_Law_get_15 : decode b_Law_get 15 = .ok (.iconst 1, 1) := by decide +kernel
theorem d_Law_get_16 : decode b_Law_get 16 = .ok (.ireturn, 1) := by decide +kernel
theorem d_Law_get_17 : decode b_Law_get 17 = .ok (.astore 4, 2) := by decide +kernel
theorem d_Law_get_19 : decode b_Law_get 19 = .ok (.iconst 2, 1) := by decide +kernel
theorem d_Law_get_20 : decode b_Law_get 20 = .ok (.ireturn, 1) := by decide +kernel
theorem d_Law_get_21 : decode b_Law_get 21 = .ok (.iconst 0, 1) := by decide +kernel
theorem d_Law_get_22 : decode b_Law_get 22 = .ok (.ireturn, 1) := by decide +kernel
theorem d_Law_disk_0 : decode b_Law_disk 0 = .ok (.aload_n 2, 1) := by decide +kernel
theorem d_Law_disk_1 : decode b_Law_disk 1 = .ok (.iconst 0, 1) := by decide +kernel
theorem d_Law_disk_2 : decode b_Law_disk 2 = .ok (.aload_n 0, 1) := by decide +kernel
theorem d_Law_disk_3 : decode b_Law_disk 3 = .ok (.iload_n 1, 1) := by decide +kernel
theorem d_Law_disk_4 : decode b_Law_disk 4 = .ok (.invokevirtual 45, 3) := by decide +kernel
theorem d_Law_disk_7 : decode b_Law_disk 7 = .ok (.i2l, 1) := by decide +kernel
theorem d_Law_disk_8 : decode b_Law_disk 8 = .ok (.lastore, 1) := by decide +kernel
theorem d_Law_disk_9 : decode b_Law_disk 9 = .ok (.goto 6, 3) := by decide +kernel
theorem d_Law_disk_12 : decode b_Law_disk 12 = .ok (.astore_n 3, 1) := by decide +kernel
theorem d_Law_disk_13 : decode b_Law_disk 13 = .ok (.iconst 1, 1) := by decide +kernel
theorem d_Law_disk_14 : decode b_Law_disk 14 = .ok (.ireturn, 1) := by decide +kernel
theorem d_Law_disk_15 : decode b_Law_disk 15 = .ok (.iconst 0, 1) := by decide +kernel
theorem d_Law_disk_16 : decode b_Law_disk 16 = .ok (.ireturn, 1) := by decide +kernel
theorem d_Law_about_0 : decode b_Law_about 0 = .ok (.aload_n 2, 1) := by decide +kernel
theorem d_Law_about_1 : decode b_Law_about 1 = .ok (.iconst 0, 1) := by decide +kernel
theorem d_Law_about_2 : decode b_Law_about 2 = .ok (.aload_n 0, 1) := by decide +kernel
theorem d_Law_about_3 : decode b_Law_about 3 = .ok (.iload_n 1, 1) := by decide +kernel
theorem d_Law_about_4 : decode b_Law_about 4 = .ok (.invokevirtual 48, 3) := by decide +kernel
theorem d_Law_about_7 : decode b_Law_about 7 = .ok (.i2l, 1) := by decide +kernel
theorem d_Law_about_8 : decode b_Law_about 8 = .ok (.lastore, 1) := by decide +kernel
theorem d_Law_about_9 : decode b_Law_about 9 = .ok (.goto 6, 3) := by decide +kernel
theorem d_Law_about_12 : decode b_Law_about 12 = .ok (.astore_n 3, 1) := by decide +kernel
theorem d_Law_about_13 : decode b_Law_about 13 = .ok (.iconst 1, 1) := by decide +kernel
theorem d_Law_about_14 : decode b_Law_about 14 = .ok (.ireturn, 1) := by decide +kernel
theorem d_Law_about_15 : decode b_Law_about 15 = .ok (.iconst 0, 1) := by decide +kernel
theorem d_Law_about_16 : decode b_Law_about 16 = .ok (.ireturn, 1) := by decide +kernel
theorem d_Law_law_0 : decode code 0 = .ok (.new 8, 3) := by decide +kernel
theorem d_Law_law_3 : decode code 3 = .ok (.dup, 1) := by decide +kernel
theorem d_Law_law_4 : decode code 4 = .ok (.invokespecial 51, 3) := by decide +kernel
theorem d_Law_law_7 : decode code 7 = .ok (.astore_n 1, 1) := by decide +kernel
theorem d_Law_law_8 : decode code 8 = .ok (.new 52, 3) := by decide +kernel
theorem d_Law_law_11 : decode code 11 = .ok (.dup, 1) := by decide +kernel
theorem d_Law_law_12 : decode code 12 = .ok (.invokespecial 54, 3) := by decide +kernel
theorem d_Law_law_15 : decode code 15 = .ok (.astore_n 2, 1) := by decide +kernel
theorem d_Law_law_16 : decode code 16 = .ok (.iconst 1, 1) := by decide +kernel
theorem d_Law_law_17 : decode code 17 = .ok (.newarray .long, 2) := by decide +kernel
theorem d_Law_law_19 : decode code 19 = .ok (.astore_n 3, 1) := by decide +kernel
theorem d_Law_law_20 : decode code 20 = .ok (.iconst 0, 1) := by decide +kernel
theorem d_Law_law_21 : decode code 21 = .ok (.istore 4, 2) := by decide +kernel
theorem d_Law_law_23 : decode code 23 = .ok (.iload 4, 2) := by decide +kernel
theorem d_Law_law_25 : decode code 25 = .ok (.aload_n 0, 1) := by decide +kernel
theorem d_Law_law_26 : decode code 26 = .ok (.arraylength, 1) := by decide +kernel
theorem d_Law_law_27 : decode code 27 = .ok (.iconst 3, 1) := by decide +kernel
theorem d_Law_law_28 : decode code 28 = .ok (.isub, 1) := by decide +kernel
theorem d_Law_law_29 : decode code 29 = .ok (.if_icmp .gt 660, 3) := by decide +kernel
theorem d_Law_law_32 : decode code 32 = .ok (.aload_n 0, 1) := by decide +kernel
theorem d_Law_law_33 : decode code 33 = .ok (.iload 4, 2) := by decide +kernel
theorem d_Law_law_35 : decode code 35 = .ok (.iaload, 1) := by decide +kernel
theorem d_Law_law_36 : decode code 36 = .ok (.bipush 15, 2) := by decide +kernel
theorem d_Law_law_38 : decode code 38 = .ok (.iand, 1) := by decide +kernel
theorem d_Law_law_39 : decode code 39 = .ok (.tableswitch 644 0 10 #[57, 125, 181, 237, 248, 292, 360, 408, 464, 532, 588], 57) := by decide +kernel
theorem d_Law_law_96 : decode code 96 = .ok (.aload_n 1, 1) := by decide +kernel
theorem d_Law_law_97 : decode code 97 = .ok (.aload_n 0, 1) := by decide +kernel
theorem d_Law_law_98 : decode code 98 = .ok (.iload 4, 2) := by decide +kernel
theorem d_Law_law_100 : decode code 100 = .ok (.iconst 1, 1) := by decide +kernel
theorem d_Law_law_101 : decode code 101 = .ok (.iadd, 1) := by decide +kernel
theorem d_Law_law_102 : decode code 102 = .ok (.iaload, 1) := by decide +kernel
theorem d_Law_law_103 : decode code 103 = .ok (.aload_n 0, 1) := by decide +kernel
theorem d_Law_law_104 : decode code 104 = .ok (.iload 4, 2) := by decide +kernel
theorem d_Law_law_106 : decode code 106 = .ok (.iconst 2, 1) := by decide +kernel
theorem d_Law_law_107 : decode code 107 = .ok (.iadd, 1) := by decide +kernel
theorem d_Law_law_108 : decode code 108 = .ok (.iaload, 1) := by decide +kernel
theorem d_Law_law_109 : decode code 109 = .ok (.aload_n 3, 1) := by decide +kernel
theorem d_Law_law_110 : decode code 110 = .ok (.invokestatic 55, 3) := by decide +kernel
theorem d_Law_law_113 : decode code 113 = .ok (.istore 5, 2) := by decide +kernel
theorem d_Law_law_115 : decode code 115 = .ok (.aload_n 2, 1) := by decide +kernel
theorem d_Law_law_116 : decode code 116 = .ok (.aload_n 0, 1) := by decide +kernel
theorem d_Law_law_117 : decode code 117 = .ok (.iload 4, 2) := by decide +kernel
theorem d_Law_law_119 : decode code 119 = .ok (.iconst 1, 1) := by decide +kernel
theorem d_Law_law_120 : decode code 120 = .ok (.iadd, 1) := by decide +kernel
theorem d_Law_law_121 : decode code 121 = .ok (.iaload, 1) := by decide +kernel
theorem d_Law_law_122 : decode code 122 = .ok (.aload_n 0, 1) := by decide +kernel
theorem d_Law_law_123 : decode code 123 = .ok (.iload 4, 2) := by decide +kernel
theorem d_Law_law_125 : decode code 125 = .ok (.iconst 2, 1) := by decide +kernel
theorem d_Law_law_126 : decode code 126 = .ok (.iadd, 1) := by decide +kernel
theorem d_Law_law_127 : decode code 127 = .ok (.iaload, 1) := by decide +kernel
theorem d_Law_law_128 : decode code 128 = .ok (.invokevirtual 60, 3) := by decide +kernel
theorem d_Law_law_131 : decode code 131 = .ok (.istore 6, 2) := by decide +kernel
theorem d_Law_law_133 : decode code 133 = .ok (.aload_n 2, 1) := by decide +kernel
theorem d_Law_law_134 : decode code 134 = .ok (.invokevirtual 61, 3) := by decide +kernel
theorem d_Law_law_137 : decode code 137 = .ok (.iload 5, 2) := by decide +kernel
theorem d_Law_law_139 : decode code 139 = .ok (.if_icmp .eq 5, 3) := by decide +kernel
theorem d_Law_law_142 : decode code 142 = .ok (.iconst 0, 1) := by decide +kernel
theorem d_Law_law_143 : decode code 143 = .ok (.ireturn, 1) := by decide +kernel
theorem d_Law_law_144 : decode code 144 = .ok (.iload 5, 2) := by decide +kernel
theorem d_Law_law_146 : decode code 146 = .ok (.ifCond .ne 15, 3) := by decide +kernel
theorem d_Law_law_149 : decode code 149 = .ok (.aload_n 3, 1) := by decide +kernel
theorem d_Law_law_150 : decode code 150 = .ok (.iconst 0, 1) := by decide +kernel
theorem d_Law_law_151 : decode code 151 = .ok (.laload, 1) := by decide +kernel
theorem d_Law_law_152 : decode code 152 = .ok (.iload 6, 2) := by decide +kernel
theorem d_Law_law_154 : decode code 154 = .ok (.i2l, 1) := by decide +kernel
theorem d_Law_law_155 : decode code 155 = .ok (.lcmp, 1) := by decide +kernel
theorem d_Law_law_156 : decode code 156 = .ok (.ifCond .eq 5, 3) := by decide +kernel
theorem d_Law_law_159 : decode code 159 = .ok (.iconst 0, 1) := by decide +kernel
theorem d_Law_law_160 : decode code 160 = .ok (.ireturn, 1) := by decide +kernel
theorem d_Law_law_161 : decode code 161 = .ok (.goto 522, 3) := by decide +kernel
theorem d_Law_law_164 : decode code 164 = .ok (.aload_n 1, 1) := by decide +kernel
theorem d_Law_law_165 : decode code 165 = .ok (.aload_n 0, 1) := by decide +kernel
theorem d_Law_law_166 : decode code 166 = .ok (.iload 4, 2) := by decide +kernel
theorem d_Law_law_168 : decode code 168 = .ok (.iconst 1, 1) := by decide +kernel
theorem d_Law_law_169 : decode code 169 = .ok (.iadd, 1) := by decide +kernel
theorem d_Law_law_170 : decode code 170 = .ok (.iaload, 1) := by decide +kernel
theorem d_Law_law_171 : decode code 171 = .ok (.aload_n 3, 1) := by decide +kernel
theorem d_Law_law_172 : decode code 172 = .ok (.invokestatic 64, 3) := by decide +kernel
theorem d_Law_law_175 : decode code 175 = .ok (.istore 5, 2) := by decide +kernel
theorem d_Law_law_177 : decode code 177 = .ok (.aload_n 2, 1) := by decide +kernel
theorem d_Law_law_178 : decode code 178 = .ok (.aload_n 0, 1) := by decide +kernel
theorem d_Law_law_179 : decode code 179 = .ok (.iload 4, 2) := by decide +kernel
theorem d_Law_law_181 : decode code 181 = .ok (.iconst 1, 1) := by decide +kernel
theorem d_Law_law_182 : decode code 182 = .ok (.iadd, 1) := by decide +kernel
theorem d_Law_law_183 : decode code 183 = .ok (.iaload, 1) := by decide +kernel
theorem d_Law_law_184 : decode code 184 = .ok (.invokevirtual 67, 3) := by decide +kernel
theorem d_Law_law_187 : decode code 187 = .ok (.istore 6, 2) := by decide +kernel
theorem d_Law_law_189 : decode code 189 = .ok (.aload_n 2, 1) := by decide +kernel
theorem d_Law_law_190 : decode code 190 = .ok (.invokevirtual 61, 3) := by decide +kernel
theorem d_Law_law_193 : decode code 193 = .ok (.iload 5, 2) := by decide +kernel
theorem d_Law_law_195 : decode code 195 = .ok (.if_icmp .eq 5, 3) := by decide +kernel
theorem d_Law_law_198 : decode code 198 = .ok (.iconst 0, 1) := by decide +kernel
theorem d_Law_law_199 : decode code 199 = .ok (.ireturn, 1) := by decide +kernel
theorem d_Law_law_200 : decode code 200 = .ok (.iload 5, 2) := by decide +kernel
theorem d_Law_law_202 : decode code 202 = .ok (.ifCond .ne 15, 3) := by decide +kernel
theorem d_Law_law_205 : decode code 205 = .ok (.aload_n 3, 1) := by decide +kernel
theorem d_Law_law_206 : decode code 206 = .ok (.iconst 0, 1) := by decide +kernel
theorem d_Law_law_207 : decode code 207 = .ok (.laload, 1) := by decide +kernel
theorem d_Law_law_208 : decode code 208 = .ok (.iload 6, 2) := by decide +kernel
theorem d_Law_law_210 : decode code 210 = .ok (.i2l, 1) := by decide +kernel
theorem d_Law_law_211 : decode code 211 = .ok (.lcmp, 1) := by decide +kernel
theorem d_Law_law_212 : decode code 212 = .ok (.ifCond .eq 5, 3) := by decide +kernel
theorem d_Law_law_215 : decode code 215 = .ok (.iconst 0, 1) := by decide +kernel
theorem d_Law_law_216 : decode code 216 = .ok (.ireturn, 1) := by decide +kernel
theorem d_Law_law_217 : decode code 217 = .ok (.goto 466, 3) := by decide +kernel
theorem d_Law_law_220 : decode code 220 = .ok (.aload_n 1, 1) := by decide +kernel
theorem d_Law_law_221 : decode code 221 = .ok (.aload_n 0, 1) := by decide +kernel
theorem d_Law_law_222 : decode code 222 = .ok (.iload 4, 2) := by decide +kernel
theorem d_Law_law_224 : decode code 224 = .ok (.iconst 1, 1) := by decide +kernel
theorem d_Law_law_225 : decode code 225 = .ok (.iadd, 1) := by decide +kernel
theorem d_Law_law_226 : decode code 226 = .ok (.iaload, 1) := by decide +kernel
theorem d_Law_law_227 : decode code 227 = .ok (.aload_n 3, 1) := by decide +kernel
theorem d_Law_law_228 : decode code 228 = .ok (.invokestatic 68, 3) := by decide +kernel
theorem d_Law_law_231 : decode code 231 = .ok (.istore 5, 2) := by decide +kernel
theorem d_Law_law_233 : decode code 233 = .ok (.aload_n 2, 1) := by decide +kernel
theorem d_Law_law_234 : decode code 234 = .ok (.aload_n 0, 1) := by decide +kernel
theorem d_Law_law_235 : decode code 235 = .ok (.iload 4, 2) := by decide +kernel
theorem d_Law_law_237 : decode code 237 = .ok (.iconst 1, 1) := by decide +kernel
theorem d_Law_law_238 : decode code 238 = .ok (.iadd, 1) := by decide +kernel
theorem d_Law_law_239 : decode code 239 = .ok (.iaload, 1) := by decide +kernel
theorem d_Law_law_240 : decode code 240 = .ok (.invokevirtual 70, 3) := by decide +kernel
theorem d_Law_law_243 : decode code 243 = .ok (.istore 6, 2) := by decide +kernel
theorem d_Law_law_245 : decode code 245 = .ok (.aload_n 2, 1) := by decide +kernel
theorem d_Law_law_246 : decode code 246 = .ok (.invokevirtual 61, 3) := by decide +kernel
theorem d_Law_law_249 : decode code 249 = .ok (.iload 5, 2) := by decide +kernel
theorem d_Law_law_251 : decode code 251 = .ok (.if_icmp .eq 5, 3) := by decide +kernel
theorem d_Law_law_254 : decode code 254 = .ok (.iconst 0, 1) := by decide +kernel
theorem d_Law_law_255 : decode code 255 = .ok (.ireturn, 1) := by decide +kernel
theorem d_Law_law_256 : decode code 256 = .ok (.iload 5, 2) := by decide +kernel
theorem d_Law_law_258 : decode code 258 = .ok (.ifCond .ne 15, 3) := by decide +kernel
theorem d_Law_law_261 : decode code 261 = .ok (.aload_n 3, 1) := by decide +kernel
theorem d_Law_law_262 : decode code 262 = .ok (.iconst 0, 1) := by decide +kernel
theorem d_Law_law_263 : decode code 263 = .ok (.laload, 1) := by decide +kernel
theorem d_Law_law_264 : decode code 264 = .ok (.iload 6, 2) := by decide +kernel
theorem d_Law_law_266 : decode code 266 = .ok (.i2l, 1) := by decide +kernel
theorem d_Law_law_267 : decode code 267 = .ok (.lcmp, 1) := by decide +kernel
theorem d_Law_law_268 : decode code 268 = .ok (.ifCond .eq 5, 3) := by decide +kernel
theorem d_Law_law_271 : decode code 271 = .ok (.iconst 0, 1) := by decide +kernel
theorem d_Law_law_272 : decode code 272 = .ok (.ireturn, 1) := by decide +kernel
theorem d_Law_law_273 : decode code 273 = .ok (.goto 410, 3) := by decide +kernel
theorem d_Law_law_276 : decode code 276 = .ok (.aload_n 1, 1) := by decide +kernel
theorem d_Law_law_277 : decode code 277 = .ok (.invokevirtual 71, 3) := by decide +kernel
theorem d_Law_law_280 : decode code 280 = .ok (.aload_n 2, 1) := by decide +kernel
theorem d_Law_law_281 : decode code 281 = .ok (.invokevirtual 74, 3) := by decide +kernel
theorem d_Law_law_284 : decode code 284 = .ok (.goto 399, 3) := by decide +kernel
theorem d_Law_law_287 : decode code 287 = .ok (.aload_n 1, 1) := by decide +kernel
theorem d_Law_law_288 : decode code 288 = .ok (.aload_n 3, 1) := by decide +kernel
theorem d_Law_law_289 : decode code 289 = .ok (.invokestatic 75, 3) := by decide +kernel
theorem d_Law_law_292 : decode code 292 = .ok (.istore 5, 2) := by decide +kernel
theorem d_Law_law_294 : decode code 294 = .ok (.aload_n 2, 1) := by decide +kernel
theorem d_Law_law_295 : decode code 295 = .ok (.invokevirtual 78, 3) := by decide +kernel
theorem d_Law_law_298 : decode code 298 = .ok (.istore 6, 2) := by decide +kernel
theorem d_Law_law_300 : decode code 300 = .ok (.aload_n 2, 1) := by decide +kernel
theorem d_Law_law_301 : decode code 301 = .ok (.invokevirtual 61, 3) := by decide +kernel
theorem d_Law_law_304 : decode code 304 = .ok (.iload 5, 2) := by decide +kernel
theorem d_Law_law_306 : decode code 306 = .ok (.if_icmp .eq 5, 3) := by decide +kernel
theorem d_Law_law_309 : decode code 309 = .ok (.iconst 0, 1) := by decide +kernel
theorem d_Law_law_310 : decode code 310 = .ok (.ireturn, 1) := by decide +kernel
theorem d_Law_law_311 : decode code 311 = .ok (.iload 5, 2) := by decide +kernel
theorem d_Law_law_313 : decode code 313 = .ok (.ifCond .ne 15, 3) := by decide +kernel
theorem d_Law_law_316 : decode code 316 = .ok (.aload_n 3, 1) := by decide +kernel
theorem d_Law_law_317 : decode code 317 = .ok (.iconst 0, 1) := by decide +kernel
theorem d_Law_law_318 : decode code 318 = .ok (.laload, 1) := by decide +kernel
theorem d_Law_law_319 : decode code 319 = .ok (.iload 6, 2) := by decide +kernel
theorem d_Law_law_321 : decode code 321 = .ok (.i2l, 1) := by decide +kernel
theorem d_Law_law_322 : decode code 322 = .ok (.lcmp, 1) := by decide +kernel
theorem d_Law_law_323 : decode code 323 = .ok (.ifCond .eq 5, 3) := by decide +kernel
theorem d_Law_law_326 : decode code 326 = .ok (.iconst 0, 1) := by decide +kernel
theorem d_Law_law_327 : decode code 327 = .ok (.ireturn, 1) := by decide +kernel
theorem d_Law_law_328 : decode code 328 = .ok (.goto 355, 3) := by decide +kernel
theorem d_Law_law_331 : decode code 331 = .ok (.aload_n 1, 1) := by decide +kernel
theorem d_Law_law_332 : decode code 332 = .ok (.aload_n 0, 1) := by decide +kernel
theorem d_Law_law_333 : decode code 333 = .ok (.iload 4, 2) := by decide +kernel
theorem d_Law_law_335 : decode code 335 = .ok (.iconst 1, 1) := by decide +kernel
theorem d_Law_law_336 : decode code 336 = .ok (.iadd, 1) := by decide +kernel
theorem d_Law_law_337 : decode code 337 = .ok (.iaload, 1) := by decide +kernel
theorem d_Law_law_338 : decode code 338 = .ok (.aload_n 0, 1) := by decide +kernel
theorem d_Law_law_339 : decode code 339 = .ok (.iload 4, 2) := by decide +kernel
theorem d_Law_law_341 : decode code 341 = .ok (.iconst 2, 1) := by decide +kernel
theorem d_Law_law_342 : decode code 342 = .ok (.iadd, 1) := by decide +kernel
theorem d_Law_law_343 : decode code 343 = .ok (.iaload, 1) := by decide +kernel
theorem d_Law_law_344 : decode code 344 = .ok (.aload_n 3, 1) := by decide +kernel
theorem d_Law_law_345 : decode code 345 = .ok (.invokestatic 79, 3) := by decide +kernel
theorem d_Law_law_348 : decode code 348 = .ok (.istore 5, 2) := by decide +kernel
theorem d_Law_law_350 : decode code 350 = .ok (.aload_n 2, 1) := by decide +kernel
theorem d_Law_law_351 : decode code 351 = .ok (.aload_n 0, 1) := by decide +kernel
theorem d_Law_law_352 : decode code 352 = .ok (.iload 4, 2) := by decide +kernel
theorem d_Law_law_354 : decode code 354 = .ok (.iconst 1, 1) := by decide +kernel
theorem d_Law_law_355 : decode code 355 = .ok (.iadd, 1) := by decide +kernel
theorem d_Law_law_356 : decode code 356 = .ok (.iaload, 1) := by decide +kernel
theorem d_Law_law_357 : decode code 357 = .ok (.aload_n 0, 1) := by decide +kernel
theorem d_Law_law_358 : decode code 358 = .ok (.iload 4, 2) := by decide +kernel
theorem d_Law_law_360 : decode code 360 = .ok (.iconst 2, 1) := by decide +kernel
theorem d_Law_law_361 : decode code 361 = .ok (.iadd, 1) := by decide +kernel
theorem d_Law_law_362 : decode code 362 = .ok (.iaload, 1) := by decide +kernel
theorem d_Law_law_363 : decode code 363 = .ok (.invokevirtual 81, 3) := by decide +kernel
theorem d_Law_law_366 : decode code 366 = .ok (.istore 6, 2) := by decide +kernel
theorem d_Law_law_368 : decode code 368 = .ok (.aload_n 2, 1) := by decide +kernel
theorem d_Law_law_369 : decode code 369 = .ok (.invokevirtual 61, 3) := by decide +kernel
theorem d_Law_law_372 : decode code 372 = .ok (.iload 5, 2) := by decide +kernel
theorem d_Law_law_374 : decode code 374 = .ok (.if_icmp .eq 5, 3) := by decide +kernel
theorem d_Law_law_377 : decode code 377 = .ok (.iconst 0, 1) := by decide +kernel
theorem d_Law_law_378 : decode code 378 = .ok (.ireturn, 1) := by decide +kernel
theorem d_Law_law_379 : decode code 379 = .ok (.iload 5, 2) := by decide +kernel
theorem d_Law_law_381 : decode code 381 = .ok (.ifCond .ne 15, 3) := by decide +kernel
theorem d_Law_law_384 : decode code 384 = .ok (.aload_n 3, 1) := by decide +kernel
theorem d_Law_law_385 : decode code 385 = .ok (.iconst 0, 1) := by decide +kernel
theorem d_Law_law_386 : decode code 386 = .ok (.laload, 1) := by decide +kernel
theorem d_Law_law_387 : decode code 387 = .ok (.iload 6, 2) := by decide +kernel
theorem d_Law_law_389 : decode code 389 = .ok (.i2l, 1) := by decide +kernel
theorem d_Law_law_390 : decode code 390 = .ok (.lcmp, 1) := by decide +kernel
theorem d_Law_law_391 : decode code 391 = .ok (.ifCond .eq 5, 3) := by decide +kernel
theorem d_Law_law_394 : decode code 394 = .ok (.iconst 0, 1) := by decide +kernel
theorem d_Law_law_395 : decode code 395 = .ok (.ireturn, 1) := by decide +kernel
theorem d_Law_law_396 : decode code 396 = .ok (.goto 287, 3) := by decide +kernel
theorem d_Law_law_399 : decode code 399 = .ok (.aload_n 1, 1) := by decide +kernel
theorem d_Law_law_400 : decode code 400 = .ok (.aload_n 0, 1) := by decide +kernel
theorem d_Law_law_401 : decode code 401 = .ok (.iload 4, 2) := by decide +kernel
theorem d_Law_law_403 : decode code 403 = .ok (.iconst 1, 1) := by decide +kernel
theorem d_Law_law_404 : decode code 404 = .ok (.iadd, 1) := by decide +kernel
theorem d_Law_law_405 : decode code 405 = .ok (.iaload, 1) := by decide +kernel
theorem d_Law_law_406 : decode code 406 = .ok (.aload_n 0, 1) := by decide +kernel
theorem d_Law_law_407 : decode code 407 = .ok (.iload 4, 2) := by decide +kernel
theorem d_Law_law_409 : decode code 409 = .ok (.iconst 2, 1) := by decide +kernel
theorem d_Law_law_410 : decode code 410 = .ok (.iadd, 1) := by decide +kernel
theorem d_Law_law_411 : decode code 411 = .ok (.iaload, 1) := by decide +kernel
theorem d_Law_law_412 : decode code 412 = .ok (.invokestatic 82, 3) := by decide +kernel
theorem d_Law_law_415 : decode code 415 = .ok (.istore 5, 2) := by decide +kernel
theorem d_Law_law_417 : decode code 417 = .ok (.aload_n 2, 1) := by decide +kernel
theorem d_Law_law_418 : decode code 418 = .ok (.aload_n 0, 1) := by decide +kernel
theorem d_Law_law_419 : decode code 419 = .ok (.iload 4, 2) := by decide +kernel
theorem d_Law_law_421 : decode code 421 = .ok (.iconst 1, 1) := by decide +kernel
theorem d_Law_law_422 : decode code 422 = .ok (.iadd, 1) := by decide +kernel
theorem d_Law_law_423 : decode code 423 = .ok (.iaload, 1) := by decide +kernel
theorem d_Law_law_424 : decode code 424 = .ok (.aload_n 0, 1) := by decide +kernel
theorem d_Law_law_425 : decode code 425 = .ok (.iload 4, 2) := by decide +kernel
theorem d_Law_law_427 : decode code 427 = .ok (.iconst 2, 1) := by decide +kernel
theorem d_Law_law_428 : decode code 428 = .ok (.iadd, 1) := by decide +kernel
theorem d_Law_law_429 : decode code 429 = .ok (.iaload, 1) := by decide +kernel
theorem d_Law_law_430 : decode code 430 = .ok (.invokevirtual 85, 3) := by decide +kernel
theorem d_Law_law_433 : decode code 433 = .ok (.aload_n 2, 1) := by decide +kernel
theorem d_Law_law_434 : decode code 434 = .ok (.invokevirtual 61, 3) := by decide +kernel
theorem d_Law_law_437 : decode code 437 = .ok (.iload 5, 2) := by decide +kernel
theorem d_Law_law_439 : decode code 439 = .ok (.if_icmp .eq 5, 3) := by decide +kernel
theorem d_Law_law_442 : decode code 442 = .ok (.iconst 0, 1) := by decide +kernel
theorem d_Law_law_443 : decode code 443 = .ok (.ireturn, 1) := by decide +kernel
theorem d_Law_law_444 : decode code 444 = .ok (.goto 239, 3) := by decide +kernel
theorem d_Law_law_447 : decode code 447 = .ok (.aload_n 1, 1) := by decide +kernel
theorem d_Law_law_448 : decode code 448 = .ok (.aload_n 0, 1) := by decide +kernel
theorem d_Law_law_449 : decode code 449 = .ok (.iload 4, 2) := by decide +kernel
theorem d_Law_law_451 : decode code 451 = .ok (.iconst 1, 1) := by decide +kernel
theorem d_Law_law_452 : decode code 452 = .ok (.iadd, 1) := by decide +kernel
theorem d_Law_law_453 : decode code 453 = .ok (.iaload, 1) := by decide +kernel
theorem d_Law_law_454 : decode code 454 = .ok (.aload_n 3, 1) := by decide +kernel
theorem d_Law_law_455 : decode code 455 = .ok (.invokestatic 86, 3) := by decide +kernel
theorem d_Law_law_458 : decode code 458 = .ok (.istore 5, 2) := by decide +kernel
theorem d_Law_law_460 : decode code 460 = .ok (.aload_n 2, 1) := by decide +kernel
theorem d_Law_law_461 : decode code 461 = .ok (.aload_n 0, 1) := by decide +kernel
theorem d_Law_law_462 : decode code 462 = .ok (.iload 4, 2) := by decide +kernel
theorem d_Law_law_464 : decode code 464 = .ok (.iconst 1, 1) := by decide +kernel
theorem d_Law_law_465 : decode code 465 = .ok (.iadd, 1) := by decide +kernel
theorem d_Law_law_466 : decode code 466 = .ok (.iaload, 1) := by decide +kernel
theorem d_Law_law_467 : decode code 467 = .ok (.invokevirtual 88, 3) := by decide +kernel
theorem d_Law_law_470 : decode code 470 = .ok (.istore 6, 2) := by decide +kernel
theorem d_Law_law_472 : decode code 472 = .ok (.aload_n 2, 1) := by decide +kernel
theorem d_Law_law_473 : decode code 473 = .ok (.invokevirtual 61, 3) := by decide +kernel
theorem d_Law_law_476 : decode code 476 = .ok (.iload 5, 2) := by decide +kernel
theorem d_Law_law_478 : decode code 478 = .ok (.if_icmp .eq 5, 3) := by decide +kernel
theorem d_Law_law_481 : decode code 481 = .ok (.iconst 0, 1) := by decide +kernel
theorem d_Law_law_482 : decode code 482 = .ok (.ireturn, 1) := by decide +kernel
theorem d_Law_law_483 : decode code 483 = .ok (.iload 5, 2) := by decide +kernel
theorem d_Law_law_485 : decode code 485 = .ok (.ifCond .ne 15, 3) := by decide +kernel
theorem d_Law_law_488 : decode code 488 = .ok (.aload_n 3, 1) := by decide +kernel
theorem d_Law_law_489 : decode code 489 = .ok (.iconst 0, 1) := by decide +kernel
theorem d_Law_law_490 : decode code 490 = .ok (.laload, 1) := by decide +kernel
theorem d_Law_law_491 : decode code 491 = .ok (.iload 6, 2) := by decide +kernel
theorem d_Law_law_493 : decode code 493 = .ok (.i2l, 1) := by decide +kernel
theorem d_Law_law_494 : decode code 494 = .ok (.lcmp, 1) := by decide +kernel
theorem d_Law_law_495 : decode code 495 = .ok (.ifCond .eq 5, 3) := by decide +kernel
theorem d_Law_law_498 : decode code 498 = .ok (.iconst 0, 1) := by decide +kernel
theorem d_Law_law_499 : decode code 499 = .ok (.ireturn, 1) := by decide +kernel
theorem d_Law_law_500 : decode code 500 = .ok (.goto 183, 3) := by decide +kernel
theorem d_Law_law_503 : decode code 503 = .ok (.aload_n 1, 1) := by decide +kernel
theorem d_Law_law_504 : decode code 504 = .ok (.aload_n 0, 1) := by decide +kernel
theorem d_Law_law_505 : decode code 505 = .ok (.iload 4, 2) := by decide +kernel
theorem d_Law_law_507 : decode code 507 = .ok (.iconst 1, 1) := by decide +kernel
theorem d_Law_law_508 : decode code 508 = .ok (.iadd, 1) := by decide +kernel
theorem d_Law_law_509 : decode code 509 = .ok (.iaload, 1) := by decide +kernel
theorem d_Law_law_510 : decode code 510 = .ok (.aload_n 0, 1) := by decide +kernel
theorem d_Law_law_511 : decode code 511 = .ok (.iload 4, 2) := by decide +kernel
theorem d_Law_law_513 : decode code 513 = .ok (.iconst 2, 1) := by decide +kernel
theorem d_Law_law_514 : decode code 514 = .ok (.iadd, 1) := by decide +kernel
theorem d_Law_law_515 : decode code 515 = .ok (.iaload, 1) := by decide +kernel
theorem d_Law_law_516 : decode code 516 = .ok (.aload_n 3, 1) := by decide +kernel
theorem d_Law_law_517 : decode code 517 = .ok (.invokestatic 89, 3) := by decide +kernel
theorem d_Law_law_520 : decode code 520 = .ok (.istore 5, 2) := by decide +kernel
theorem d_Law_law_522 : decode code 522 = .ok (.aload_n 2, 1) := by decide +kernel
theorem d_Law_law_523 : decode code 523 = .ok (.aload_n 0, 1) := by decide +kernel
theorem d_Law_law_524 : decode code 524 = .ok (.iload 4, 2) := by decide +kernel
theorem d_Law_law_526 : decode code 526 = .ok (.iconst 1, 1) := by decide +kernel
theorem d_Law_law_527 : decode code 527 = .ok (.iadd, 1) := by decide +kernel
theorem d_Law_law_528 : decode code 528 = .ok (.iaload, 1) := by decide +kernel
theorem d_Law_law_529 : decode code 529 = .ok (.aload_n 0, 1) := by decide +kernel
theorem d_Law_law_530 : decode code 530 = .ok (.iload 4, 2) := by decide +kernel
theorem d_Law_law_532 : decode code 532 = .ok (.iconst 2, 1) := by decide +kernel
theorem d_Law_law_533 : decode code 533 = .ok (.iadd, 1) := by decide +kernel
theorem d_Law_law_534 : decode code 534 = .ok (.iaload, 1) := by decide +kernel
theorem d_Law_law_535 : decode code 535 = .ok (.invokevirtual 91, 3) := by decide +kernel
theorem d_Law_law_538 : decode code 538 = .ok (.istore 6, 2) := by decide +kernel
theorem d_Law_law_540 : decode code 540 = .ok (.aload_n 2, 1) := by decide +kernel
theorem d_Law_law_541 : decode code 541 = .ok (.invokevirtual 61, 3) := by decide +kernel
theorem d_Law_law_544 : decode code 544 = .ok (.iload 5, 2) := by decide +kernel
theorem d_Law_law_546 : decode code 546 = .ok (.if_icmp .eq 5, 3) := by decide +kernel
theorem d_Law_law_549 : decode code 549 = .ok (.iconst 0, 1) := by decide +kernel
theorem d_Law_law_550 : decode code 550 = .ok (.ireturn, 1) := by decide +kernel
theorem d_Law_law_551 : decode code 551 = .ok (.iload 5, 2) := by decide +kernel
theorem d_Law_law_553 : decode code 553 = .ok (.ifCond .ne 15, 3) := by decide +kernel
theorem d_Law_law_556 : decode code 556 = .ok (.aload_n 3, 1) := by decide +kernel
theorem d_Law_law_557 : decode code 557 = .ok (.iconst 0, 1) := by decide +kernel
theorem d_Law_law_558 : decode code 558 = .ok (.laload, 1) := by decide +kernel
theorem d_Law_law_559 : decode code 559 = .ok (.iload 6, 2) := by decide +kernel
theorem d_Law_law_561 : decode code 561 = .ok (.i2l, 1) := by decide +kernel
theorem d_Law_law_562 : decode code 562 = .ok (.lcmp, 1) := by decide +kernel
theorem d_Law_law_563 : decode code 563 = .ok (.ifCond .eq 5, 3) := by decide +kernel
theorem d_Law_law_566 : decode code 566 = .ok (.iconst 0, 1) := by decide +kernel
theorem d_Law_law_567 : decode code 567 = .ok (.ireturn, 1) := by decide +kernel
theorem d_Law_law_568 : decode code 568 = .ok (.goto 115, 3) := by decide +kernel
theorem d_Law_law_571 : decode code 571 = .ok (.aload_n 1, 1) := by decide +kernel
theorem d_Law_law_572 : decode code 572 = .ok (.aload_n 0, 1) := by decide +kernel
theorem d_Law_law_573 : decode code 573 = .ok (.iload 4, 2) := by decide +kernel
theorem d_Law_law_575 : decode code 575 = .ok (.iconst 1, 1) := by decide +kernel
theorem d_Law_law_576 : decode code 576 = .ok (.iadd, 1) := by decide +kernel
theorem d_Law_law_577 : decode code 577 = .ok (.iaload, 1) := by decide +kernel
theorem d_Law_law_578 : decode code 578 = .ok (.aload_n 3, 1) := by decide +kernel
theorem d_Law_law_579 : decode code 579 = .ok (.invokestatic 92, 3) := by decide +kernel
theorem d_Law_law_582 : decode code 582 = .ok (.istore 5, 2) := by decide +kernel
theorem d_Law_law_584 : decode code 584 = .ok (.aload_n 2, 1) := by decide +kernel
theorem d_Law_law_585 : decode code 585 = .ok (.aload_n 0, 1) := by decide +kernel
theorem d_Law_law_586 : decode code 586 = .ok (.iload 4, 2) := by decide +kernel
theorem d_Law_law_588 : decode code 588 = .ok (.iconst 1, 1) := by decide +kernel
theorem d_Law_law_589 : decode code 589 = .ok (.iadd, 1) := by decide +kernel
theorem d_Law_law_590 : decode code 590 = .ok (.iaload, 1) := by decide +kernel
theorem d_Law_law_591 : decode code 591 = .ok (.invokevirtual 94, 3) := by decide +kernel
theorem d_Law_law_594 : decode code 594 = .ok (.istore 6, 2) := by decide +kernel
theorem d_Law_law_596 : decode code 596 = .ok (.aload_n 2, 1) := by decide +kernel
theorem d_Law_law_597 : decode code 597 = .ok (.invokevirtual 61, 3) := by decide +kernel
theorem d_Law_law_600 : decode code 600 = .ok (.iload 5, 2) := by decide +kernel
theorem d_Law_law_602 : decode code 602 = .ok (.if_icmp .eq 5, 3) := by decide +kernel
theorem d_Law_law_605 : decode code 605 = .ok (.iconst 0, 1) := by decide +kernel
theorem d_Law_law_606 : decode code 606 = .ok (.ireturn, 1) := by decide +kernel
theorem d_Law_law_607 : decode code 607 = .ok (.iload 5, 2) := by decide +kernel
theorem d_Law_law_609 : decode code 609 = .ok (.ifCond .ne 15, 3) := by decide +kernel
theorem d_Law_law_612 : decode code 612 = .ok (.aload_n 3, 1) := by decide +kernel
theorem d_Law_law_613 : decode code 613 = .ok (.iconst 0, 1) := by decide +kernel
theorem d_Law_law_614 : decode code 614 = .ok (.laload, 1) := by decide +kernel
theorem d_Law_law_615 : decode code 615 = .ok (.iload 6, 2) := by decide +kernel
theorem d_Law_law_617 : decode code 617 = .ok (.i2l, 1) := by decide +kernel
theorem d_Law_law_618 : decode code 618 = .ok (.lcmp, 1) := by decide +kernel
theorem d_Law_law_619 : decode code 619 = .ok (.ifCond .eq 5, 3) := by decide +kernel
theorem d_Law_law_622 : decode code 622 = .ok (.iconst 0, 1) := by decide +kernel
theorem d_Law_law_623 : decode code 623 = .ok (.ireturn, 1) := by decide +kernel
theorem d_Law_law_624 : decode code 624 = .ok (.goto 59, 3) := by decide +kernel
theorem d_Law_law_627 : decode code 627 = .ok (.aload_n 1, 1) := by decide +kernel
theorem d_Law_law_628 : decode code 628 = .ok (.aload_n 0, 1) := by decide +kernel
theorem d_Law_law_629 : decode code 629 = .ok (.iload 4, 2) := by decide +kernel
theorem d_Law_law_631 : decode code 631 = .ok (.iconst 1, 1) := by decide +kernel
theorem d_Law_law_632 : decode code 632 = .ok (.iadd, 1) := by decide +kernel
theorem d_Law_law_633 : decode code 633 = .ok (.iaload, 1) := by decide +kernel
theorem d_Law_law_634 : decode code 634 = .ok (.aload_n 3, 1) := by decide +kernel
theorem d_Law_law_635 : decode code 635 = .ok (.invokestatic 95, 3) := by decide +kernel
theorem d_Law_law_638 : decode code 638 = .ok (.istore 5, 2) := by decide +kernel
theorem d_Law_law_640 : decode code 640 = .ok (.aload_n 2, 1) := by decide +kernel
theorem d_Law_law_641 : decode code 641 = .ok (.aload_n 0, 1) := by decide +kernel
theorem d_Law_law_642 : decode code 642 = .ok (.iload 4, 2) := by decide +kernel
theorem d_Law_law_644 : decode code 644 = .ok (.iconst 1, 1) := by decide +kernel
theorem d_Law_law_645 : decode code 645 = .ok (.iadd, 1) := by decide +kernel
theorem d_Law_law_646 : decode code 646 = .ok (.iaload, 1) := by decide +kernel
theorem d_Law_law_647 : decode code 647 = .ok (.invokevirtual 97, 3) := by decide +kernel
theorem d_Law_law_650 : decode code 650 = .ok (.istore 6, 2) := by decide +kernel
theorem d_Law_law_652 : decode code 652 = .ok (.aload_n 2, 1) := by decide +kernel
theorem d_Law_law_653 : decode code 653 = .ok (.invokevirtual 61, 3) := by decide +kernel
theorem d_Law_law_656 : decode code 656 = .ok (.iload 5, 2) := by decide +kernel
theorem d_Law_law_658 : decode code 658 = .ok (.if_icmp .eq 5, 3) := by decide +kernel
theorem d_Law_law_661 : decode code 661 = .ok (.iconst 0, 1) := by decide +kernel
theorem d_Law_law_662 : decode code 662 = .ok (.ireturn, 1) := by decide +kernel
theorem d_Law_law_663 : decode code 663 = .ok (.iload 5, 2) := by decide +kernel
theorem d_Law_law_665 : decode code 665 = .ok (.ifCond .ne 15, 3) := by decide +kernel
theorem d_Law_law_668 : decode code 668 = .ok (.aload_n 3, 1) := by decide +kernel
theorem d_Law_law_669 : decode code 669 = .ok (.iconst 0, 1) := by decide +kernel
theorem d_Law_law_670 : decode code 670 = .ok (.laload, 1) := by decide +kernel
theorem d_Law_law_671 : decode code 671 = .ok (.iload 6, 2) := by decide +kernel
theorem d_Law_law_673 : decode code 673 = .ok (.i2l, 1) := by decide +kernel
theorem d_Law_law_674 : decode code 674 = .ok (.lcmp, 1) := by decide +kernel
theorem d_Law_law_675 : decode code 675 = .ok (.ifCond .eq 5, 3) := by decide +kernel
theorem d_Law_law_678 : decode code 678 = .ok (.iconst 0, 1) := by decide +kernel
theorem d_Law_law_679 : decode code 679 = .ok (.ireturn, 1) := by decide +kernel
theorem d_Law_law_680 : decode code 680 = .ok (.goto 3, 3) := by decide +kernel
theorem d_Law_law_683 : decode code 683 = .ok (.iinc 4 3, 3) := by decide +kernel
theorem d_Law_law_686 : decode code 686 = .ok (.goto (-663), 3) := by decide +kernel
theorem d_Law_law_689 : decode code 689 = .ok (.iconst 1, 1) := by decide +kernel
theorem d_Law_law_690 : decode code 690 = .ok (.ireturn, 1) := by decide +kernel
