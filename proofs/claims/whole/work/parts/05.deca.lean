theorem d_Row_init_0 : decode b_Row_init 0 = .ok (.aload_n 0, 1) := by decide +kernel
theorem d_Row_init_1 : decode b_Row_init 1 = .ok (.invokespecial 1, 3) := by decide +kernel
theorem d_Row_init_4 : decode b_Row_init 4 = .ok (.aload_n 0, 1) := by decide +kernel
theorem d_Row_init_5 : decode b_Row_init 5 = .ok (.iconst 0, 1) := by decide +kernel
theorem d_Row_init_6 : decode b_Row_init 6 = .ok (.putfield 7, 3) := by decide +kernel
theorem d_Row_init_9 : decode b_Row_init 9 = .ok (.aload_n 0, 1) := by decide +kernel
theorem d_Row_init_10 : decode b_Row_init 10 = .ok (.iload_n 1, 1) := by decide +kernel
theorem d_Row_init_11 : decode b_Row_init 11 = .ok (.iconst 0, 1) := by decide +kernel
theorem d_Row_init_12 : decode b_Row_init 12 = .ok (.invokestatic 13, 3) := by decide +kernel
theorem d_Row_init_15 : decode b_Row_init 15 = .ok (.newarray .int, 2) := by decide +kernel
theorem d_Row_init_17 : decode b_Row_init 17 = .ok (.putfield 19, 3) := by decide +kernel
theorem d_Row_init_20 : decode b_Row_init 20 = .ok (.return_, 1) := by decide +kernel
theorem d_Row_length_0 : decode b_Row_length 0 = .ok (.aload_n 0, 1) := by decide +kernel
theorem d_Row_length_1 : decode b_Row_length 1 = .ok (.getfield 7, 3) := by decide +kernel
theorem d_Row_length_4 : decode b_Row_length 4 = .ok (.ireturn, 1) := by decide +kernel
theorem d_Row_at_0 : decode b_Row_at 0 = .ok (.iload_n 1, 1) := by decide +kernel
theorem d_Row_at_1 : decode b_Row_at 1 = .ok (.ifCond .lt 20, 3) := by decide +kernel
theorem d_Row_at_4 : decode b_Row_at 4 = .ok (.iload_n 1, 1) := by decide +kernel
theorem d_Row_at_5 : decode b_Row_at 5 = .ok (.aload_n 0, 1) := by decide +kernel
theorem d_Row_at_6 : decode b_Row_at 6 = .ok (.getfield 7, 3) := by decide +kernel
theorem d_Row_at_9 : decode b_Row_at 9 = .ok (.if_icmp .ge 12, 3) := by decide +kernel
theorem d_Row_at_12 : decode b_Row_at 12 = .ok (.aload_n 0, 1) := by decide +kernel
theorem d_Row_at_13 : decode b_Row_at 13 = .ok (.getfield 19, 3) := by decide +kernel
theorem d_Row_at_16 : decode b_Row_at 16 = .ok (.iload_n 1, 1) := by decide +kernel
theorem d_Row_at_17 : decode b_Row_at 17 = .ok (.iaload, 1) := by decide +kernel
theorem d_Row_at_18 : decode b_Row_at 18 = .ok (.goto 4, 3) := by decide +kernel
theorem d_Row_at_21 : decode b_Row_at 21 = .ok (.iconst 0, 1) := by decide +kernel
theorem d_Row_at_22 : decode b_Row_at 22 = .ok (.ireturn, 1) := by decide +kernel
theorem d_Row_clear_0 : decode b_Row_clear 0 = .ok (.aload_n 0, 1) := by decide +kernel
theorem d_Row_clear_1 : decode b_Row_clear 1 = .ok (.iconst 0, 1) := by decide +kernel
theorem d_Row_clear_2 : decode b_Row_clear 2 = .ok (.putfield 7, 3) := by decide +kernel
theorem d_Row_clear_5 : decode b_Row_clear 5 = .ok (.return_, 1) := by decide +kernel
theorem d_Row_add_0 : decode b_Row_add 0 = .ok (.aload_n 0, 1) := by decide +kernel
theorem d_Row_add_1 : decode b_Row_add 1 = .ok (.getfield 7, 3) := by decide +kernel
theorem d_Row_add_4 : decode b_Row_add 4 = .ok (.ifCond .lt 39, 3) := by decide +kernel
theorem d_Row_add_7 : decode b_Row_add 7 = .ok (.aload_n 0, 1) := by decide +kernel
theorem d_Row_add_8 : decode b_Row_add 8 = .ok (.getfield 7, 3) := by decide +kernel
theorem d_Row_add_11 : decode b_Row_add 11 = .ok (.aload_n 0, 1) := by decide +kernel
theorem d_Row_add_12 : decode b_Row_add 12 = .ok (.getfield 19, 3) := by decide +kernel
theorem d_Row_add_15 : decode b_Row_add 15 = .ok (.arraylength, 1) := by decide +kernel
theorem d_Row_add_16 : decode b_Row_add 16 = .ok (.if_icmp .ge 27, 3) := by decide +kernel
theorem d_Row_add_19 : decode b_Row_add 19 = .ok (.aload_n 0, 1) := by decide +kernel
theorem d_Row_add_20 : decode b_Row_add 20 = .ok (.getfield 19, 3) := by decide +kernel
theorem d_Row_add_23 : decode b_Row_add 23 = .ok (.aload_n 0, 1) := by decide +kernel
theorem d_Row_add_24 : decode b_Row_add 24 = .ok (.getfield 7, 3) := by decide +kernel
theorem d_Row_add_27 : decode b_Row_add 27 = .ok (.iload_n 1, 1) := by decide +kernel
theorem d_Row_add_28 : decode b_Row_add 28 = .ok (.sipush 255, 3) := by decide +kernel
theorem d_Row_add_31 : decode b_Row_add 31 = .ok (.iand, 1) := by decide +kernel
theorem d_Row_add_32 : decode b_Row_add 32 = .ok (.iastore, 1) := by decide +kernel
theorem d_Row_add_33 : decode b_Row_add 33 = .ok (.aload_n 0, 1) := by decide +kernel
theorem d_Row_add_34 : decode b_Row_add 34 = .ok (.dup, 1) := by decide +kernel
theorem d_Row_add_35 : decode b_Row_add 35 = .ok (.getfield 7, 3) := by decide +kernel
theorem d_Row_add_38 : decode b_Row_add 38 = .ok (.iconst 1, 1) := by decide +kernel
theorem d_Row_add_39 : decode b_Row_add 39 = .ok (.iadd, 1) := by decide +kernel
theorem d_Row_add_40 : decode b_Row_add 40 = .ok (.putfield 7, 3) := by decide +kernel
theorem d_Row_add_43 : decode b_Row_add 43 = .ok (.return_, 1) := by decide +kernel
theorem d_Row_change_0 : decode b_Row_change 0 = .ok (.iload_n 1, 1) := by decide +kernel
theorem d_Row_change_1 : decode b_Row_change 1 = .ok (.ifCond .lt 22, 3) := by decide +kernel
theorem d_Row_change_4 : decode b_Row_change 4 = .ok (.iload_n 1, 1) := by decide +kernel
theorem d_Row_change_5 : decode b_Row_change 5 = .ok (.aload_n 0, 1) := by decide +kernel
theorem d_Row_change_6 : decode b_Row_change 6 = .ok (.getfield 7, 3) := by decide +kernel
theorem d_Row_change_9 : decode b_Row_change 9 = .ok (.if_icmp .ge 14, 3) := by decide +kernel
theorem d_Row_change_12 : decode b_Row_change 12 = .ok (.aload_n 0, 1) := by decide +kernel
theorem d_Row_change_13 : decode b_Row_change 13 = .ok (.getfield 19, 3) := by decide +kernel
theorem d_Row_change_16 : decode b_Row_change 16 = .ok (.iload_n 1, 1) := by decide +kernel
theorem d_Row_change_17 : decode b_Row_change 17 = .ok (.iload_n 2, 1) := by decide +kernel
theorem d_Row_change_18 : decode b_Row_change 18 = .ok (.sipush 255, 3) := by decide +kernel
theorem d_Row_change_21 : decode b_Row_change 21 = .ok (.iand, 1) := by decide +kernel
theorem d_Row_change_22 : decode b_Row_change 22 = .ok (.iastore, 1) := by decide +kernel
theorem d_Row_change_23 : decode b_Row_change 23 = .ok (.return_, 1) := by decide +kernel
theorem d_Entry_init_0 : decode b_Entry_init 0 = .ok (.aload_n 0, 1) := by decide +kernel
theorem d_Entry_init_1 : decode b_Entry_init 1 = .ok (.invokespecial 3, 3) := by decide +kernel
theorem d_Entry_init_4 : decode b_Entry_init 4 = .ok (.aload_n 0, 1) := by decide +kernel
theorem d_Entry_init_5 : decode b_Entry_init 5 = .ok (.new 9, 3) := by decide +kernel
theorem d_Entry_init_8 : decode b_Entry_init 8 = .ok (.dup, 1) := by decide +kernel
theorem d_Entry_init_9 : decode b_Entry_init 9 = .ok (.sipush 337, 3) := by decide +kernel
theorem d_Entry_init_12 : decode b_Entry_init 12 = .ok (.invokespecial 11, 3) := by decide +kernel
theorem d_Entry_init_15 : decode b_Entry_init 15 = .ok (.putfield 14, 3) := by decide +kernel
theorem d_Entry_init_18 : decode b_Entry_init 18 = .ok (.aload_n 0, 1) := by decide +kernel
theorem d_Entry_init_19 : decode b_Entry_init 19 = .ok (.getfield 14, 3) := by decide +kernel
theorem d_Entry_init_22 : decode b_Entry_init 22 = .ok (.iconst 0, 1) := by decide +kernel
theorem d_Entry_init_23 : decode b_Entry_init 23 = .ok (.invokevirtual 20, 3) := by decide +kernel
theorem d_Entry_init_26 : decode b_Entry_init 26 = .ok (.return_, 1) := by decide +kernel
theorem d_Entry_clear_0 : decode b_Entry_clear 0 = .ok (.aload_n 0, 1) := by decide +kernel
theorem d_Entry_clear_1 : decode b_Entry_clear 1 = .ok (.getfield 14, 3) := by decide +kernel
theorem d_Entry_clear_4 : decode b_Entry_clear 4 = .ok (.invokevirtual 23, 3) := by decide +kernel
theorem d_Entry_clear_7 : decode b_Entry_clear 7 = .ok (.aload_n 0, 1) := by decide +kernel
theorem d_Entry_clear_8 : decode b_Entry_clear 8 = .ok (.getfield 14, 3) := by decide +kernel
theorem d_Entry_clear_11 : decode b_Entry_clear 11 = .ok (.iconst 0, 1) := by decide +kernel
theorem d_Entry_clear_12 : decode b_Entry_clear 12 = .ok (.invokevirtual 20, 3) := by decide +kernel
theorem d_Entry_clear_15 : decode b_Entry_clear 15 = .ok (.return_, 1) := by decide +kernel
theorem d_Entry_bytes_0 : decode b_Entry_bytes 0 = .ok (.aload_n 0, 1) := by decide +kernel
theorem d_Entry_bytes_1 : decode b_Entry_bytes 1 = .ok (.getfield 14, 3) := by decide +kernel
theorem d_Entry_bytes_4 : decode b_Entry_bytes 4 = .ok (.areturn, 1) := by decide +kernel
theorem d_Entry_changes_0 : decode b_Entry_changes 0 = .ok (.aload_n 0, 1) := by decide +kernel
theorem d_Entry_changes_1 : decode b_Entry_changes 1 = .ok (.getfield 14, 3) := by decide +kernel
theorem d_Entry_changes_4 : decode b_Entry_changes 4 = .ok (.iconst 0, 1) := by decide +kernel
theorem d_Entry_changes_5 : decode b_Entry_changes 5 = .ok (.invokevirtual 26, 3) := by decide +kernel
theorem d_Entry_changes_8 : decode b_Entry_changes 8 = .ok (.ireturn, 1) := by decide +kernel
theorem d_Entry_isFull_0 : decode b_Entry_isFull 0 = .ok (.aload_n 0, 1) := by decide +kernel
theorem d_Entry_isFull_1 : decode b_Entry_isFull 1 = .ok (.invokevirtual 30, 3) := by decide +kernel
theorem d_Entry_isFull_4 : decode b_Entry_isFull 4 = .ok (.bipush 8, 2) := by decide +kernel
theorem d_Entry_isFull_6 : decode b_Entry_isFull 6 = .ok (.if_icmp .lt 7, 3) := by decide +kernel
theorem d_Entry_isFull_9 : decode b_Entry_isFull 9 = .ok (.iconst 1, 1) := by decide +kernel
theorem d_Entry_isFull_10 : decode b_Entry_isFull 10 = .ok (.goto 4, 3) := by decide +kernel
theorem d_Entry_isFull_13 : decode b_Entry_isFull 13 = .ok (.iconst 0, 1) := by decide +kernel
theorem d_Entry_isFull_14 : decode b_Entry_isFull 14 = .ok (.ireturn, 1) := by decide +kernel
theorem d_Entry_blocks_0 : decode b_Entry_blocks 0 = .ok (.aload_n 0, 1) := by decide +kernel
theorem d_Entry_blocks_1 : decode b_Entry_blocks 1 = .ok (.invokevirtual 30, 3) := by decide +kernel
theorem d_Entry_blocks_4 : decode b_Entry_blocks 4 = .ok (.ifCond .ne 7, 3) := by decide +kernel
theorem d_Entry_blocks_7 : decode b_Entry_blocks 7 = .ok (.iconst 0, 1) := by decide +kernel
theorem d_Entry_blocks_8 : decode b_Entry_blocks 8 = .ok (.goto 18, 3) := by decide +kernel
theorem d_Entry_blocks_11 : decode b_Entry_blocks 11 = .ok (.aload_n 0, 1) := by decide +kernel
theorem d_Entry_blocks_12 : decode b_Entry_blocks 12 = .ok (.getfield 14, 3) := by decide +kernel
theorem d_Entry_blocks_15 : decode b_Entry_blocks 15 = .ok (.invokevirtual 34, 3) := by decide +kernel
theorem d_Entry_blocks_18 : decode b_Entry_blocks 18 = .ok (.bipush 26, 2) := by decide +kernel
theorem d_Entry_blocks_20 : decode b_Entry_blocks 20 = .ok (.iadd, 1) := by decide +kernel
theorem d_Entry_blocks_21 : decode b_Entry_blocks 21 = .ok (.iconst 1, 1) := by decide +kernel
theorem d_Entry_blocks_22 : decode b_Entry_blocks 22 = .ok (.isub, 1) := by decide +kernel
theorem d_Entry_blocks_23 : decode b_Entry_blocks 23 = .ok (.bipush 26, 2) := by decide +kernel
theorem d_Entry_blocks_25 : decode b_Entry_blocks 25 = .ok (.idiv, 1) := by decide +kernel
theorem d_Entry_blocks_26 : decode b_Entry_blocks 26 = .ok (.ireturn, 1) := by decide +kernel
theorem d_Entry_addDropped_0 : decode b_Entry_addDropped 0 = .ok (.aload_n 0, 1) := by decide +kernel
theorem d_Entry_addDropped_1 : decode b_Entry_addDropped 1 = .ok (.getfield 14, 3) := by decide +kernel
theorem d_Entry_addDropped_4 : decode b_Entry_addDropped 4 = .ok (.iconst 0, 1) := by decide +kernel
theorem d_Entry_addDropped_5 : decode b_Entry_addDropped 5 = .ok (.aload_n 0, 1) := by decide +kernel
theorem d_Entry_addDropped_6 : decode b_Entry_addDropped 6 = .ok (.invokevirtual 30, 3) := by decide +kernel
theorem d_Entry_addDropped_9 : decode b_Entry_addDropped 9 = .ok (.iconst 1, 1) := by decide +kernel
theorem d_Entry_addDropped_10 : decode b_Entry_addDropped 10 = .ok (.iadd, 1) := by decide +kernel
theorem d_Entry_addDropped_11 : decode b_Entry_addDropped 11 = .ok (.invokevirtual 37, 3) := by decide +kernel
theorem d_Entry_addDropped_14 : decode b_Entry_addDropped 14 = .ok (.aload_n 0, 1) := by decide +kernel
theorem d_Entry_addDropped_15 : decode b_Entry_addDropped 15 = .ok (.getfield 14, 3) := by decide +kernel
theorem d_Entry_addDropped_18 : decode b_Entry_addDropped 18 = .ok (.iload_n 1, 1) := by decide +kernel
theorem d_Entry_addDropped_19 : decode b_Entry_addDropped 19 = .ok (.invokevirtual 20, 3) := by decide +kernel
theorem d_Entry_addDropped_22 : decode b_Entry_addDropped 22 = .ok (.aload_n 0, 1) := by decide +kernel
theorem d_Entry_addDropped_23 : decode b_Entry_addDropped 23 = .ok (.getfield 14, 3) := by decide +kernel
theorem d_Entry_addDropped_26 : decode b_Entry_addDropped 26 = .ok (.sipush 255, 3) := by decide +kernel
theorem d_Entry_addDropped_29 : decode b_Entry_addDropped 29 = .ok (.invokevirtual 20, 3) := by decide +kernel
theorem d_Entry_addDropped_32 : decode b_Entry_addDropped 32 = .ok (.return_, 1) := by decide +kernel
theorem d_Entry_addValue_0 : decode b_Entry_addValue 0 = .ok (.aload_n 0, 1) := by decide +kernel
theorem d_Entry_addValue_1 : decode b_Entry_addValue 1 = .ok (.getfield 14, 3) := by decide +kernel
theorem d_Entry_addValue_4 : decode b_Entry_addValue 4 = .ok (.iconst 0, 1) := by decide +kernel
theorem d_Entry_addValue_5 : decode b_Entry_addValue 5 = .ok (.aload_n 0, 1) := by decide +kernel
theorem d_Entry_addValue_6 : decode b_Entry_addValue 6 = .ok (.invokevirtual 30, 3) := by decide +kernel
theorem d_Entry_addValue_9 : decode b_Entry_addValue 9 = .ok (.iconst 1, 1) := by decide +kernel
theorem d_Entry_addValue_10 : decode b_Entry_addValue 10 = .ok (.iadd, 1) := by decide +kernel
theorem d_Entry_addValue_11 : decode b_Entry_addValue 11 = .ok (.invokevirtual 37, 3) := by decide +kernel
theorem d_Entry_addValue_14 : decode b_Entry_addValue 14 = .ok (.aload_n 0, 1) := by decide +kernel
theorem d_Entry_addValue_15 : decode b_Entry_addValue 15 = .ok (.getfield 14, 3) := by decide +kernel
theorem d_Entry_addValue_18 : decode b_Entry_addValue 18 = .ok (.iload_n 1, 1) := by decide +kernel
theorem d_Entry_addValue_19 : decode b_Entry_addValue 19 = .ok (.invokevirtual 20, 3) := by decide +kernel
theorem d_Entry_addValue_22 : decode b_Entry_addValue 22 = .ok (.aload_n 0, 1) := by decide +kernel
theorem d_Entry_addValue_23 : decode b_Entry_addValue 23 = .ok (.getfield 14, 3) := by decide +kernel
theorem d_Entry_addValue_26 : decode b_Entry_addValue 26 = .ok (.iload 4, 2) := by decide +kernel
theorem d_Entry_addValue_28 : decode b_Entry_addValue 28 = .ok (.invokevirtual 20, 3) := by decide +kernel
theorem d_Entry_addValue_31 : decode b_Entry_addValue 31 = .ok (.iconst 0, 1) := by decide +kernel
theorem d_Entry_addValue_32 : decode b_Entry_addValue 32 = .ok (.istore 5, 2) := by decide +kernel
theorem d_Entry_addValue_34 : decode b_Entry_addValue 34 = .ok (.iload 5, 2) := by decide +kernel
theorem d_Entry_addValue_36 : decode b_Entry_addValue 36 = .ok (.iload 4, 2) := by decide +kernel
theorem d_Entry_addValue_38 : decode b_Entry_addValue 38 = .ok (.if_icmp .ge 24, 3) := by decide +kernel
theorem d_Entry_addValue_41 : decode b_Entry_addValue 41 = .ok (.aload_n 0, 1) := by decide +kernel
theorem d_Entry_addValue_42 : decode b_Entry_addValue 42 = .ok (.getfield 14, 3) := by decide +kernel
theorem d_Entry_addValue_45 : decode b_Entry_addValue 45 = .ok (.aload_n 2, 1) := by decide +kernel
theorem d_Entry_addValue_46 : decode b_Entry_addValue 46 = .ok (.iload_n 3, 1) := by decide +kernel
theorem d_Entry_addValue_47 : decode b_Entry_addValue 47 = .ok (.iload 5, 2) := by decide +kernel
theorem d_Entry_addValue_49 : decode b_Entry_addValue 49 = .ok (.iadd, 1) := by decide +kernel
theorem d_Entry_addValue_50 : decode b_Entry_addValue 50 = .ok (.invokevirtual 26, 3) := by decide +kernel
theorem d_Entry_addValue_53 : decode b_Entry_addValue 53 = .ok (.invokevirtual 20, 3) := by decide +kernel
theorem d_Entry_addValue_56 : decode b_Entry_addValue 56 = .ok (.iinc 5 1, 3) := by decide +kernel
theorem d_Entry_addValue_59 : decode b_Entry_addValue 59 = .ok (.goto (-25), 3) := by decide +kernel
theorem d_Entry_addValue_62 : decode b_Entry_addValue 62 = .ok (.return_, 1) := by decide +kernel
theorem d_Block_init_0 : decode b_Block_init 0 = .ok (.aload_n 0, 1) := by decide +kernel
theorem d_Block_init_1 : decode b_Block_init 1 = .ok (.invokespecial 3, 3) := by decide +kernel
theorem d_Block_init_4 : decode b_Block_init 4 = .ok (.aload_n 0, 1) := by decide +kernel
theorem d_Block_init_5 : decode b_Block_init 5 = .ok (.bipush 32, 2) := by decide +kernel
theorem d_Block_init_7 : decode b_Block_init 7 = .ok (.newarray .int, 2) := by decide +kernel
theorem d_Block_init_9 : decode b_Block_init 9 = .ok (.putfield 9, 3) := by decide +kernel
theorem d_Block_init_12 : decode b_Block_init 12 = .ok (.return_, 1) := by decide +kernel
theorem d_Block_at_0 : decode b_Block_at 0 = .ok (.iload_n 1, 1) := by decide +kernel
theorem d_Block_at_1 : decode b_Block_at 1 = .ok (.ifCond .lt 18, 3) := by decide +kernel
theorem d_Block_at_4 : decode b_Block_at 4 = .ok (.iload_n 1, 1) := by decide +kernel
theorem d_Block_at_5 : decode b_Block_at 5 = .ok (.bipush 32, 2) := by decide +kernel
theorem d_Block_at_7 : decode b_Block_at 7 = .ok (.if_icmp .ge 12, 3) := by decide +kernel
theorem d_Block_at_10 : decode b_Block_at 10 = .ok (.aload_n 0, 1) := by decide +kernel
theorem d_Block_at_11 : decode b_Block_at 11 = .ok (.getfield 9, 3) := by decide +kernel
theorem d_Block_at_14 : decode b_Block_at 14 = .ok (.iload_n 1, 1) := by decide +kernel
theorem d_Block_at_15 : decode b_Block_at 15 = .ok (.iaload, 1) := by decide +kernel
theorem d_Block_at_16 : decode b_Block_at 16 = .ok (.goto 4, 3) := by decide +kernel
theorem d_Block_at_19 : decode b_Block_at 19 = .ok (.iconst 0, 1) := by decide +kernel
theorem d_Block_at_20 : decode b_Block_at 20 = .ok (.ireturn, 1) := by decide +kernel
theorem d_Block_makeHead_0 : decode b_Block_makeHead 0 = .ok (.aload_n 0, 1) := by decide +kernel
theorem d_Block_makeHead_1 : decode b_Block_makeHead 1 = .ok (.iload_n 1, 1) := by decide +kernel
theorem d_Block_makeHead_2 : decode b_Block_makeHead 2 = .ok (.invokevirtual 15, 3) := by decide +kernel
theorem d_Block_makeHead_5 : decode b_Block_makeHead 5 = .ok (.aload_n 0, 1) := by decide +kernel
theorem d_Block_makeHead_6 : decode b_Block_makeHead 6 = .ok (.getfield 9, 3) := by decide +kernel
theorem d_Block_makeHead_9 : decode b_Block_makeHead 9 = .ok (.iconst 2, 1) := by decide +kernel
theorem d_Block_makeHead_10 : decode b_Block_makeHead 10 = .ok (.bipush 72, 2) := by decide +kernel
theorem d_Block_makeHead_12 : decode b_Block_makeHead 12 = .ok (.iastore, 1) := by decide +kernel
theorem d_Block_makeHead_13 : decode b_Block_makeHead 13 = .ok (.aload_n 0, 1) := by decide +kernel
theorem d_Block_makeHead_14 : decode b_Block_makeHead 14 = .ok (.getfield 9, 3) := by decide +kernel
theorem d_Block_makeHead_17 : decode b_Block_makeHead 17 = .ok (.iconst 3, 1) := by decide +kernel
theorem d_Block_makeHead_18 : decode b_Block_makeHead 18 = .ok (.aload_n 0, 1) := by decide +kernel
theorem d_Block_makeHead_19 : decode b_Block_makeHead 19 = .ok (.getfield 9, 3) := by decide +kernel
theorem d_Block_makeHead_22 : decode b_Block_makeHead 22 = .ok (.iconst 0, 1) := by decide +kernel
theorem d_Block_makeHead_23 : decode b_Block_makeHead 23 = .ok (.invokestatic 19, 3) := by decide +kernel
theorem d_Block_makeHead_26 : decode b_Block_makeHead 26 = .ok (.iastore, 1) := by decide +kernel
theorem d_Block_makeHead_27 : decode b_Block_makeHead 27 = .ok (.return_, 1) := by decide +kernel
theorem d_Block_makeLogBlock_0 : decode b_Block_makeLogBlock 0 = .ok (.aload_n 3, 1) := by decide +kernel
theorem d_Block_makeLogBlock_1 : decode b_Block_makeLogBlock 1 = .ok (.invokevirtual 23, 3) := by decide +kernel
theorem d_Block_makeLogBlock_4 : decode b_Block_makeLogBlock 4 = .ok (.iload 4, 2) := by decide +kernel
theorem d_Block_makeLogBlock_6 : decode b_Block_makeLogBlock 6 = .ok (.isub, 1) := by decide +kernel
theorem d_Block_makeLogBlock_7 : decode b_Block_makeLogBlock 7 = .ok (.bipush 26, 2) := by decide +kernel
theorem d_Block_makeLogBlock_9 : decode b_Block_makeLogBlock 9 = .ok (.invokestatic 29, 3) := by decide +kernel
theorem d_Block_makeLogBlock_12 : decode b_Block_makeLogBlock 12 = .ok (.istore 5, 2) := by decide +kernel
theorem d_Block_makeLogBlock_14 : decode b_Block_makeLogBlock 14 = .ok (.aload_n 0, 1) := by decide +kernel
theorem d_Block_makeLogBlock_15 : decode b_Block_makeLogBlock 15 = .ok (.iload_n 1, 1) := by decide +kernel
theorem d_Block_makeLogBlock_16 : decode b_Block_makeLogBlock 16 = .ok (.invokevirtual 15, 3) := by decide +kernel
theorem d_Block_makeLogBlock_19 : decode b_Block_makeLogBlock 19 = .ok (.aload_n 0, 1) := by decide +kernel
theorem d_Block_makeLogBlock_20 : decode b_Block_makeLogBlock 20 = .ok (.getfield 9, 3) := by decide +kernel
theorem d_Block_makeLogBlock_23 : decode b_Block_makeLogBlock 23 = .ok (.iconst 2, 1) := by decide +kernel
theorem d_Block_makeLogBlock_24 : decode b_Block_makeLogBlock 24 = .ok (.iload 5, 2) := by decide +kernel
theorem d_Block_makeLogBlock_26 : decode b_Block_makeLogBlock 26 = .ok (.iload 4, 2) := by decide +kernel
theorem d_Block_makeLogBlock_28 : decode b_Block_makeLogBlock 28 = .ok (.ifCond .ne 8, 3) := by decide +kernel
theorem d_Block_makeLogBlock_31 : decode b_Block_makeLogBlock 31 = .ok (.bipush 64, 2) := by decide +kernel
theorem d_Block_makeLogBlock_33 : decode b_Block_makeLogBlock 33 = .ok (.goto 4, 3) := by decide +kernel
theorem d_Block_makeLogBlock_36 : decode b_Block_makeLogBlock 36 = .ok (.iconst 0, 1) := by decide +kernel
theorem d_Block_makeLogBlock_37 : decode b_Block_makeLogBlock 37 = .ok (.ior, 1) := by decide +kernel
theorem d_Block_makeLogBlock_38 : decode b_Block_makeLogBlock 38 = .ok (.iload 4, 2) := by decide +kernel
theorem d_Block_makeLogBlock_40 : decode b_Block_makeLogBlock 40 = .ok (.iload 5, 2) := by decide +kernel
theorem d_Block_makeLogBlock_42 : decode b_Block_makeLogBlock 42 = .ok (.iadd, 1) := by decide +kernel
theorem d_Block_makeLogBlock_43 : decode b_Block_makeLogBlock 43 = .ok (.aload_n 3, 1) := by decide +kernel
theorem d_Block_makeLogBlock_44 : decode b_Block_makeLogBlock 44 = .ok (.invokevirtual 23, 3) := by decide +kernel
theorem d_Block_makeLogBlock_47 : decode b_Block_makeLogBlock 47 = .ok (.if_icmp .ne 9, 3) := by decide +kernel
theorem d_Block_makeLogBlock_50 : decode b_Block_makeLogBlock 50 = .ok (.sipush 128, 3) := by decide +kernel
theorem d_Block_makeLogBlock_53 : decode b_Block_makeLogBlock 53 = .ok (.goto 4, 3) := by decide +kernel
theorem d_Block_makeLogBlock_56 : decode b_Block_makeLogBlock 56 = .ok (.iconst 0, 1) := by decide +kernel
theorem d_Block_makeLogBlock_57 : decode b_Block_makeLogBlock 57 = .ok (.ior, 1) := by decide +kernel
theorem d_Block_makeLogBlock_58 : decode b_Block_makeLogBlock 58 = .ok (.iastore, 1) := by decide +kernel
theorem d_Block_makeLogBlock_59 : decode b_Block_makeLogBlock 59 = .ok (.aload_n 0, 1) := by decide +kernel
theorem d_Block_makeLogBlock_60 : decode b_Block_makeLogBlock 60 = .ok (.getfield 9, 3) := by decide +kernel
theorem d_Block_makeLogBlock_63 : decode b_Block_makeLogBlock 63 = .ok (.iconst 4, 1) := by decide +kernel
theorem d_Block_makeLogBlock_64 : decode b_Block_makeLogBlock 64 = .ok (.iload_n 2, 1) := by decide +kernel
theorem d_Block_makeLogBlock_65 : decode b_Block_makeLogBlock 65 = .ok (.sipush 255, 3) := by decide +kernel
theorem d_Block_makeLogBlock_68 : decode b_Block_makeLogBlock 68 = .ok (.iand, 1) := by decide +kernel
theorem d_Block_makeLogBlock_69 : decode b_Block_makeLogBlock 69 = .ok (.iastore, 1) := by decide +kernel
theorem d_Block_makeLogBlock_70 : decode b_Block_makeLogBlock 70 = .ok (.aload_n 0, 1) := by decide +kernel
theorem d_Block_makeLogBlock_71 : decode b_Block_makeLogBlock 71 = .ok (.getfield 9, 3) := by decide +kernel
theorem d_Block_makeLogBlock_74 : decode b_Block_makeLogBlock 74 = .ok (.iconst 5, 1) := by decide +kernel
theorem d_Block_makeLogBlock_75 : decode b_Block_makeLogBlock 75 = .ok (.iload_n 2, 1) := by decide +kernel
theorem d_Block_makeLogBlock_76 : decode b_Block_makeLogBlock 76 = .ok (.bipush 8, 2) := by decide +kernel
theorem d_Block_makeLogBlock_78 : decode b_Block_makeLogBlock 78 = .ok (.iushr, 1) := by decide +kernel
theorem d_Block_makeLogBlock_79 : decode b_Block_makeLogBlock 79 = .ok (.sipush 255, 3) := by decide +kernel
theorem d_Block_makeLogBlock_82 : decode b_Block_makeLogBlock 82 = .ok (.iand, 1) := by decide +kernel
theorem d_Block_makeLogBlock_83 : decode b_Block_makeLogBlock 83 = .ok (.iastore, 1) := by decide +kernel
theorem d_Block_makeLogBlock_84 : decode b_Block_makeLogBlock 84 = .ok (.iconst 0, 1) := by decide +kernel
theorem d_Block_makeLogBlock_85 : decode b_Block_makeLogBlock 85 = .ok (.istore 6, 2) := by decide +kernel
theorem d_Block_makeLogBlock_87 : decode b_Block_makeLogBlock 87 = .ok (.iload 6, 2) := by decide +kernel
theorem d_Block_makeLogBlock_89 : decode b_Block_makeLogBlock 89 = .ok (.iload 5, 2) := by decide +kernel
theorem d_Block_makeLogBlock_91 : decode b_Block_makeLogBlock 91 = .ok (.if_icmp .ge 35, 3) := by decide +kernel
theorem d_Block_makeLogBlock_94 : decode b_Block_makeLogBlock 94 = .ok (.iload 6, 2) := by decide +kernel
theorem d_Block_makeLogBlock_96 : decode b_Block_makeLogBlock 96 = .ok (.bipush 26, 2) := by decide +kernel
theorem d_Block_makeLogBlock_98 : decode b_Block_makeLogBlock 98 = .ok (.if_icmp .ge 28, 3) := by decide +kernel
theorem d_Block_makeLogBlock_101 : decode b_Block_makeLogBlock 101 = .ok (.aload_n 0, 1) := by decide +kernel
theorem d_Block_makeLogBlock_102 : decode b_Block_makeLogBlock 102 = .ok (.getfield 9, 3) := by decide +kernel
theorem d_Block_makeLogBlock_105 : decode b_Block_makeLogBlock 105 = .ok (.bipush 6, 2) := by decide +kernel
theorem d_Block_makeLogBlock_107 : decode b_Block_makeLogBlock 107 = .ok (.iload 6, 2) := by decide +kernel
theorem d_Block_makeLogBlock_109 : decode b_Block_makeLogBlock 109 = .ok (.iadd, 1) := by decide +kernel
theorem d_Block_makeLogBlock_110 : decode b_Block_makeLogBlock 110 = .ok (.aload_n 3, 1) := by decide +kernel
theorem d_Block_makeLogBlock_111 : decode b_Block_makeLogBlock 111 = .ok (.iload 4, 2) := by decide +kernel
theorem d_Block_makeLogBlock_113 : decode b_Block_makeLogBlock 113 = .ok (.iload 6, 2) := by decide +kernel
theorem d_Block_makeLogBlock_115 : decode b_Block_makeLogBlock 115 = .ok (.iadd, 1) := by decide +kernel
theorem d_Block_makeLogBlock_116 : decode b_Block_makeLogBlock 116 = .ok (.invokevirtual 35, 3) := by decide +kernel
theorem d_Block_makeLogBlock_119 : decode b_Block_makeLogBlock 119 = .ok (.iastore, 1) := by decide +kernel
theorem d_Block_makeLogBlock_120 : decode b_Block_makeLogBlock 120 = .ok (.iinc 6 1, 3) := by decide +kernel
theorem d_Block_makeLogBlock_123 : decode b_Block_makeLogBlock 123 = .ok (.goto (-36), 3) := by decide +kernel
theorem d_Block_makeLogBlock_126 : decode b_Block_makeLogBlock 126 = .ok (.aload_n 0, 1) := by decide +kernel
theorem d_Block_makeLogBlock_127 : decode b_Block_makeLogBlock 127 = .ok (.getfield 9, 3) := by decide +kernel
theorem d_Block_makeLogBlock_130 : decode b_Block_makeLogBlock 130 = .ok (.iconst 3, 1) := by decide +kernel
theorem d_Block_makeLogBlock_131 : decode b_Block_makeLogBlock 131 = .ok (.aload_n 0, 1) := by decide +kernel
theorem d_Block_makeLogBlock_132 : decode b_Block_makeLogBlock 132 = .ok (.getfield 9, 3) := by decide +kernel
theorem d_Block_makeLogBlock_135 : decode b_Block_makeLogBlock 135 = .ok (.iconst 0, 1) := by decide +kernel
theorem d_Block_makeLogBlock_136 : decode b_Block_makeLogBlock 136 = .ok (.invokestatic 19, 3) := by decide +kernel
theorem d_Block_makeLogBlock_139 : decode b_Block_makeLogBlock 139 = .ok (.iastore, 1) := by decide +kernel
theorem d_Block_makeLogBlock_140 : decode b_Block_makeLogBlock 140 = .ok (.return_, 1) := by decide +kernel
theorem d_Block_begin_0 : decode b_Block_begin 0 = .ok (.iconst 0, 1) := by decide +kernel
theorem d_Block_begin_1 : decode b_Block_begin 1 = .ok (.istore_n 2, 1) := by decide +kernel
theorem d_Block_begin_2 : decode b_Block_begin 2 = .ok (.iload_n 2, 1) := by decide +kernel
theorem d_Block_begin_3 : decode b_Block_begin 3 = .ok (.bipush 32, 2) := by decide +kernel
theorem d_Block_begin_5 : decode b_Block_begin 5 = .ok (.if_icmp .ge 16, 3) := by decide +kernel
theorem d_Block_begin_8 : decode b_Block_begin 8 = .ok (.aload_n 0, 1) := by decide +kernel
theorem d_Block_begin_9 : decode b_Block_begin 9 = .ok (.getfield 9, 3) := by decide +kernel
theorem d_Block_begin_12 : decode b_Block_begin 12 = .ok (.iload_n 2, 1) := by decide +kernel
theorem d_Block_begin_13 : decode b_Block_begin 13 = .ok (.iconst 0, 1) := by decide +kernel
theorem d_Block_begin_14 : decode b_Block_begin 14 = .ok (.iastore, 1) := by decide +kernel
theorem d_Block_begin_15 : decode b_Block_begin 15 = .ok (.iinc 2 1, 3) := by decide +kernel
theorem d_Block_begin_18 : decode b_Block_begin 18 = .ok (.goto (-16), 3) := by decide +kernel
theorem d_Block_begin_21 : decode b_Block_begin 21 = .ok (.aload_n 0, 1) := by decide +kernel
theorem d_Block_begin_22 : decode b_Block_begin 22 = .ok (.getfield 9, 3) := by decide +kernel
theorem d_Block_begin_25 : decode b_Block_begin 25 = .ok (.iconst 0, 1) := by decide +kernel
theorem d_Block_begin_26 : decode b_Block_begin 26 = .ok (.iload_n 1, 1) := by decide +kernel
theorem d_Block_begin_27 : decode b_Block_begin 27 = .ok (.sipush 255, 3) := by decide +kernel
theorem d_Block_begin_30 : decode b_Block_begin 30 = .ok (.iand, 1) := by decide +kernel
theorem d_Block_begin_31 : decode b_Block_begin 31 = .ok (.iastore, 1) := by decide +kernel
theorem d_Block_begin_32 : decode b_Block_begin 32 = .ok (.aload_n 0, 1) := by decide +kernel
theorem d_Block_begin_33 : decode b_Block_begin 33 = .ok (.getfield 9, 3) := by decide +kernel
theorem d_Block_begin_36 : decode b_Block_begin 36 = .ok (.iconst 1, 1) := by decide +kernel
theorem d_Block_begin_37 : decode b_Block_begin 37 = .ok (.iload_n 1, 1) := by decide +kernel
theorem d_Block_begin_38 : decode b_Block_begin 38 = .ok (.bipush 8, 2) := by decide +kernel
theorem d_Block_begin_40 : decode b_Block_begin 40 = .ok (.iushr, 1) := by decide +kernel
theorem d_Block_begin_41 : decode b_Block_begin 41 = .ok (.sipush 255, 3) := by decide +kernel
theorem d_Block_begin_44 : decode b_Block_begin 44 = .ok (.iand, 1) := by decide +kernel
theorem d_Block_begin_45 : decode b_Block_begin 45 = .ok (.iastore, 1) := by decide +kernel
theorem d_Block_begin_46 : decode b_Block_begin 46 = .ok (.return_, 1) := by decide +kernel
theorem d_Disk_init_0 : decode b_Disk_init 0 = .ok (.aload_n 0, 1) := by decide +kernel
theorem d_Disk_init_1 : decode b_Disk_init 1 = .ok (.invokespecial 3, 3) := by decide +kernel
theorem d_Disk_init_4 : decode b_Disk_init 4 = .ok (.aload_n 0, 1) := by decide +kernel
theorem d_Disk_init_5 : decode b_Disk_init 5 = .ok (.sipush 6144, 3) := by decide +kernel
theorem d_Disk_init_8 : decode b_Disk_init 8 = .ok (.newarray .int, 2) := by decide +kernel
theorem d_Disk_init_10 : decode b_Disk_init 10 = .ok (.putfield 9, 3) := by decide +kernel
theorem d_Disk_init_13 : decode b_Disk_init 13 = .ok (.return_, 1) := by decide +kernel
theorem d_Disk_has_0 : decode b_Disk_has 0 = .ok (.iload_n 1, 1) := by decide +kernel
theorem d_Disk_has_1 : decode b_Disk_has 1 = .ok (.ifCond .lt 14, 3) := by decide +kernel
theorem d_Disk_has_4 : decode b_Disk_has 4 = .ok (.iload_n 1, 1) := by decide +kernel
theorem d_Disk_has_5 : decode b_Disk_has 5 = .ok (.sipush 6144, 3) := by decide +kernel
theorem d_Disk_has_8 : decode b_Disk_has 8 = .ok (.if_icmp .ge 7, 3) := by decide +kernel
theorem d_Disk_has_11 : decode b_Disk_has 11 = .ok (.iconst 1, 1) := by decide +kernel
theorem d_Disk_has_12 : decode b_Disk_has 12 = .ok (.goto 4, 3) := by decide +kernel
theorem d_Disk_has_15 : decode b_Disk_has 15 = .ok (.iconst 0, 1) := by decide +kernel
theorem d_Disk_has_16 : decode b_Disk_has 16 = .ok (.ireturn, 1) := by decide +kernel
theorem d_Disk_byteAt_0 : decode b_Disk_byteAt 0 = .ok (.iload_n 1, 1) := by decide +kernel
theorem d_Disk_byteAt_1 : decode b_Disk_byteAt 1 = .ok (.ifCond .lt 19, 3) := by decide +kernel
theorem d_Disk_byteAt_4 : decode b_Disk_byteAt 4 = .ok (.iload_n 1, 1) := by decide +kernel
theorem d_Disk_byteAt_5 : decode b_Disk_byteAt 5 = .ok (.sipush 6144, 3) := by decide +kernel
theorem d_Disk_byteAt_8 : decode b_Disk_byteAt 8 = .ok (.if_icmp .ge 12, 3) := by decide +kernel
theorem d_Disk_byteAt_11 : decode b_Disk_byteAt 11 = .ok (.aload_n 0, 1) := by decide +kernel
theorem d_Disk_byteAt_12 : decode b_Disk_byteAt 12 = .ok (.getfield 9, 3) := by decide +kernel
theorem d_Disk_byteAt_15 : decode b_Disk_byteAt 15 = .ok (.iload_n 1, 1) := by decide +kernel
theorem d_Disk_byteAt_16 : decode b_Disk_byteAt 16 = .ok (.iaload, 1) := by decide +kernel
theorem d_Disk_byteAt_17 : decode b_Disk_byteAt 17 = .ok (.goto 4, 3) := by decide +kernel
theorem d_Disk_byteAt_20 : decode b_Disk_byteAt 20 = .ok (.iconst 0, 1) := by decide +kernel
theorem d_Disk_byteAt_21 : decode b_Disk_byteAt 21 = .ok (.ireturn, 1) := by decide +kernel
theorem d_Disk_change_0 : decode b_Disk_change 0 = .ok (.iload_n 1, 1) := by decide +kernel
theorem d_Disk_change_1 : decode b_Disk_change 1 = .ok (.ifCond .lt 21, 3) := by decide +kernel
theorem d_Disk_change_4 : decode b_Disk_change 4 = .ok (.iload_n 1, 1) := by decide +kernel
theorem d_Disk_change_5 : decode b_Disk_change 5 = .ok (.sipush 6144, 3) := by decide +kernel
theorem d_Disk_change_8 : decode b_Disk_change 8 = .ok (.if_icmp .ge 14, 3) := by decide +kernel
theorem d_Disk_change_11 : decode b_Disk_change 11 = .ok (.aload_n 0, 1) := by decide +kernel
theorem d_Disk_change_12 : decode b_Disk_change 12 = .ok (.getfield 9, 3) := by decide +kernel
theorem d_Disk_change_15 : decode b_Disk_change 15 = .ok (.iload_n 1, 1) := by decide +kernel
theorem d_Disk_change_16 : decode b_Disk_change 16 = .ok (.iload_n 2, 1) := by decide +kernel
theorem d_Disk_change_17 : decode b_Disk_change 17 = .ok (.sipush 255, 3) := by decide +kernel
theorem d_Disk_change_20 : decode b_Disk_change 20 = .ok (.iand, 1) := by decide +kernel
theorem d_Disk_change_21 : decode b_Disk_change 21 = .ok (.iastore, 1) := by decide +kernel
theorem d_Disk_change_22 : decode b_Disk_change 22 = .ok (.return_, 1) := by decide +kernel
theorem d_Disk_overwrite_0 : decode b_Disk_overwrite 0 = .ok (.iconst 0, 1) := by decide +kernel
theorem d_Disk_overwrite_1 : decode b_Disk_overwrite 1 = .ok (.istore 4, 2) := by decide +kernel
theorem d_Disk_overwrite_3 : decode b_Disk_overwrite 3 = .ok (.iload 4, 2) := by decide +kernel
theorem d_Disk_overwrite_5 : decode b_Disk_overwrite 5 = .ok (.iload_n 3, 1) := by decide +kernel
theorem d_Disk_overwrite_6 : decode b_Disk_overwrite 6 = .ok (.if_icmp .ge 33, 3) := by decide +kernel
theorem d_Disk_overwrite_9 : decode b_Disk_overwrite 9 = .ok (.iload 4, 2) := by decide +kernel
theorem d_Disk_overwrite_11 : decode b_Disk_overwrite 11 = .ok (.bipush 32, 2) := by decide +kernel
theorem d_Disk_overwrite_13 : decode b_Disk_overwrite 13 = .ok (.if_icmp .ge 26, 3) := by decide +kernel
theorem d_Disk_overwrite_16 : decode b_Disk_overwrite 16 = .ok (.aload_n 0, 1) := by decide +kernel
theorem d_Disk_overwrite_17 : decode b_Disk_overwrite 17 = .ok (.iload_n 1, 1) := by decide +kernel
theorem d_Disk_overwrite_18 : decode b_Disk_overwrite 18 = .ok (.bipush 32, 2) := by decide +kernel
theorem d_Disk_overwrite_20 : decode b_Disk_overwrite 20 = .ok (.imul, 1) := by decide +kernel
theorem d_Disk_overwrite_21 : decode b_Disk_overwrite 21 = .ok (.iload 4, 2) := by decide +kernel
theorem d_Disk_overwrite_23 : decode b_Disk_overwrite 23 = .ok (.iadd, 1) := by decide +kernel
theorem d_Disk_overwrite_24 : decode b_Disk_overwrite 24 = .ok (.aload_n 2, 1) := by decide +kernel
theorem d_Disk_overwrite_25 : decode b_Disk_overwrite 25 = .ok (.iload 4, 2) := by decide +kernel
theorem d_Disk_overwrite_27 : decode b_Disk_overwrite 27 = .ok (.invokevirtual 15, 3) := by decide +kernel
theorem d_Disk_overwrite_30 : decode b_Disk_overwrite 30 = .ok (.invokevirtual 21, 3) := by decide +kernel
theorem d_Disk_overwrite_33 : decode b_Disk_overwrite 33 = .ok (.iinc 4 1, 3) := by decide +kernel
theorem d_Disk_overwrite_36 : decode b_Disk_overwrite 36 = .ok (.goto (-33), 3) := by decide +kernel
theorem d_Disk_overwrite_39 : decode b_Disk_overwrite 39 = .ok (.return_, 1) := by decide +kernel
theorem d_Disk_isAs_0 : decode b_Disk_isAs 0 = .ok (.iconst 0, 1) := by decide +kernel
theorem d_Disk_isAs_1 : decode b_Disk_isAs 1 = .ok (.istore_n 3, 1) := by decide +kernel
theorem d_Disk_isAs_2 : decode b_Disk_isAs 2 = .ok (.iload_n 3, 1) := by decide +kernel
theorem d_Disk_isAs_3 : decode b_Disk_isAs 3 = .ok (.bipush 32, 2) := by decide +kernel
theorem d_Disk_isAs_5 : decode b_Disk_isAs 5 = .ok (.if_icmp .ge 29, 3) := by decide +kernel
theorem d_Disk_isAs_8 : decode b_Disk_isAs 8 = .ok (.aload_n 0, 1) := by decide +kernel
theorem d_Disk_isAs_9 : decode b_Disk_isAs 9 = .ok (.iload_n 1, 1) := by decide +kernel
theorem d_Disk_isAs_10 : decode b_Disk_isAs 10 = .ok (.bipush 32, 2) := by decide +kernel
theorem d_Disk_isAs_12 : decode b_Disk_isAs 12 = .ok (.imul, 1) := by decide +kernel
theorem d_Disk_isAs_13 : decode b_Disk_isAs 13 = .ok (.iload_n 3, 1) := by decide +kernel
theorem d_Disk_isAs_14 : decode b_Disk_isAs 14 = .ok (.iadd, 1) := by decide +kernel
theorem d_Disk_isAs_15 : decode b_Disk_isAs 15 = .ok (.invokevirtual 25, 3) := by decide +kernel
theorem d_Disk_isAs_18 : decode b_Disk_isAs 18 = .ok (.aload_n 2, 1) := by decide +kernel
theorem d_Disk_isAs_19 : decode b_Disk_isAs 19 = .ok (.iload_n 3, 1) := by decide +kernel
theorem d_Disk_isAs_20 : decode b_Disk_isAs 20 = .ok (.invokevirtual 15, 3) := by decide +kernel
theorem d_Disk_isAs_23 : decode b_Disk_isAs 23 = .ok (.if_icmp .eq 5, 3) := by decide +kernel
theorem d_Disk_isAs_26 : decode b_Disk_isAs 26 = .ok (.iconst 0, 1) := by decide +kernel
theorem d_Disk_isAs_27 : decode b_Disk_isAs 27 = .ok (.ireturn, 1) := by decide +kernel
theorem d_Disk_isAs_28 : decode b_Disk_isAs 28 = .ok (.iinc 3 1, 3) := by decide +kernel
theorem d_Disk_isAs_31 : decode b_Disk_isAs 31 = .ok (.goto (-29), 3) := by decide +kernel
theorem d_Disk_isAs_34 : decode b_Disk_isAs 34 = .ok (.iconst 1, 1) := by decide +kernel
theorem d_Disk_isAs_35 : decode b_Disk_isAs 35 = .ok (.ireturn, 1) := by decide +kernel
theorem d_Disk_epochOf_0 : decode b_Disk_epochOf 0 = .ok (.aload_n 0, 1) := by decide +kernel
theorem d_Disk_epochOf_1 : decode b_Disk_epochOf 1 = .ok (.iload_n 1, 1) := by decide +kernel
theorem d_Disk_epochOf_2 : decode b_Disk_epochOf 2 = .ok (.bipush 32, 2) := by decide +kernel
theorem d_Disk_epochOf_4 : decode b_Disk_epochOf 4 = .ok (.imul, 1) := by decide +kernel
theorem d_Disk_epochOf_5 : decode b_Disk_epochOf 5 = .ok (.invokevirtual 28, 3) := by decide +kernel
theorem d_Disk_epochOf_8 : decode b_Disk_epochOf 8 = .ok (.ireturn, 1) := by decide +kernel
theorem d_Disk_greatestEpoch_0 : decode b_Disk_greatestEpoch 0 = .ok (.iconst 0, 1) := by decide +kernel
theorem d_Disk_greatestEpoch_1 : decode b_Disk_greatestEpoch 1 = .ok (.istore_n 2, 1) := by decide +kernel
theorem d_Disk_greatestEpoch_2 : decode b_Disk_greatestEpoch 2 = .ok (.iconst 0, 1) := by decide +kernel
theorem d_Disk_greatestEpoch_3 : decode b_Disk_greatestEpoch 3 = .ok (.istore_n 3, 1) := by decide +kernel
theorem d_Disk_greatestEpoch_4 : decode b_Disk_greatestEpoch 4 = .ok (.iload_n 3, 1) := by decide +kernel
theorem d_Disk_greatestEpoch_5 : decode b_Disk_greatestEpoch 5 = .ok (.bipush 96, 2) := by decide +kernel
theorem d_Disk_greatestEpoch_7 : decode b_Disk_greatestEpoch 7 = .ok (.if_icmp .ge 24, 3) := by decide +kernel
theorem d_Disk_greatestEpoch_10 : decode b_Disk_greatestEpoch 10 = .ok (.iload_n 2, 1) := by decide +kernel
theorem d_Disk_greatestEpoch_11 : decode b_Disk_greatestEpoch 11 = .ok (.aload_n 0, 1) := by decide +kernel
theorem d_Disk_greatestEpoch_12 : decode b_Disk_greatestEpoch 12 = .ok (.iload_n 1, 1) := by decide +kernel
theorem d_Disk_greatestEpoch_13 : decode b_Disk_greatestEpoch 13 = .ok (.bipush 96, 2) := by decide +kernel
theorem d_Disk_greatestEpoch_15 : decode b_Disk_greatestEpoch 15 = .ok (.imul, 1) := by decide +kernel
theorem d_Disk_greatestEpoch_16 : decode b_Disk_greatestEpoch 16 = .ok (.iload_n 3, 1) := by decide +kernel
theorem d_Disk_greatestEpoch_17 : decode b_Disk_greatestEpoch 17 = .ok (.iadd, 1) := by decide +kernel
theorem d_Disk_greatestEpoch_18 : decode b_Disk_greatestEpoch 18 = .ok (.invokevirtual 31, 3) := by decide +kernel
theorem d_Disk_greatestEpoch_21 : decode b_Disk_greatestEpoch 21 = .ok (.invokestatic 34, 3) := by decide +kernel
theorem d_Disk_greatestEpoch_24 : decode b_Disk_greatestEpoch 24 = .ok (.istore_n 2, 1) := by decide +kernel
theorem d_Disk_greatestEpoch_25 : decode b_Disk_greatestEpoch 25 = .ok (.iinc 3 1, 3) := by decide +kernel
theorem d_Disk_greatestEpoch_28 : decode b_Disk_greatestEpoch 28 = .ok (.goto (-24), 3) := by decide +kernel
theorem d_Disk_greatestEpoch_31 : decode b_Disk_greatestEpoch 31 = .ok (.iload_n 2, 1) := by decide +kernel
theorem d_Disk_greatestEpoch_32 : decode b_Disk_greatestEpoch 32 = .ok (.ireturn, 1) := by decide +kernel
theorem d_Disk_isHead_0 : decode b_Disk_isHead 0 = .ok (.iload_n 1, 1) := by decide +kernel
theorem d_Disk_isHead_1 : decode b_Disk_isHead 1 = .ok (.bipush 32, 2) := by decide +kernel
theorem d_Disk_isHead_3 : decode b_Disk_isHead 3 = .ok (.imul, 1) := by decide +kernel
theorem d_Disk_isHead_4 : decode b_Disk_isHead 4 = .ok (.istore_n 2, 1) := by decide +kernel
theorem d_Disk_isHead_5 : decode b_Disk_isHead 5 = .ok (.iconst 4, 1) := by decide +kernel
theorem d_Disk_isHead_6 : decode b_Disk_isHead 6 = .ok (.istore_n 3, 1) := by decide +kernel
theorem d_Disk_isHead_7 : decode b_Disk_isHead 7 = .ok (.iload_n 3, 1) := by decide +kernel
theorem d_Disk_isHead_8 : decode b_Disk_isHead 8 = .ok (.bipush 32, 2) := by decide +kernel
theorem d_Disk_isHead_10 : decode b_Disk_isHead 10 = .ok (.if_icmp .ge 21, 3) := by decide +kernel
theorem d_Disk_isHead_13 : decode b_Disk_isHead 13 = .ok (.aload_n 0, 1) := by decide +kernel
theorem d_Disk_isHead_14 : decode b_Disk_isHead 14 = .ok (.iload_n 2, 1) := by decide +kernel
theorem d_Disk_isHead_15 : decode b_Disk_isHead 15 = .ok (.iload_n 3, 1) := by decide +kernel
theorem d_Disk_isHead_16 : decode b_Disk_isHead 16 = .ok (.iadd, 1) := by decide +kernel
theorem d_Disk_isHead_17 : decode b_Disk_isHead 17 = .ok (.invokevirtual 25, 3) := by decide +kernel
theorem d_Disk_isHead_20 : decode b_Disk_isHead 20 = .ok (.ifCond .eq 5, 3) := by decide +kernel
theorem d_Disk_isHead_23 : decode b_Disk_isHead 23 = .ok (.iconst 0, 1) := by decide +kernel
theorem d_Disk_isHead_24 : decode b_Disk_isHead 24 = .ok (.ireturn, 1) := by decide +kernel
theorem d_Disk_isHead_25 : decode b_Disk_isHead 25 = .ok (.iinc 3 1, 3) := by decide +kernel
theorem d_Disk_isHead_28 : decode b_Disk_isHead 28 = .ok (.goto (-21), 3) := by decide +kernel
theorem d_Disk_isHead_31 : decode b_Disk_isHead 31 = .ok (.aload_n 0, 1) := by decide +kernel
theorem d_Disk_isHead_32 : decode b_Disk_isHead 32 = .ok (.iload_n 2, 1) := by decide +kernel
theorem d_Disk_isHead_33 : decode b_Disk_isHead 33 = .ok (.iconst 2, 1) := by decide +kernel
theorem d_Disk_isHead_34 : decode b_Disk_isHead 34 = .ok (.iadd, 1) := by decide +kernel
theorem d_Disk_isHead_35 : decode b_Disk_isHead 35 = .ok (.invokevirtual 25, 3) := by decide +kernel
theorem d_Disk_isHead_38 : decode b_Disk_isHead 38 = .ok (.bipush 72, 2) := by decide +kernel
theorem d_Disk_isHead_40 : decode b_Disk_isHead 40 = .ok (.if_icmp .ne 15, 3) := by decide +kernel
theorem d_Disk_isHead_43 : decode b_Disk_isHead 43 = .ok (.aload_n 0, 1) := by decide +kernel
theorem d_Disk_isHead_44 : decode b_Disk_isHead 44 = .ok (.iload_n 2, 1) := by decide +kernel
theorem d_Disk_isHead_45 : decode b_Disk_isHead 45 = .ok (.invokevirtual 40, 3) := by decide +kernel
theorem d_Disk_isHead_48 : decode b_Disk_isHead 48 = .ok (.ifCond .eq 7, 3) := by decide +kernel
theorem d_Disk_isHead_51 : decode b_Disk_isHead 51 = .ok (.iconst 1, 1) := by decide +kernel
theorem d_Disk_isHead_52 : decode b_Disk_isHead 52 = .ok (.goto 4, 3) := by decide +kernel
theorem d_Disk_isHead_55 : decode b_Disk_isHead 55 = .ok (.iconst 0, 1) := by decide +kernel
theorem d_Disk_isHead_56 : decode b_Disk_isHead 56 = .ok (.ireturn, 1) := by decide +kernel
theorem d_Disk_isRight_0 : decode b_Disk_isRight 0 = .ok (.iload_n 1, 1) := by decide +kernel
theorem d_Disk_isRight_1 : decode b_Disk_isRight 1 = .ok (.bipush 96, 2) := by decide +kernel
theorem d_Disk_isRight_3 : decode b_Disk_isRight 3 = .ok (.imul, 1) := by decide +kernel
theorem d_Disk_isRight_4 : decode b_Disk_isRight 4 = .ok (.iload_n 2, 1) := by decide +kernel
theorem d_Disk_isRight_5 : decode b_Disk_isRight 5 = .ok (.iadd, 1) := by decide +kernel
theorem d_Disk_isRight_6 : decode b_Disk_isRight 6 = .ok (.bipush 32, 2) := by decide +kernel
theorem d_Disk_isRight_8 : decode b_Disk_isRight 8 = .ok (.imul, 1) := by decide +kernel
theorem d_Disk_isRight_9 : decode b_Disk_isRight 9 = .ok (.istore 5, 2) := by decide +kernel
theorem d_Disk_isRight_11 : decode b_Disk_isRight 11 = .ok (.aload_n 0, 1) := by decide +kernel
theorem d_Disk_isRight_12 : decode b_Disk_isRight 12 = .ok (.iload 5, 2) := by decide +kernel
theorem d_Disk_isRight_14 : decode b_Disk_isRight 14 = .ok (.iconst 2, 1) := by decide +kernel
theorem d_Disk_isRight_15 : decode b_Disk_isRight 15 = .ok (.iadd, 1) := by decide +kernel
theorem d_Disk_isRight_16 : decode b_Disk_isRight 16 = .ok (.invokevirtual 25, 3) := by decide +kernel
theorem d_Disk_isRight_19 : decode b_Disk_isRight 19 = .ok (.istore 6, 2) := by decide +kernel
theorem d_Disk_isRight_21 : decode b_Disk_isRight 21 = .ok (.iload 6, 2) := by decide +kernel
theorem d_Disk_isRight_23 : decode b_Disk_isRight 23 = .ok (.bipush 63, 2) := by decide +kernel
theorem d_Disk_isRight_25 : decode b_Disk_isRight 25 = .ok (.iand, 1) := by decide +kernel
theorem d_Disk_isRight_26 : decode b_Disk_isRight 26 = .ok (.istore 7, 2) := by decide +kernel
theorem d_Disk_isRight_28 : decode b_Disk_isRight 28 = .ok (.aload_n 0, 1) := by decide +kernel
theorem d_Disk_isRight_29 : decode b_Disk_isRight 29 = .ok (.iload 5, 2) := by decide +kernel
theorem d_Disk_isRight_31 : decode b_Disk_isRight 31 = .ok (.invokevirtual 28, 3) := by decide +kernel
theorem d_Disk_isRight_34 : decode b_Disk_isRight 34 = .ok (.iload_n 3, 1) := by decide +kernel
theorem d_Disk_isRight_35 : decode b_Disk_isRight 35 = .ok (.if_icmp .ne 59, 3) := by decide +kernel
theorem d_Disk_isRight_38 : decode b_Disk_isRight 38 = .ok (.aload_n 0, 1) := by decide +kernel
theorem d_Disk_isRight_39 : decode b_Disk_isRight 39 = .ok (.iload 5, 2) := by decide +kernel
theorem d_Disk_isRight_41 : decode b_Disk_isRight 41 = .ok (.iconst 4, 1) := by decide +kernel
theorem d_Disk_isRight_42 : decode b_Disk_isRight 42 = .ok (.iadd, 1) := by decide +kernel
theorem d_Disk_isRight_43 : decode b_Disk_isRight 43 = .ok (.invokevirtual 28, 3) := by decide +kernel
theorem d_Disk_isRight_46 : decode b_Disk_isRight 46 = .ok (.iload_n 2, 1) := by decide +kernel
theorem d_Disk_isRight_47 : decode b_Disk_isRight 47 = .ok (.if_icmp .ne 47, 3) := by decide +kernel
theorem d_Disk_isRight_50 : decode b_Disk_isRight 50 = .ok (.iload 7, 2) := by decide +kernel
theorem d_Disk_isRight_52 : decode b_Disk_isRight 52 = .ok (.iconst 1, 1) := by decide +kernel
theorem d_Disk_isRight_53 : decode b_Disk_isRight 53 = .ok (.if_icmp .lt 41, 3) := by decide +kernel
theorem d_Disk_isRight_56 : decode b_Disk_isRight 56 = .ok (.iload 7, 2) := by decide +kernel
theorem d_Disk_isRight_58 : decode b_Disk_isRight 58 = .ok (.bipush 26, 2) := by decide +kernel
theorem d_Disk_isRight_60 : decode b_Disk_isRight 60 = .ok (.if_icmp .gt 34, 3) := by decide +kernel
theorem d_Disk_isRight_63 : decode b_Disk_isRight 63 = .ok (.iload 6, 2) := by decide +kernel
theorem d_Disk_isRight_65 : decode b_Disk_isRight 65 = .ok (.bipush 64, 2) := by decide +kernel
theorem d_Disk_isRight_67 : decode b_Disk_isRight 67 = .ok (.iand, 1) := by decide +kernel
theorem d_Disk_isRight_68 : decode b_Disk_isRight 68 = .ok (.ifCond .eq 7, 3) := by decide +kernel
theorem d_Disk_isRight_71 : decode b_Disk_isRight 71 = .ok (.iconst 1, 1) := by decide +kernel
theorem d_Disk_isRight_72 : decode b_Disk_isRight 72 = .ok (.goto 4, 3) := by decide +kernel
theorem d_Disk_isRight_75 : decode b_Disk_isRight 75 = .ok (.iconst 0, 1) := by decide +kernel
theorem d_Disk_isRight_76 : decode b_Disk_isRight 76 = .ok (.iload 4, 2) := by decide +kernel
theorem d_Disk_isRight_78 : decode b_Disk_isRight 78 = .ok (.if_icmp .ne 16, 3) := by decide +kernel
theorem d_Disk_isRight_81 : decode b_Disk_isRight 81 = .ok (.aload_n 0, 1) := by decide +kernel
theorem d_Disk_isRight_82 : decode b_Disk_isRight 82 = .ok (.iload 5, 2) := by decide +kernel
theorem d_Disk_isRight_84 : decode b_Disk_isRight 84 = .ok (.invokevirtual 40, 3) := by decide +kernel
theorem d_Disk_isRight_87 : decode b_Disk_isRight 87 = .ok (.ifCond .eq 7, 3) := by decide +kernel
theorem d_Disk_isRight_90 : decode b_Disk_isRight 90 = .ok (.iconst 1, 1) := by decide +kernel
theorem d_Disk_isRight_91 : decode b_Disk_isRight 91 = .ok (.goto 4, 3) := by decide +kernel
theorem d_Disk_isRight_94 : decode b_Disk_isRight 94 = .ok (.iconst 0, 1) := by decide +kernel
theorem d_Disk_isRight_95 : decode b_Disk_isRight 95 = .ok (.ireturn, 1) := by decide +kernel
theorem d_Disk_pairAt_0 : decode b_Disk_pairAt 0 = .ok (.aload_n 0, 1) := by decide +kernel
theorem d_Disk_pairAt_1 : decode b_Disk_pairAt 1 = .ok (.iload_n 1, 1) := by decide +kernel
theorem d_Disk_pairAt_2 : decode b_Disk_pairAt 2 = .ok (.invokevirtual 25, 3) := by decide +kernel
theorem d_Disk_pairAt_5 : decode b_Disk_pairAt 5 = .ok (.aload_n 0, 1) := by decide +kernel
theorem d_Disk_pairAt_6 : decode b_Disk_pairAt 6 = .ok (.iload_n 1, 1) := by decide +kernel
theorem d_Disk_pairAt_7 : decode b_Disk_pairAt 7 = .ok (.iconst 1, 1) := by decide +kernel
theorem d_Disk_pairAt_8 : decode b_Disk_pairAt 8 = .ok (.iadd, 1) := by decide +kernel
theorem d_Disk_pairAt_9 : decode b_Disk_pairAt 9 = .ok (.invokevirtual 25, 3) := by decide +kernel
theorem d_Disk_pairAt_12 : decode b_Disk_pairAt 12 = .ok (.bipush 8, 2) := by decide +kernel
theorem d_Disk_pairAt_14 : decode b_Disk_pairAt 14 = .ok (.ishl, 1) := by decide +kernel
theorem d_Disk_pairAt_15 : decode b_Disk_pairAt 15 = .ok (.ior, 1) := by decide +kernel
theorem d_Disk_pairAt_16 : decode b_Disk_pairAt 16 = .ok (.ireturn, 1) := by decide +kernel
theorem d_Disk_hasItsSum_0 : decode b_Disk_hasItsSum 0 = .ok (.aload_n 0, 1) := by decide +kernel
theorem d_Disk_hasItsSum_1 : decode b_Disk_hasItsSum 1 = .ok (.iload_n 1, 1) := by decide +kernel
theorem d_Disk_hasItsSum_2 : decode b_Disk_hasItsSum 2 = .ok (.iconst 3, 1) := by decide +kernel
theorem d_Disk_hasItsSum_3 : decode b_Disk_hasItsSum 3 = .ok (.iadd, 1) := by decide +kernel
theorem d_Disk_hasItsSum_4 : decode b_Disk_hasItsSum 4 = .ok (.invokevirtual 25, 3) := by decide +kernel
theorem d_Disk_hasItsSum_7 : decode b_Disk_hasItsSum 7 = .ok (.aload_n 0, 1) := by decide +kernel
theorem d_Disk_hasItsSum_8 : decode b_Disk_hasItsSum 8 = .ok (.getfield 9, 3) := by decide +kernel
theorem d_Disk_hasItsSum_11 : decode b_Disk_hasItsSum 11 = .ok (.iload_n 1, 1) := by decide +kernel
theorem d_Disk_hasItsSum_12 : decode b_Disk_hasItsSum 12 = .ok (.invokestatic 44, 3) := by decide +kernel
theorem d_Disk_hasItsSum_15 : decode b_Disk_hasItsSum 15 = .ok (.if_icmp .ne 7, 3) := by decide +kernel
theorem d_Disk_hasItsSum_18 : decode b_Disk_hasItsSum 18 = .ok (.iconst 1, 1) := by decide +kernel
theorem d_Disk_hasItsSum_19 : decode b_Disk_hasItsSum 19 = .ok (.goto 4, 3) := by decide +kernel
theorem d_Disk_hasItsSum_22 : decode b_Disk_hasItsSum 22 = .ok (.iconst 0, 1) := by decide +kernel
theorem d_Disk_hasItsSum_23 : decode b_Disk_hasItsSum 23 = .ok (.ireturn, 1) := by decide +kernel
theorem d_Writer_init_0 : decode b_Writer_init 0 = .ok (.aload_n 0, 1) := by decide +kernel
theorem d_Writer_init_1 : decode b_Writer_init 1 = .ok (.invokespecial 3, 3) := by decide +kernel
theorem d_Writer_init_4 : decode b_Writer_init 4 = .ok (.aload_n 0, 1) := by decide +kernel
theorem d_Writer_init_5 : decode b_Writer_init 5 = .ok (.iconst 0, 1) := by decide +kernel
theorem d_Writer_init_6 : decode b_Writer_init 6 = .ok (.putfield 9, 3) := by decide +kernel
theorem d_Writer_init_9 : decode b_Writer_init 9 = .ok (.aload_n 0, 1) := by decide +kernel
theorem d_Writer_init_10 : decode b_Writer_init 10 = .ok (.iconst 0, 1) := by decide +kernel
theorem d_Writer_init_11 : decode b_Writer_init 11 = .ok (.putfield 15, 3) := by decide +kernel
theorem d_Writer_init_14 : decode b_Writer_init 14 = .ok (.aload_n 0, 1) := by decide +kernel
theorem d_Writer_init_15 : decode b_Writer_init 15 = .ok (.iconst 0, 1) := by decide +kernel
theorem d_Writer_init_16 : decode b_Writer_init 16 = .ok (.putfield 18, 3) := by decide +kernel
theorem d_Writer_init_19 : decode b_Writer_init 19 = .ok (.aload_n 0, 1) := by decide +kernel
theorem d_Writer_init_20 : decode b_Writer_init 20 = .ok (.iconst 1, 1) := by decide +kernel
theorem d_Writer_init_21 : decode b_Writer_init 21 = .ok (.putfield 21, 3) := by decide +kernel
theorem d_Writer_init_24 : decode b_Writer_init 24 = .ok (.return_, 1) := by decide +kernel
theorem d_Writer_begin_0 : decode b_Writer_begin 0 = .ok (.aload_n 0, 1) := by decide +kernel
theorem d_Writer_begin_1 : decode b_Writer_begin 1 = .ok (.iload_n 1, 1) := by decide +kernel
theorem d_Writer_begin_2 : decode b_Writer_begin 2 = .ok (.putfield 9, 3) := by decide +kernel
theorem d_Writer_begin_5 : decode b_Writer_begin 5 = .ok (.aload_n 0, 1) := by decide +kernel
theorem d_Writer_begin_6 : decode b_Writer_begin 6 = .ok (.iload_n 2, 1) := by decide +kernel
theorem d_Writer_begin_7 : decode b_Writer_begin 7 = .ok (.putfield 15, 3) := by decide +kernel
theorem d_Writer_begin_10 : decode b_Writer_begin 10 = .ok (.aload_n 0, 1) := by decide +kernel
theorem d_Writer_begin_11 : decode b_Writer_begin 11 = .ok (.iconst 0, 1) := by decide +kernel
theorem d_Writer_begin_12 : decode b_Writer_begin 12 = .ok (.putfield 18, 3) := by decide +kernel
theorem d_Writer_begin_15 : decode b_Writer_begin 15 = .ok (.aload_n 0, 1) := by decide +kernel
theorem d_Writer_begin_16 : decode b_Writer_begin 16 = .ok (.iconst 1, 1) := by decide +kernel
theorem d_Writer_begin_17 : decode b_Writer_begin 17 = .ok (.putfield 21, 3) := by decide +kernel
theorem d_Writer_begin_20 : decode b_Writer_begin 20 = .ok (.return_, 1) := by decide +kernel
theorem d_Writer_written_0 : decode b_Writer_written 0 = .ok (.aload_n 0, 1) := by decide +kernel
theorem d_Writer_written_1 : decode b_Writer_written 1 = .ok (.getfield 18, 3) := by decide +kernel
theorem d_Writer_written_4 : decode b_Writer_written 4 = .ok (.ireturn, 1) := by decide +kernel
theorem d_Writer_isAllAsMeant_0 : decode b_Writer_isAllAsMeant 0 = .ok (.aload_n 0, 1) := by decide +kernel
theorem d_Writer_isAllAsMeant_1 : decode b_Writer_isAllAsMeant 1 = .ok (.getfield 21, 3) := by decide +kernel
theorem d_Writer_isAllAsMeant_4 : decode b_Writer_isAllAsMeant 4 = .ok (.ireturn, 1) := by decide +kernel
theorem d_Writer_write_0 : decode b_Writer_write 0 = .ok (.aload_n 0, 1) := by decide +kernel
theorem d_Writer_write_1 : decode b_Writer_write 1 = .ok (.getfield 9, 3) := by decide +kernel
theorem d_Writer_write_4 : decode b_Writer_write 4 = .ok (.ifCond .le 7, 3) := by decide +kernel
theorem d_Writer_write_7 : decode b_Writer_write 7 = .ok (.iconst 1, 1) := by decide +kernel
theorem d_Writer_write_8 : decode b_Writer_write 8 = .ok (.goto 4, 3) := by decide +kernel
theorem d_Writer_write_11 : decode b_Writer_write 11 = .ok (.iconst 0, 1) := by decide +kernel
theorem d_Writer_write_12 : decode b_Writer_write 12 = .ok (.istore 4, 2) := by decide +kernel
theorem d_Writer_write_14 : decode b_Writer_write 14 = .ok (.iload 4, 2) := by decide +kernel
theorem d_Writer_write_16 : decode b_Writer_write 16 = .ok (.ifCond .eq 34, 3) := by decide +kernel
theorem d_Writer_write_19 : decode b_Writer_write 19 = .ok (.aload_n 1, 1) := by decide +kernel
theorem d_Writer_write_20 : decode b_Writer_write 20 = .ok (.iload_n 2, 1) := by decide +kernel
theorem d_Writer_write_21 : decode b_Writer_write 21 = .ok (.aload_n 3, 1) := by decide +kernel
theorem d_Writer_write_22 : decode b_Writer_write 22 = .ok (.bipush 32, 2) := by decide +kernel
theorem d_Writer_write_24 : decode b_Writer_write 24 = .ok (.invokevirtual 25, 3) := by decide +kernel
theorem d_Writer_write_27 : decode b_Writer_write 27 = .ok (.aload_n 0, 1) := by decide +kernel
theorem d_Writer_write_28 : decode b_Writer_write 28 = .ok (.dup, 1) := by decide +kernel
theorem d_Writer_write_29 : decode b_Writer_write 29 = .ok (.getfield 9, 3) := by decide +kernel
theorem d_Writer_write_32 : decode b_Writer_write 32 = .ok (.iconst 1, 1) := by decide +kernel
theorem d_Writer_write_33 : decode b_Writer_write 33 = .ok (.isub, 1) := by decide +kernel
theorem d_Writer_write_34 : decode b_Writer_write 34 = .ok (.putfield 9, 3) := by decide +kernel
theorem d_Writer_write_37 : decode b_Writer_write 37 = .ok (.aload_n 0, 1) := by decide +kernel
theorem d_Writer_write_38 : decode b_Writer_write 38 = .ok (.dup, 1) := by decide +kernel
theorem d_Writer_write_39 : decode b_Writer_write 39 = .ok (.getfield 18, 3) := by decide +kernel
theorem d_Writer_write_42 : decode b_Writer_write 42 = .ok (.iconst 1, 1) := by decide +kernel
theorem d_Writer_write_43 : decode b_Writer_write 43 = .ok (.iadd, 1) := by decide +kernel
theorem d_Writer_write_44 : decode b_Writer_write 44 = .ok (.putfield 18, 3) := by decide +kernel
theorem d_Writer_write_47 : decode b_Writer_write 47 = .ok (.goto 18, 3) := by decide +kernel
theorem d_Writer_write_50 : decode b_Writer_write 50 = .ok (.aload_n 1, 1) := by decide +kernel
theorem d_Writer_write_51 : decode b_Writer_write 51 = .ok (.iload_n 2, 1) := by decide +kernel
theorem d_Writer_write_52 : decode b_Writer_write 52 = .ok (.aload_n 3, 1) := by decide +kernel
theorem d_Writer_write_53 : decode b_Writer_write 53 = .ok (.aload_n 0, 1) := by decide +kernel
theorem d_Writer_write_54 : decode b_Writer_write 54 = .ok (.getfield 15, 3) := by decide +kernel
theorem d_Writer_write_57 : decode b_Writer_write 57 = .ok (.invokevirtual 25, 3) := by decide +kernel
theorem d_Writer_write_60 : decode b_Writer_write 60 = .ok (.aload_n 0, 1) := by decide +kernel
theorem d_Writer_write_61 : decode b_Writer_write 61 = .ok (.iconst 0, 1) := by decide +kernel
theorem d_Writer_write_62 : decode b_Writer_write 62 = .ok (.putfield 15, 3) := by decide +kernel
theorem d_Writer_write_65 : decode b_Writer_write 65 = .ok (.aload_n 0, 1) := by decide +kernel
theorem d_Writer_write_66 : decode b_Writer_write 66 = .ok (.aload_n 0, 1) := by decide +kernel
theorem d_Writer_write_67 : decode b_Writer_write 67 = .ok (.getfield 21, 3) := by decide +kernel
theorem d_Writer_write_70 : decode b_Writer_write 70 = .ok (.ifCond .eq 16, 3) := by decide +kernel
theorem d_Writer_write_73 : decode b_Writer_write 73 = .ok (.aload_n 1, 1) := by decide +kernel
theorem d_Writer_write_74 : decode b_Writer_write 74 = .ok (.iload_n 2, 1) := by decide +kernel
theorem d_Writer_write_75 : decode b_Writer_write 75 = .ok (.aload_n 3, 1) := by decide +kernel
theorem d_Writer_write_76 : decode b_Writer_write 76 = .ok (.invokevirtual 31, 3) := by decide +kernel
theorem d_Writer_write_79 : decode b_Writer_write 79 = .ok (.ifCond .eq 7, 3) := by decide +kernel
theorem d_Writer_write_82 : decode b_Writer_write 82 = .ok (.iconst 1, 1) := by decide +kernel
theorem d_Writer_write_83 : decode b_Writer_write 83 = .ok (.goto 4, 3) := by decide +kernel
theorem d_Writer_write_86 : decode b_Writer_write 86 = .ok (.iconst 0, 1) := by decide +kernel
theorem d_Writer_write_87 : decode b_Writer_write 87 = .ok (.putfield 21, 3) := by decide +kernel
theorem d_Writer_write_90 : decode b_Writer_write 90 = .ok (.iload 4, 2) := by decide +kernel
theorem d_Writer_write_92 : decode b_Writer_write 92 = .ok (.ireturn, 1) := by decide +kernel
theorem d_Log_init_0 : decode b_Log_init 0 = .ok (.aload_n 0, 1) := by decide +kernel
theorem d_Log_init_1 : decode b_Log_init 1 = .ok (.invokespecial 3, 3) := by decide +kernel
theorem d_Log_init_4 : decode b_Log_init 4 = .ok (.aload_n 0, 1) := by decide +kernel
theorem d_Log_init_5 : decode b_Log_init 5 = .ok (.new 9, 3) := by decide +kernel
theorem d_Log_init_8 : decode b_Log_init 8 = .ok (.dup, 1) := by decide +kernel
theorem d_Log_init_9 : decode b_Log_init 9 = .ok (.sipush 2470, 3) := by decide +kernel
theorem d_Log_init_12 : decode b_Log_init 12 = .ok (.invokespecial 11, 3) := by decide +kernel
theorem d_Log_init_15 : decode b_Log_init 15 = .ok (.putfield 14, 3) := by decide +kernel
theorem d_Log_init_18 : decode b_Log_init 18 = .ok (.aload_n 0, 1) := by decide +kernel
theorem d_Log_init_19 : decode b_Log_init 19 = .ok (.sipush 200, 3) := by decide +kernel
theorem d_Log_init_22 : decode b_Log_init 22 = .ok (.newarray .int, 2) := by decide +kernel
theorem d_Log_init_24 : decode b_Log_init 24 = .ok (.putfield 20, 3) := by decide +kernel
theorem d_Log_init_27 : decode b_Log_init 27 = .ok (.aload_n 0, 1) := by decide +kernel
theorem d_Log_init_28 : decode b_Log_init 28 = .ok (.sipush 200, 3) := by decide +kernel
theorem d_Log_init_31 : decode b_Log_init 31 = .ok (.newarray .int, 2) := by decide +kernel
theorem d_Log_init_33 : decode b_Log_init 33 = .ok (.putfield 24, 3) := by decide +kernel
theorem d_Log_init_36 : decode b_Log_init 36 = .ok (.aload_n 0, 1) := by decide +kernel
theorem d_Log_init_37 : decode b_Log_init 37 = .ok (.iconst 0, 1) := by decide +kernel
theorem d_Log_init_38 : decode b_Log_init 38 = .ok (.putfield 27, 3) := by decide +kernel
theorem d_Log_init_41 : decode b_Log_init 41 = .ok (.aload_n 0, 1) := by decide +kernel
theorem d_Log_init_42 : decode b_Log_init 42 = .ok (.iconst 0, 1) := by decide +kernel
theorem d_Log_init_43 : decode b_Log_init 43 = .ok (.putfield 31, 3) := by decide +kernel
theorem d_Log_init_46 : decode b_Log_init 46 = .ok (.aload_n 0, 1) := by decide +kernel
theorem d_Log_init_47 : decode b_Log_init 47 = .ok (.iconst 0, 1) := by decide +kernel
theorem d_Log_init_48 : decode b_Log_init 48 = .ok (.putfield 34, 3) := by decide +kernel
theorem d_Log_init_51 : decode b_Log_init 51 = .ok (.aload_n 0, 1) := by decide +kernel
theorem d_Log_init_52 : decode b_Log_init 52 = .ok (.iconst 0, 1) := by decide +kernel
theorem d_Log_init_53 : decode b_Log_init 53 = .ok (.putfield 37, 3) := by decide +kernel
theorem d_Log_init_56 : decode b_Log_init 56 = .ok (.return_, 1) := by decide +kernel
theorem d_Log_half_0 : decode b_Log_half 0 = .ok (.aload_n 0, 1) := by decide +kernel
theorem d_Log_half_1 : decode b_Log_half 1 = .ok (.getfield 27, 3) := by decide +kernel
theorem d_Log_half_4 : decode b_Log_half 4 = .ok (.ireturn, 1) := by decide +kernel
theorem d_Log_epoch_0 : decode b_Log_epoch 0 = .ok (.aload_n 0, 1) := by decide +kernel
theorem d_Log_epoch_1 : decode b_Log_epoch 1 = .ok (.getfield 31, 3) := by decide +kernel
theorem d_Log_epoch_4 : decode b_Log_epoch 4 = .ok (.ireturn, 1) := by decide +kernel
theorem d_Log_blocks_0 : decode b_Log_blocks 0 = .ok (.aload_n 0, 1) := by decide +kernel
theorem d_Log_blocks_1 : decode b_Log_blocks 1 = .ok (.getfield 34, 3) := by decide +kernel
theorem d_Log_blocks_4 : decode b_Log_blocks 4 = .ok (.ireturn, 1) := by decide +kernel
theorem d_Log_entries_0 : decode b_Log_entries 0 = .ok (.aload_n 0, 1) := by decide +kernel
theorem d_Log_entries_1 : decode b_Log_entries 1 = .ok (.getfield 37, 3) := by decide +kernel
theorem d_Log_entries_4 : decode b_Log_entries 4 = .ok (.ireturn, 1) := by decide +kernel
theorem d_Log_bytes_0 : decode b_Log_bytes 0 = .ok (.aload_n 0, 1) := by decide +kernel
theorem d_Log_bytes_1 : decode b_Log_bytes 1 = .ok (.getfield 14, 3) := by decide +kernel
theorem d_Log_bytes_4 : decode b_Log_bytes 4 = .ok (.areturn, 1) := by decide +kernel
theorem d_Log_sizeOf_0 : decode b_Log_sizeOf 0 = .ok (.iload_n 1, 1) := by decide +kernel
theorem d_Log_sizeOf_1 : decode b_Log_sizeOf 1 = .ok (.invokestatic 40, 3) := by decide +kernel
theorem d_Log_sizeOf_4 : decode b_Log_sizeOf 4 = .ok (.ifCond .eq 12, 3) := by decide +kernel
theorem d_Log_sizeOf_7 : decode b_Log_sizeOf 7 = .ok (.aload_n 0, 1) := by decide +kernel
theorem d_Log_sizeOf_8 : decode b_Log_sizeOf 8 = .ok (.getfield 24, 3) := by decide +kernel
theorem d_Log_sizeOf_11 : decode b_Log_sizeOf 11 = .ok (.iload_n 1, 1) := by decide +kernel
theorem d_Log_sizeOf_12 : decode b_Log_sizeOf 12 = .ok (.iaload, 1) := by decide +kernel
theorem d_Log_sizeOf_13 : decode b_Log_sizeOf 13 = .ok (.goto 4, 3) := by decide +kernel
theorem d_Log_sizeOf_16 : decode b_Log_sizeOf 16 = .ok (.iconst (-1), 1) := by decide +kernel
theorem d_Log_sizeOf_17 : decode b_Log_sizeOf 17 = .ok (.ireturn, 1) := by decide +kernel
theorem d_Log_startOf_0 : decode b_Log_startOf 0 = .ok (.iload_n 1, 1) := by decide +kernel
theorem d_Log_startOf_1 : decode b_Log_startOf 1 = .ok (.invokestatic 40, 3) := by decide +kernel
theorem d_Log_startOf_4 : decode b_Log_startOf 4 = .ok (.ifCond .eq 12, 3) := by decide +kernel
theorem d_Log_startOf_7 : decode b_Log_startOf 7 = .ok (.aload_n 0, 1) := by decide +kernel
theorem d_Log_startOf_8 : decode b_Log_startOf 8 = .ok (.getfield 20, 3) := by decide +kernel
theorem d_Log_startOf_11 : decode b_Log_startOf 11 = .ok (.iload_n 1, 1) := by decide +kernel
theorem d_Log_startOf_12 : decode b_Log_startOf 12 = .ok (.iaload, 1) := by decide +kernel
theorem d_Log_startOf_13 : decode b_Log_startOf 13 = .ok (.goto 4, 3) := by decide +kernel
theorem d_Log_startOf_16 : decode b_Log_startOf 16 = .ok (.iconst 0, 1) := by decide +kernel
theorem d_Log_startOf_17 : decode b_Log_startOf 17 = .ok (.ireturn, 1) := by decide +kernel
theorem d_Log_keys_0 : decode b_Log_keys 0 = .ok (.iconst 0, 1) := by decide +kernel
theorem d_Log_keys_1 : decode b_Log_keys 1 = .ok (.istore_n 1, 1) := by decide +kernel
theorem d_Log_keys_2 : decode b_Log_keys 2 = .ok (.iconst 0, 1) := by decide +kernel
theorem d_Log_keys_3 : decode b_Log_keys 3 = .ok (.istore_n 2, 1) := by decide +kernel
theorem d_Log_keys_4 : decode b_Log_keys 4 = .ok (.iload_n 2, 1) := by decide +kernel
theorem d_Log_keys_5 : decode b_Log_keys 5 = .ok (.sipush 200, 3) := by decide +kernel
theorem d_Log_keys_8 : decode b_Log_keys 8 = .ok (.if_icmp .ge 22, 3) := by decide +kernel
theorem d_Log_keys_11 : decode b_Log_keys 11 = .ok (.aload_n 0, 1) := by decide +kernel
theorem d_Log_keys_12 : decode b_Log_keys 12 = .ok (.getfield 24, 3) := by decide +kernel
theorem d_Log_keys_15 : decode b_Log_keys 15 = .ok (.iload_n 2, 1) := by decide +kernel
theorem d_Log_keys_16 : decode b_Log_keys 16 = .ok (.iaload, 1) := by decide +kernel
theorem d_Log_keys_17 : decode b_Log_keys 17 = .ok (.iconst (-1), 1) := by decide +kernel
theorem d_Log_keys_18 : decode b_Log_keys 18 = .ok (.if_icmp .eq 6, 3) := by decide +kernel
theorem d_Log_keys_21 : decode b_Log_keys 21 = .ok (.iinc 1 1, 3) := by decide +kernel
theorem d_Log_keys_24 : decode b_Log_keys 24 = .ok (.iinc 2 1, 3) := by decide +kernel
theorem d_Log_keys_27 : decode b_Log_keys 27 = .ok (.goto (-23), 3) := by decide +kernel
theorem d_Log_keys_30 : decode b_Log_keys 30 = .ok (.iload_n 1, 1) := by decide +kernel
theorem d_Log_keys_31 : decode b_Log_keys 31 = .ok (.ireturn, 1) := by decide +kernel
theorem d_Log_read_0 : decode b_Log_read 0 = .ok (.aload_n 0, 1) := by decide +kernel
theorem d_Log_read_1 : decode b_Log_read 1 = .ok (.invokevirtual 44, 3) := by decide +kernel
theorem d_Log_read_4 : decode b_Log_read 4 = .ok (.aload_n 0, 1) := by decide +kernel
theorem d_Log_read_5 : decode b_Log_read 5 = .ok (.aload_n 1, 1) := by decide +kernel
theorem d_Log_read_6 : decode b_Log_read 6 = .ok (.invokevirtual 47, 3) := by decide +kernel
theorem d_Log_read_9 : decode b_Log_read 9 = .ok (.iconst 0, 1) := by decide +kernel
theorem d_Log_read_10 : decode b_Log_read 10 = .ok (.istore_n 2, 1) := by decide +kernel
theorem d_Log_read_11 : decode b_Log_read 11 = .ok (.iconst 1, 1) := by decide +kernel
theorem d_Log_read_12 : decode b_Log_read 12 = .ok (.istore_n 3, 1) := by decide +kernel
theorem d_Log_read_13 : decode b_Log_read 13 = .ok (.iconst 1, 1) := by decide +kernel
theorem d_Log_read_14 : decode b_Log_read 14 = .ok (.istore 4, 2) := by decide +kernel
theorem d_Log_read_16 : decode b_Log_read 16 = .ok (.iload 4, 2) := by decide +kernel
theorem d_Log_read_18 : decode b_Log_read 18 = .ok (.bipush 95, 2) := by decide +kernel
theorem d_Log_read_20 : decode b_Log_read 20 = .ok (.if_icmp .gt 113, 3) := by decide +kernel
theorem d_Log_read_23 : decode b_Log_read 23 = .ok (.aload_n 1, 1) := by decide +kernel
theorem d_Log_read_24 : decode b_Log_read 24 = .ok (.aload_n 0, 1) := by decide +kernel
theorem d_Log_read_25 : decode b_Log_read 25 = .ok (.getfield 27, 3) := by decide +kernel
theorem d_Log_read_28 : decode b_Log_read 28 = .ok (.iload 4, 2) := by decide +kernel
theorem d_Log_read_30 : decode b_Log_read 30 = .ok (.aload_n 0, 1) := by decide +kernel
theorem d_Log_read_31 : decode b_Log_read 31 = .ok (.getfield 31, 3) := by decide +kernel
theorem d_Log_read_34 : decode b_Log_read 34 = .ok (.iload_n 3, 1) := by decide +kernel
theorem d_Log_read_35 : decode b_Log_read 35 = .ok (.invokevirtual 51, 3) := by decide +kernel
theorem d_Log_read_38 : decode b_Log_read 38 = .ok (.ifCond .ne 4, 3) := by decide +kernel
theorem d_Log_read_41 : decode b_Log_read 41 = .ok (.return_, 1) := by decide +kernel
theorem d_Log_read_42 : decode b_Log_read 42 = .ok (.aload_n 0, 1) := by decide +kernel
theorem d_Log_read_43 : decode b_Log_read 43 = .ok (.getfield 27, 3) := by decide +kernel
theorem d_Log_read_46 : decode b_Log_read 46 = .ok (.bipush 96, 2) := by decide +kernel
theorem d_Log_read_48 : decode b_Log_read 48 = .ok (.imul, 1) := by decide +kernel
theorem d_Log_read_49 : decode b_Log_read 49 = .ok (.iload 4, 2) := by decide +kernel
theorem d_Log_read_51 : decode b_Log_read 51 = .ok (.iadd, 1) := by decide +kernel
theorem d_Log_read_52 : decode b_Log_read 52 = .ok (.bipush 32, 2) := by decide +kernel
theorem d_Log_read_54 : decode b_Log_read 54 = .ok (.imul, 1) := by decide +kernel
theorem d_Log_read_55 : decode b_Log_read 55 = .ok (.istore 5, 2) := by decide +kernel
theorem d_Log_read_57 : decode b_Log_read 57 = .ok (.aload_n 0, 1) := by decide +kernel
theorem d_Log_read_58 : decode b_Log_read 58 = .ok (.aload_n 1, 1) := by decide +kernel
theorem d_Log_read_59 : decode b_Log_read 59 = .ok (.iload 5, 2) := by decide +kernel
theorem d_Log_read_61 : decode b_Log_read 61 = .ok (.invokevirtual 57, 3) := by decide +kernel
theorem d_Log_read_64 : decode b_Log_read 64 = .ok (.aload_n 1, 1) := by decide +kernel
theorem d_Log_read_65 : decode b_Log_read 65 = .ok (.iload 5, 2) := by decide +kernel
theorem d_Log_read_67 : decode b_Log_read 67 = .ok (.iconst 2, 1) := by decide +kernel
theorem d_Log_read_68 : decode b_Log_read 68 = .ok (.iadd, 1) := by decide +kernel
theorem d_Log_read_69 : decode b_Log_read 69 = .ok (.invokevirtual 61, 3) := by decide +kernel
theorem d_Log_read_72 : decode b_Log_read 72 = .ok (.sipush 128, 3) := by decide +kernel
theorem d_Log_read_75 : decode b_Log_read 75 = .ok (.iand, 1) := by decide +kernel
theorem d_Log_read_76 : decode b_Log_read 76 = .ok (.ifCond .eq 7, 3) := by decide +kernel
theorem d_Log_read_79 : decode b_Log_read 79 = .ok (.iconst 1, 1) := by decide +kernel
theorem d_Log_read_80 : decode b_Log_read 80 = .ok (.goto 4, 3) := by decide +kernel
theorem d_Log_read_83 : decode b_Log_read 83 = .ok (.iconst 0, 1) := by decide +kernel
theorem d_Log_read_84 : decode b_Log_read 84 = .ok (.istore_n 3, 1) := by decide +kernel
theorem d_Log_read_85 : decode b_Log_read 85 = .ok (.iload_n 3, 1) := by decide +kernel
theorem d_Log_read_86 : decode b_Log_read 86 = .ok (.ifCond .eq 41, 3) := by decide +kernel
theorem d_Log_read_89 : decode b_Log_read 89 = .ok (.aload_n 0, 1) := by decide +kernel
theorem d_Log_read_90 : decode b_Log_read 90 = .ok (.iload_n 2, 1) := by decide +kernel
theorem d_Log_read_91 : decode b_Log_read 91 = .ok (.invokevirtual 65, 3) := by decide +kernel
theorem d_Log_read_94 : decode b_Log_read 94 = .ok (.ifCond .ne 4, 3) := by decide +kernel
theorem d_Log_read_97 : decode b_Log_read 97 = .ok (.return_, 1) := by decide +kernel
theorem d_Log_read_98 : decode b_Log_read 98 = .ok (.aload_n 0, 1) := by decide +kernel
theorem d_Log_read_99 : decode b_Log_read 99 = .ok (.iload_n 2, 1) := by decide +kernel
theorem d_Log_read_100 : decode b_Log_read 100 = .ok (.invokevirtual 68, 3) := by decide +kernel
theorem d_Log_read_103 : decode b_Log_read 103 = .ok (.aload_n 0, 1) := by decide +kernel
theorem d_Log_read_104 : decode b_Log_read 104 = .ok (.getfield 14, 3) := by decide +kernel
theorem d_Log_read_107 : decode b_Log_read 107 = .ok (.invokevirtual 71, 3) := by decide +kernel
theorem d_Log_read_110 : decode b_Log_read 110 = .ok (.istore_n 2, 1) := by decide +kernel
theorem d_Log_read_111 : decode b_Log_read 111 = .ok (.aload_n 0, 1) := by decide +kernel
theorem d_Log_read_112 : decode b_Log_read 112 = .ok (.iload 4, 2) := by decide +kernel
theorem d_Log_read_114 : decode b_Log_read 114 = .ok (.putfield 34, 3) := by decide +kernel
theorem d_Log_read_117 : decode b_Log_read 117 = .ok (.aload_n 0, 1) := by decide +kernel
theorem d_Log_read_118 : decode b_Log_read 118 = .ok (.dup, 1) := by decide +kernel
theorem d_Log_read_119 : decode b_Log_read 119 = .ok (.getfield 37, 3) := by decide +kernel
theorem d_Log_read_122 : decode b_Log_read 122 = .ok (.iconst 1, 1) := by decide +kernel
theorem d_Log_read_123 : decode b_Log_read 123 = .ok (.iadd, 1) := by decide +kernel
theorem d_Log_read_124 : decode b_Log_read 124 = .ok (.putfield 37, 3) := by decide +kernel
theorem d_Log_read_127 : decode b_Log_read 127 = .ok (.iinc 4 1, 3) := by decide +kernel
theorem d_Log_read_130 : decode b_Log_read 130 = .ok (.goto (-114), 3) := by decide +kernel
theorem d_Log_read_133 : decode b_Log_read 133 = .ok (.return_, 1) := by decide +kernel
theorem d_Log_clear_0 : decode b_Log_clear 0 = .ok (.aload_n 0, 1) := by decide +kernel
theorem d_Log_clear_1 : decode b_Log_clear 1 = .ok (.getfield 14, 3) := by decide +kernel
theorem d_Log_clear_4 : decode b_Log_clear 4 = .ok (.invokevirtual 75, 3) := by decide +kernel
theorem d_Log_clear_7 : decode b_Log_clear 7 = .ok (.aload_n 0, 1) := by decide +kernel
theorem d_Log_clear_8 : decode b_Log_clear 8 = .ok (.iconst 0, 1) := by decide +kernel
theorem d_Log_clear_9 : decode b_Log_clear 9 = .ok (.putfield 34, 3) := by decide +kernel
theorem d_Log_clear_12 : decode b_Log_clear 12 = .ok (.aload_n 0, 1) := by decide +kernel
theorem d_Log_clear_13 : decode b_Log_clear 13 = .ok (.iconst 0, 1) := by decide +kernel
theorem d_Log_clear_14 : decode b_Log_clear 14 = .ok (.putfield 37, 3) := by decide +kernel
theorem d_Log_clear_17 : decode b_Log_clear 17 = .ok (.iconst 0, 1) := by decide +kernel
theorem d_Log_clear_18 : decode b_Log_clear 18 = .ok (.istore_n 1, 1) := by decide +kernel
theorem d_Log_clear_19 : decode b_Log_clear 19 = .ok (.iload_n 1, 1) := by decide +kernel
theorem d_Log_clear_20 : decode b_Log_clear 20 = .ok (.sipush 200, 3) := by decide +kernel
theorem d_Log_clear_23 : decode b_Log_clear 23 = .ok (.if_icmp .ge 16, 3) := by decide +kernel
theorem d_Log_clear_26 : decode b_Log_clear 26 = .ok (.aload_n 0, 1) := by decide +kernel
theorem d_Log_clear_27 : decode b_Log_clear 27 = .ok (.getfield 24, 3) := by decide +kernel
theorem d_Log_clear_30 : decode b_Log_clear 30 = .ok (.iload_n 1, 1) := by decide +kernel
theorem d_Log_clear_31 : decode b_Log_clear 31 = .ok (.iconst (-1), 1) := by decide +kernel
theorem d_Log_clear_32 : decode b_Log_clear 32 = .ok (.iastore, 1) := by decide +kernel
theorem d_Log_clear_33 : decode b_Log_clear 33 = .ok (.iinc 1 1, 3) := by decide +kernel
theorem d_Log_clear_36 : decode b_Log_clear 36 = .ok (.goto (-17), 3) := by decide +kernel
theorem d_Log_clear_39 : decode b_Log_clear 39 = .ok (.return_, 1) := by decide +kernel
theorem d_Log_findLiveHalf_0 : decode b_Log_findLiveHalf 0 = .ok (.aload_n 1, 1) := by decide +kernel
theorem d_Log_findLiveHalf_1 : decode b_Log_findLiveHalf 1 = .ok (.iconst 0, 1) := by decide +kernel
theorem d_Log_findLiveHalf_2 : decode b_Log_findLiveHalf 2 = .ok (.invokevirtual 76, 3) := by decide +kernel
theorem d_Log_findLiveHalf_5 : decode b_Log_findLiveHalf 5 = .ok (.istore_n 2, 1) := by decide +kernel
theorem d_Log_findLiveHalf_6 : decode b_Log_findLiveHalf 6 = .ok (.aload_n 1, 1) := by decide +kernel
theorem d_Log_findLiveHalf_7 : decode b_Log_findLiveHalf 7 = .ok (.bipush 96, 2) := by decide +kernel
theorem d_Log_findLiveHalf_9 : decode b_Log_findLiveHalf 9 = .ok (.invokevirtual 76, 3) := by decide +kernel
theorem d_Log_findLiveHalf_12 : decode b_Log_findLiveHalf 12 = .ok (.istore_n 3, 1) := by decide +kernel
theorem d_Log_findLiveHalf_13 : decode b_Log_findLiveHalf 13 = .ok (.iload_n 2, 1) := by decide +kernel
theorem d_Log_findLiveHalf_14 : decode b_Log_findLiveHalf 14 = .ok (.ifCond .eq 11, 3) := by decide +kernel
theorem d_Log_findLiveHalf_17 : decode b_Log_findLiveHalf 17 = .ok (.aload_n 1, 1) := by decide +kernel
theorem d_Log_findLiveHalf_18 : decode b_Log_findLiveHalf 18 = .ok (.iconst 0, 1) := by decide +kernel
theorem d_Log_findLiveHalf_19 : decode b_Log_findLiveHalf 19 = .ok (.invokevirtual 79, 3) := by decide +kernel
theorem d_Log_findLiveHalf_22 : decode b_Log_findLiveHalf 22 = .ok (.goto 4, 3) := by decide +kernel
theorem d_Log_findLiveHalf_25 : decode b_Log_findLiveHalf 25 = .ok (.iconst 0, 1) := by decide +kernel
theorem d_Log_findLiveHalf_26 : decode b_Log_findLiveHalf 26 = .ok (.istore 4, 2) := by decide +kernel
theorem d_Log_findLiveHalf_28 : decode b_Log_findLiveHalf 28 = .ok (.iload_n 3, 1) := by decide +kernel
theorem d_Log_findLiveHalf_29 : decode b_Log_findLiveHalf 29 = .ok (.ifCond .eq 12, 3) := by decide +kernel
theorem d_Log_findLiveHalf_32 : decode b_Log_findLiveHalf 32 = .ok (.aload_n 1, 1) := by decide +kernel
theorem d_Log_findLiveHalf_33 : decode b_Log_findLiveHalf 33 = .ok (.bipush 96, 2) := by decide +kernel
theorem d_Log_findLiveHalf_35 : decode b_Log_findLiveHalf 35 = .ok (.invokevirtual 79, 3) := by decide +kernel
theorem d_Log_findLiveHalf_38 : decode b_Log_findLiveHalf 38 = .ok (.goto 4, 3) := by decide +kernel
theorem d_Log_findLiveHalf_41 : decode b_Log_findLiveHalf 41 = .ok (.iconst 0, 1) := by decide +kernel
theorem d_Log_findLiveHalf_42 : decode b_Log_findLiveHalf 42 = .ok (.istore 5, 2) := by decide +kernel
theorem d_Log_findLiveHalf_44 : decode b_Log_findLiveHalf 44 = .ok (.aload_n 0, 1) := by decide +kernel
theorem d_Log_findLiveHalf_45 : decode b_Log_findLiveHalf 45 = .ok (.iload_n 3, 1) := by decide +kernel
theorem d_Log_findLiveHalf_46 : decode b_Log_findLiveHalf 46 = .ok (.ifCond .eq 18, 3) := by decide +kernel
theorem d_Log_findLiveHalf_49 : decode b_Log_findLiveHalf 49 = .ok (.iload_n 2, 1) := by decide +kernel
theorem d_Log_findLiveHalf_50 : decode b_Log_findLiveHalf 50 = .ok (.ifCond .eq 10, 3) := by decide +kernel
theorem d_Log_findLiveHalf_53 : decode b_Log_findLiveHalf 53 = .ok (.iload 5, 2) := by decide +kernel
theorem d_Log_findLiveHalf_55 : decode b_Log_findLiveHalf 55 = .ok (.iload 4, 2) := by decide +kernel
theorem d_Log_findLiveHalf_57 : decode b_Log_findLiveHalf 57 = .ok (.if_icmp .le 7, 3) := by decide +kernel
theorem d_Log_findLiveHalf_60 : decode b_Log_findLiveHalf 60 = .ok (.iconst 1, 1) := by decide +kernel
theorem d_Log_findLiveHalf_61 : decode b_Log_findLiveHalf 61 = .ok (.goto 4, 3) := by decide +kernel
theorem d_Log_findLiveHalf_64 : decode b_Log_findLiveHalf 64 = .ok (.iconst 0, 1) := by decide +kernel
theorem d_Log_findLiveHalf_65 : decode b_Log_findLiveHalf 65 = .ok (.putfield 27, 3) := by decide +kernel
theorem d_Log_findLiveHalf_68 : decode b_Log_findLiveHalf 68 = .ok (.aload_n 0, 1) := by decide +kernel
theorem d_Log_findLiveHalf_69 : decode b_Log_findLiveHalf 69 = .ok (.aload_n 0, 1) := by decide +kernel
theorem d_Log_findLiveHalf_70 : decode b_Log_findLiveHalf 70 = .ok (.getfield 27, 3) := by decide +kernel
theorem d_Log_findLiveHalf_73 : decode b_Log_findLiveHalf 73 = .ok (.iconst 1, 1) := by decide +kernel
theorem d_Log_findLiveHalf_74 : decode b_Log_findLiveHalf 74 = .ok (.if_icmp .ne 8, 3) := by decide +kernel
theorem d_Log_findLiveHalf_77 : decode b_Log_findLiveHalf 77 = .ok (.iload 5, 2) := by decide +kernel
theorem d_Log_findLiveHalf_79 : decode b_Log_findLiveHalf 79 = .ok (.goto 5, 3) := by decide +kernel
theorem d_Log_findLiveHalf_82 : decode b_Log_findLiveHalf 82 = .ok (.iload 4, 2) := by decide +kernel
theorem d_Log_findLiveHalf_84 : decode b_Log_findLiveHalf 84 = .ok (.putfield 31, 3) := by decide +kernel
theorem d_Log_findLiveHalf_87 : decode b_Log_findLiveHalf 87 = .ok (.return_, 1) := by decide +kernel
theorem d_Log_addData_0 : decode b_Log_addData 0 = .ok (.aload_n 1, 1) := by decide +kernel
theorem d_Log_addData_1 : decode b_Log_addData 1 = .ok (.iload_n 2, 1) := by decide +kernel
theorem d_Log_addData_2 : decode b_Log_addData 2 = .ok (.iconst 2, 1) := by decide +kernel
theorem d_Log_addData_3 : decode b_Log_addData 3 = .ok (.iadd, 1) := by decide +kernel
theorem d_Log_addData_4 : decode b_Log_addData 4 = .ok (.invokevirtual 61, 3) := by decide +kernel
theorem d_Log_addData_7 : decode b_Log_addData 7 = .ok (.bipush 63, 2) := by decide +kernel
theorem d_Log_addData_9 : decode b_Log_addData 9 = .ok (.iand, 1) := by decide +kernel
theorem d_Log_addData_10 : decode b_Log_addData 10 = .ok (.istore_n 3, 1) := by decide +kernel
theorem d_Log_addData_11 : decode b_Log_addData 11 = .ok (.iconst 0, 1) := by decide +kernel
theorem d_Log_addData_12 : decode b_Log_addData 12 = .ok (.istore 4, 2) := by decide +kernel
theorem d_Log_addData_14 : decode b_Log_addData 14 = .ok (.iload 4, 2) := by decide +kernel
theorem d_Log_addData_16 : decode b_Log_addData 16 = .ok (.iload_n 3, 1) := by decide +kernel
theorem d_Log_addData_17 : decode b_Log_addData 17 = .ok (.if_icmp .ge 27, 3) := by decide +kernel
theorem d_Log_addData_20 : decode b_Log_addData 20 = .ok (.aload_n 0, 1) := by decide +kernel
theorem d_Log_addData_21 : decode b_Log_addData 21 = .ok (.getfield 14, 3) := by decide +kernel
theorem d_Log_addData_24 : decode b_Log_addData 24 = .ok (.aload_n 1, 1) := by decide +kernel
theorem d_Log_addData_25 : decode b_Log_addData 25 = .ok (.iload_n 2, 1) := by decide +kernel
theorem d_Log_addData_26 : decode b_Log_addData 26 = .ok (.bipush 6, 2) := by decide +kernel
theorem d_Log_addData_28 : decode b_Log_addData 28 = .ok (.iadd, 1) := by decide +kernel
theorem d_Log_addData_29 : decode b_Log_addData 29 = .ok (.iload 4, 2) := by decide +kernel
theorem d_Log_addData_31 : decode b_Log_addData 31 = .ok (.iadd, 1) := by decide +kernel
theorem d_Log_addData_32 : decode b_Log_addData 32 = .ok (.invokevirtual 61, 3) := by decide +kernel
theorem d_Log_addData_35 : decode b_Log_addData 35 = .ok (.invokevirtual 82, 3) := by decide +kernel
theorem d_Log_addData_38 : decode b_Log_addData 38 = .ok (.iinc 4 1, 3) := by decide +kernel
theorem d_Log_addData_41 : decode b_Log_addData 41 = .ok (.goto (-27), 3) := by decide +kernel
theorem d_Log_addData_44 : decode b_Log_addData 44 = .ok (.return_, 1) := by decide +kernel
theorem d_Log_isEntry_0 : decode b_Log_isEntry 0 = .ok (.aload_n 0, 1) := by decide +kernel
theorem d_Log_isEntry_1 : decode b_Log_isEntry 1 = .ok (.getfield 14, 3) := by decide +kernel
theorem d_Log_isEntry_4 : decode b_Log_isEntry 4 = .ok (.iload_n 1, 1) := by decide +kernel
theorem d_Log_isEntry_5 : decode b_Log_isEntry 5 = .ok (.invokevirtual 85, 3) := by decide +kernel
theorem d_Log_isEntry_8 : decode b_Log_isEntry 8 = .ok (.istore_n 2, 1) := by decide +kernel
theorem d_Log_isEntry_9 : decode b_Log_isEntry 9 = .ok (.iload_n 2, 1) := by decide +kernel
theorem d_Log_isEntry_10 : decode b_Log_isEntry 10 = .ok (.iconst 1, 1) := by decide +kernel
theorem d_Log_isEntry_11 : decode b_Log_isEntry 11 = .ok (.if_icmp .lt 9, 3) := by decide +kernel
theorem d_Log_isEntry_14 : decode b_Log_isEntry 14 = .ok (.iload_n 2, 1) := by decide +kernel
theorem d_Log_isEntry_15 : decode b_Log_isEntry 15 = .ok (.bipush 8, 2) := by decide +kernel
theorem d_Log_isEntry_17 : decode b_Log_isEntry 17 = .ok (.if_icmp .le 5, 3) := by decide +kernel
theorem d_Log_isEntry_20 : decode b_Log_isEntry 20 = .ok (.iconst 0, 1) := by decide +kernel
theorem d_Log_isEntry_21 : decode b_Log_isEntry 21 = .ok (.ireturn, 1) := by decide +kernel
theorem d_Log_isEntry_22 : decode b_Log_isEntry 22 = .ok (.iload_n 1, 1) := by decide +kernel
theorem d_Log_isEntry_23 : decode b_Log_isEntry 23 = .ok (.iconst 1, 1) := by decide +kernel
theorem d_Log_isEntry_24 : decode b_Log_isEntry 24 = .ok (.iadd, 1) := by decide +kernel
theorem d_Log_isEntry_25 : decode b_Log_isEntry 25 = .ok (.istore_n 3, 1) := by decide +kernel
theorem d_Log_isEntry_26 : decode b_Log_isEntry 26 = .ok (.iconst 0, 1) := by decide +kernel
theorem d_Log_isEntry_27 : decode b_Log_isEntry 27 = .ok (.istore 4, 2) := by decide +kernel
theorem d_Log_isEntry_29 : decode b_Log_isEntry 29 = .ok (.iload 4, 2) := by decide +kernel
theorem d_Log_isEntry_31 : decode b_Log_isEntry 31 = .ok (.iload_n 2, 1) := by decide +kernel
theorem d_Log_isEntry_32 : decode b_Log_isEntry 32 = .ok (.if_icmp .ge 84, 3) := by decide +kernel
theorem d_Log_isEntry_35 : decode b_Log_isEntry 35 = .ok (.aload_n 0, 1) := by decide +kernel
theorem d_Log_isEntry_36 : decode b_Log_isEntry 36 = .ok (.getfield 14, 3) := by decide +kernel
theorem d_Log_isEntry_39 : decode b_Log_isEntry 39 = .ok (.iload_n 3, 1) := by decide +kernel
theorem d_Log_isEntry_40 : decode b_Log_isEntry 40 = .ok (.iconst 1, 1) := by decide +kernel
theorem d_Log_isEntry_41 : decode b_Log_isEntry 41 = .ok (.iadd, 1) := by decide +kernel
theorem d_Log_isEntry_42 : decode b_Log_isEntry 42 = .ok (.invokevirtual 85, 3) := by decide +kernel
theorem d_Log_isEntry_45 : decode b_Log_isEntry 45 = .ok (.istore 5, 2) := by decide +kernel
theorem d_Log_isEntry_47 : decode b_Log_isEntry 47 = .ok (.iload_n 3, 1) := by decide +kernel
theorem d_Log_isEntry_48 : decode b_Log_isEntry 48 = .ok (.iconst 2, 1) := by decide +kernel
theorem d_Log_isEntry_49 : decode b_Log_isEntry 49 = .ok (.iadd, 1) := by decide +kernel
theorem d_Log_isEntry_50 : decode b_Log_isEntry 50 = .ok (.aload_n 0, 1) := by decide +kernel
theorem d_Log_isEntry_51 : decode b_Log_isEntry 51 = .ok (.getfield 14, 3) := by decide +kernel
theorem d_Log_isEntry_54 : decode b_Log_isEntry 54 = .ok (.invokevirtual 71, 3) := by decide +kernel
theorem d_Log_isEntry_57 : decode b_Log_isEntry 57 = .ok (.if_icmp .gt 32, 3) := by decide +kernel
theorem d_Log_isEntry_60 : decode b_Log_isEntry 60 = .ok (.aload_n 0, 1) := by decide +kernel
theorem d_Log_isEntry_61 : decode b_Log_isEntry 61 = .ok (.getfield 14, 3) := by decide +kernel
theorem d_Log_isEntry_64 : decode b_Log_isEntry 64 = .ok (.iload_n 3, 1) := by decide +kernel
theorem d_Log_isEntry_65 : decode b_Log_isEntry 65 = .ok (.invokevirtual 85, 3) := by decide +kernel
theorem d_Log_isEntry_68 : decode b_Log_isEntry 68 = .ok (.invokestatic 40, 3) := by decide +kernel
theorem d_Log_isEntry_71 : decode b_Log_isEntry 71 = .ok (.ifCond .eq 18, 3) := by decide +kernel
theorem d_Log_isEntry_74 : decode b_Log_isEntry 74 = .ok (.iload 5, 2) := by decide +kernel
theorem d_Log_isEntry_76 : decode b_Log_isEntry 76 = .ok (.bipush 40, 2) := by decide +kernel
theorem d_Log_isEntry_78 : decode b_Log_isEntry 78 = .ok (.if_icmp .le 13, 3) := by decide +kernel
theorem d_Log_isEntry_81 : decode b_Log_isEntry 81 = .ok (.iload 5, 2) := by decide +kernel
theorem d_Log_isEntry_83 : decode b_Log_isEntry 83 = .ok (.sipush 255, 3) := by decide +kernel
theorem d_Log_isEntry_86 : decode b_Log_isEntry 86 = .ok (.if_icmp .eq 5, 3) := by decide +kernel
theorem d_Log_isEntry_89 : decode b_Log_isEntry 89 = .ok (.iconst 0, 1) := by decide +kernel
theorem d_Log_isEntry_90 : decode b_Log_isEntry 90 = .ok (.ireturn, 1) := by decide +kernel
theorem d_Log_isEntry_91 : decode b_Log_isEntry 91 = .ok (.iload_n 3, 1) := by decide +kernel
theorem d_Log_isEntry_92 : decode b_Log_isEntry 92 = .ok (.iload 5, 2) := by decide +kernel
theorem d_Log_isEntry_94 : decode b_Log_isEntry 94 = .ok (.sipush 255, 3) := by decide +kernel
theorem d_Log_isEntry_97 : decode b_Log_isEntry 97 = .ok (.if_icmp .ne 7, 3) := by decide +kernel
theorem d_Log_isEntry_100 : decode b_Log_isEntry 100 = .ok (.iconst 2, 1) := by decide +kernel
theorem d_Log_isEntry_101 : decode b_Log_isEntry 101 = .ok (.goto 7, 3) := by decide +kernel
theorem d_Log_isEntry_104 : decode b_Log_isEntry 104 = .ok (.iconst 2, 1) := by decide +kernel
theorem d_Log_isEntry_105 : decode b_Log_isEntry 105 = .ok (.iload 5, 2) := by decide +kernel
theorem d_Log_isEntry_107 : decode b_Log_isEntry 107 = .ok (.iadd, 1) := by decide +kernel
theorem d_Log_isEntry_108 : decode b_Log_isEntry 108 = .ok (.iadd, 1) := by decide +kernel
theorem d_Log_isEntry_109 : decode b_Log_isEntry 109 = .ok (.istore_n 3, 1) := by decide +kernel
theorem d_Log_isEntry_110 : decode b_Log_isEntry 110 = .ok (.iinc 4 1, 3) := by decide +kernel
theorem d_Log_isEntry_113 : decode b_Log_isEntry 113 = .ok (.goto (-84), 3) := by decide +kernel
theorem d_Log_isEntry_116 : decode b_Log_isEntry 116 = .ok (.iload_n 3, 1) := by decide +kernel
theorem d_Log_isEntry_117 : decode b_Log_isEntry 117 = .ok (.aload_n 0, 1) := by decide +kernel
theorem d_Log_isEntry_118 : decode b_Log_isEntry 118 = .ok (.getfield 14, 3) := by decide +kernel
theorem d_Log_isEntry_121 : decode b_Log_isEntry 121 = .ok (.invokevirtual 71, 3) := by decide +kernel
theorem d_Log_isEntry_124 : decode b_Log_isEntry 124 = .ok (.if_icmp .ne 7, 3) := by decide +kernel
theorem d_Log_isEntry_127 : decode b_Log_isEntry 127 = .ok (.iconst 1, 1) := by decide +kernel
theorem d_Log_isEntry_128 : decode b_Log_isEntry 128 = .ok (.goto 4, 3) := by decide +kernel
theorem d_Log_isEntry_131 : decode b_Log_isEntry 131 = .ok (.iconst 0, 1) := by decide +kernel
theorem d_Log_isEntry_132 : decode b_Log_isEntry 132 = .ok (.ireturn, 1) := by decide +kernel
theorem d_Log_apply_0 : decode b_Log_apply 0 = .ok (.aload_n 0, 1) := by decide +kernel
theorem d_Log_apply_1 : decode b_Log_apply 1 = .ok (.getfield 14, 3) := by decide +kernel
theorem d_Log_apply_4 : decode b_Log_apply 4 = .ok (.iload_n 1, 1) := by decide +kernel
theorem d_Log_apply_5 : decode b_Log_apply 5 = .ok (.invokevirtual 85, 3) := by decide +kernel
theorem d_Log_apply_8 : decode b_Log_apply 8 = .ok (.istore_n 2, 1) := by decide +kernel
theorem d_Log_apply_9 : decode b_Log_apply 9 = .ok (.iload_n 1, 1) := by decide +kernel
theorem d_Log_apply_10 : decode b_Log_apply 10 = .ok (.iconst 1, 1) := by decide +kernel
theorem d_Log_apply_11 : decode b_Log_apply 11 = .ok (.iadd, 1) := by decide +kernel
theorem d_Log_apply_12 : decode b_Log_apply 12 = .ok (.istore_n 3, 1) := by decide +kernel
theorem d_Log_apply_13 : decode b_Log_apply 13 = .ok (.iconst 0, 1) := by decide +kernel
theorem d_Log_apply_14 : decode b_Log_apply 14 = .ok (.istore 4, 2) := by decide +kernel
theorem d_Log_apply_16 : decode b_Log_apply 16 = .ok (.iload 4, 2) := by decide +kernel
theorem d_Log_apply_18 : decode b_Log_apply 18 = .ok (.iload_n 2, 1) := by decide +kernel
theorem d_Log_apply_19 : decode b_Log_apply 19 = .ok (.if_icmp .ge 88, 3) := by decide +kernel
theorem d_Log_apply_22 : decode b_Log_apply 22 = .ok (.aload_n 0, 1) := by decide +kernel
theorem d_Log_apply_23 : decode b_Log_apply 23 = .ok (.getfield 14, 3) := by decide +kernel
theorem d_Log_apply_26 : decode b_Log_apply 26 = .ok (.iload_n 3, 1) := by decide +kernel
theorem d_Log_apply_27 : decode b_Log_apply 27 = .ok (.invokevirtual 85, 3) := by decide +kernel
theorem d_Log_apply_30 : decode b_Log_apply 30 = .ok (.istore 5, 2) := by decide +kernel
theorem d_Log_apply_32 : decode b_Log_apply 32 = .ok (.aload_n 0, 1) := by decide +kernel
theorem d_Log_apply_33 : decode b_Log_apply 33 = .ok (.getfield 14, 3) := by decide +kernel
theorem d_Log_apply_36 : decode b_Log_apply 36 = .ok (.iload_n 3, 1) := by decide +kernel
theorem d_Log_apply_37 : decode b_Log_apply 37 = .ok (.iconst 1, 1) := by decide +kernel
theorem d_Log_apply_38 : decode b_Log_apply 38 = .ok (.iadd, 1) := by decide +kernel
theorem d_Log_apply_39 : decode b_Log_apply 39 = .ok (.invokevirtual 85, 3) := by decide +kernel
theorem d_Log_apply_42 : decode b_Log_apply 42 = .ok (.istore 6, 2) := by decide +kernel
theorem d_Log_apply_44 : decode b_Log_apply 44 = .ok (.iinc 3 2, 3) := by decide +kernel
theorem d_Log_apply_47 : decode b_Log_apply 47 = .ok (.iload 5, 2) := by decide +kernel
theorem d_Log_apply_49 : decode b_Log_apply 49 = .ok (.invokestatic 40, 3) := by decide +kernel
theorem d_Log_apply_52 : decode b_Log_apply 52 = .ok (.ifCond .eq 32, 3) := by decide +kernel
theorem d_Log_apply_55 : decode b_Log_apply 55 = .ok (.aload_n 0, 1) := by decide +kernel
theorem d_Log_apply_56 : decode b_Log_apply 56 = .ok (.getfield 20, 3) := by decide +kernel
theorem d_Log_apply_59 : decode b_Log_apply 59 = .ok (.iload 5, 2) := by decide +kernel
theorem d_Log_apply_61 : decode b_Log_apply 61 = .ok (.iload_n 3, 1) := by decide +kernel
theorem d_Log_apply_62 : decode b_Log_apply 62 = .ok (.iastore, 1) := by decide +kernel
theorem d_Log_apply_63 : decode b_Log_apply 63 = .ok (.aload_n 0, 1) := by decide +kernel
theorem d_Log_apply_64 : decode b_Log_apply 64 = .ok (.getfield 24, 3) := by decide +kernel
theorem d_Log_apply_67 : decode b_Log_apply 67 = .ok (.iload 5, 2) := by decide +kernel
theorem d_Log_apply_69 : decode b_Log_apply 69 = .ok (.iload 6, 2) := by decide +kernel
theorem d_Log_apply_71 : decode b_Log_apply 71 = .ok (.sipush 255, 3) := by decide +kernel
theorem d_Log_apply_74 : decode b_Log_apply 74 = .ok (.if_icmp .ne 7, 3) := by decide +kernel
theorem d_Log_apply_77 : decode b_Log_apply 77 = .ok (.iconst (-1), 1) := by decide +kernel
theorem d_Log_apply_78 : decode b_Log_apply 78 = .ok (.goto 5, 3) := by decide +kernel
theorem d_Log_apply_81 : decode b_Log_apply 81 = .ok (.iload 6, 2) := by decide +kernel
theorem d_Log_apply_83 : decode b_Log_apply 83 = .ok (.iastore, 1) := by decide +kernel
theorem d_Log_apply_84 : decode b_Log_apply 84 = .ok (.iload_n 3, 1) := by decide +kernel
theorem d_Log_apply_85 : decode b_Log_apply 85 = .ok (.iload 6, 2) := by decide +kernel
theorem d_Log_apply_87 : decode b_Log_apply 87 = .ok (.sipush 255, 3) := by decide +kernel
theorem d_Log_apply_90 : decode b_Log_apply 90 = .ok (.if_icmp .ne 7, 3) := by decide +kernel
theorem d_Log_apply_93 : decode b_Log_apply 93 = .ok (.iconst 0, 1) := by decide +kernel
theorem d_Log_apply_94 : decode b_Log_apply 94 = .ok (.goto 5, 3) := by decide +kernel
theorem d_Log_apply_97 : decode b_Log_apply 97 = .ok (.iload 6, 2) := by decide +kernel
theorem d_Log_apply_99 : decode b_Log_apply 99 = .ok (.iadd, 1) := by decide +kernel
theorem d_Log_apply_100 : decode b_Log_apply 100 = .ok (.istore_n 3, 1) := by decide +kernel
theorem d_Log_apply_101 : decode b_Log_apply 101 = .ok (.iinc 4 1, 3) := by decide +kernel
theorem d_Log_apply_104 : decode b_Log_apply 104 = .ok (.goto (-88), 3) := by decide +kernel
theorem d_Log_apply_107 : decode b_Log_apply 107 = .ok (.return_, 1) := by decide +kernel
