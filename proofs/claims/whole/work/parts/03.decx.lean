theorem dX0_init_0 : decode cX0_init 0 = .ok (.aload_n 0, 1) := by decide +kernel
theorem dX0_init_1 : decode cX0_init 1 = .ok (.aload_n 1, 1) := by decide +kernel
theorem dX0_init_2 : decode cX0_init 2 = .ok (.aload_n 2, 1) := by decide +kernel
theorem dX0_init_3 : decode cX0_init 3 = .ok (.iload_n 3, 1) := by decide +kernel
theorem dX0_init_4 : decode cX0_init 4 = .ok (.iload 4, 2) := by decide +kernel
theorem dX0_init_6 : decode cX0_init 6 = .ok (.iload 5, 2) := by decide +kernel
theorem dX0_init_8 : decode cX0_init 8 = .ok (.invokespecial 3, 3) := by decide +kernel
theorem dX0_init_11 : decode cX0_init 11 = .ok (.return_, 1) := by decide +kernel
theorem dX0_takeAct_0 : decode cX0_takeAct 0 = .ok (.aload_n 0, 1) := by decide +kernel
theorem dX0_takeAct_1 : decode cX0_takeAct 1 = .ok (.getfield 9, 3) := by decide +kernel
theorem dX0_takeAct_4 : decode cX0_takeAct 4 = .ok (.iconst 1, 1) := by decide +kernel
theorem dX0_takeAct_5 : decode cX0_takeAct 5 = .ok (.iconst 4, 1) := by decide +kernel
theorem dX0_takeAct_6 : decode cX0_takeAct 6 = .ok (.invokevirtual 15, 3) := by decide +kernel
theorem dX0_takeAct_9 : decode cX0_takeAct 9 = .ok (.aload_n 0, 1) := by decide +kernel
theorem dX0_takeAct_10 : decode cX0_takeAct 10 = .ok (.invokespecial 21, 3) := by decide +kernel
theorem dX0_takeAct_13 : decode cX0_takeAct 13 = .ok (.istore_n 1, 1) := by decide +kernel
theorem dX0_takeAct_14 : decode cX0_takeAct 14 = .ok (.iload_n 1, 1) := by decide +kernel
theorem dX0_takeAct_15 : decode cX0_takeAct 15 = .ok (.iconst (-1), 1) := by decide +kernel
theorem dX0_takeAct_16 : decode cX0_takeAct 16 = .ok (.if_icmp .ne 13, 3) := by decide +kernel
theorem dX0_takeAct_19 : decode cX0_takeAct 19 = .ok (.aload_n 0, 1) := by decide +kernel
theorem dX0_takeAct_20 : decode cX0_takeAct 20 = .ok (.getfield 9, 3) := by decide +kernel
theorem dX0_takeAct_23 : decode cX0_takeAct 23 = .ok (.invokevirtual 25, 3) := by decide +kernel
theorem dX0_takeAct_26 : decode cX0_takeAct 26 = .ok (.bipush (-2), 2) := by decide +kernel
theorem dX0_takeAct_28 : decode cX0_takeAct 28 = .ok (.ireturn, 1) := by decide +kernel
theorem dX0_takeAct_29 : decode cX0_takeAct 29 = .ok (.aload_n 0, 1) := by decide +kernel
theorem dX0_takeAct_30 : decode cX0_takeAct 30 = .ok (.getfield 29, 3) := by decide +kernel
theorem dX0_takeAct_33 : decode cX0_takeAct 33 = .ok (.iload_n 1, 1) := by decide +kernel
theorem dX0_takeAct_34 : decode cX0_takeAct 34 = .ok (.invokevirtual 33, 3) := by decide +kernel
theorem dX0_takeAct_37 : decode cX0_takeAct 37 = .ok (.ifCond .ne 5, 3) := by decide +kernel
theorem dX0_takeAct_40 : decode cX0_takeAct 40 = .ok (.iload_n 1, 1) := by decide +kernel
theorem dX0_takeAct_41 : decode cX0_takeAct 41 = .ok (.ireturn, 1) := by decide +kernel
theorem dX0_takeAct_42 : decode cX0_takeAct 42 = .ok (.aload_n 0, 1) := by decide +kernel
theorem dX0_takeAct_43 : decode cX0_takeAct 43 = .ok (.getfield 29, 3) := by decide +kernel
theorem dX0_takeAct_46 : decode cX0_takeAct 46 = .ok (.iload_n 1, 1) := by decide +kernel
theorem dX0_takeAct_47 : decode cX0_takeAct 47 = .ok (.iconst 0, 1) := by decide +kernel
theorem dX0_takeAct_48 : decode cX0_takeAct 48 = .ok (.invokevirtual 39, 3) := by decide +kernel
theorem dX0_takeAct_51 : decode cX0_takeAct 51 = .ok (.aload_n 0, 1) := by decide +kernel
theorem dX0_takeAct_52 : decode cX0_takeAct 52 = .ok (.iload_n 1, 1) := by decide +kernel
theorem dX0_takeAct_53 : decode cX0_takeAct 53 = .ok (.invokevirtual 43, 3) := by decide +kernel
theorem dX0_takeAct_56 : decode cX0_takeAct 56 = .ok (.pop, 1) := by decide +kernel
theorem dX0_takeAct_57 : decode cX0_takeAct 57 = .ok (.aload_n 0, 1) := by decide +kernel
theorem dX0_takeAct_58 : decode cX0_takeAct 58 = .ok (.invokespecial 21, 3) := by decide +kernel
theorem dX0_takeAct_61 : decode cX0_takeAct 61 = .ok (.ireturn, 1) := by decide +kernel
theorem dX0_searchAct_0 : decode cX0_searchAct 0 = .ok (.aload_n 0, 1) := by decide +kernel
theorem dX0_searchAct_1 : decode cX0_searchAct 1 = .ok (.getfield 9, 3) := by decide +kernel
theorem dX0_searchAct_4 : decode cX0_searchAct 4 = .ok (.iconst 3, 1) := by decide +kernel
theorem dX0_searchAct_5 : decode cX0_searchAct 5 = .ok (.iconst 4, 1) := by decide +kernel
theorem dX0_searchAct_6 : decode cX0_searchAct 6 = .ok (.invokevirtual 15, 3) := by decide +kernel
theorem dX0_searchAct_9 : decode cX0_searchAct 9 = .ok (.aload_n 0, 1) := by decide +kernel
theorem dX0_searchAct_10 : decode cX0_searchAct 10 = .ok (.iload_n 1, 1) := by decide +kernel
theorem dX0_searchAct_11 : decode cX0_searchAct 11 = .ok (.invokespecial 47, 3) := by decide +kernel
theorem dX0_searchAct_14 : decode cX0_searchAct 14 = .ok (.istore_n 2, 1) := by decide +kernel
theorem dX0_searchAct_15 : decode cX0_searchAct 15 = .ok (.iload_n 2, 1) := by decide +kernel
theorem dX0_searchAct_16 : decode cX0_searchAct 16 = .ok (.iconst (-1), 1) := by decide +kernel
theorem dX0_searchAct_17 : decode cX0_searchAct 17 = .ok (.if_icmp .eq 18, 3) := by decide +kernel
theorem dX0_searchAct_20 : decode cX0_searchAct 20 = .ok (.aload_n 0, 1) := by decide +kernel
theorem dX0_searchAct_21 : decode cX0_searchAct 21 = .ok (.getfield 29, 3) := by decide +kernel
theorem dX0_searchAct_24 : decode cX0_searchAct 24 = .ok (.aload_n 0, 1) := by decide +kernel
theorem dX0_searchAct_25 : decode cX0_searchAct 25 = .ok (.iload_n 2, 1) := by decide +kernel
theorem dX0_searchAct_26 : decode cX0_searchAct 26 = .ok (.invokevirtual 50, 3) := by decide +kernel
theorem dX0_searchAct_29 : decode cX0_searchAct 29 = .ok (.invokevirtual 33, 3) := by decide +kernel
theorem dX0_searchAct_32 : decode cX0_searchAct 32 = .ok (.ifCond .eq 7, 3) := by decide +kernel
theorem dX0_searchAct_35 : decode cX0_searchAct 35 = .ok (.iconst (-1), 1) := by decide +kernel
theorem dX0_searchAct_36 : decode cX0_searchAct 36 = .ok (.goto 4, 3) := by decide +kernel
theorem dX0_searchAct_39 : decode cX0_searchAct 39 = .ok (.iload_n 2, 1) := by decide +kernel
theorem dX0_searchAct_40 : decode cX0_searchAct 40 = .ok (.ireturn, 1) := by decide +kernel
theorem dX1_init_0 : decode cX1_init 0 = .ok (.aload_n 0, 1) := by decide +kernel
theorem dX1_init_1 : decode cX1_init 1 = .ok (.aload_n 1, 1) := by decide +kernel
theorem dX1_init_2 : decode cX1_init 2 = .ok (.aload_n 2, 1) := by decide +kernel
theorem dX1_init_3 : decode cX1_init 3 = .ok (.iload_n 3, 1) := by decide +kernel
theorem dX1_init_4 : decode cX1_init 4 = .ok (.iload 4, 2) := by decide +kernel
theorem dX1_init_6 : decode cX1_init 6 = .ok (.iload 5, 2) := by decide +kernel
theorem dX1_init_8 : decode cX1_init 8 = .ok (.invokespecial 3, 3) := by decide +kernel
theorem dX1_init_11 : decode cX1_init 11 = .ok (.return_, 1) := by decide +kernel
theorem dX1_takeAct_0 : decode cX1_takeAct 0 = .ok (.aload_n 0, 1) := by decide +kernel
theorem dX1_takeAct_1 : decode cX1_takeAct 1 = .ok (.getfield 9, 3) := by decide +kernel
theorem dX1_takeAct_4 : decode cX1_takeAct 4 = .ok (.iconst 1, 1) := by decide +kernel
theorem dX1_takeAct_5 : decode cX1_takeAct 5 = .ok (.bipush 7, 2) := by decide +kernel
theorem dX1_takeAct_7 : decode cX1_takeAct 7 = .ok (.invokevirtual 15, 3) := by decide +kernel
theorem dX1_takeAct_10 : decode cX1_takeAct 10 = .ok (.aload_n 0, 1) := by decide +kernel
theorem dX1_takeAct_11 : decode cX1_takeAct 11 = .ok (.invokespecial 21, 3) := by decide +kernel
theorem dX1_takeAct_14 : decode cX1_takeAct 14 = .ok (.istore_n 1, 1) := by decide +kernel
theorem dX1_takeAct_15 : decode cX1_takeAct 15 = .ok (.iload_n 1, 1) := by decide +kernel
theorem dX1_takeAct_16 : decode cX1_takeAct 16 = .ok (.iconst (-1), 1) := by decide +kernel
theorem dX1_takeAct_17 : decode cX1_takeAct 17 = .ok (.if_icmp .ne 13, 3) := by decide +kernel
theorem dX1_takeAct_20 : decode cX1_takeAct 20 = .ok (.aload_n 0, 1) := by decide +kernel
theorem dX1_takeAct_21 : decode cX1_takeAct 21 = .ok (.getfield 9, 3) := by decide +kernel
theorem dX1_takeAct_24 : decode cX1_takeAct 24 = .ok (.invokevirtual 25, 3) := by decide +kernel
theorem dX1_takeAct_27 : decode cX1_takeAct 27 = .ok (.bipush (-2), 2) := by decide +kernel
theorem dX1_takeAct_29 : decode cX1_takeAct 29 = .ok (.ireturn, 1) := by decide +kernel
theorem dX1_takeAct_30 : decode cX1_takeAct 30 = .ok (.aload_n 0, 1) := by decide +kernel
theorem dX1_takeAct_31 : decode cX1_takeAct 31 = .ok (.getfield 29, 3) := by decide +kernel
theorem dX1_takeAct_34 : decode cX1_takeAct 34 = .ok (.iload_n 1, 1) := by decide +kernel
theorem dX1_takeAct_35 : decode cX1_takeAct 35 = .ok (.invokevirtual 33, 3) := by decide +kernel
theorem dX1_takeAct_38 : decode cX1_takeAct 38 = .ok (.iload_n 1, 1) := by decide +kernel
theorem dX1_takeAct_39 : decode cX1_takeAct 39 = .ok (.ireturn, 1) := by decide +kernel
theorem dX1_freeAct_0 : decode cX1_freeAct 0 = .ok (.aload_n 0, 1) := by decide +kernel
theorem dX1_freeAct_1 : decode cX1_freeAct 1 = .ok (.getfield 9, 3) := by decide +kernel
theorem dX1_freeAct_4 : decode cX1_freeAct 4 = .ok (.iconst 4, 1) := by decide +kernel
theorem dX1_freeAct_5 : decode cX1_freeAct 5 = .ok (.bipush 7, 2) := by decide +kernel
theorem dX1_freeAct_7 : decode cX1_freeAct 7 = .ok (.invokevirtual 15, 3) := by decide +kernel
theorem dX1_freeAct_10 : decode cX1_freeAct 10 = .ok (.iconst 0, 1) := by decide +kernel
theorem dX1_freeAct_11 : decode cX1_freeAct 11 = .ok (.aload_n 0, 1) := by decide +kernel
theorem dX1_freeAct_12 : decode cX1_freeAct 12 = .ok (.invokespecial 39, 3) := by decide +kernel
theorem dX1_freeAct_15 : decode cX1_freeAct 15 = .ok (.iconst 1, 1) := by decide +kernel
theorem dX1_freeAct_16 : decode cX1_freeAct 16 = .ok (.isub, 1) := by decide +kernel
theorem dX1_freeAct_17 : decode cX1_freeAct 17 = .ok (.invokestatic 42, 3) := by decide +kernel
theorem dX1_freeAct_20 : decode cX1_freeAct 20 = .ok (.ireturn, 1) := by decide +kernel
theorem dX2_init_0 : decode cX2_init 0 = .ok (.aload_n 0, 1) := by decide +kernel
theorem dX2_init_1 : decode cX2_init 1 = .ok (.aload_n 1, 1) := by decide +kernel
theorem dX2_init_2 : decode cX2_init 2 = .ok (.aload_n 2, 1) := by decide +kernel
theorem dX2_init_3 : decode cX2_init 3 = .ok (.iload_n 3, 1) := by decide +kernel
theorem dX2_init_4 : decode cX2_init 4 = .ok (.iload 4, 2) := by decide +kernel
theorem dX2_init_6 : decode cX2_init 6 = .ok (.iload 5, 2) := by decide +kernel
theorem dX2_init_8 : decode cX2_init 8 = .ok (.invokespecial 1, 3) := by decide +kernel
theorem dX2_init_11 : decode cX2_init 11 = .ok (.return_, 1) := by decide +kernel
theorem dX2_isFull_0 : decode cX2_isFull 0 = .ok (.aload_n 0, 1) := by decide +kernel
theorem dX2_isFull_1 : decode cX2_isFull 1 = .ok (.invokevirtual 7, 3) := by decide +kernel
theorem dX2_isFull_4 : decode cX2_isFull 4 = .ok (.ifCond .ne 7, 3) := by decide +kernel
theorem dX2_isFull_7 : decode cX2_isFull 7 = .ok (.iconst 1, 1) := by decide +kernel
theorem dX2_isFull_8 : decode cX2_isFull 8 = .ok (.goto 4, 3) := by decide +kernel
theorem dX2_isFull_11 : decode cX2_isFull 11 = .ok (.iconst 0, 1) := by decide +kernel
theorem dX2_isFull_12 : decode cX2_isFull 12 = .ok (.ireturn, 1) := by decide +kernel
theorem dX3_init_0 : decode cX3_init 0 = .ok (.aload_n 0, 1) := by decide +kernel
theorem dX3_init_1 : decode cX3_init 1 = .ok (.aload_n 1, 1) := by decide +kernel
theorem dX3_init_2 : decode cX3_init 2 = .ok (.aload_n 2, 1) := by decide +kernel
theorem dX3_init_3 : decode cX3_init 3 = .ok (.iload_n 3, 1) := by decide +kernel
theorem dX3_init_4 : decode cX3_init 4 = .ok (.iload 4, 2) := by decide +kernel
theorem dX3_init_6 : decode cX3_init 6 = .ok (.iload 5, 2) := by decide +kernel
theorem dX3_init_8 : decode cX3_init 8 = .ok (.invokespecial 3, 3) := by decide +kernel
theorem dX3_init_11 : decode cX3_init 11 = .ok (.return_, 1) := by decide +kernel
theorem dX3_putAct_0 : decode cX3_putAct 0 = .ok (.aload_n 0, 1) := by decide +kernel
theorem dX3_putAct_1 : decode cX3_putAct 1 = .ok (.getfield 9, 3) := by decide +kernel
theorem dX3_putAct_4 : decode cX3_putAct 4 = .ok (.iconst 0, 1) := by decide +kernel
theorem dX3_putAct_5 : decode cX3_putAct 5 = .ok (.bipush 6, 2) := by decide +kernel
theorem dX3_putAct_7 : decode cX3_putAct 7 = .ok (.invokevirtual 15, 3) := by decide +kernel
theorem dX3_putAct_10 : decode cX3_putAct 10 = .ok (.aload_n 0, 1) := by decide +kernel
theorem dX3_putAct_11 : decode cX3_putAct 11 = .ok (.getfield 21, 3) := by decide +kernel
theorem dX3_putAct_14 : decode cX3_putAct 14 = .ok (.iload_n 1, 1) := by decide +kernel
theorem dX3_putAct_15 : decode cX3_putAct 15 = .ok (.invokevirtual 25, 3) := by decide +kernel
theorem dX3_putAct_18 : decode cX3_putAct 18 = .ok (.iconst 2, 1) := by decide +kernel
theorem dX3_putAct_19 : decode cX3_putAct 19 = .ok (.irem, 1) := by decide +kernel
theorem dX3_putAct_20 : decode cX3_putAct 20 = .ok (.ifCond .eq 12, 3) := by decide +kernel
theorem dX3_putAct_23 : decode cX3_putAct 23 = .ok (.aload_n 0, 1) := by decide +kernel
theorem dX3_putAct_24 : decode cX3_putAct 24 = .ok (.getfield 21, 3) := by decide +kernel
theorem dX3_putAct_27 : decode cX3_putAct 27 = .ok (.iload_n 1, 1) := by decide +kernel
theorem dX3_putAct_28 : decode cX3_putAct 28 = .ok (.iconst 1, 1) := by decide +kernel
theorem dX3_putAct_29 : decode cX3_putAct 29 = .ok (.invokevirtual 31, 3) := by decide +kernel
theorem dX3_putAct_32 : decode cX3_putAct 32 = .ok (.aload_n 0, 1) := by decide +kernel
theorem dX3_putAct_33 : decode cX3_putAct 33 = .ok (.iload_n 1, 1) := by decide +kernel
theorem dX3_putAct_34 : decode cX3_putAct 34 = .ok (.invokespecial 35, 3) := by decide +kernel
theorem dX3_putAct_37 : decode cX3_putAct 37 = .ok (.ireturn, 1) := by decide +kernel
theorem dX3_loadAct_0 : decode cX3_loadAct 0 = .ok (.aload_n 0, 1) := by decide +kernel
theorem dX3_loadAct_1 : decode cX3_loadAct 1 = .ok (.getfield 9, 3) := by decide +kernel
theorem dX3_loadAct_4 : decode cX3_loadAct 4 = .ok (.iconst 2, 1) := by decide +kernel
theorem dX3_loadAct_5 : decode cX3_loadAct 5 = .ok (.bipush 6, 2) := by decide +kernel
theorem dX3_loadAct_7 : decode cX3_loadAct 7 = .ok (.invokevirtual 15, 3) := by decide +kernel
theorem dX3_loadAct_10 : decode cX3_loadAct 10 = .ok (.aload_n 0, 1) := by decide +kernel
theorem dX3_loadAct_11 : decode cX3_loadAct 11 = .ok (.invokespecial 38, 3) := by decide +kernel
theorem dX3_loadAct_14 : decode cX3_loadAct 14 = .ok (.istore_n 1, 1) := by decide +kernel
theorem dX3_loadAct_15 : decode cX3_loadAct 15 = .ok (.iconst 0, 1) := by decide +kernel
theorem dX3_loadAct_16 : decode cX3_loadAct 16 = .ok (.istore_n 2, 1) := by decide +kernel
theorem dX3_loadAct_17 : decode cX3_loadAct 17 = .ok (.iload_n 2, 1) := by decide +kernel
theorem dX3_loadAct_18 : decode cX3_loadAct 18 = .ok (.aload_n 0, 1) := by decide +kernel
theorem dX3_loadAct_19 : decode cX3_loadAct 19 = .ok (.invokevirtual 42, 3) := by decide +kernel
theorem dX3_loadAct_22 : decode cX3_loadAct 22 = .ok (.if_icmp .ge 27, 3) := by decide +kernel
theorem dX3_loadAct_25 : decode cX3_loadAct 25 = .ok (.aload_n 0, 1) := by decide +kernel
theorem dX3_loadAct_26 : decode cX3_loadAct 26 = .ok (.getfield 21, 3) := by decide +kernel
theorem dX3_loadAct_29 : decode cX3_loadAct 29 = .ok (.aload_n 0, 1) := by decide +kernel
theorem dX3_loadAct_30 : decode cX3_loadAct 30 = .ok (.iload_n 2, 1) := by decide +kernel
theorem dX3_loadAct_31 : decode cX3_loadAct 31 = .ok (.invokevirtual 45, 3) := by decide +kernel
theorem dX3_loadAct_34 : decode cX3_loadAct 34 = .ok (.invokevirtual 48, 3) := by decide +kernel
theorem dX3_loadAct_37 : decode cX3_loadAct 37 = .ok (.ifCond .eq 6, 3) := by decide +kernel
theorem dX3_loadAct_40 : decode cX3_loadAct 40 = .ok (.iinc 1 10, 3) := by decide +kernel
theorem dX3_loadAct_43 : decode cX3_loadAct 43 = .ok (.iinc 2 1, 3) := by decide +kernel
theorem dX3_loadAct_46 : decode cX3_loadAct 46 = .ok (.goto (-29), 3) := by decide +kernel
theorem dX3_loadAct_49 : decode cX3_loadAct 49 = .ok (.iload_n 1, 1) := by decide +kernel
theorem dX3_loadAct_50 : decode cX3_loadAct 50 = .ok (.ireturn, 1) := by decide +kernel
theorem dX4_init_0 : decode cX4_init 0 = .ok (.aload_n 0, 1) := by decide +kernel
theorem dX4_init_1 : decode cX4_init 1 = .ok (.invokespecial 3, 3) := by decide +kernel
theorem dX4_init_4 : decode cX4_init 4 = .ok (.aload_n 0, 1) := by decide +kernel
theorem dX4_init_5 : decode cX4_init 5 = .ok (.aload_n 1, 1) := by decide +kernel
theorem dX4_init_6 : decode cX4_init 6 = .ok (.putfield 9, 3) := by decide +kernel
theorem dX4_init_9 : decode cX4_init 9 = .ok (.aload_n 0, 1) := by decide +kernel
theorem dX4_init_10 : decode cX4_init 10 = .ok (.aload_n 2, 1) := by decide +kernel
theorem dX4_init_11 : decode cX4_init 11 = .ok (.putfield 15, 3) := by decide +kernel
theorem dX4_init_14 : decode cX4_init 14 = .ok (.aload_n 0, 1) := by decide +kernel
theorem dX4_init_15 : decode cX4_init 15 = .ok (.iload_n 3, 1) := by decide +kernel
theorem dX4_init_16 : decode cX4_init 16 = .ok (.putfield 19, 3) := by decide +kernel
theorem dX4_init_19 : decode cX4_init 19 = .ok (.aload_n 0, 1) := by decide +kernel
theorem dX4_init_20 : decode cX4_init 20 = .ok (.iload 4, 2) := by decide +kernel
theorem dX4_init_22 : decode cX4_init 22 = .ok (.putfield 23, 3) := by decide +kernel
theorem dX4_init_25 : decode cX4_init 25 = .ok (.aload_n 0, 1) := by decide +kernel
theorem dX4_init_26 : decode cX4_init 26 = .ok (.iload 5, 2) := by decide +kernel
theorem dX4_init_28 : decode cX4_init 28 = .ok (.putfield 26, 3) := by decide +kernel
theorem dX4_init_31 : decode cX4_init 31 = .ok (.aload_n 0, 1) := by decide +kernel
theorem dX4_init_32 : decode cX4_init 32 = .ok (.bipush 12, 2) := by decide +kernel
theorem dX4_init_34 : decode cX4_init 34 = .ok (.newarray .int, 2) := by decide +kernel
theorem dX4_init_36 : decode cX4_init 36 = .ok (.putfield 29, 3) := by decide +kernel
theorem dX4_init_39 : decode cX4_init 39 = .ok (.return_, 1) := by decide +kernel
theorem dX4_putAct_0 : decode cX4_putAct 0 = .ok (.aload_n 0, 1) := by decide +kernel
theorem dX4_putAct_1 : decode cX4_putAct 1 = .ok (.getfield 15, 3) := by decide +kernel
theorem dX4_putAct_4 : decode cX4_putAct 4 = .ok (.iconst 0, 1) := by decide +kernel
theorem dX4_putAct_5 : decode cX4_putAct 5 = .ok (.iconst 0, 1) := by decide +kernel
theorem dX4_putAct_6 : decode cX4_putAct 6 = .ok (.invokevirtual 33, 3) := by decide +kernel
theorem dX4_putAct_9 : decode cX4_putAct 9 = .ok (.aload_n 0, 1) := by decide +kernel
theorem dX4_putAct_10 : decode cX4_putAct 10 = .ok (.getfield 39, 3) := by decide +kernel
theorem dX4_putAct_13 : decode cX4_putAct 13 = .ok (.ifCond .lt 26, 3) := by decide +kernel
theorem dX4_putAct_16 : decode cX4_putAct 16 = .ok (.aload_n 0, 1) := by decide +kernel
theorem dX4_putAct_17 : decode cX4_putAct 17 = .ok (.getfield 39, 3) := by decide +kernel
theorem dX4_putAct_20 : decode cX4_putAct 20 = .ok (.aload_n 0, 1) := by decide +kernel
theorem dX4_putAct_21 : decode cX4_putAct 21 = .ok (.getfield 23, 3) := by decide +kernel
theorem dX4_putAct_24 : decode cX4_putAct 24 = .ok (.if_icmp .ge 15, 3) := by decide +kernel
theorem dX4_putAct_27 : decode cX4_putAct 27 = .ok (.aload_n 0, 1) := by decide +kernel
theorem dX4_putAct_28 : decode cX4_putAct 28 = .ok (.getfield 39, 3) := by decide +kernel
theorem dX4_putAct_31 : decode cX4_putAct 31 = .ok (.aload_n 0, 1) := by decide +kernel
theorem dX4_putAct_32 : decode cX4_putAct 32 = .ok (.getfield 29, 3) := by decide +kernel
theorem dX4_putAct_35 : decode cX4_putAct 35 = .ok (.arraylength, 1) := by decide +kernel
theorem dX4_putAct_36 : decode cX4_putAct 36 = .ok (.if_icmp .lt 5, 3) := by decide +kernel
theorem dX4_putAct_39 : decode cX4_putAct 39 = .ok (.iconst 0, 1) := by decide +kernel
theorem dX4_putAct_40 : decode cX4_putAct 40 = .ok (.ireturn, 1) := by decide +kernel
theorem dX4_putAct_41 : decode cX4_putAct 41 = .ok (.aload_n 0, 1) := by decide +kernel
theorem dX4_putAct_42 : decode cX4_putAct 42 = .ok (.getfield 29, 3) := by decide +kernel
theorem dX4_putAct_45 : decode cX4_putAct 45 = .ok (.aload_n 0, 1) := by decide +kernel
theorem dX4_putAct_46 : decode cX4_putAct 46 = .ok (.getfield 39, 3) := by decide +kernel
theorem dX4_putAct_49 : decode cX4_putAct 49 = .ok (.iload_n 1, 1) := by decide +kernel
theorem dX4_putAct_50 : decode cX4_putAct 50 = .ok (.iastore, 1) := by decide +kernel
theorem dX4_putAct_51 : decode cX4_putAct 51 = .ok (.aload_n 0, 1) := by decide +kernel
theorem dX4_putAct_52 : decode cX4_putAct 52 = .ok (.dup, 1) := by decide +kernel
theorem dX4_putAct_53 : decode cX4_putAct 53 = .ok (.getfield 39, 3) := by decide +kernel
theorem dX4_putAct_56 : decode cX4_putAct 56 = .ok (.iconst 1, 1) := by decide +kernel
theorem dX4_putAct_57 : decode cX4_putAct 57 = .ok (.iadd, 1) := by decide +kernel
theorem dX4_putAct_58 : decode cX4_putAct 58 = .ok (.putfield 39, 3) := by decide +kernel
theorem dX4_putAct_61 : decode cX4_putAct 61 = .ok (.aload_n 0, 1) := by decide +kernel
theorem dX4_putAct_62 : decode cX4_putAct 62 = .ok (.getfield 9, 3) := by decide +kernel
theorem dX4_putAct_65 : decode cX4_putAct 65 = .ok (.iload_n 1, 1) := by decide +kernel
theorem dX4_putAct_66 : decode cX4_putAct 66 = .ok (.aload_n 0, 1) := by decide +kernel
theorem dX4_putAct_67 : decode cX4_putAct 67 = .ok (.getfield 19, 3) := by decide +kernel
theorem dX4_putAct_70 : decode cX4_putAct 70 = .ok (.invokevirtual 42, 3) := by decide +kernel
theorem dX4_putAct_73 : decode cX4_putAct 73 = .ok (.iconst 1, 1) := by decide +kernel
theorem dX4_putAct_74 : decode cX4_putAct 74 = .ok (.ireturn, 1) := by decide +kernel
theorem dX4_takeAct_0 : decode cX4_takeAct 0 = .ok (.aload_n 0, 1) := by decide +kernel
theorem dX4_takeAct_1 : decode cX4_takeAct 1 = .ok (.getfield 15, 3) := by decide +kernel
theorem dX4_takeAct_4 : decode cX4_takeAct 4 = .ok (.iconst 1, 1) := by decide +kernel
theorem dX4_takeAct_5 : decode cX4_takeAct 5 = .ok (.iconst 0, 1) := by decide +kernel
theorem dX4_takeAct_6 : decode cX4_takeAct 6 = .ok (.invokevirtual 33, 3) := by decide +kernel
theorem dX4_takeAct_9 : decode cX4_takeAct 9 = .ok (.aload_n 0, 1) := by decide +kernel
theorem dX4_takeAct_10 : decode cX4_takeAct 10 = .ok (.getfield 39, 3) := by decide +kernel
theorem dX4_takeAct_13 : decode cX4_takeAct 13 = .ok (.iconst 1, 1) := by decide +kernel
theorem dX4_takeAct_14 : decode cX4_takeAct 14 = .ok (.if_icmp .lt 15, 3) := by decide +kernel
theorem dX4_takeAct_17 : decode cX4_takeAct 17 = .ok (.aload_n 0, 1) := by decide +kernel
theorem dX4_takeAct_18 : decode cX4_takeAct 18 = .ok (.getfield 39, 3) := by decide +kernel
theorem dX4_takeAct_21 : decode cX4_takeAct 21 = .ok (.aload_n 0, 1) := by decide +kernel
theorem dX4_takeAct_22 : decode cX4_takeAct 22 = .ok (.getfield 29, 3) := by decide +kernel
theorem dX4_takeAct_25 : decode cX4_takeAct 25 = .ok (.arraylength, 1) := by decide +kernel
theorem dX4_takeAct_26 : decode cX4_takeAct 26 = .ok (.if_icmp .le 5, 3) := by decide +kernel
theorem dX4_takeAct_29 : decode cX4_takeAct 29 = .ok (.iconst (-1), 1) := by decide +kernel
theorem dX4_takeAct_30 : decode cX4_takeAct 30 = .ok (.ireturn, 1) := by decide +kernel
theorem dX4_takeAct_31 : decode cX4_takeAct 31 = .ok (.aload_n 0, 1) := by decide +kernel
theorem dX4_takeAct_32 : decode cX4_takeAct 32 = .ok (.dup, 1) := by decide +kernel
theorem dX4_takeAct_33 : decode cX4_takeAct 33 = .ok (.getfield 39, 3) := by decide +kernel
theorem dX4_takeAct_36 : decode cX4_takeAct 36 = .ok (.iconst 1, 1) := by decide +kernel
theorem dX4_takeAct_37 : decode cX4_takeAct 37 = .ok (.isub, 1) := by decide +kernel
theorem dX4_takeAct_38 : decode cX4_takeAct 38 = .ok (.putfield 39, 3) := by decide +kernel
theorem dX4_takeAct_41 : decode cX4_takeAct 41 = .ok (.aload_n 0, 1) := by decide +kernel
theorem dX4_takeAct_42 : decode cX4_takeAct 42 = .ok (.getfield 29, 3) := by decide +kernel
theorem dX4_takeAct_45 : decode cX4_takeAct 45 = .ok (.aload_n 0, 1) := by decide +kernel
theorem dX4_takeAct_46 : decode cX4_takeAct 46 = .ok (.getfield 39, 3) := by decide +kernel
theorem dX4_takeAct_49 : decode cX4_takeAct 49 = .ok (.iaload, 1) := by decide +kernel
theorem dX4_takeAct_50 : decode cX4_takeAct 50 = .ok (.istore_n 1, 1) := by decide +kernel
theorem dX4_takeAct_51 : decode cX4_takeAct 51 = .ok (.aload_n 0, 1) := by decide +kernel
theorem dX4_takeAct_52 : decode cX4_takeAct 52 = .ok (.getfield 9, 3) := by decide +kernel
theorem dX4_takeAct_55 : decode cX4_takeAct 55 = .ok (.iload_n 1, 1) := by decide +kernel
theorem dX4_takeAct_56 : decode cX4_takeAct 56 = .ok (.iconst (-1), 1) := by decide +kernel
theorem dX4_takeAct_57 : decode cX4_takeAct 57 = .ok (.invokevirtual 42, 3) := by decide +kernel
theorem dX4_takeAct_60 : decode cX4_takeAct 60 = .ok (.iload_n 1, 1) := by decide +kernel
theorem dX4_takeAct_61 : decode cX4_takeAct 61 = .ok (.ireturn, 1) := by decide +kernel
theorem dX4_loadAct_0 : decode cX4_loadAct 0 = .ok (.aload_n 0, 1) := by decide +kernel
theorem dX4_loadAct_1 : decode cX4_loadAct 1 = .ok (.getfield 15, 3) := by decide +kernel
theorem dX4_loadAct_4 : decode cX4_loadAct 4 = .ok (.iconst 2, 1) := by decide +kernel
theorem dX4_loadAct_5 : decode cX4_loadAct 5 = .ok (.iconst 0, 1) := by decide +kernel
theorem dX4_loadAct_6 : decode cX4_loadAct 6 = .ok (.invokevirtual 33, 3) := by decide +kernel
theorem dX4_loadAct_9 : decode cX4_loadAct 9 = .ok (.iconst 0, 1) := by decide +kernel
theorem dX4_loadAct_10 : decode cX4_loadAct 10 = .ok (.istore_n 1, 1) := by decide +kernel
theorem dX4_loadAct_11 : decode cX4_loadAct 11 = .ok (.iconst 0, 1) := by decide +kernel
theorem dX4_loadAct_12 : decode cX4_loadAct 12 = .ok (.istore_n 2, 1) := by decide +kernel
theorem dX4_loadAct_13 : decode cX4_loadAct 13 = .ok (.iload_n 2, 1) := by decide +kernel
theorem dX4_loadAct_14 : decode cX4_loadAct 14 = .ok (.aload_n 0, 1) := by decide +kernel
theorem dX4_loadAct_15 : decode cX4_loadAct 15 = .ok (.getfield 39, 3) := by decide +kernel
theorem dX4_loadAct_18 : decode cX4_loadAct 18 = .ok (.if_icmp .ge 24, 3) := by decide +kernel
theorem dX4_loadAct_21 : decode cX4_loadAct 21 = .ok (.iload_n 1, 1) := by decide +kernel
theorem dX4_loadAct_22 : decode cX4_loadAct 22 = .ok (.aload_n 0, 1) := by decide +kernel
theorem dX4_loadAct_23 : decode cX4_loadAct 23 = .ok (.getfield 9, 3) := by decide +kernel
theorem dX4_loadAct_26 : decode cX4_loadAct 26 = .ok (.aload_n 0, 1) := by decide +kernel
theorem dX4_loadAct_27 : decode cX4_loadAct 27 = .ok (.iload_n 2, 1) := by decide +kernel
theorem dX4_loadAct_28 : decode cX4_loadAct 28 = .ok (.invokevirtual 47, 3) := by decide +kernel
theorem dX4_loadAct_31 : decode cX4_loadAct 31 = .ok (.invokevirtual 51, 3) := by decide +kernel
theorem dX4_loadAct_34 : decode cX4_loadAct 34 = .ok (.iadd, 1) := by decide +kernel
theorem dX4_loadAct_35 : decode cX4_loadAct 35 = .ok (.istore_n 1, 1) := by decide +kernel
theorem dX4_loadAct_36 : decode cX4_loadAct 36 = .ok (.iinc 2 1, 3) := by decide +kernel
theorem dX4_loadAct_39 : decode cX4_loadAct 39 = .ok (.goto (-26), 3) := by decide +kernel
theorem dX4_loadAct_42 : decode cX4_loadAct 42 = .ok (.iload_n 1, 1) := by decide +kernel
theorem dX4_loadAct_43 : decode cX4_loadAct 43 = .ok (.ireturn, 1) := by decide +kernel
theorem dX4_searchAct_0 : decode cX4_searchAct 0 = .ok (.aload_n 0, 1) := by decide +kernel
theorem dX4_searchAct_1 : decode cX4_searchAct 1 = .ok (.getfield 15, 3) := by decide +kernel
theorem dX4_searchAct_4 : decode cX4_searchAct 4 = .ok (.iconst 3, 1) := by decide +kernel
theorem dX4_searchAct_5 : decode cX4_searchAct 5 = .ok (.iconst 0, 1) := by decide +kernel
theorem dX4_searchAct_6 : decode cX4_searchAct 6 = .ok (.invokevirtual 33, 3) := by decide +kernel
theorem dX4_searchAct_9 : decode cX4_searchAct 9 = .ok (.iconst 0, 1) := by decide +kernel
theorem dX4_searchAct_10 : decode cX4_searchAct 10 = .ok (.istore_n 2, 1) := by decide +kernel
theorem dX4_searchAct_11 : decode cX4_searchAct 11 = .ok (.iload_n 2, 1) := by decide +kernel
theorem dX4_searchAct_12 : decode cX4_searchAct 12 = .ok (.aload_n 0, 1) := by decide +kernel
theorem dX4_searchAct_13 : decode cX4_searchAct 13 = .ok (.getfield 39, 3) := by decide +kernel
theorem dX4_searchAct_16 : decode cX4_searchAct 16 = .ok (.if_icmp .ge 27, 3) := by decide +kernel
theorem dX4_searchAct_19 : decode cX4_searchAct 19 = .ok (.aload_n 0, 1) := by decide +kernel
theorem dX4_searchAct_20 : decode cX4_searchAct 20 = .ok (.getfield 9, 3) := by decide +kernel
theorem dX4_searchAct_23 : decode cX4_searchAct 23 = .ok (.aload_n 0, 1) := by decide +kernel
theorem dX4_searchAct_24 : decode cX4_searchAct 24 = .ok (.iload_n 2, 1) := by decide +kernel
theorem dX4_searchAct_25 : decode cX4_searchAct 25 = .ok (.invokevirtual 47, 3) := by decide +kernel
theorem dX4_searchAct_28 : decode cX4_searchAct 28 = .ok (.invokevirtual 54, 3) := by decide +kernel
theorem dX4_searchAct_31 : decode cX4_searchAct 31 = .ok (.iload_n 1, 1) := by decide +kernel
theorem dX4_searchAct_32 : decode cX4_searchAct 32 = .ok (.if_icmp .lt 5, 3) := by decide +kernel
theorem dX4_searchAct_35 : decode cX4_searchAct 35 = .ok (.iload_n 2, 1) := by decide +kernel
theorem dX4_searchAct_36 : decode cX4_searchAct 36 = .ok (.ireturn, 1) := by decide +kernel
theorem dX4_searchAct_37 : decode cX4_searchAct 37 = .ok (.iinc 2 1, 3) := by decide +kernel
theorem dX4_searchAct_40 : decode cX4_searchAct 40 = .ok (.goto (-29), 3) := by decide +kernel
theorem dX4_searchAct_43 : decode cX4_searchAct 43 = .ok (.iconst (-1), 1) := by decide +kernel
theorem dX4_searchAct_44 : decode cX4_searchAct 44 = .ok (.ireturn, 1) := by decide +kernel
theorem dX4_freeAct_0 : decode cX4_freeAct 0 = .ok (.aload_n 0, 1) := by decide +kernel
theorem dX4_freeAct_1 : decode cX4_freeAct 1 = .ok (.getfield 15, 3) := by decide +kernel
theorem dX4_freeAct_4 : decode cX4_freeAct 4 = .ok (.iconst 4, 1) := by decide +kernel
theorem dX4_freeAct_5 : decode cX4_freeAct 5 = .ok (.iconst 0, 1) := by decide +kernel
theorem dX4_freeAct_6 : decode cX4_freeAct 6 = .ok (.invokevirtual 33, 3) := by decide +kernel
theorem dX4_freeAct_9 : decode cX4_freeAct 9 = .ok (.aload_n 0, 1) := by decide +kernel
theorem dX4_freeAct_10 : decode cX4_freeAct 10 = .ok (.getfield 23, 3) := by decide +kernel
theorem dX4_freeAct_13 : decode cX4_freeAct 13 = .ok (.aload_n 0, 1) := by decide +kernel
theorem dX4_freeAct_14 : decode cX4_freeAct 14 = .ok (.getfield 39, 3) := by decide +kernel
theorem dX4_freeAct_17 : decode cX4_freeAct 17 = .ok (.isub, 1) := by decide +kernel
theorem dX4_freeAct_18 : decode cX4_freeAct 18 = .ok (.ireturn, 1) := by decide +kernel
theorem dX4_isFull_0 : decode cX4_isFull 0 = .ok (.aload_n 0, 1) := by decide +kernel
theorem dX4_isFull_1 : decode cX4_isFull 1 = .ok (.getfield 39, 3) := by decide +kernel
theorem dX4_isFull_4 : decode cX4_isFull 4 = .ok (.aload_n 0, 1) := by decide +kernel
theorem dX4_isFull_5 : decode cX4_isFull 5 = .ok (.getfield 23, 3) := by decide +kernel
theorem dX4_isFull_8 : decode cX4_isFull 8 = .ok (.if_icmp .lt 7, 3) := by decide +kernel
theorem dX4_isFull_11 : decode cX4_isFull 11 = .ok (.iconst 1, 1) := by decide +kernel
theorem dX4_isFull_12 : decode cX4_isFull 12 = .ok (.goto 4, 3) := by decide +kernel
theorem dX4_isFull_15 : decode cX4_isFull 15 = .ok (.iconst 0, 1) := by decide +kernel
theorem dX4_isFull_16 : decode cX4_isFull 16 = .ok (.ireturn, 1) := by decide +kernel
theorem dX4_howMany_0 : decode cX4_howMany 0 = .ok (.aload_n 0, 1) := by decide +kernel
theorem dX4_howMany_1 : decode cX4_howMany 1 = .ok (.getfield 39, 3) := by decide +kernel
theorem dX4_howMany_4 : decode cX4_howMany 4 = .ok (.ireturn, 1) := by decide +kernel
theorem dX4_timberAt_0 : decode cX4_timberAt 0 = .ok (.iload_n 1, 1) := by decide +kernel
theorem dX4_timberAt_1 : decode cX4_timberAt 1 = .ok (.ifCond .lt 29, 3) := by decide +kernel
theorem dX4_timberAt_4 : decode cX4_timberAt 4 = .ok (.iload_n 1, 1) := by decide +kernel
theorem dX4_timberAt_5 : decode cX4_timberAt 5 = .ok (.aload_n 0, 1) := by decide +kernel
theorem dX4_timberAt_6 : decode cX4_timberAt 6 = .ok (.getfield 39, 3) := by decide +kernel
theorem dX4_timberAt_9 : decode cX4_timberAt 9 = .ok (.if_icmp .ge 21, 3) := by decide +kernel
theorem dX4_timberAt_12 : decode cX4_timberAt 12 = .ok (.iload_n 1, 1) := by decide +kernel
theorem dX4_timberAt_13 : decode cX4_timberAt 13 = .ok (.aload_n 0, 1) := by decide +kernel
theorem dX4_timberAt_14 : decode cX4_timberAt 14 = .ok (.getfield 29, 3) := by decide +kernel
theorem dX4_timberAt_17 : decode cX4_timberAt 17 = .ok (.arraylength, 1) := by decide +kernel
theorem dX4_timberAt_18 : decode cX4_timberAt 18 = .ok (.if_icmp .ge 12, 3) := by decide +kernel
theorem dX4_timberAt_21 : decode cX4_timberAt 21 = .ok (.aload_n 0, 1) := by decide +kernel
theorem dX4_timberAt_22 : decode cX4_timberAt 22 = .ok (.getfield 29, 3) := by decide +kernel
theorem dX4_timberAt_25 : decode cX4_timberAt 25 = .ok (.iload_n 1, 1) := by decide +kernel
theorem dX4_timberAt_26 : decode cX4_timberAt 26 = .ok (.iaload, 1) := by decide +kernel
theorem dX4_timberAt_27 : decode cX4_timberAt 27 = .ok (.goto 4, 3) := by decide +kernel
theorem dX4_timberAt_30 : decode cX4_timberAt 30 = .ok (.iconst (-1), 1) := by decide +kernel
theorem dX4_timberAt_31 : decode cX4_timberAt 31 = .ok (.ireturn, 1) := by decide +kernel
theorem dX4_swapWithUnder_0 : decode cX4_swapWithUnder 0 = .ok (.iload_n 1, 1) := by decide +kernel
theorem dX4_swapWithUnder_1 : decode cX4_swapWithUnder 1 = .ok (.iconst 1, 1) := by decide +kernel
theorem dX4_swapWithUnder_2 : decode cX4_swapWithUnder 2 = .ok (.if_icmp .lt 50, 3) := by decide +kernel
theorem dX4_swapWithUnder_5 : decode cX4_swapWithUnder 5 = .ok (.iload_n 1, 1) := by decide +kernel
theorem dX4_swapWithUnder_6 : decode cX4_swapWithUnder 6 = .ok (.aload_n 0, 1) := by decide +kernel
theorem dX4_swapWithUnder_7 : decode cX4_swapWithUnder 7 = .ok (.getfield 39, 3) := by decide +kernel
theorem dX4_swapWithUnder_10 : decode cX4_swapWithUnder 10 = .ok (.if_icmp .ge 42, 3) := by decide +kernel
theorem dX4_swapWithUnder_13 : decode cX4_swapWithUnder 13 = .ok (.iload_n 1, 1) := by decide +kernel
theorem dX4_swapWithUnder_14 : decode cX4_swapWithUnder 14 = .ok (.aload_n 0, 1) := by decide +kernel
theorem dX4_swapWithUnder_15 : decode cX4_swapWithUnder 15 = .ok (.getfield 29, 3) := by decide +kernel
theorem dX4_swapWithUnder_18 : decode cX4_swapWithUnder 18 = .ok (.arraylength, 1) := by decide +kernel
theorem dX4_swapWithUnder_19 : decode cX4_swapWithUnder 19 = .ok (.if_icmp .ge 33, 3) := by decide +kernel
theorem dX4_swapWithUnder_22 : decode cX4_swapWithUnder 22 = .ok (.aload_n 0, 1) := by decide +kernel
theorem dX4_swapWithUnder_23 : decode cX4_swapWithUnder 23 = .ok (.getfield 29, 3) := by decide +kernel
theorem dX4_swapWithUnder_26 : decode cX4_swapWithUnder 26 = .ok (.iload_n 1, 1) := by decide +kernel
theorem dX4_swapWithUnder_27 : decode cX4_swapWithUnder 27 = .ok (.iconst 1, 1) := by decide +kernel
theorem dX4_swapWithUnder_28 : decode cX4_swapWithUnder 28 = .ok (.isub, 1) := by decide +kernel
theorem dX4_swapWithUnder_29 : decode cX4_swapWithUnder 29 = .ok (.iaload, 1) := by decide +kernel
theorem dX4_swapWithUnder_30 : decode cX4_swapWithUnder 30 = .ok (.istore_n 2, 1) := by decide +kernel
theorem dX4_swapWithUnder_31 : decode cX4_swapWithUnder 31 = .ok (.aload_n 0, 1) := by decide +kernel
theorem dX4_swapWithUnder_32 : decode cX4_swapWithUnder 32 = .ok (.getfield 29, 3) := by decide +kernel
theorem dX4_swapWithUnder_35 : decode cX4_swapWithUnder 35 = .ok (.iload_n 1, 1) := by decide +kernel
theorem dX4_swapWithUnder_36 : decode cX4_swapWithUnder 36 = .ok (.iconst 1, 1) := by decide +kernel
theorem dX4_swapWithUnder_37 : decode cX4_swapWithUnder 37 = .ok (.isub, 1) := by decide +kernel
theorem dX4_swapWithUnder_38 : decode cX4_swapWithUnder 38 = .ok (.aload_n 0, 1) := by decide +kernel
theorem dX4_swapWithUnder_39 : decode cX4_swapWithUnder 39 = .ok (.getfield 29, 3) := by decide +kernel
theorem dX4_swapWithUnder_42 : decode cX4_swapWithUnder 42 = .ok (.iload_n 1, 1) := by decide +kernel
theorem dX4_swapWithUnder_43 : decode cX4_swapWithUnder 43 = .ok (.iaload, 1) := by decide +kernel
theorem dX4_swapWithUnder_44 : decode cX4_swapWithUnder 44 = .ok (.iastore, 1) := by decide +kernel
theorem dX4_swapWithUnder_45 : decode cX4_swapWithUnder 45 = .ok (.aload_n 0, 1) := by decide +kernel
theorem dX4_swapWithUnder_46 : decode cX4_swapWithUnder 46 = .ok (.getfield 29, 3) := by decide +kernel
theorem dX4_swapWithUnder_49 : decode cX4_swapWithUnder 49 = .ok (.iload_n 1, 1) := by decide +kernel
theorem dX4_swapWithUnder_50 : decode cX4_swapWithUnder 50 = .ok (.iload_n 2, 1) := by decide +kernel
theorem dX4_swapWithUnder_51 : decode cX4_swapWithUnder 51 = .ok (.iastore, 1) := by decide +kernel
theorem dX4_swapWithUnder_52 : decode cX4_swapWithUnder 52 = .ok (.return_, 1) := by decide +kernel
theorem dX5_init_0 : decode cX5_init 0 = .ok (.aload_n 0, 1) := by decide +kernel
theorem dX5_init_1 : decode cX5_init 1 = .ok (.aload_n 1, 1) := by decide +kernel
theorem dX5_init_2 : decode cX5_init 2 = .ok (.aload_n 2, 1) := by decide +kernel
theorem dX5_init_3 : decode cX5_init 3 = .ok (.iload_n 3, 1) := by decide +kernel
theorem dX5_init_4 : decode cX5_init 4 = .ok (.iload 4, 2) := by decide +kernel
theorem dX5_init_6 : decode cX5_init 6 = .ok (.iload 5, 2) := by decide +kernel
theorem dX5_init_8 : decode cX5_init 8 = .ok (.invokespecial 3, 3) := by decide +kernel
theorem dX5_init_11 : decode cX5_init 11 = .ok (.return_, 1) := by decide +kernel
theorem dX5_putAct_0 : decode cX5_putAct 0 = .ok (.aload_n 0, 1) := by decide +kernel
theorem dX5_putAct_1 : decode cX5_putAct 1 = .ok (.getfield 9, 3) := by decide +kernel
theorem dX5_putAct_4 : decode cX5_putAct 4 = .ok (.iconst 0, 1) := by decide +kernel
theorem dX5_putAct_5 : decode cX5_putAct 5 = .ok (.iconst 2, 1) := by decide +kernel
theorem dX5_putAct_6 : decode cX5_putAct 6 = .ok (.invokevirtual 15, 3) := by decide +kernel
theorem dX5_putAct_9 : decode cX5_putAct 9 = .ok (.aload_n 0, 1) := by decide +kernel
theorem dX5_putAct_10 : decode cX5_putAct 10 = .ok (.iload_n 1, 1) := by decide +kernel
theorem dX5_putAct_11 : decode cX5_putAct 11 = .ok (.invokespecial 21, 3) := by decide +kernel
theorem dX5_putAct_14 : decode cX5_putAct 14 = .ok (.istore_n 2, 1) := by decide +kernel
theorem dX5_putAct_15 : decode cX5_putAct 15 = .ok (.iload_n 2, 1) := by decide +kernel
theorem dX5_putAct_16 : decode cX5_putAct 16 = .ok (.iconst 1, 1) := by decide +kernel
theorem dX5_putAct_17 : decode cX5_putAct 17 = .ok (.if_icmp .ne 15, 3) := by decide +kernel
theorem dX5_putAct_20 : decode cX5_putAct 20 = .ok (.aload_n 0, 1) := by decide +kernel
theorem dX5_putAct_21 : decode cX5_putAct 21 = .ok (.aload_n 0, 1) := by decide +kernel
theorem dX5_putAct_22 : decode cX5_putAct 22 = .ok (.getfield 25, 3) := by decide +kernel
theorem dX5_putAct_25 : decode cX5_putAct 25 = .ok (.iload_n 1, 1) := by decide +kernel
theorem dX5_putAct_26 : decode cX5_putAct 26 = .ok (.invokevirtual 29, 3) := by decide +kernel
theorem dX5_putAct_29 : decode cX5_putAct 29 = .ok (.invokevirtual 34, 3) := by decide +kernel
theorem dX5_putAct_32 : decode cX5_putAct 32 = .ok (.iload_n 2, 1) := by decide +kernel
theorem dX5_putAct_33 : decode cX5_putAct 33 = .ok (.ireturn, 1) := by decide +kernel
theorem dX5_sinkTopmost_0 : decode cX5_sinkTopmost 0 = .ok (.aload_n 0, 1) := by decide +kernel
theorem dX5_sinkTopmost_1 : decode cX5_sinkTopmost 1 = .ok (.invokevirtual 38, 3) := by decide +kernel
theorem dX5_sinkTopmost_4 : decode cX5_sinkTopmost 4 = .ok (.iconst 1, 1) := by decide +kernel
theorem dX5_sinkTopmost_5 : decode cX5_sinkTopmost 5 = .ok (.isub, 1) := by decide +kernel
theorem dX5_sinkTopmost_6 : decode cX5_sinkTopmost 6 = .ok (.istore_n 2, 1) := by decide +kernel
theorem dX5_sinkTopmost_7 : decode cX5_sinkTopmost 7 = .ok (.iload_n 2, 1) := by decide +kernel
theorem dX5_sinkTopmost_8 : decode cX5_sinkTopmost 8 = .ok (.ifCond .le 33, 3) := by decide +kernel
theorem dX5_sinkTopmost_11 : decode cX5_sinkTopmost 11 = .ok (.aload_n 0, 1) := by decide +kernel
theorem dX5_sinkTopmost_12 : decode cX5_sinkTopmost 12 = .ok (.getfield 25, 3) := by decide +kernel
theorem dX5_sinkTopmost_15 : decode cX5_sinkTopmost 15 = .ok (.aload_n 0, 1) := by decide +kernel
theorem dX5_sinkTopmost_16 : decode cX5_sinkTopmost 16 = .ok (.iload_n 2, 1) := by decide +kernel
theorem dX5_sinkTopmost_17 : decode cX5_sinkTopmost 17 = .ok (.iconst 1, 1) := by decide +kernel
theorem dX5_sinkTopmost_18 : decode cX5_sinkTopmost 18 = .ok (.isub, 1) := by decide +kernel
theorem dX5_sinkTopmost_19 : decode cX5_sinkTopmost 19 = .ok (.invokevirtual 42, 3) := by decide +kernel
theorem dX5_sinkTopmost_22 : decode cX5_sinkTopmost 22 = .ok (.invokevirtual 29, 3) := by decide +kernel
theorem dX5_sinkTopmost_25 : decode cX5_sinkTopmost 25 = .ok (.iload_n 1, 1) := by decide +kernel
theorem dX5_sinkTopmost_26 : decode cX5_sinkTopmost 26 = .ok (.if_icmp .lt 4, 3) := by decide +kernel
theorem dX5_sinkTopmost_29 : decode cX5_sinkTopmost 29 = .ok (.return_, 1) := by decide +kernel
theorem dX5_sinkTopmost_30 : decode cX5_sinkTopmost 30 = .ok (.aload_n 0, 1) := by decide +kernel
theorem dX5_sinkTopmost_31 : decode cX5_sinkTopmost 31 = .ok (.iload_n 2, 1) := by decide +kernel
theorem dX5_sinkTopmost_32 : decode cX5_sinkTopmost 32 = .ok (.invokevirtual 45, 3) := by decide +kernel
theorem dX5_sinkTopmost_35 : decode cX5_sinkTopmost 35 = .ok (.iinc 2 (-1), 3) := by decide +kernel
theorem dX5_sinkTopmost_38 : decode cX5_sinkTopmost 38 = .ok (.goto (-31), 3) := by decide +kernel
theorem dX5_sinkTopmost_41 : decode cX5_sinkTopmost 41 = .ok (.return_, 1) := by decide +kernel
theorem dX6_init_0 : decode cX6_init 0 = .ok (.aload_n 0, 1) := by decide +kernel
theorem dX6_init_1 : decode cX6_init 1 = .ok (.aload_n 1, 1) := by decide +kernel
theorem dX6_init_2 : decode cX6_init 2 = .ok (.aload_n 2, 1) := by decide +kernel
theorem dX6_init_3 : decode cX6_init 3 = .ok (.iload_n 3, 1) := by decide +kernel
theorem dX6_init_4 : decode cX6_init 4 = .ok (.iload 4, 2) := by decide +kernel
theorem dX6_init_6 : decode cX6_init 6 = .ok (.iload 5, 2) := by decide +kernel
theorem dX6_init_8 : decode cX6_init 8 = .ok (.invokespecial 3, 3) := by decide +kernel
theorem dX6_init_11 : decode cX6_init 11 = .ok (.return_, 1) := by decide +kernel
theorem dX6_putAct_0 : decode cX6_putAct 0 = .ok (.aload_n 0, 1) := by decide +kernel
theorem dX6_putAct_1 : decode cX6_putAct 1 = .ok (.getfield 9, 3) := by decide +kernel
theorem dX6_putAct_4 : decode cX6_putAct 4 = .ok (.iconst 0, 1) := by decide +kernel
theorem dX6_putAct_5 : decode cX6_putAct 5 = .ok (.iconst 3, 1) := by decide +kernel
theorem dX6_putAct_6 : decode cX6_putAct 6 = .ok (.invokevirtual 15, 3) := by decide +kernel
theorem dX6_putAct_9 : decode cX6_putAct 9 = .ok (.aload_n 0, 1) := by decide +kernel
theorem dX6_putAct_10 : decode cX6_putAct 10 = .ok (.invokevirtual 21, 3) := by decide +kernel
theorem dX6_putAct_13 : decode cX6_putAct 13 = .ok (.aload_n 0, 1) := by decide +kernel
theorem dX6_putAct_14 : decode cX6_putAct 14 = .ok (.getfield 25, 3) := by decide +kernel
theorem dX6_putAct_17 : decode cX6_putAct 17 = .ok (.iload_n 1, 1) := by decide +kernel
theorem dX6_putAct_18 : decode cX6_putAct 18 = .ok (.invokevirtual 29, 3) := by decide +kernel
theorem dX6_putAct_21 : decode cX6_putAct 21 = .ok (.iadd, 1) := by decide +kernel
theorem dX6_putAct_22 : decode cX6_putAct 22 = .ok (.aload_n 0, 1) := by decide +kernel
theorem dX6_putAct_23 : decode cX6_putAct 23 = .ok (.getfield 35, 3) := by decide +kernel
theorem dX6_putAct_26 : decode cX6_putAct 26 = .ok (.if_icmp .le 12, 3) := by decide +kernel
theorem dX6_putAct_29 : decode cX6_putAct 29 = .ok (.aload_n 0, 1) := by decide +kernel
theorem dX6_putAct_30 : decode cX6_putAct 30 = .ok (.getfield 9, 3) := by decide +kernel
theorem dX6_putAct_33 : decode cX6_putAct 33 = .ok (.invokevirtual 39, 3) := by decide +kernel
theorem dX6_putAct_36 : decode cX6_putAct 36 = .ok (.iconst 2, 1) := by decide +kernel
theorem dX6_putAct_37 : decode cX6_putAct 37 = .ok (.ireturn, 1) := by decide +kernel
theorem dX6_putAct_38 : decode cX6_putAct 38 = .ok (.aload_n 0, 1) := by decide +kernel
theorem dX6_putAct_39 : decode cX6_putAct 39 = .ok (.iload_n 1, 1) := by decide +kernel
theorem dX6_putAct_40 : decode cX6_putAct 40 = .ok (.invokespecial 43, 3) := by decide +kernel
theorem dX6_putAct_43 : decode cX6_putAct 43 = .ok (.ireturn, 1) := by decide +kernel
theorem dX6_freeAct_0 : decode cX6_freeAct 0 = .ok (.aload_n 0, 1) := by decide +kernel
theorem dX6_freeAct_1 : decode cX6_freeAct 1 = .ok (.getfield 9, 3) := by decide +kernel
theorem dX6_freeAct_4 : decode cX6_freeAct 4 = .ok (.iconst 4, 1) := by decide +kernel
theorem dX6_freeAct_5 : decode cX6_freeAct 5 = .ok (.iconst 3, 1) := by decide +kernel
theorem dX6_freeAct_6 : decode cX6_freeAct 6 = .ok (.invokevirtual 15, 3) := by decide +kernel
theorem dX6_freeAct_9 : decode cX6_freeAct 9 = .ok (.aload_n 0, 1) := by decide +kernel
theorem dX6_freeAct_10 : decode cX6_freeAct 10 = .ok (.invokevirtual 21, 3) := by decide +kernel
theorem dX6_freeAct_13 : decode cX6_freeAct 13 = .ok (.aload_n 0, 1) := by decide +kernel
theorem dX6_freeAct_14 : decode cX6_freeAct 14 = .ok (.getfield 35, 3) := by decide +kernel
theorem dX6_freeAct_17 : decode cX6_freeAct 17 = .ok (.if_icmp .lt 7, 3) := by decide +kernel
theorem dX6_freeAct_20 : decode cX6_freeAct 20 = .ok (.iconst 0, 1) := by decide +kernel
theorem dX6_freeAct_21 : decode cX6_freeAct 21 = .ok (.goto 7, 3) := by decide +kernel
theorem dX6_freeAct_24 : decode cX6_freeAct 24 = .ok (.aload_n 0, 1) := by decide +kernel
theorem dX6_freeAct_25 : decode cX6_freeAct 25 = .ok (.invokespecial 46, 3) := by decide +kernel
theorem dX6_freeAct_28 : decode cX6_freeAct 28 = .ok (.ireturn, 1) := by decide +kernel
theorem dX7_init_0 : decode cX7_init 0 = .ok (.aload_n 0, 1) := by decide +kernel
theorem dX7_init_1 : decode cX7_init 1 = .ok (.invokespecial 3, 3) := by decide +kernel
theorem dX7_init_4 : decode cX7_init 4 = .ok (.aload_n 0, 1) := by decide +kernel
theorem dX7_init_5 : decode cX7_init 5 = .ok (.bipush 60, 2) := by decide +kernel
theorem dX7_init_7 : decode cX7_init 7 = .ok (.newarray .int, 2) := by decide +kernel
theorem dX7_init_9 : decode cX7_init 9 = .ok (.putfield 9, 3) := by decide +kernel
theorem dX7_init_12 : decode cX7_init 12 = .ok (.aload_n 0, 1) := by decide +kernel
theorem dX7_init_13 : decode cX7_init 13 = .ok (.bipush 60, 2) := by decide +kernel
theorem dX7_init_15 : decode cX7_init 15 = .ok (.newarray .int, 2) := by decide +kernel
theorem dX7_init_17 : decode cX7_init 17 = .ok (.putfield 15, 3) := by decide +kernel
theorem dX7_init_20 : decode cX7_init 20 = .ok (.aload_n 0, 1) := by decide +kernel
theorem dX7_init_21 : decode cX7_init 21 = .ok (.bipush 60, 2) := by decide +kernel
theorem dX7_init_23 : decode cX7_init 23 = .ok (.newarray .boolean, 2) := by decide +kernel
theorem dX7_init_25 : decode cX7_init 25 = .ok (.putfield 18, 3) := by decide +kernel
theorem dX7_init_28 : decode cX7_init 28 = .ok (.aload_n 0, 1) := by decide +kernel
theorem dX7_init_29 : decode cX7_init 29 = .ok (.bipush 60, 2) := by decide +kernel
theorem dX7_init_31 : decode cX7_init 31 = .ok (.newarray .int, 2) := by decide +kernel
theorem dX7_init_33 : decode cX7_init 33 = .ok (.putfield 22, 3) := by decide +kernel
theorem dX7_init_36 : decode cX7_init 36 = .ok (.return_, 1) := by decide +kernel
theorem dX7_add_0 : decode cX7_add 0 = .ok (.aload_n 0, 1) := by decide +kernel
theorem dX7_add_1 : decode cX7_add 1 = .ok (.getfield 25, 3) := by decide +kernel
theorem dX7_add_4 : decode cX7_add 4 = .ok (.ifCond .lt 12, 3) := by decide +kernel
theorem dX7_add_7 : decode cX7_add 7 = .ok (.aload_n 0, 1) := by decide +kernel
theorem dX7_add_8 : decode cX7_add 8 = .ok (.getfield 25, 3) := by decide +kernel
theorem dX7_add_11 : decode cX7_add 11 = .ok (.bipush 60, 2) := by decide +kernel
theorem dX7_add_13 : decode cX7_add 13 = .ok (.if_icmp .lt 6, 3) := by decide +kernel
theorem dX7_add_16 : decode cX7_add 16 = .ok (.bipush (-104), 2) := by decide +kernel
theorem dX7_add_18 : decode cX7_add 18 = .ok (.ireturn, 1) := by decide +kernel
theorem dX7_add_19 : decode cX7_add 19 = .ok (.aload_n 0, 1) := by decide +kernel
theorem dX7_add_20 : decode cX7_add 20 = .ok (.getfield 25, 3) := by decide +kernel
theorem dX7_add_23 : decode cX7_add 23 = .ok (.istore 4, 2) := by decide +kernel
theorem dX7_add_25 : decode cX7_add 25 = .ok (.aload_n 0, 1) := by decide +kernel
theorem dX7_add_26 : decode cX7_add 26 = .ok (.getfield 9, 3) := by decide +kernel
theorem dX7_add_29 : decode cX7_add 29 = .ok (.iload 4, 2) := by decide +kernel
theorem dX7_add_31 : decode cX7_add 31 = .ok (.iload_n 1, 1) := by decide +kernel
theorem dX7_add_32 : decode cX7_add 32 = .ok (.iastore, 1) := by decide +kernel
theorem dX7_add_33 : decode cX7_add 33 = .ok (.aload_n 0, 1) := by decide +kernel
theorem dX7_add_34 : decode cX7_add 34 = .ok (.getfield 15, 3) := by decide +kernel
theorem dX7_add_37 : decode cX7_add 37 = .ok (.iload 4, 2) := by decide +kernel
theorem dX7_add_39 : decode cX7_add 39 = .ok (.iload_n 2, 1) := by decide +kernel
theorem dX7_add_40 : decode cX7_add 40 = .ok (.iastore, 1) := by decide +kernel
theorem dX7_add_41 : decode cX7_add 41 = .ok (.aload_n 0, 1) := by decide +kernel
theorem dX7_add_42 : decode cX7_add 42 = .ok (.getfield 18, 3) := by decide +kernel
theorem dX7_add_45 : decode cX7_add 45 = .ok (.iload 4, 2) := by decide +kernel
theorem dX7_add_47 : decode cX7_add 47 = .ok (.iload_n 3, 1) := by decide +kernel
theorem dX7_add_48 : decode cX7_add 48 = .ok (.bastore, 1) := by decide +kernel
theorem dX7_add_49 : decode cX7_add 49 = .ok (.aload_n 0, 1) := by decide +kernel
theorem dX7_add_50 : decode cX7_add 50 = .ok (.getfield 22, 3) := by decide +kernel
theorem dX7_add_53 : decode cX7_add 53 = .ok (.iload 4, 2) := by decide +kernel
theorem dX7_add_55 : decode cX7_add 55 = .ok (.iconst (-1), 1) := by decide +kernel
theorem dX7_add_56 : decode cX7_add 56 = .ok (.iastore, 1) := by decide +kernel
theorem dX7_add_57 : decode cX7_add 57 = .ok (.aload_n 0, 1) := by decide +kernel
theorem dX7_add_58 : decode cX7_add 58 = .ok (.dup, 1) := by decide +kernel
theorem dX7_add_59 : decode cX7_add 59 = .ok (.getfield 25, 3) := by decide +kernel
theorem dX7_add_62 : decode cX7_add 62 = .ok (.iconst 1, 1) := by decide +kernel
theorem dX7_add_63 : decode cX7_add 63 = .ok (.iadd, 1) := by decide +kernel
theorem dX7_add_64 : decode cX7_add 64 = .ok (.putfield 25, 3) := by decide +kernel
theorem dX7_add_67 : decode cX7_add 67 = .ok (.iload 4, 2) := by decide +kernel
theorem dX7_add_69 : decode cX7_add 69 = .ok (.ireturn, 1) := by decide +kernel
theorem dX7_has_0 : decode cX7_has 0 = .ok (.iload_n 1, 1) := by decide +kernel
theorem dX7_has_1 : decode cX7_has 1 = .ok (.ifCond .lt 21, 3) := by decide +kernel
theorem dX7_has_4 : decode cX7_has 4 = .ok (.iload_n 1, 1) := by decide +kernel
theorem dX7_has_5 : decode cX7_has 5 = .ok (.aload_n 0, 1) := by decide +kernel
theorem dX7_has_6 : decode cX7_has 6 = .ok (.getfield 25, 3) := by decide +kernel
theorem dX7_has_9 : decode cX7_has 9 = .ok (.if_icmp .ge 13, 3) := by decide +kernel
theorem dX7_has_12 : decode cX7_has 12 = .ok (.iload_n 1, 1) := by decide +kernel
theorem dX7_has_13 : decode cX7_has 13 = .ok (.bipush 60, 2) := by decide +kernel
theorem dX7_has_15 : decode cX7_has 15 = .ok (.if_icmp .ge 7, 3) := by decide +kernel
theorem dX7_has_18 : decode cX7_has 18 = .ok (.iconst 1, 1) := by decide +kernel
theorem dX7_has_19 : decode cX7_has 19 = .ok (.goto 4, 3) := by decide +kernel
theorem dX7_has_22 : decode cX7_has 22 = .ok (.iconst 0, 1) := by decide +kernel
theorem dX7_has_23 : decode cX7_has 23 = .ok (.ireturn, 1) := by decide +kernel
theorem dX7_howMany_0 : decode cX7_howMany 0 = .ok (.aload_n 0, 1) := by decide +kernel
theorem dX7_howMany_1 : decode cX7_howMany 1 = .ok (.getfield 25, 3) := by decide +kernel
theorem dX7_howMany_4 : decode cX7_howMany 4 = .ok (.ireturn, 1) := by decide +kernel
theorem dX7_lengthOf_0 : decode cX7_lengthOf 0 = .ok (.aload_n 0, 1) := by decide +kernel
theorem dX7_lengthOf_1 : decode cX7_lengthOf 1 = .ok (.iload_n 1, 1) := by decide +kernel
theorem dX7_lengthOf_2 : decode cX7_lengthOf 2 = .ok (.invokevirtual 29, 3) := by decide +kernel
theorem dX7_lengthOf_5 : decode cX7_lengthOf 5 = .ok (.ifCond .eq 12, 3) := by decide +kernel
theorem dX7_lengthOf_8 : decode cX7_lengthOf 8 = .ok (.aload_n 0, 1) := by decide +kernel
theorem dX7_lengthOf_9 : decode cX7_lengthOf 9 = .ok (.getfield 9, 3) := by decide +kernel
theorem dX7_lengthOf_12 : decode cX7_lengthOf 12 = .ok (.iload_n 1, 1) := by decide +kernel
theorem dX7_lengthOf_13 : decode cX7_lengthOf 13 = .ok (.iaload, 1) := by decide +kernel
theorem dX7_lengthOf_14 : decode cX7_lengthOf 14 = .ok (.goto 4, 3) := by decide +kernel
theorem dX7_lengthOf_17 : decode cX7_lengthOf 17 = .ok (.iconst 0, 1) := by decide +kernel
theorem dX7_lengthOf_18 : decode cX7_lengthOf 18 = .ok (.ireturn, 1) := by decide +kernel
theorem dX7_weightOf_0 : decode cX7_weightOf 0 = .ok (.aload_n 0, 1) := by decide +kernel
theorem dX7_weightOf_1 : decode cX7_weightOf 1 = .ok (.iload_n 1, 1) := by decide +kernel
theorem dX7_weightOf_2 : decode cX7_weightOf 2 = .ok (.invokevirtual 29, 3) := by decide +kernel
theorem dX7_weightOf_5 : decode cX7_weightOf 5 = .ok (.ifCond .eq 12, 3) := by decide +kernel
theorem dX7_weightOf_8 : decode cX7_weightOf 8 = .ok (.aload_n 0, 1) := by decide +kernel
theorem dX7_weightOf_9 : decode cX7_weightOf 9 = .ok (.getfield 15, 3) := by decide +kernel
theorem dX7_weightOf_12 : decode cX7_weightOf 12 = .ok (.iload_n 1, 1) := by decide +kernel
theorem dX7_weightOf_13 : decode cX7_weightOf 13 = .ok (.iaload, 1) := by decide +kernel
theorem dX7_weightOf_14 : decode cX7_weightOf 14 = .ok (.goto 4, 3) := by decide +kernel
theorem dX7_weightOf_17 : decode cX7_weightOf 17 = .ok (.iconst 0, 1) := by decide +kernel
theorem dX7_weightOf_18 : decode cX7_weightOf 18 = .ok (.ireturn, 1) := by decide +kernel
theorem dX7_isWet_0 : decode cX7_isWet 0 = .ok (.aload_n 0, 1) := by decide +kernel
theorem dX7_isWet_1 : decode cX7_isWet 1 = .ok (.iload_n 1, 1) := by decide +kernel
theorem dX7_isWet_2 : decode cX7_isWet 2 = .ok (.invokevirtual 29, 3) := by decide +kernel
theorem dX7_isWet_5 : decode cX7_isWet 5 = .ok (.ifCond .eq 16, 3) := by decide +kernel
theorem dX7_isWet_8 : decode cX7_isWet 8 = .ok (.aload_n 0, 1) := by decide +kernel
theorem dX7_isWet_9 : decode cX7_isWet 9 = .ok (.getfield 18, 3) := by decide +kernel
theorem dX7_isWet_12 : decode cX7_isWet 12 = .ok (.iload_n 1, 1) := by decide +kernel
theorem dX7_isWet_13 : decode cX7_isWet 13 = .ok (.baload, 1) := by decide +kernel
theorem dX7_isWet_14 : decode cX7_isWet 14 = .ok (.ifCond .eq 7, 3) := by decide +kernel
theorem dX7_isWet_17 : decode cX7_isWet 17 = .ok (.iconst 1, 1) := by decide +kernel
theorem dX7_isWet_18 : decode cX7_isWet 18 = .ok (.goto 4, 3) := by decide +kernel
theorem dX7_isWet_21 : decode cX7_isWet 21 = .ok (.iconst 0, 1) := by decide +kernel
theorem dX7_isWet_22 : decode cX7_isWet 22 = .ok (.ireturn, 1) := by decide +kernel
theorem dX7_pileOf_0 : decode cX7_pileOf 0 = .ok (.aload_n 0, 1) := by decide +kernel
theorem dX7_pileOf_1 : decode cX7_pileOf 1 = .ok (.iload_n 1, 1) := by decide +kernel
theorem dX7_pileOf_2 : decode cX7_pileOf 2 = .ok (.invokevirtual 29, 3) := by decide +kernel
theorem dX7_pileOf_5 : decode cX7_pileOf 5 = .ok (.ifCond .eq 12, 3) := by decide +kernel
theorem dX7_pileOf_8 : decode cX7_pileOf 8 = .ok (.aload_n 0, 1) := by decide +kernel
theorem dX7_pileOf_9 : decode cX7_pileOf 9 = .ok (.getfield 22, 3) := by decide +kernel
theorem dX7_pileOf_12 : decode cX7_pileOf 12 = .ok (.iload_n 1, 1) := by decide +kernel
theorem dX7_pileOf_13 : decode cX7_pileOf 13 = .ok (.iaload, 1) := by decide +kernel
theorem dX7_pileOf_14 : decode cX7_pileOf 14 = .ok (.goto 4, 3) := by decide +kernel
theorem dX7_pileOf_17 : decode cX7_pileOf 17 = .ok (.iconst (-1), 1) := by decide +kernel
theorem dX7_pileOf_18 : decode cX7_pileOf 18 = .ok (.ireturn, 1) := by decide +kernel
theorem dX7_setWet_0 : decode cX7_setWet 0 = .ok (.aload_n 0, 1) := by decide +kernel
theorem dX7_setWet_1 : decode cX7_setWet 1 = .ok (.iload_n 1, 1) := by decide +kernel
theorem dX7_setWet_2 : decode cX7_setWet 2 = .ok (.invokevirtual 29, 3) := by decide +kernel
theorem dX7_setWet_5 : decode cX7_setWet 5 = .ok (.ifCond .eq 10, 3) := by decide +kernel
theorem dX7_setWet_8 : decode cX7_setWet 8 = .ok (.aload_n 0, 1) := by decide +kernel
theorem dX7_setWet_9 : decode cX7_setWet 9 = .ok (.getfield 18, 3) := by decide +kernel
theorem dX7_setWet_12 : decode cX7_setWet 12 = .ok (.iload_n 1, 1) := by decide +kernel
theorem dX7_setWet_13 : decode cX7_setWet 13 = .ok (.iload_n 2, 1) := by decide +kernel
theorem dX7_setWet_14 : decode cX7_setWet 14 = .ok (.bastore, 1) := by decide +kernel
theorem dX7_setWet_15 : decode cX7_setWet 15 = .ok (.return_, 1) := by decide +kernel
theorem dX7_lighten_0 : decode cX7_lighten 0 = .ok (.aload_n 0, 1) := by decide +kernel
theorem dX7_lighten_1 : decode cX7_lighten 1 = .ok (.iload_n 1, 1) := by decide +kernel
theorem dX7_lighten_2 : decode cX7_lighten 2 = .ok (.invokevirtual 29, 3) := by decide +kernel
theorem dX7_lighten_5 : decode cX7_lighten 5 = .ok (.ifCond .eq 21, 3) := by decide +kernel
theorem dX7_lighten_8 : decode cX7_lighten 8 = .ok (.aload_n 0, 1) := by decide +kernel
theorem dX7_lighten_9 : decode cX7_lighten 9 = .ok (.getfield 15, 3) := by decide +kernel
theorem dX7_lighten_12 : decode cX7_lighten 12 = .ok (.iload_n 1, 1) := by decide +kernel
theorem dX7_lighten_13 : decode cX7_lighten 13 = .ok (.iconst 1, 1) := by decide +kernel
theorem dX7_lighten_14 : decode cX7_lighten 14 = .ok (.aload_n 0, 1) := by decide +kernel
theorem dX7_lighten_15 : decode cX7_lighten 15 = .ok (.getfield 15, 3) := by decide +kernel
theorem dX7_lighten_18 : decode cX7_lighten 18 = .ok (.iload_n 1, 1) := by decide +kernel
theorem dX7_lighten_19 : decode cX7_lighten 19 = .ok (.iaload, 1) := by decide +kernel
theorem dX7_lighten_20 : decode cX7_lighten 20 = .ok (.iconst 1, 1) := by decide +kernel
theorem dX7_lighten_21 : decode cX7_lighten 21 = .ok (.isub, 1) := by decide +kernel
theorem dX7_lighten_22 : decode cX7_lighten 22 = .ok (.invokestatic 33, 3) := by decide +kernel
theorem dX7_lighten_25 : decode cX7_lighten 25 = .ok (.iastore, 1) := by decide +kernel
theorem dX7_lighten_26 : decode cX7_lighten 26 = .ok (.return_, 1) := by decide +kernel
theorem dX7_setPile_0 : decode cX7_setPile 0 = .ok (.aload_n 0, 1) := by decide +kernel
theorem dX7_setPile_1 : decode cX7_setPile 1 = .ok (.iload_n 1, 1) := by decide +kernel
theorem dX7_setPile_2 : decode cX7_setPile 2 = .ok (.invokevirtual 29, 3) := by decide +kernel
theorem dX7_setPile_5 : decode cX7_setPile 5 = .ok (.ifCond .eq 10, 3) := by decide +kernel
theorem dX7_setPile_8 : decode cX7_setPile 8 = .ok (.aload_n 0, 1) := by decide +kernel
theorem dX7_setPile_9 : decode cX7_setPile 9 = .ok (.getfield 22, 3) := by decide +kernel
theorem dX7_setPile_12 : decode cX7_setPile 12 = .ok (.iload_n 1, 1) := by decide +kernel
theorem dX7_setPile_13 : decode cX7_setPile 13 = .ok (.iload_n 2, 1) := by decide +kernel
theorem dX7_setPile_14 : decode cX7_setPile 14 = .ok (.iastore, 1) := by decide +kernel
theorem dX7_setPile_15 : decode cX7_setPile 15 = .ok (.return_, 1) := by decide +kernel
theorem dX8_init_0 : decode cX8_init 0 = .ok (.aload_n 0, 1) := by decide +kernel
theorem dX8_init_1 : decode cX8_init 1 = .ok (.invokespecial 3, 3) := by decide +kernel
theorem dX8_init_4 : decode cX8_init 4 = .ok (.aload_n 0, 1) := by decide +kernel
theorem dX8_init_5 : decode cX8_init 5 = .ok (.sipush 200, 3) := by decide +kernel
theorem dX8_init_8 : decode cX8_init 8 = .ok (.newarray .int, 2) := by decide +kernel
theorem dX8_init_10 : decode cX8_init 10 = .ok (.putfield 9, 3) := by decide +kernel
theorem dX8_init_13 : decode cX8_init 13 = .ok (.return_, 1) := by decide +kernel
theorem dX8_begin_0 : decode cX8_begin 0 = .ok (.aload_n 0, 1) := by decide +kernel
theorem dX8_begin_1 : decode cX8_begin 1 = .ok (.getfield 15, 3) := by decide +kernel
theorem dX8_begin_4 : decode cX8_begin 4 = .ok (.ifCond .lt 15, 3) := by decide +kernel
theorem dX8_begin_7 : decode cX8_begin 7 = .ok (.aload_n 0, 1) := by decide +kernel
theorem dX8_begin_8 : decode cX8_begin 8 = .ok (.getfield 15, 3) := by decide +kernel
theorem dX8_begin_11 : decode cX8_begin 11 = .ok (.aload_n 0, 1) := by decide +kernel
theorem dX8_begin_12 : decode cX8_begin 12 = .ok (.getfield 9, 3) := by decide +kernel
theorem dX8_begin_15 : decode cX8_begin 15 = .ok (.arraylength, 1) := by decide +kernel
theorem dX8_begin_16 : decode cX8_begin 16 = .ok (.if_icmp .lt 8, 3) := by decide +kernel
theorem dX8_begin_19 : decode cX8_begin 19 = .ok (.aload_n 0, 1) := by decide +kernel
theorem dX8_begin_20 : decode cX8_begin 20 = .ok (.iconst 0, 1) := by decide +kernel
theorem dX8_begin_21 : decode cX8_begin 21 = .ok (.putfield 15, 3) := by decide +kernel
theorem dX8_begin_24 : decode cX8_begin 24 = .ok (.aload_n 0, 1) := by decide +kernel
theorem dX8_begin_25 : decode cX8_begin 25 = .ok (.getfield 9, 3) := by decide +kernel
theorem dX8_begin_28 : decode cX8_begin 28 = .ok (.aload_n 0, 1) := by decide +kernel
theorem dX8_begin_29 : decode cX8_begin 29 = .ok (.getfield 15, 3) := by decide +kernel
theorem dX8_begin_32 : decode cX8_begin 32 = .ok (.bipush 10, 2) := by decide +kernel
theorem dX8_begin_34 : decode cX8_begin 34 = .ok (.iload_n 1, 1) := by decide +kernel
theorem dX8_begin_35 : decode cX8_begin 35 = .ok (.imul, 1) := by decide +kernel
theorem dX8_begin_36 : decode cX8_begin 36 = .ok (.iload_n 2, 1) := by decide +kernel
theorem dX8_begin_37 : decode cX8_begin 37 = .ok (.iadd, 1) := by decide +kernel
theorem dX8_begin_38 : decode cX8_begin 38 = .ok (.iastore, 1) := by decide +kernel
theorem dX8_begin_39 : decode cX8_begin 39 = .ok (.aload_n 0, 1) := by decide +kernel
theorem dX8_begin_40 : decode cX8_begin 40 = .ok (.dup, 1) := by decide +kernel
theorem dX8_begin_41 : decode cX8_begin 41 = .ok (.getfield 15, 3) := by decide +kernel
theorem dX8_begin_44 : decode cX8_begin 44 = .ok (.iconst 1, 1) := by decide +kernel
theorem dX8_begin_45 : decode cX8_begin 45 = .ok (.iadd, 1) := by decide +kernel
theorem dX8_begin_46 : decode cX8_begin 46 = .ok (.putfield 15, 3) := by decide +kernel
theorem dX8_begin_49 : decode cX8_begin 49 = .ok (.aload_n 0, 1) := by decide +kernel
theorem dX8_begin_50 : decode cX8_begin 50 = .ok (.aload_n 0, 1) := by decide +kernel
theorem dX8_begin_51 : decode cX8_begin 51 = .ok (.getfield 19, 3) := by decide +kernel
theorem dX8_begin_54 : decode cX8_begin 54 = .ok (.iconst 1, 1) := by decide +kernel
theorem dX8_begin_55 : decode cX8_begin 55 = .ok (.iadd, 1) := by decide +kernel
theorem dX8_begin_56 : decode cX8_begin 56 = .ok (.aload_n 0, 1) := by decide +kernel
theorem dX8_begin_57 : decode cX8_begin 57 = .ok (.getfield 9, 3) := by decide +kernel
theorem dX8_begin_60 : decode cX8_begin 60 = .ok (.arraylength, 1) := by decide +kernel
theorem dX8_begin_61 : decode cX8_begin 61 = .ok (.invokestatic 22, 3) := by decide +kernel
theorem dX8_begin_64 : decode cX8_begin 64 = .ok (.putfield 19, 3) := by decide +kernel
theorem dX8_begin_67 : decode cX8_begin 67 = .ok (.aload_n 0, 1) := by decide +kernel
theorem dX8_begin_68 : decode cX8_begin 68 = .ok (.dup, 1) := by decide +kernel
theorem dX8_begin_69 : decode cX8_begin 69 = .ok (.getfield 28, 3) := by decide +kernel
theorem dX8_begin_72 : decode cX8_begin 72 = .ok (.iconst 1, 1) := by decide +kernel
theorem dX8_begin_73 : decode cX8_begin 73 = .ok (.iadd, 1) := by decide +kernel
theorem dX8_begin_74 : decode cX8_begin 74 = .ok (.putfield 28, 3) := by decide +kernel
theorem dX8_begin_77 : decode cX8_begin 77 = .ok (.return_, 1) := by decide +kernel
theorem dX8_latest_0 : decode cX8_latest 0 = .ok (.iload_n 1, 1) := by decide +kernel
theorem dX8_latest_1 : decode cX8_latest 1 = .ok (.ifCond .lt 11, 3) := by decide +kernel
theorem dX8_latest_4 : decode cX8_latest 4 = .ok (.iload_n 1, 1) := by decide +kernel
theorem dX8_latest_5 : decode cX8_latest 5 = .ok (.aload_n 0, 1) := by decide +kernel
theorem dX8_latest_6 : decode cX8_latest 6 = .ok (.getfield 19, 3) := by decide +kernel
theorem dX8_latest_9 : decode cX8_latest 9 = .ok (.if_icmp .lt 6, 3) := by decide +kernel
theorem dX8_latest_12 : decode cX8_latest 12 = .ok (.bipush (-101), 2) := by decide +kernel
theorem dX8_latest_14 : decode cX8_latest 14 = .ok (.ireturn, 1) := by decide +kernel
theorem dX8_latest_15 : decode cX8_latest 15 = .ok (.aload_n 0, 1) := by decide +kernel
theorem dX8_latest_16 : decode cX8_latest 16 = .ok (.getfield 15, 3) := by decide +kernel
theorem dX8_latest_19 : decode cX8_latest 19 = .ok (.iconst 1, 1) := by decide +kernel
theorem dX8_latest_20 : decode cX8_latest 20 = .ok (.isub, 1) := by decide +kernel
theorem dX8_latest_21 : decode cX8_latest 21 = .ok (.iload_n 1, 1) := by decide +kernel
theorem dX8_latest_22 : decode cX8_latest 22 = .ok (.isub, 1) := by decide +kernel
theorem dX8_latest_23 : decode cX8_latest 23 = .ok (.istore_n 2, 1) := by decide +kernel
theorem dX8_latest_24 : decode cX8_latest 24 = .ok (.iload_n 2, 1) := by decide +kernel
theorem dX8_latest_25 : decode cX8_latest 25 = .ok (.ifCond .ge 11, 3) := by decide +kernel
theorem dX8_latest_28 : decode cX8_latest 28 = .ok (.iload_n 2, 1) := by decide +kernel
theorem dX8_latest_29 : decode cX8_latest 29 = .ok (.aload_n 0, 1) := by decide +kernel
theorem dX8_latest_30 : decode cX8_latest 30 = .ok (.getfield 9, 3) := by decide +kernel
theorem dX8_latest_33 : decode cX8_latest 33 = .ok (.arraylength, 1) := by decide +kernel
theorem dX8_latest_34 : decode cX8_latest 34 = .ok (.iadd, 1) := by decide +kernel
theorem dX8_latest_35 : decode cX8_latest 35 = .ok (.istore_n 2, 1) := by decide +kernel
theorem dX8_latest_36 : decode cX8_latest 36 = .ok (.iload_n 2, 1) := by decide +kernel
theorem dX8_latest_37 : decode cX8_latest 37 = .ok (.ifCond .lt 21, 3) := by decide +kernel
theorem dX8_latest_40 : decode cX8_latest 40 = .ok (.iload_n 2, 1) := by decide +kernel
theorem dX8_latest_41 : decode cX8_latest 41 = .ok (.aload_n 0, 1) := by decide +kernel
theorem dX8_latest_42 : decode cX8_latest 42 = .ok (.getfield 9, 3) := by decide +kernel
theorem dX8_latest_45 : decode cX8_latest 45 = .ok (.arraylength, 1) := by decide +kernel
theorem dX8_latest_46 : decode cX8_latest 46 = .ok (.if_icmp .ge 12, 3) := by decide +kernel
theorem dX8_latest_49 : decode cX8_latest 49 = .ok (.aload_n 0, 1) := by decide +kernel
theorem dX8_latest_50 : decode cX8_latest 50 = .ok (.getfield 9, 3) := by decide +kernel
theorem dX8_latest_53 : decode cX8_latest 53 = .ok (.iload_n 2, 1) := by decide +kernel
theorem dX8_latest_54 : decode cX8_latest 54 = .ok (.iaload, 1) := by decide +kernel
theorem dX8_latest_55 : decode cX8_latest 55 = .ok (.goto 5, 3) := by decide +kernel
theorem dX8_latest_58 : decode cX8_latest 58 = .ok (.bipush (-101), 2) := by decide +kernel
theorem dX8_latest_60 : decode cX8_latest 60 = .ok (.ireturn, 1) := by decide +kernel
theorem dX8_countHeavy_0 : decode cX8_countHeavy 0 = .ok (.aload_n 0, 1) := by decide +kernel
theorem dX8_countHeavy_1 : decode cX8_countHeavy 1 = .ok (.dup, 1) := by decide +kernel
theorem dX8_countHeavy_2 : decode cX8_countHeavy 2 = .ok (.getfield 31, 3) := by decide +kernel
theorem dX8_countHeavy_5 : decode cX8_countHeavy 5 = .ok (.iconst 1, 1) := by decide +kernel
theorem dX8_countHeavy_6 : decode cX8_countHeavy 6 = .ok (.iadd, 1) := by decide +kernel
theorem dX8_countHeavy_7 : decode cX8_countHeavy 7 = .ok (.putfield 31, 3) := by decide +kernel
theorem dX8_countHeavy_10 : decode cX8_countHeavy 10 = .ok (.return_, 1) := by decide +kernel
theorem dX8_countNothing_0 : decode cX8_countNothing 0 = .ok (.aload_n 0, 1) := by decide +kernel
theorem dX8_countNothing_1 : decode cX8_countNothing 1 = .ok (.dup, 1) := by decide +kernel
theorem dX8_countNothing_2 : decode cX8_countNothing 2 = .ok (.getfield 34, 3) := by decide +kernel
theorem dX8_countNothing_5 : decode cX8_countNothing 5 = .ok (.iconst 1, 1) := by decide +kernel
theorem dX8_countNothing_6 : decode cX8_countNothing 6 = .ok (.iadd, 1) := by decide +kernel
theorem dX8_countNothing_7 : decode cX8_countNothing 7 = .ok (.putfield 34, 3) := by decide +kernel
theorem dX8_countNothing_10 : decode cX8_countNothing 10 = .ok (.return_, 1) := by decide +kernel
theorem dX8_rulesEver_0 : decode cX8_rulesEver 0 = .ok (.aload_n 0, 1) := by decide +kernel
theorem dX8_rulesEver_1 : decode cX8_rulesEver 1 = .ok (.getfield 28, 3) := by decide +kernel
theorem dX8_rulesEver_4 : decode cX8_rulesEver 4 = .ok (.ireturn, 1) := by decide +kernel
theorem dX8_heavyEver_0 : decode cX8_heavyEver 0 = .ok (.aload_n 0, 1) := by decide +kernel
theorem dX8_heavyEver_1 : decode cX8_heavyEver 1 = .ok (.getfield 31, 3) := by decide +kernel
theorem dX8_heavyEver_4 : decode cX8_heavyEver 4 = .ok (.ireturn, 1) := by decide +kernel
theorem dX8_nothingEver_0 : decode cX8_nothingEver 0 = .ok (.aload_n 0, 1) := by decide +kernel
theorem dX8_nothingEver_1 : decode cX8_nothingEver 1 = .ok (.getfield 34, 3) := by decide +kernel
theorem dX8_nothingEver_4 : decode cX8_nothingEver 4 = .ok (.ireturn, 1) := by decide +kernel
theorem dX9_init_0 : decode cX9_init 0 = .ok (.aload_n 0, 1) := by decide +kernel
theorem dX9_init_1 : decode cX9_init 1 = .ok (.aload_n 1, 1) := by decide +kernel
theorem dX9_init_2 : decode cX9_init 2 = .ok (.aload_n 2, 1) := by decide +kernel
theorem dX9_init_3 : decode cX9_init 3 = .ok (.iload_n 3, 1) := by decide +kernel
theorem dX9_init_4 : decode cX9_init 4 = .ok (.iload 4, 2) := by decide +kernel
theorem dX9_init_6 : decode cX9_init 6 = .ok (.iload 5, 2) := by decide +kernel
theorem dX9_init_8 : decode cX9_init 8 = .ok (.invokespecial 3, 3) := by decide +kernel
theorem dX9_init_11 : decode cX9_init 11 = .ok (.return_, 1) := by decide +kernel
theorem dX9_loadAct_0 : decode cX9_loadAct 0 = .ok (.aload_n 0, 1) := by decide +kernel
theorem dX9_loadAct_1 : decode cX9_loadAct 1 = .ok (.getfield 9, 3) := by decide +kernel
theorem dX9_loadAct_4 : decode cX9_loadAct 4 = .ok (.iconst 2, 1) := by decide +kernel
theorem dX9_loadAct_5 : decode cX9_loadAct 5 = .ok (.iconst 5, 1) := by decide +kernel
theorem dX9_loadAct_6 : decode cX9_loadAct 6 = .ok (.invokevirtual 15, 3) := by decide +kernel
theorem dX9_loadAct_9 : decode cX9_loadAct 9 = .ok (.iconst 2, 1) := by decide +kernel
theorem dX9_loadAct_10 : decode cX9_loadAct 10 = .ok (.aload_n 0, 1) := by decide +kernel
theorem dX9_loadAct_11 : decode cX9_loadAct 11 = .ok (.invokespecial 21, 3) := by decide +kernel
theorem dX9_loadAct_14 : decode cX9_loadAct 14 = .ok (.imul, 1) := by decide +kernel
theorem dX9_loadAct_15 : decode cX9_loadAct 15 = .ok (.ireturn, 1) := by decide +kernel
theorem dX9_searchAct_0 : decode cX9_searchAct 0 = .ok (.aload_n 0, 1) := by decide +kernel
theorem dX9_searchAct_1 : decode cX9_searchAct 1 = .ok (.getfield 9, 3) := by decide +kernel
theorem dX9_searchAct_4 : decode cX9_searchAct 4 = .ok (.iconst 3, 1) := by decide +kernel
theorem dX9_searchAct_5 : decode cX9_searchAct 5 = .ok (.iconst 5, 1) := by decide +kernel
theorem dX9_searchAct_6 : decode cX9_searchAct 6 = .ok (.invokevirtual 15, 3) := by decide +kernel
theorem dX9_searchAct_9 : decode cX9_searchAct 9 = .ok (.aload_n 0, 1) := by decide +kernel
theorem dX9_searchAct_10 : decode cX9_searchAct 10 = .ok (.iload_n 1, 1) := by decide +kernel
theorem dX9_searchAct_11 : decode cX9_searchAct 11 = .ok (.invokespecial 25, 3) := by decide +kernel
theorem dX9_searchAct_14 : decode cX9_searchAct 14 = .ok (.istore_n 2, 1) := by decide +kernel
theorem dX9_searchAct_15 : decode cX9_searchAct 15 = .ok (.iload_n 2, 1) := by decide +kernel
theorem dX9_searchAct_16 : decode cX9_searchAct 16 = .ok (.iconst (-1), 1) := by decide +kernel
theorem dX9_searchAct_17 : decode cX9_searchAct 17 = .ok (.if_icmp .ne 13, 3) := by decide +kernel
theorem dX9_searchAct_20 : decode cX9_searchAct 20 = .ok (.aload_n 0, 1) := by decide +kernel
theorem dX9_searchAct_21 : decode cX9_searchAct 21 = .ok (.iload_n 1, 1) := by decide +kernel
theorem dX9_searchAct_22 : decode cX9_searchAct 22 = .ok (.iconst 2, 1) := by decide +kernel
theorem dX9_searchAct_23 : decode cX9_searchAct 23 = .ok (.idiv, 1) := by decide +kernel
theorem dX9_searchAct_24 : decode cX9_searchAct 24 = .ok (.invokespecial 25, 3) := by decide +kernel
theorem dX9_searchAct_27 : decode cX9_searchAct 27 = .ok (.goto 4, 3) := by decide +kernel
theorem dX9_searchAct_30 : decode cX9_searchAct 30 = .ok (.iload_n 2, 1) := by decide +kernel
theorem dX9_searchAct_31 : decode cX9_searchAct 31 = .ok (.ireturn, 1) := by decide +kernel
theorem dX10_init_0 : decode cX10_init 0 = .ok (.aload_n 0, 1) := by decide +kernel
theorem dX10_init_1 : decode cX10_init 1 = .ok (.invokespecial 1, 3) := by decide +kernel
theorem dX10_init_4 : decode cX10_init 4 = .ok (.aload_n 0, 1) := by decide +kernel
theorem dX10_init_5 : decode cX10_init 5 = .ok (.new 7, 3) := by decide +kernel
theorem dX10_init_8 : decode cX10_init 8 = .ok (.dup, 1) := by decide +kernel
theorem dX10_init_9 : decode cX10_init 9 = .ok (.invokespecial 9, 3) := by decide +kernel
theorem dX10_init_12 : decode cX10_init 12 = .ok (.putfield 10, 3) := by decide +kernel
theorem dX10_init_15 : decode cX10_init 15 = .ok (.aload_n 0, 1) := by decide +kernel
theorem dX10_init_16 : decode cX10_init 16 = .ok (.new 16, 3) := by decide +kernel
theorem dX10_init_19 : decode cX10_init 19 = .ok (.dup, 1) := by decide +kernel
theorem dX10_init_20 : decode cX10_init 20 = .ok (.invokespecial 18, 3) := by decide +kernel
theorem dX10_init_23 : decode cX10_init 23 = .ok (.putfield 19, 3) := by decide +kernel
theorem dX10_init_26 : decode cX10_init 26 = .ok (.aload_n 0, 1) := by decide +kernel
theorem dX10_init_27 : decode cX10_init 27 = .ok (.bipush 12, 2) := by decide +kernel
theorem dX10_init_29 : decode cX10_init 29 = .ok (.anewarray 23, 3) := by decide +kernel
theorem dX10_init_32 : decode cX10_init 32 = .ok (.putfield 25, 3) := by decide +kernel
theorem dX10_init_35 : decode cX10_init 35 = .ok (.return_, 1) := by decide +kernel
theorem dX10_timber_0 : decode cX10_timber 0 = .ok (.iload_n 1, 1) := by decide +kernel
theorem dX10_timber_1 : decode cX10_timber 1 = .ok (.iconst 1, 1) := by decide +kernel
theorem dX10_timber_2 : decode cX10_timber 2 = .ok (.sipush 1000, 3) := by decide +kernel
theorem dX10_timber_5 : decode cX10_timber 5 = .ok (.invokestatic 29, 3) := by decide +kernel
theorem dX10_timber_8 : decode cX10_timber 8 = .ok (.ifCond .ne 14, 3) := by decide +kernel
theorem dX10_timber_11 : decode cX10_timber 11 = .ok (.iload_n 2, 1) := by decide +kernel
theorem dX10_timber_12 : decode cX10_timber 12 = .ok (.iconst 1, 1) := by decide +kernel
theorem dX10_timber_13 : decode cX10_timber 13 = .ok (.sipush 1000, 3) := by decide +kernel
theorem dX10_timber_16 : decode cX10_timber 16 = .ok (.invokestatic 29, 3) := by decide +kernel
theorem dX10_timber_19 : decode cX10_timber 19 = .ok (.ifCond .eq 6, 3) := by decide +kernel
theorem dX10_timber_22 : decode cX10_timber 22 = .ok (.bipush (-102), 2) := by decide +kernel
theorem dX10_timber_24 : decode cX10_timber 24 = .ok (.ireturn, 1) := by decide +kernel
theorem dX10_timber_25 : decode cX10_timber 25 = .ok (.aload_n 0, 1) := by decide +kernel
theorem dX10_timber_26 : decode cX10_timber 26 = .ok (.getfield 10, 3) := by decide +kernel
theorem dX10_timber_29 : decode cX10_timber 29 = .ok (.iload_n 1, 1) := by decide +kernel
theorem dX10_timber_30 : decode cX10_timber 30 = .ok (.iload_n 2, 1) := by decide +kernel
theorem dX10_timber_31 : decode cX10_timber 31 = .ok (.iload_n 3, 1) := by decide +kernel
theorem dX10_timber_32 : decode cX10_timber 32 = .ok (.invokevirtual 33, 3) := by decide +kernel
theorem dX10_timber_35 : decode cX10_timber 35 = .ok (.ireturn, 1) := by decide +kernel
theorem dX10_pile_0 : decode cX10_pile 0 = .ok (.iload_n 1, 1) := by decide +kernel
theorem dX10_pile_1 : decode cX10_pile 1 = .ok (.iconst 0, 1) := by decide +kernel
theorem dX10_pile_2 : decode cX10_pile 2 = .ok (.bipush 7, 2) := by decide +kernel
theorem dX10_pile_4 : decode cX10_pile 4 = .ok (.invokestatic 29, 3) := by decide +kernel
theorem dX10_pile_7 : decode cX10_pile 7 = .ok (.ifCond .ne 24, 3) := by decide +kernel
theorem dX10_pile_10 : decode cX10_pile 10 = .ok (.iload_n 2, 1) := by decide +kernel
theorem dX10_pile_11 : decode cX10_pile 11 = .ok (.iconst 1, 1) := by decide +kernel
theorem dX10_pile_12 : decode cX10_pile 12 = .ok (.bipush 12, 2) := by decide +kernel
theorem dX10_pile_14 : decode cX10_pile 14 = .ok (.invokestatic 29, 3) := by decide +kernel
theorem dX10_pile_17 : decode cX10_pile 17 = .ok (.ifCond .ne 14, 3) := by decide +kernel
theorem dX10_pile_20 : decode cX10_pile 20 = .ok (.iload_n 3, 1) := by decide +kernel
theorem dX10_pile_21 : decode cX10_pile 21 = .ok (.iconst 0, 1) := by decide +kernel
theorem dX10_pile_22 : decode cX10_pile 22 = .ok (.sipush 20000, 3) := by decide +kernel
theorem dX10_pile_25 : decode cX10_pile 25 = .ok (.invokestatic 29, 3) := by decide +kernel
theorem dX10_pile_28 : decode cX10_pile 28 = .ok (.ifCond .eq 6, 3) := by decide +kernel
theorem dX10_pile_31 : decode cX10_pile 31 = .ok (.bipush (-102), 2) := by decide +kernel
theorem dX10_pile_33 : decode cX10_pile 33 = .ok (.ireturn, 1) := by decide +kernel
theorem dX10_pile_34 : decode cX10_pile 34 = .ok (.aload_n 0, 1) := by decide +kernel
theorem dX10_pile_35 : decode cX10_pile 35 = .ok (.getfield 37, 3) := by decide +kernel
theorem dX10_pile_38 : decode cX10_pile 38 = .ok (.ifCond .lt 15, 3) := by decide +kernel
theorem dX10_pile_41 : decode cX10_pile 41 = .ok (.aload_n 0, 1) := by decide +kernel
theorem dX10_pile_42 : decode cX10_pile 42 = .ok (.getfield 37, 3) := by decide +kernel
theorem dX10_pile_45 : decode cX10_pile 45 = .ok (.aload_n 0, 1) := by decide +kernel
theorem dX10_pile_46 : decode cX10_pile 46 = .ok (.getfield 25, 3) := by decide +kernel
theorem dX10_pile_49 : decode cX10_pile 49 = .ok (.arraylength, 1) := by decide +kernel
theorem dX10_pile_50 : decode cX10_pile 50 = .ok (.if_icmp .lt 6, 3) := by decide +kernel
theorem dX10_pile_53 : decode cX10_pile 53 = .ok (.bipush (-104), 2) := by decide +kernel
theorem dX10_pile_55 : decode cX10_pile 55 = .ok (.ireturn, 1) := by decide +kernel
theorem dX10_pile_56 : decode cX10_pile 56 = .ok (.aload_n 0, 1) := by decide +kernel
theorem dX10_pile_57 : decode cX10_pile 57 = .ok (.getfield 37, 3) := by decide +kernel
theorem dX10_pile_60 : decode cX10_pile 60 = .ok (.istore 4, 2) := by decide +kernel
theorem dX10_pile_62 : decode cX10_pile 62 = .ok (.aload_n 0, 1) := by decide +kernel
theorem dX10_pile_63 : decode cX10_pile 63 = .ok (.getfield 25, 3) := by decide +kernel
theorem dX10_pile_66 : decode cX10_pile 66 = .ok (.iload 4, 2) := by decide +kernel
theorem dX10_pile_68 : decode cX10_pile 68 = .ok (.aload_n 0, 1) := by decide +kernel
theorem dX10_pile_69 : decode cX10_pile 69 = .ok (.iload_n 1, 1) := by decide +kernel
theorem dX10_pile_70 : decode cX10_pile 70 = .ok (.iload 4, 2) := by decide +kernel
theorem dX10_pile_72 : decode cX10_pile 72 = .ok (.iload_n 2, 1) := by decide +kernel
theorem dX10_pile_73 : decode cX10_pile 73 = .ok (.iload_n 3, 1) := by decide +kernel
theorem dX10_pile_74 : decode cX10_pile 74 = .ok (.invokevirtual 41, 3) := by decide +kernel
theorem dX10_pile_77 : decode cX10_pile 77 = .ok (.aastore, 1) := by decide +kernel
theorem dX10_pile_78 : decode cX10_pile 78 = .ok (.aload_n 0, 1) := by decide +kernel
theorem dX10_pile_79 : decode cX10_pile 79 = .ok (.dup, 1) := by decide +kernel
theorem dX10_pile_80 : decode cX10_pile 80 = .ok (.getfield 37, 3) := by decide +kernel
theorem dX10_pile_83 : decode cX10_pile 83 = .ok (.iconst 1, 1) := by decide +kernel
theorem dX10_pile_84 : decode cX10_pile 84 = .ok (.iadd, 1) := by decide +kernel
theorem dX10_pile_85 : decode cX10_pile 85 = .ok (.putfield 37, 3) := by decide +kernel
theorem dX10_pile_88 : decode cX10_pile 88 = .ok (.iload 4, 2) := by decide +kernel
theorem dX10_pile_90 : decode cX10_pile 90 = .ok (.ireturn, 1) := by decide +kernel
theorem dX10_put_0 : decode cX10_put 0 = .ok (.aload_n 0, 1) := by decide +kernel
theorem dX10_put_1 : decode cX10_put 1 = .ok (.iload_n 1, 1) := by decide +kernel
theorem dX10_put_2 : decode cX10_put 2 = .ok (.invokevirtual 45, 3) := by decide +kernel
theorem dX10_put_5 : decode cX10_put 5 = .ok (.astore_n 3, 1) := by decide +kernel
theorem dX10_put_6 : decode cX10_put 6 = .ok (.aload_n 3, 1) := by decide +kernel
theorem dX10_put_7 : decode cX10_put 7 = .ok (.ifnull 14, 3) := by decide +kernel
theorem dX10_put_10 : decode cX10_put 10 = .ok (.aload_n 0, 1) := by decide +kernel
theorem dX10_put_11 : decode cX10_put 11 = .ok (.getfield 10, 3) := by decide +kernel
theorem dX10_put_14 : decode cX10_put 14 = .ok (.iload_n 2, 1) := by decide +kernel
theorem dX10_put_15 : decode cX10_put 15 = .ok (.invokevirtual 49, 3) := by decide +kernel
theorem dX10_put_18 : decode cX10_put 18 = .ok (.ifCond .ne 6, 3) := by decide +kernel
theorem dX10_put_21 : decode cX10_put 21 = .ok (.bipush (-101), 2) := by decide +kernel
theorem dX10_put_23 : decode cX10_put 23 = .ok (.ireturn, 1) := by decide +kernel
theorem dX10_put_24 : decode cX10_put 24 = .ok (.aload_n 0, 1) := by decide +kernel
theorem dX10_put_25 : decode cX10_put 25 = .ok (.getfield 10, 3) := by decide +kernel
theorem dX10_put_28 : decode cX10_put 28 = .ok (.iload_n 2, 1) := by decide +kernel
theorem dX10_put_29 : decode cX10_put 29 = .ok (.invokevirtual 53, 3) := by decide +kernel
theorem dX10_put_32 : decode cX10_put 32 = .ok (.iconst (-1), 1) := by decide +kernel
theorem dX10_put_33 : decode cX10_put 33 = .ok (.if_icmp .eq 6, 3) := by decide +kernel
theorem dX10_put_36 : decode cX10_put 36 = .ok (.bipush (-103), 2) := by decide +kernel
theorem dX10_put_38 : decode cX10_put 38 = .ok (.ireturn, 1) := by decide +kernel
theorem dX10_put_39 : decode cX10_put 39 = .ok (.aload_n 3, 1) := by decide +kernel
theorem dX10_put_40 : decode cX10_put 40 = .ok (.iload_n 2, 1) := by decide +kernel
theorem dX10_put_41 : decode cX10_put 41 = .ok (.invokevirtual 56, 3) := by decide +kernel
theorem dX10_put_44 : decode cX10_put 44 = .ok (.istore 4, 2) := by decide +kernel
theorem dX10_put_46 : decode cX10_put 46 = .ok (.iload 4, 2) := by decide +kernel
theorem dX10_put_48 : decode cX10_put 48 = .ok (.iconst 2, 1) := by decide +kernel
theorem dX10_put_49 : decode cX10_put 49 = .ok (.if_icmp .ne 13, 3) := by decide +kernel
theorem dX10_put_52 : decode cX10_put 52 = .ok (.new 59, 3) := by decide +kernel
theorem dX10_put_55 : decode cX10_put 55 = .ok (.dup, 1) := by decide +kernel
theorem dX10_put_56 : decode cX10_put 56 = .ok (.ldc 61, 2) := by decide +kernel
theorem dX10_put_58 : decode cX10_put 58 = .ok (.invokespecial 63, 3) := by decide +kernel
theorem dX10_put_61 : decode cX10_put 61 = .ok (.athrow, 1) := by decide +kernel
theorem dX10_put_62 : decode cX10_put 62 = .ok (.iload 4, 2) := by decide +kernel
theorem dX10_put_64 : decode cX10_put 64 = .ok (.ireturn, 1) := by decide +kernel
theorem dX10_take_0 : decode cX10_take 0 = .ok (.aload_n 0, 1) := by decide +kernel
theorem dX10_take_1 : decode cX10_take 1 = .ok (.iload_n 1, 1) := by decide +kernel
theorem dX10_take_2 : decode cX10_take 2 = .ok (.invokevirtual 45, 3) := by decide +kernel
theorem dX10_take_5 : decode cX10_take 5 = .ok (.astore_n 2, 1) := by decide +kernel
theorem dX10_take_6 : decode cX10_take 6 = .ok (.aload_n 2, 1) := by decide +kernel
theorem dX10_take_7 : decode cX10_take 7 = .ok (.ifnonnull 6, 3) := by decide +kernel
theorem dX10_take_10 : decode cX10_take 10 = .ok (.bipush (-101), 2) := by decide +kernel
theorem dX10_take_12 : decode cX10_take 12 = .ok (.ireturn, 1) := by decide +kernel
theorem dX10_take_13 : decode cX10_take 13 = .ok (.aload_n 2, 1) := by decide +kernel
theorem dX10_take_14 : decode cX10_take 14 = .ok (.invokevirtual 66, 3) := by decide +kernel
theorem dX10_take_17 : decode cX10_take 17 = .ok (.istore_n 3, 1) := by decide +kernel
theorem dX10_take_18 : decode cX10_take 18 = .ok (.iload_n 3, 1) := by decide +kernel
theorem dX10_take_19 : decode cX10_take 19 = .ok (.bipush (-2), 2) := by decide +kernel
theorem dX10_take_21 : decode cX10_take 21 = .ok (.if_icmp .ne 13, 3) := by decide +kernel
theorem dX10_take_24 : decode cX10_take 24 = .ok (.new 70, 3) := by decide +kernel
theorem dX10_take_27 : decode cX10_take 27 = .ok (.dup, 1) := by decide +kernel
theorem dX10_take_28 : decode cX10_take 28 = .ok (.ldc 72, 2) := by decide +kernel
theorem dX10_take_30 : decode cX10_take 30 = .ok (.invokespecial 74, 3) := by decide +kernel
theorem dX10_take_33 : decode cX10_take 33 = .ok (.athrow, 1) := by decide +kernel
theorem dX10_take_34 : decode cX10_take 34 = .ok (.iload_n 3, 1) := by decide +kernel
theorem dX10_take_35 : decode cX10_take 35 = .ok (.ireturn, 1) := by decide +kernel
theorem dX10_load_0 : decode cX10_load 0 = .ok (.aload_n 0, 1) := by decide +kernel
theorem dX10_load_1 : decode cX10_load 1 = .ok (.iload_n 1, 1) := by decide +kernel
theorem dX10_load_2 : decode cX10_load 2 = .ok (.invokevirtual 45, 3) := by decide +kernel
theorem dX10_load_5 : decode cX10_load 5 = .ok (.astore_n 2, 1) := by decide +kernel
theorem dX10_load_6 : decode cX10_load 6 = .ok (.aload_n 2, 1) := by decide +kernel
theorem dX10_load_7 : decode cX10_load 7 = .ok (.ifnonnull 8, 3) := by decide +kernel
theorem dX10_load_10 : decode cX10_load 10 = .ok (.bipush (-101), 2) := by decide +kernel
theorem dX10_load_12 : decode cX10_load 12 = .ok (.goto 7, 3) := by decide +kernel
theorem dX10_load_15 : decode cX10_load 15 = .ok (.aload_n 2, 1) := by decide +kernel
theorem dX10_load_16 : decode cX10_load 16 = .ok (.invokevirtual 75, 3) := by decide +kernel
theorem dX10_load_19 : decode cX10_load 19 = .ok (.ireturn, 1) := by decide +kernel
theorem dX10_search_0 : decode cX10_search 0 = .ok (.aload_n 0, 1) := by decide +kernel
theorem dX10_search_1 : decode cX10_search 1 = .ok (.iload_n 1, 1) := by decide +kernel
theorem dX10_search_2 : decode cX10_search 2 = .ok (.invokevirtual 45, 3) := by decide +kernel
theorem dX10_search_5 : decode cX10_search 5 = .ok (.astore_n 3, 1) := by decide +kernel
theorem dX10_search_6 : decode cX10_search 6 = .ok (.aload_n 3, 1) := by decide +kernel
theorem dX10_search_7 : decode cX10_search 7 = .ok (.ifnonnull 6, 3) := by decide +kernel
theorem dX10_search_10 : decode cX10_search 10 = .ok (.bipush (-101), 2) := by decide +kernel
theorem dX10_search_12 : decode cX10_search 12 = .ok (.ireturn, 1) := by decide +kernel
theorem dX10_search_13 : decode cX10_search 13 = .ok (.iload_n 2, 1) := by decide +kernel
theorem dX10_search_14 : decode cX10_search 14 = .ok (.iconst 1, 1) := by decide +kernel
theorem dX10_search_15 : decode cX10_search 15 = .ok (.sipush 1000, 3) := by decide +kernel
theorem dX10_search_18 : decode cX10_search 18 = .ok (.invokestatic 29, 3) := by decide +kernel
theorem dX10_search_21 : decode cX10_search 21 = .ok (.ifCond .eq 6, 3) := by decide +kernel
theorem dX10_search_24 : decode cX10_search 24 = .ok (.bipush (-102), 2) := by decide +kernel
theorem dX10_search_26 : decode cX10_search 26 = .ok (.ireturn, 1) := by decide +kernel
theorem dX10_search_27 : decode cX10_search 27 = .ok (.aload_n 3, 1) := by decide +kernel
theorem dX10_search_28 : decode cX10_search 28 = .ok (.iload_n 2, 1) := by decide +kernel
theorem dX10_search_29 : decode cX10_search 29 = .ok (.invokevirtual 78, 3) := by decide +kernel
theorem dX10_search_32 : decode cX10_search 32 = .ok (.ireturn, 1) := by decide +kernel
theorem dX10_free_0 : decode cX10_free 0 = .ok (.aload_n 0, 1) := by decide +kernel
theorem dX10_free_1 : decode cX10_free 1 = .ok (.iload_n 1, 1) := by decide +kernel
theorem dX10_free_2 : decode cX10_free 2 = .ok (.invokevirtual 45, 3) := by decide +kernel
theorem dX10_free_5 : decode cX10_free 5 = .ok (.astore_n 2, 1) := by decide +kernel
theorem dX10_free_6 : decode cX10_free 6 = .ok (.aload_n 2, 1) := by decide +kernel
theorem dX10_free_7 : decode cX10_free 7 = .ok (.ifnonnull 8, 3) := by decide +kernel
theorem dX10_free_10 : decode cX10_free 10 = .ok (.bipush (-101), 2) := by decide +kernel
theorem dX10_free_12 : decode cX10_free 12 = .ok (.goto 7, 3) := by decide +kernel
theorem dX10_free_15 : decode cX10_free 15 = .ok (.aload_n 2, 1) := by decide +kernel
theorem dX10_free_16 : decode cX10_free 16 = .ok (.invokevirtual 81, 3) := by decide +kernel
theorem dX10_free_19 : decode cX10_free 19 = .ok (.ireturn, 1) := by decide +kernel
theorem dX10_full_0 : decode cX10_full 0 = .ok (.aload_n 0, 1) := by decide +kernel
theorem dX10_full_1 : decode cX10_full 1 = .ok (.iload_n 1, 1) := by decide +kernel
theorem dX10_full_2 : decode cX10_full 2 = .ok (.invokevirtual 45, 3) := by decide +kernel
theorem dX10_full_5 : decode cX10_full 5 = .ok (.astore_n 2, 1) := by decide +kernel
theorem dX10_full_6 : decode cX10_full 6 = .ok (.aload_n 2, 1) := by decide +kernel
theorem dX10_full_7 : decode cX10_full 7 = .ok (.ifnonnull 6, 3) := by decide +kernel
theorem dX10_full_10 : decode cX10_full 10 = .ok (.bipush (-101), 2) := by decide +kernel
theorem dX10_full_12 : decode cX10_full 12 = .ok (.ireturn, 1) := by decide +kernel
theorem dX10_full_13 : decode cX10_full 13 = .ok (.aload_n 2, 1) := by decide +kernel
theorem dX10_full_14 : decode cX10_full 14 = .ok (.invokevirtual 84, 3) := by decide +kernel
theorem dX10_full_17 : decode cX10_full 17 = .ok (.ifCond .eq 7, 3) := by decide +kernel
theorem dX10_full_20 : decode cX10_full 20 = .ok (.iconst 1, 1) := by decide +kernel
theorem dX10_full_21 : decode cX10_full 21 = .ok (.goto 4, 3) := by decide +kernel
theorem dX10_full_24 : decode cX10_full 24 = .ok (.iconst 0, 1) := by decide +kernel
theorem dX10_full_25 : decode cX10_full 25 = .ok (.ireturn, 1) := by decide +kernel
theorem dX10_move_0 : decode cX10_move 0 = .ok (.aload_n 0, 1) := by decide +kernel
theorem dX10_move_1 : decode cX10_move 1 = .ok (.iload_n 1, 1) := by decide +kernel
theorem dX10_move_2 : decode cX10_move 2 = .ok (.invokevirtual 45, 3) := by decide +kernel
theorem dX10_move_5 : decode cX10_move 5 = .ok (.astore_n 3, 1) := by decide +kernel
theorem dX10_move_6 : decode cX10_move 6 = .ok (.aload_n 0, 1) := by decide +kernel
theorem dX10_move_7 : decode cX10_move 7 = .ok (.iload_n 2, 1) := by decide +kernel
theorem dX10_move_8 : decode cX10_move 8 = .ok (.invokevirtual 45, 3) := by decide +kernel
theorem dX10_move_11 : decode cX10_move 11 = .ok (.astore 4, 2) := by decide +kernel
theorem dX10_move_13 : decode cX10_move 13 = .ok (.aload_n 3, 1) := by decide +kernel
theorem dX10_move_14 : decode cX10_move 14 = .ok (.ifnull 8, 3) := by decide +kernel
theorem dX10_move_17 : decode cX10_move 17 = .ok (.aload 4, 2) := by decide +kernel
theorem dX10_move_19 : decode cX10_move 19 = .ok (.ifnonnull 6, 3) := by decide +kernel
theorem dX10_move_22 : decode cX10_move 22 = .ok (.bipush (-101), 2) := by decide +kernel
theorem dX10_move_24 : decode cX10_move 24 = .ok (.ireturn, 1) := by decide +kernel
theorem dX10_move_25 : decode cX10_move 25 = .ok (.aload_n 3, 1) := by decide +kernel
theorem dX10_move_26 : decode cX10_move 26 = .ok (.invokevirtual 66, 3) := by decide +kernel
theorem dX10_move_29 : decode cX10_move 29 = .ok (.istore 5, 2) := by decide +kernel
theorem dX10_move_31 : decode cX10_move 31 = .ok (.iload 5, 2) := by decide +kernel
theorem dX10_move_33 : decode cX10_move 33 = .ok (.iconst (-1), 1) := by decide +kernel
theorem dX10_move_34 : decode cX10_move 34 = .ok (.if_icmp .eq 10, 3) := by decide +kernel
theorem dX10_move_37 : decode cX10_move 37 = .ok (.iload 5, 2) := by decide +kernel
theorem dX10_move_39 : decode cX10_move 39 = .ok (.bipush (-2), 2) := by decide +kernel
theorem dX10_move_41 : decode cX10_move 41 = .ok (.if_icmp .ne 5, 3) := by decide +kernel
theorem dX10_move_44 : decode cX10_move 44 = .ok (.iconst (-1), 1) := by decide +kernel
theorem dX10_move_45 : decode cX10_move 45 = .ok (.ireturn, 1) := by decide +kernel
theorem dX10_move_46 : decode cX10_move 46 = .ok (.aload 4, 2) := by decide +kernel
theorem dX10_move_48 : decode cX10_move 48 = .ok (.iload 5, 2) := by decide +kernel
theorem dX10_move_50 : decode cX10_move 50 = .ok (.invokevirtual 56, 3) := by decide +kernel
theorem dX10_move_53 : decode cX10_move 53 = .ok (.iconst 1, 1) := by decide +kernel
theorem dX10_move_54 : decode cX10_move 54 = .ok (.if_icmp .ne 8, 3) := by decide +kernel
theorem dX10_move_57 : decode cX10_move 57 = .ok (.iload 5, 2) := by decide +kernel
theorem dX10_move_59 : decode cX10_move 59 = .ok (.goto 8, 3) := by decide +kernel
theorem dX10_move_62 : decode cX10_move 62 = .ok (.bipush (-2), 2) := by decide +kernel
theorem dX10_move_64 : decode cX10_move 64 = .ok (.iload 5, 2) := by decide +kernel
theorem dX10_move_66 : decode cX10_move 66 = .ok (.isub, 1) := by decide +kernel
theorem dX10_move_67 : decode cX10_move 67 = .ok (.ireturn, 1) := by decide +kernel
theorem dX10_at_0 : decode cX10_at 0 = .ok (.aload_n 0, 1) := by decide +kernel
theorem dX10_at_1 : decode cX10_at 1 = .ok (.iload_n 1, 1) := by decide +kernel
theorem dX10_at_2 : decode cX10_at 2 = .ok (.invokevirtual 45, 3) := by decide +kernel
theorem dX10_at_5 : decode cX10_at 5 = .ok (.astore_n 3, 1) := by decide +kernel
theorem dX10_at_6 : decode cX10_at 6 = .ok (.aload_n 3, 1) := by decide +kernel
theorem dX10_at_7 : decode cX10_at 7 = .ok (.ifnonnull 6, 3) := by decide +kernel
theorem dX10_at_10 : decode cX10_at 10 = .ok (.bipush (-101), 2) := by decide +kernel
theorem dX10_at_12 : decode cX10_at 12 = .ok (.ireturn, 1) := by decide +kernel
theorem dX10_at_13 : decode cX10_at 13 = .ok (.aload_n 3, 1) := by decide +kernel
theorem dX10_at_14 : decode cX10_at 14 = .ok (.iload_n 2, 1) := by decide +kernel
theorem dX10_at_15 : decode cX10_at 15 = .ok (.invokevirtual 88, 3) := by decide +kernel
theorem dX10_at_18 : decode cX10_at 18 = .ok (.istore 4, 2) := by decide +kernel
theorem dX10_at_20 : decode cX10_at 20 = .ok (.iload 4, 2) := by decide +kernel
theorem dX10_at_22 : decode cX10_at 22 = .ok (.iconst (-1), 1) := by decide +kernel
theorem dX10_at_23 : decode cX10_at 23 = .ok (.if_icmp .ne 8, 3) := by decide +kernel
theorem dX10_at_26 : decode cX10_at 26 = .ok (.bipush (-101), 2) := by decide +kernel
theorem dX10_at_28 : decode cX10_at 28 = .ok (.goto 5, 3) := by decide +kernel
theorem dX10_at_31 : decode cX10_at 31 = .ok (.iload 4, 2) := by decide +kernel
theorem dX10_at_33 : decode cX10_at 33 = .ok (.ireturn, 1) := by decide +kernel
theorem dX10_of_0 : decode cX10_of 0 = .ok (.aload_n 0, 1) := by decide +kernel
theorem dX10_of_1 : decode cX10_of 1 = .ok (.getfield 10, 3) := by decide +kernel
theorem dX10_of_4 : decode cX10_of 4 = .ok (.iload_n 1, 1) := by decide +kernel
theorem dX10_of_5 : decode cX10_of 5 = .ok (.invokevirtual 49, 3) := by decide +kernel
theorem dX10_of_8 : decode cX10_of 8 = .ok (.ifCond .ne 6, 3) := by decide +kernel
theorem dX10_of_11 : decode cX10_of 11 = .ok (.bipush (-101), 2) := by decide +kernel
theorem dX10_of_13 : decode cX10_of 13 = .ok (.ireturn, 1) := by decide +kernel
theorem dX10_of_14 : decode cX10_of 14 = .ok (.iload_n 2, 1) := by decide +kernel
theorem dX10_of_15 : decode cX10_of 15 = .ok (.tableswitch 73 0 3 #[29, 38, 47, 64], 29) := by decide +kernel
theorem dX10_of_44 : decode cX10_of 44 = .ok (.aload_n 0, 1) := by decide +kernel
theorem dX10_of_45 : decode cX10_of 45 = .ok (.getfield 10, 3) := by decide +kernel
theorem dX10_of_48 : decode cX10_of 48 = .ok (.iload_n 1, 1) := by decide +kernel
theorem dX10_of_49 : decode cX10_of 49 = .ok (.invokevirtual 91, 3) := by decide +kernel
theorem dX10_of_52 : decode cX10_of 52 = .ok (.ireturn, 1) := by decide +kernel
theorem dX10_of_53 : decode cX10_of 53 = .ok (.aload_n 0, 1) := by decide +kernel
theorem dX10_of_54 : decode cX10_of 54 = .ok (.getfield 10, 3) := by decide +kernel
theorem dX10_of_57 : decode cX10_of 57 = .ok (.iload_n 1, 1) := by decide +kernel
theorem dX10_of_58 : decode cX10_of 58 = .ok (.invokevirtual 94, 3) := by decide +kernel
theorem dX10_of_61 : decode cX10_of 61 = .ok (.ireturn, 1) := by decide +kernel
theorem dX10_of_62 : decode cX10_of 62 = .ok (.aload_n 0, 1) := by decide +kernel
theorem dX10_of_63 : decode cX10_of 63 = .ok (.getfield 10, 3) := by decide +kernel
theorem dX10_of_66 : decode cX10_of 66 = .ok (.iload_n 1, 1) := by decide +kernel
theorem dX10_of_67 : decode cX10_of 67 = .ok (.invokevirtual 97, 3) := by decide +kernel
theorem dX10_of_70 : decode cX10_of 70 = .ok (.ifCond .eq 7, 3) := by decide +kernel
theorem dX10_of_73 : decode cX10_of 73 = .ok (.iconst 1, 1) := by decide +kernel
theorem dX10_of_74 : decode cX10_of 74 = .ok (.goto 4, 3) := by decide +kernel
theorem dX10_of_77 : decode cX10_of 77 = .ok (.iconst 0, 1) := by decide +kernel
theorem dX10_of_78 : decode cX10_of 78 = .ok (.ireturn, 1) := by decide +kernel
theorem dX10_of_79 : decode cX10_of 79 = .ok (.aload_n 0, 1) := by decide +kernel
theorem dX10_of_80 : decode cX10_of 80 = .ok (.getfield 10, 3) := by decide +kernel
theorem dX10_of_83 : decode cX10_of 83 = .ok (.iload_n 1, 1) := by decide +kernel
theorem dX10_of_84 : decode cX10_of 84 = .ok (.invokevirtual 53, 3) := by decide +kernel
theorem dX10_of_87 : decode cX10_of 87 = .ok (.ireturn, 1) := by decide +kernel
theorem dX10_of_88 : decode cX10_of 88 = .ok (.bipush (-102), 2) := by decide +kernel
theorem dX10_of_90 : decode cX10_of 90 = .ok (.ireturn, 1) := by decide +kernel
theorem dX10_trace_0 : decode cX10_trace 0 = .ok (.aload_n 0, 1) := by decide +kernel
theorem dX10_trace_1 : decode cX10_trace 1 = .ok (.getfield 19, 3) := by decide +kernel
theorem dX10_trace_4 : decode cX10_trace 4 = .ok (.iload_n 1, 1) := by decide +kernel
theorem dX10_trace_5 : decode cX10_trace 5 = .ok (.invokevirtual 100, 3) := by decide +kernel
theorem dX10_trace_8 : decode cX10_trace 8 = .ok (.ireturn, 1) := by decide +kernel
theorem dX10_count_0 : decode cX10_count 0 = .ok (.iload_n 1, 1) := by decide +kernel
theorem dX10_count_1 : decode cX10_count 1 = .ok (.tableswitch 72 0 4 #[35, 43, 48, 56, 64], 35) := by decide +kernel
theorem dX10_count_36 : decode cX10_count 36 = .ok (.aload_n 0, 1) := by decide +kernel
theorem dX10_count_37 : decode cX10_count 37 = .ok (.getfield 10, 3) := by decide +kernel
theorem dX10_count_40 : decode cX10_count 40 = .ok (.invokevirtual 103, 3) := by decide +kernel
theorem dX10_count_43 : decode cX10_count 43 = .ok (.ireturn, 1) := by decide +kernel
theorem dX10_count_44 : decode cX10_count 44 = .ok (.aload_n 0, 1) := by decide +kernel
theorem dX10_count_45 : decode cX10_count 45 = .ok (.getfield 37, 3) := by decide +kernel
theorem dX10_count_48 : decode cX10_count 48 = .ok (.ireturn, 1) := by decide +kernel
theorem dX10_count_49 : decode cX10_count 49 = .ok (.aload_n 0, 1) := by decide +kernel
theorem dX10_count_50 : decode cX10_count 50 = .ok (.getfield 19, 3) := by decide +kernel
theorem dX10_count_53 : decode cX10_count 53 = .ok (.invokevirtual 106, 3) := by decide +kernel
theorem dX10_count_56 : decode cX10_count 56 = .ok (.ireturn, 1) := by decide +kernel
theorem dX10_count_57 : decode cX10_count 57 = .ok (.aload_n 0, 1) := by decide +kernel
theorem dX10_count_58 : decode cX10_count 58 = .ok (.getfield 19, 3) := by decide +kernel
theorem dX10_count_61 : decode cX10_count 61 = .ok (.invokevirtual 109, 3) := by decide +kernel
theorem dX10_count_64 : decode cX10_count 64 = .ok (.ireturn, 1) := by decide +kernel
theorem dX10_count_65 : decode cX10_count 65 = .ok (.aload_n 0, 1) := by decide +kernel
theorem dX10_count_66 : decode cX10_count 66 = .ok (.getfield 19, 3) := by decide +kernel
theorem dX10_count_69 : decode cX10_count 69 = .ok (.invokevirtual 112, 3) := by decide +kernel
theorem dX10_count_72 : decode cX10_count 72 = .ok (.ireturn, 1) := by decide +kernel
theorem dX10_count_73 : decode cX10_count 73 = .ok (.bipush (-102), 2) := by decide +kernel
theorem dX10_count_75 : decode cX10_count 75 = .ok (.ireturn, 1) := by decide +kernel
theorem dX10_isOutside_0 : decode cX10_isOutside 0 = .ok (.iload_n 0, 1) := by decide +kernel
theorem dX10_isOutside_1 : decode cX10_isOutside 1 = .ok (.iload_n 1, 1) := by decide +kernel
theorem dX10_isOutside_2 : decode cX10_isOutside 2 = .ok (.if_icmp .lt 8, 3) := by decide +kernel
theorem dX10_isOutside_5 : decode cX10_isOutside 5 = .ok (.iload_n 0, 1) := by decide +kernel
theorem dX10_isOutside_6 : decode cX10_isOutside 6 = .ok (.iload_n 2, 1) := by decide +kernel
theorem dX10_isOutside_7 : decode cX10_isOutside 7 = .ok (.if_icmp .le 7, 3) := by decide +kernel
theorem dX10_isOutside_10 : decode cX10_isOutside 10 = .ok (.iconst 1, 1) := by decide +kernel
theorem dX10_isOutside_11 : decode cX10_isOutside 11 = .ok (.goto 4, 3) := by decide +kernel
theorem dX10_isOutside_14 : decode cX10_isOutside 14 = .ok (.iconst 0, 1) := by decide +kernel
theorem dX10_isOutside_15 : decode cX10_isOutside 15 = .ok (.ireturn, 1) := by decide +kernel
theorem dX10_pileOf_0 : decode cX10_pileOf 0 = .ok (.iload_n 1, 1) := by decide +kernel
theorem dX10_pileOf_1 : decode cX10_pileOf 1 = .ok (.ifCond .lt 20, 3) := by decide +kernel
theorem dX10_pileOf_4 : decode cX10_pileOf 4 = .ok (.iload_n 1, 1) := by decide +kernel
theorem dX10_pileOf_5 : decode cX10_pileOf 5 = .ok (.aload_n 0, 1) := by decide +kernel
theorem dX10_pileOf_6 : decode cX10_pileOf 6 = .ok (.getfield 37, 3) := by decide +kernel
theorem dX10_pileOf_9 : decode cX10_pileOf 9 = .ok (.if_icmp .ge 12, 3) := by decide +kernel
theorem dX10_pileOf_12 : decode cX10_pileOf 12 = .ok (.iload_n 1, 1) := by decide +kernel
theorem dX10_pileOf_13 : decode cX10_pileOf 13 = .ok (.aload_n 0, 1) := by decide +kernel
theorem dX10_pileOf_14 : decode cX10_pileOf 14 = .ok (.getfield 25, 3) := by decide +kernel
theorem dX10_pileOf_17 : decode cX10_pileOf 17 = .ok (.arraylength, 1) := by decide +kernel
theorem dX10_pileOf_18 : decode cX10_pileOf 18 = .ok (.if_icmp .lt 5, 3) := by decide +kernel
theorem dX10_pileOf_21 : decode cX10_pileOf 21 = .ok (.aconst_null, 1) := by decide +kernel
theorem dX10_pileOf_22 : decode cX10_pileOf 22 = .ok (.areturn, 1) := by decide +kernel
theorem dX10_pileOf_23 : decode cX10_pileOf 23 = .ok (.aload_n 0, 1) := by decide +kernel
theorem dX10_pileOf_24 : decode cX10_pileOf 24 = .ok (.getfield 25, 3) := by decide +kernel
theorem dX10_pileOf_27 : decode cX10_pileOf 27 = .ok (.iload_n 1, 1) := by decide +kernel
theorem dX10_pileOf_28 : decode cX10_pileOf 28 = .ok (.aaload, 1) := by decide +kernel
theorem dX10_pileOf_29 : decode cX10_pileOf 29 = .ok (.areturn, 1) := by decide +kernel
theorem dX10_newPile_0 : decode cX10_newPile 0 = .ok (.iload_n 1, 1) := by decide +kernel
theorem dX10_newPile_1 : decode cX10_newPile 1 = .ok (.tableswitch 183 1 7 #[43, 63, 83, 103, 123, 143, 163], 43) := by decide +kernel
theorem dX10_newPile_44 : decode cX10_newPile 44 = .ok (.new 115, 3) := by decide +kernel
theorem dX10_newPile_47 : decode cX10_newPile 47 = .ok (.dup, 1) := by decide +kernel
theorem dX10_newPile_48 : decode cX10_newPile 48 = .ok (.aload_n 0, 1) := by decide +kernel
theorem dX10_newPile_49 : decode cX10_newPile 49 = .ok (.getfield 10, 3) := by decide +kernel
theorem dX10_newPile_52 : decode cX10_newPile 52 = .ok (.aload_n 0, 1) := by decide +kernel
theorem dX10_newPile_53 : decode cX10_newPile 53 = .ok (.getfield 19, 3) := by decide +kernel
theorem dX10_newPile_56 : decode cX10_newPile 56 = .ok (.iload_n 2, 1) := by decide +kernel
theorem dX10_newPile_57 : decode cX10_newPile 57 = .ok (.iload_n 3, 1) := by decide +kernel
theorem dX10_newPile_58 : decode cX10_newPile 58 = .ok (.iload 4, 2) := by decide +kernel
theorem dX10_newPile_60 : decode cX10_newPile 60 = .ok (.invokespecial 117, 3) := by decide +kernel
theorem dX10_newPile_63 : decode cX10_newPile 63 = .ok (.areturn, 1) := by decide +kernel
theorem dX10_newPile_64 : decode cX10_newPile 64 = .ok (.new 120, 3) := by decide +kernel
theorem dX10_newPile_67 : decode cX10_newPile 67 = .ok (.dup, 1) := by decide +kernel
theorem dX10_newPile_68 : decode cX10_newPile 68 = .ok (.aload_n 0, 1) := by decide +kernel
theorem dX10_newPile_69 : decode cX10_newPile 69 = .ok (.getfield 10, 3) := by decide +kernel
theorem dX10_newPile_72 : decode cX10_newPile 72 = .ok (.aload_n 0, 1) := by decide +kernel
theorem dX10_newPile_73 : decode cX10_newPile 73 = .ok (.getfield 19, 3) := by decide +kernel
theorem dX10_newPile_76 : decode cX10_newPile 76 = .ok (.iload_n 2, 1) := by decide +kernel
theorem dX10_newPile_77 : decode cX10_newPile 77 = .ok (.iload_n 3, 1) := by decide +kernel
theorem dX10_newPile_78 : decode cX10_newPile 78 = .ok (.iload 4, 2) := by decide +kernel
theorem dX10_newPile_80 : decode cX10_newPile 80 = .ok (.invokespecial 122, 3) := by decide +kernel
theorem dX10_newPile_83 : decode cX10_newPile 83 = .ok (.areturn, 1) := by decide +kernel
theorem dX10_newPile_84 : decode cX10_newPile 84 = .ok (.new 123, 3) := by decide +kernel
theorem dX10_newPile_87 : decode cX10_newPile 87 = .ok (.dup, 1) := by decide +kernel
theorem dX10_newPile_88 : decode cX10_newPile 88 = .ok (.aload_n 0, 1) := by decide +kernel
theorem dX10_newPile_89 : decode cX10_newPile 89 = .ok (.getfield 10, 3) := by decide +kernel
theorem dX10_newPile_92 : decode cX10_newPile 92 = .ok (.aload_n 0, 1) := by decide +kernel
theorem dX10_newPile_93 : decode cX10_newPile 93 = .ok (.getfield 19, 3) := by decide +kernel
theorem dX10_newPile_96 : decode cX10_newPile 96 = .ok (.iload_n 2, 1) := by decide +kernel
theorem dX10_newPile_97 : decode cX10_newPile 97 = .ok (.iload_n 3, 1) := by decide +kernel
theorem dX10_newPile_98 : decode cX10_newPile 98 = .ok (.iload 4, 2) := by decide +kernel
theorem dX10_newPile_100 : decode cX10_newPile 100 = .ok (.invokespecial 125, 3) := by decide +kernel
theorem dX10_newPile_103 : decode cX10_newPile 103 = .ok (.areturn, 1) := by decide +kernel
theorem dX10_newPile_104 : decode cX10_newPile 104 = .ok (.new 126, 3) := by decide +kernel
theorem dX10_newPile_107 : decode cX10_newPile 107 = .ok (.dup, 1) := by decide +kernel
theorem dX10_newPile_108 : decode cX10_newPile 108 = .ok (.aload_n 0, 1) := by decide +kernel
theorem dX10_newPile_109 : decode cX10_newPile 109 = .ok (.getfield 10, 3) := by decide +kernel
theorem dX10_newPile_112 : decode cX10_newPile 112 = .ok (.aload_n 0, 1) := by decide +kernel
theorem dX10_newPile_113 : decode cX10_newPile 113 = .ok (.getfield 19, 3) := by decide +kernel
theorem dX10_newPile_116 : decode cX10_newPile 116 = .ok (.iload_n 2, 1) := by decide +kernel
theorem dX10_newPile_117 : decode cX10_newPile 117 = .ok (.iload_n 3, 1) := by decide +kernel
theorem dX10_newPile_118 : decode cX10_newPile 118 = .ok (.iload 4, 2) := by decide +kernel
theorem dX10_newPile_120 : decode cX10_newPile 120 = .ok (.invokespecial 128, 3) := by decide +kernel
theorem dX10_newPile_123 : decode cX10_newPile 123 = .ok (.areturn, 1) := by decide +kernel
theorem dX10_newPile_124 : decode cX10_newPile 124 = .ok (.new 129, 3) := by decide +kernel
theorem dX10_newPile_127 : decode cX10_newPile 127 = .ok (.dup, 1) := by decide +kernel
theorem dX10_newPile_128 : decode cX10_newPile 128 = .ok (.aload_n 0, 1) := by decide +kernel
theorem dX10_newPile_129 : decode cX10_newPile 129 = .ok (.getfield 10, 3) := by decide +kernel
theorem dX10_newPile_132 : decode cX10_newPile 132 = .ok (.aload_n 0, 1) := by decide +kernel
theorem dX10_newPile_133 : decode cX10_newPile 133 = .ok (.getfield 19, 3) := by decide +kernel
theorem dX10_newPile_136 : decode cX10_newPile 136 = .ok (.iload_n 2, 1) := by decide +kernel
theorem dX10_newPile_137 : decode cX10_newPile 137 = .ok (.iload_n 3, 1) := by decide +kernel
theorem dX10_newPile_138 : decode cX10_newPile 138 = .ok (.iload 4, 2) := by decide +kernel
theorem dX10_newPile_140 : decode cX10_newPile 140 = .ok (.invokespecial 131, 3) := by decide +kernel
theorem dX10_newPile_143 : decode cX10_newPile 143 = .ok (.areturn, 1) := by decide +kernel
theorem dX10_newPile_144 : decode cX10_newPile 144 = .ok (.new 132, 3) := by decide +kernel
theorem dX10_newPile_147 : decode cX10_newPile 147 = .ok (.dup, 1) := by decide +kernel
theorem dX10_newPile_148 : decode cX10_newPile 148 = .ok (.aload_n 0, 1) := by decide +kernel
theorem dX10_newPile_149 : decode cX10_newPile 149 = .ok (.getfield 10, 3) := by decide +kernel
theorem dX10_newPile_152 : decode cX10_newPile 152 = .ok (.aload_n 0, 1) := by decide +kernel
theorem dX10_newPile_153 : decode cX10_newPile 153 = .ok (.getfield 19, 3) := by decide +kernel
theorem dX10_newPile_156 : decode cX10_newPile 156 = .ok (.iload_n 2, 1) := by decide +kernel
theorem dX10_newPile_157 : decode cX10_newPile 157 = .ok (.iload_n 3, 1) := by decide +kernel
theorem dX10_newPile_158 : decode cX10_newPile 158 = .ok (.iload 4, 2) := by decide +kernel
theorem dX10_newPile_160 : decode cX10_newPile 160 = .ok (.invokespecial 134, 3) := by decide +kernel
theorem dX10_newPile_163 : decode cX10_newPile 163 = .ok (.areturn, 1) := by decide +kernel
theorem dX10_newPile_164 : decode cX10_newPile 164 = .ok (.new 135, 3) := by decide +kernel
theorem dX10_newPile_167 : decode cX10_newPile 167 = .ok (.dup, 1) := by decide +kernel
theorem dX10_newPile_168 : decode cX10_newPile 168 = .ok (.aload_n 0, 1) := by decide +kernel
theorem dX10_newPile_169 : decode cX10_newPile 169 = .ok (.getfield 10, 3) := by decide +kernel
theorem dX10_newPile_172 : decode cX10_newPile 172 = .ok (.aload_n 0, 1) := by decide +kernel
theorem dX10_newPile_173 : decode cX10_newPile 173 = .ok (.getfield 19, 3) := by decide +kernel
theorem dX10_newPile_176 : decode cX10_newPile 176 = .ok (.iload_n 2, 1) := by decide +kernel
theorem dX10_newPile_177 : decode cX10_newPile 177 = .ok (.iload_n 3, 1) := by decide +kernel
theorem dX10_newPile_178 : decode cX10_newPile 178 = .ok (.iload 4, 2) := by decide +kernel
theorem dX10_newPile_180 : decode cX10_newPile 180 = .ok (.invokespecial 137, 3) := by decide +kernel
theorem dX10_newPile_183 : decode cX10_newPile 183 = .ok (.areturn, 1) := by decide +kernel
theorem dX10_newPile_184 : decode cX10_newPile 184 = .ok (.new 23, 3) := by decide +kernel
theorem dX10_newPile_187 : decode cX10_newPile 187 = .ok (.dup, 1) := by decide +kernel
theorem dX10_newPile_188 : decode cX10_newPile 188 = .ok (.aload_n 0, 1) := by decide +kernel
theorem dX10_newPile_189 : decode cX10_newPile 189 = .ok (.getfield 10, 3) := by decide +kernel
theorem dX10_newPile_192 : decode cX10_newPile 192 = .ok (.aload_n 0, 1) := by decide +kernel
theorem dX10_newPile_193 : decode cX10_newPile 193 = .ok (.getfield 19, 3) := by decide +kernel
theorem dX10_newPile_196 : decode cX10_newPile 196 = .ok (.iload_n 2, 1) := by decide +kernel
theorem dX10_newPile_197 : decode cX10_newPile 197 = .ok (.iload_n 3, 1) := by decide +kernel
theorem dX10_newPile_198 : decode cX10_newPile 198 = .ok (.iload 4, 2) := by decide +kernel
theorem dX10_newPile_200 : decode cX10_newPile 200 = .ok (.invokespecial 138, 3) := by decide +kernel
theorem dX10_newPile_203 : decode cX10_newPile 203 = .ok (.areturn, 1) := by decide +kernel
