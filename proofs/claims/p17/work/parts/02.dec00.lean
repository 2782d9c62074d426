theorem dX0_init_0 : decode cX0_init 0 = .ok (.aload_n 0, 1) := by decide +kernel
theorem dX0_init_1 : decode cX0_init 1 = .ok (.invokespecial 3, 3) := by decide +kernel
theorem dX0_init_4 : decode cX0_init 4 = .ok (.aload_n 0, 1) := by decide +kernel
theorem dX0_init_5 : decode cX0_init 5 = .ok (.bipush 100, 2) := by decide +kernel
theorem dX0_init_7 : decode cX0_init 7 = .ok (.newarray .int, 2) := by decide +kernel
theorem dX0_init_9 : decode cX0_init 9 = .ok (.putfield 9, 3) := by decide +kernel
theorem dX0_init_12 : decode cX0_init 12 = .ok (.aload_n 0, 1) := by decide +kernel
theorem dX0_init_13 : decode cX0_init 13 = .ok (.sipush 200, 3) := by decide +kernel
theorem dX0_init_16 : decode cX0_init 16 = .ok (.newarray .int, 2) := by decide +kernel
theorem dX0_init_18 : decode cX0_init 18 = .ok (.putfield 15, 3) := by decide +kernel
theorem dX0_init_21 : decode cX0_init 21 = .ok (.aload_n 0, 1) := by decide +kernel
theorem dX0_init_22 : decode cX0_init 22 = .ok (.iconst 0, 1) := by decide +kernel
theorem dX0_init_23 : decode cX0_init 23 = .ok (.putfield 18, 3) := by decide +kernel
theorem dX0_init_26 : decode cX0_init 26 = .ok (.aload_n 0, 1) := by decide +kernel
theorem dX0_init_27 : decode cX0_init 27 = .ok (.iconst 0, 1) := by decide +kernel
theorem dX0_init_28 : decode cX0_init 28 = .ok (.putfield 22, 3) := by decide +kernel
theorem dX0_init_31 : decode cX0_init 31 = .ok (.aload_n 0, 1) := by decide +kernel
theorem dX0_init_32 : decode cX0_init 32 = .ok (.iconst 0, 1) := by decide +kernel
theorem dX0_init_33 : decode cX0_init 33 = .ok (.putfield 25, 3) := by decide +kernel
theorem dX0_init_36 : decode cX0_init 36 = .ok (.return_, 1) := by decide +kernel
theorem dX0_forget_0 : decode cX0_forget 0 = .ok (.aload_n 0, 1) := by decide +kernel
theorem dX0_forget_1 : decode cX0_forget 1 = .ok (.iconst 0, 1) := by decide +kernel
theorem dX0_forget_2 : decode cX0_forget 2 = .ok (.putfield 18, 3) := by decide +kernel
theorem dX0_forget_5 : decode cX0_forget 5 = .ok (.aload_n 0, 1) := by decide +kernel
theorem dX0_forget_6 : decode cX0_forget 6 = .ok (.iconst 0, 1) := by decide +kernel
theorem dX0_forget_7 : decode cX0_forget 7 = .ok (.putfield 22, 3) := by decide +kernel
theorem dX0_forget_10 : decode cX0_forget 10 = .ok (.aload_n 0, 1) := by decide +kernel
theorem dX0_forget_11 : decode cX0_forget 11 = .ok (.iconst 0, 1) := by decide +kernel
theorem dX0_forget_12 : decode cX0_forget 12 = .ok (.putfield 25, 3) := by decide +kernel
theorem dX0_forget_15 : decode cX0_forget 15 = .ok (.return_, 1) := by decide +kernel
theorem dX0_supply_0 : decode cX0_supply 0 = .ok (.aload_n 0, 1) := by decide +kernel
theorem dX0_supply_1 : decode cX0_supply 1 = .ok (.getfield 18, 3) := by decide +kernel
theorem dX0_supply_4 : decode cX0_supply 4 = .ok (.bipush 100, 2) := by decide +kernel
theorem dX0_supply_6 : decode cX0_supply 6 = .ok (.if_icmp .lt 5, 3) := by decide +kernel
theorem dX0_supply_9 : decode cX0_supply 9 = .ok (.iconst 0, 1) := by decide +kernel
theorem dX0_supply_10 : decode cX0_supply 10 = .ok (.ireturn, 1) := by decide +kernel
theorem dX0_supply_11 : decode cX0_supply 11 = .ok (.aload_n 0, 1) := by decide +kernel
theorem dX0_supply_12 : decode cX0_supply 12 = .ok (.getfield 9, 3) := by decide +kernel
theorem dX0_supply_15 : decode cX0_supply 15 = .ok (.aload_n 0, 1) := by decide +kernel
theorem dX0_supply_16 : decode cX0_supply 16 = .ok (.getfield 18, 3) := by decide +kernel
theorem dX0_supply_19 : decode cX0_supply 19 = .ok (.iload_n 1, 1) := by decide +kernel
theorem dX0_supply_20 : decode cX0_supply 20 = .ok (.iastore, 1) := by decide +kernel
theorem dX0_supply_21 : decode cX0_supply 21 = .ok (.aload_n 0, 1) := by decide +kernel
theorem dX0_supply_22 : decode cX0_supply 22 = .ok (.dup, 1) := by decide +kernel
theorem dX0_supply_23 : decode cX0_supply 23 = .ok (.getfield 18, 3) := by decide +kernel
theorem dX0_supply_26 : decode cX0_supply 26 = .ok (.iconst 1, 1) := by decide +kernel
theorem dX0_supply_27 : decode cX0_supply 27 = .ok (.iadd, 1) := by decide +kernel
theorem dX0_supply_28 : decode cX0_supply 28 = .ok (.putfield 18, 3) := by decide +kernel
theorem dX0_supply_31 : decode cX0_supply 31 = .ok (.iconst 1, 1) := by decide +kernel
theorem dX0_supply_32 : decode cX0_supply 32 = .ok (.ireturn, 1) := by decide +kernel
theorem dX0_left_0 : decode cX0_left 0 = .ok (.aload_n 0, 1) := by decide +kernel
theorem dX0_left_1 : decode cX0_left 1 = .ok (.getfield 18, 3) := by decide +kernel
theorem dX0_left_4 : decode cX0_left 4 = .ok (.aload_n 0, 1) := by decide +kernel
theorem dX0_left_5 : decode cX0_left 5 = .ok (.getfield 22, 3) := by decide +kernel
theorem dX0_left_8 : decode cX0_left 8 = .ok (.isub, 1) := by decide +kernel
theorem dX0_left_9 : decode cX0_left 9 = .ok (.ireturn, 1) := by decide +kernel
theorem dX0_readByte_0 : decode cX0_readByte 0 = .ok (.aload_n 0, 1) := by decide +kernel
theorem dX0_readByte_1 : decode cX0_readByte 1 = .ok (.getfield 22, 3) := by decide +kernel
theorem dX0_readByte_4 : decode cX0_readByte 4 = .ok (.aload_n 0, 1) := by decide +kernel
theorem dX0_readByte_5 : decode cX0_readByte 5 = .ok (.getfield 18, 3) := by decide +kernel
theorem dX0_readByte_8 : decode cX0_readByte 8 = .ok (.if_icmp .lt 8, 3) := by decide +kernel
theorem dX0_readByte_11 : decode cX0_readByte 11 = .ok (.iconst 3, 1) := by decide +kernel
theorem dX0_readByte_12 : decode cX0_readByte 12 = .ok (.invokestatic 28, 3) := by decide +kernel
theorem dX0_readByte_15 : decode cX0_readByte 15 = .ok (.ireturn, 1) := by decide +kernel
theorem dX0_readByte_16 : decode cX0_readByte 16 = .ok (.aload_n 0, 1) := by decide +kernel
theorem dX0_readByte_17 : decode cX0_readByte 17 = .ok (.getfield 9, 3) := by decide +kernel
theorem dX0_readByte_20 : decode cX0_readByte 20 = .ok (.aload_n 0, 1) := by decide +kernel
theorem dX0_readByte_21 : decode cX0_readByte 21 = .ok (.getfield 22, 3) := by decide +kernel
theorem dX0_readByte_24 : decode cX0_readByte 24 = .ok (.iaload, 1) := by decide +kernel
theorem dX0_readByte_25 : decode cX0_readByte 25 = .ok (.istore_n 1, 1) := by decide +kernel
theorem dX0_readByte_26 : decode cX0_readByte 26 = .ok (.aload_n 0, 1) := by decide +kernel
theorem dX0_readByte_27 : decode cX0_readByte 27 = .ok (.dup, 1) := by decide +kernel
theorem dX0_readByte_28 : decode cX0_readByte 28 = .ok (.getfield 22, 3) := by decide +kernel
theorem dX0_readByte_31 : decode cX0_readByte 31 = .ok (.iconst 1, 1) := by decide +kernel
theorem dX0_readByte_32 : decode cX0_readByte 32 = .ok (.iadd, 1) := by decide +kernel
theorem dX0_readByte_33 : decode cX0_readByte 33 = .ok (.putfield 22, 3) := by decide +kernel
theorem dX0_readByte_36 : decode cX0_readByte 36 = .ok (.iload_n 1, 1) := by decide +kernel
theorem dX0_readByte_37 : decode cX0_readByte 37 = .ok (.ireturn, 1) := by decide +kernel
theorem dX0_print_0 : decode cX0_print 0 = .ok (.aload_n 0, 1) := by decide +kernel
theorem dX0_print_1 : decode cX0_print 1 = .ok (.getfield 25, 3) := by decide +kernel
theorem dX0_print_4 : decode cX0_print 4 = .ok (.sipush 200, 3) := by decide +kernel
theorem dX0_print_7 : decode cX0_print 7 = .ok (.if_icmp .ge 17, 3) := by decide +kernel
theorem dX0_print_10 : decode cX0_print 10 = .ok (.aload_n 0, 1) := by decide +kernel
theorem dX0_print_11 : decode cX0_print 11 = .ok (.getfield 15, 3) := by decide +kernel
theorem dX0_print_14 : decode cX0_print 14 = .ok (.aload_n 0, 1) := by decide +kernel
theorem dX0_print_15 : decode cX0_print 15 = .ok (.getfield 25, 3) := by decide +kernel
theorem dX0_print_18 : decode cX0_print 18 = .ok (.iload_n 1, 1) := by decide +kernel
theorem dX0_print_19 : decode cX0_print 19 = .ok (.sipush 255, 3) := by decide +kernel
theorem dX0_print_22 : decode cX0_print 22 = .ok (.iand, 1) := by decide +kernel
theorem dX0_print_23 : decode cX0_print 23 = .ok (.iastore, 1) := by decide +kernel
theorem dX0_print_24 : decode cX0_print 24 = .ok (.aload_n 0, 1) := by decide +kernel
theorem dX0_print_25 : decode cX0_print 25 = .ok (.dup, 1) := by decide +kernel
theorem dX0_print_26 : decode cX0_print 26 = .ok (.getfield 25, 3) := by decide +kernel
theorem dX0_print_29 : decode cX0_print 29 = .ok (.iconst 1, 1) := by decide +kernel
theorem dX0_print_30 : decode cX0_print 30 = .ok (.iadd, 1) := by decide +kernel
theorem dX0_print_31 : decode cX0_print 31 = .ok (.putfield 25, 3) := by decide +kernel
theorem dX0_print_34 : decode cX0_print 34 = .ok (.aload_n 0, 1) := by decide +kernel
theorem dX0_print_35 : decode cX0_print 35 = .ok (.getfield 25, 3) := by decide +kernel
theorem dX0_print_38 : decode cX0_print 38 = .ok (.ireturn, 1) := by decide +kernel
theorem dX0_printedCount_0 : decode cX0_printedCount 0 = .ok (.aload_n 0, 1) := by decide +kernel
theorem dX0_printedCount_1 : decode cX0_printedCount 1 = .ok (.getfield 25, 3) := by decide +kernel
theorem dX0_printedCount_4 : decode cX0_printedCount 4 = .ok (.ireturn, 1) := by decide +kernel
theorem dX0_printedByte_0 : decode cX0_printedByte 0 = .ok (.iload_n 1, 1) := by decide +kernel
theorem dX0_printedByte_1 : decode cX0_printedByte 1 = .ok (.aload_n 0, 1) := by decide +kernel
theorem dX0_printedByte_2 : decode cX0_printedByte 2 = .ok (.getfield 25, 3) := by decide +kernel
theorem dX0_printedByte_5 : decode cX0_printedByte 5 = .ok (.sipush 200, 3) := by decide +kernel
theorem dX0_printedByte_8 : decode cX0_printedByte 8 = .ok (.invokestatic 32, 3) := by decide +kernel
theorem dX0_printedByte_11 : decode cX0_printedByte 11 = .ok (.invokestatic 38, 3) := by decide +kernel
theorem dX0_printedByte_14 : decode cX0_printedByte 14 = .ok (.ifCond .eq 12, 3) := by decide +kernel
theorem dX0_printedByte_17 : decode cX0_printedByte 17 = .ok (.aload_n 0, 1) := by decide +kernel
theorem dX0_printedByte_18 : decode cX0_printedByte 18 = .ok (.getfield 15, 3) := by decide +kernel
theorem dX0_printedByte_21 : decode cX0_printedByte 21 = .ok (.iload_n 1, 1) := by decide +kernel
theorem dX0_printedByte_22 : decode cX0_printedByte 22 = .ok (.iaload, 1) := by decide +kernel
theorem dX0_printedByte_23 : decode cX0_printedByte 23 = .ok (.goto 4, 3) := by decide +kernel
theorem dX0_printedByte_26 : decode cX0_printedByte 26 = .ok (.iconst (-1), 1) := by decide +kernel
theorem dX0_printedByte_27 : decode cX0_printedByte 27 = .ok (.ireturn, 1) := by decide +kernel
theorem dX1_init_0 : decode cX1_init 0 = .ok (.aload_n 0, 1) := by decide +kernel
theorem dX1_init_1 : decode cX1_init 1 = .ok (.invokespecial 3, 3) := by decide +kernel
theorem dX1_init_4 : decode cX1_init 4 = .ok (.aload_n 0, 1) := by decide +kernel
theorem dX1_init_5 : decode cX1_init 5 = .ok (.bipush 8, 2) := by decide +kernel
theorem dX1_init_7 : decode cX1_init 7 = .ok (.newarray .boolean, 2) := by decide +kernel
theorem dX1_init_9 : decode cX1_init 9 = .ok (.putfield 9, 3) := by decide +kernel
theorem dX1_init_12 : decode cX1_init 12 = .ok (.aload_n 0, 1) := by decide +kernel
theorem dX1_init_13 : decode cX1_init 13 = .ok (.bipush 8, 2) := by decide +kernel
theorem dX1_init_15 : decode cX1_init 15 = .ok (.newarray .int, 2) := by decide +kernel
theorem dX1_init_17 : decode cX1_init 17 = .ok (.putfield 15, 3) := by decide +kernel
theorem dX1_init_20 : decode cX1_init 20 = .ok (.aload_n 0, 1) := by decide +kernel
theorem dX1_init_21 : decode cX1_init 21 = .ok (.bipush 8, 2) := by decide +kernel
theorem dX1_init_23 : decode cX1_init 23 = .ok (.newarray .int, 2) := by decide +kernel
theorem dX1_init_25 : decode cX1_init 25 = .ok (.putfield 19, 3) := by decide +kernel
theorem dX1_init_28 : decode cX1_init 28 = .ok (.aload_n 0, 1) := by decide +kernel
theorem dX1_init_29 : decode cX1_init 29 = .ok (.bipush 8, 2) := by decide +kernel
theorem dX1_init_31 : decode cX1_init 31 = .ok (.bipush 40, 2) := by decide +kernel
theorem dX1_init_33 : decode cX1_init 33 = .ok (.multianewarray 22 2, 4) := by decide +kernel
theorem dX1_init_37 : decode cX1_init 37 = .ok (.putfield 24, 3) := by decide +kernel
theorem dX1_init_40 : decode cX1_init 40 = .ok (.aload_n 0, 1) := by decide +kernel
theorem dX1_init_41 : decode cX1_init 41 = .ok (.iconst 0, 1) := by decide +kernel
theorem dX1_init_42 : decode cX1_init 42 = .ok (.putfield 27, 3) := by decide +kernel
theorem dX1_init_45 : decode cX1_init 45 = .ok (.aload_n 0, 1) := by decide +kernel
theorem dX1_init_46 : decode cX1_init 46 = .ok (.getfield 15, 3) := by decide +kernel
theorem dX1_init_49 : decode cX1_init 49 = .ok (.iconst 3, 1) := by decide +kernel
theorem dX1_init_50 : decode cX1_init 50 = .ok (.invokestatic 31, 3) := by decide +kernel
theorem dX1_init_53 : decode cX1_init 53 = .ok (.return_, 1) := by decide +kernel
theorem dX1_isThere_0 : decode cX1_isThere 0 = .ok (.aload_n 0, 1) := by decide +kernel
theorem dX1_isThere_1 : decode cX1_isThere 1 = .ok (.getfield 9, 3) := by decide +kernel
theorem dX1_isThere_4 : decode cX1_isThere 4 = .ok (.iload_n 1, 1) := by decide +kernel
theorem dX1_isThere_5 : decode cX1_isThere 5 = .ok (.baload, 1) := by decide +kernel
theorem dX1_isThere_6 : decode cX1_isThere 6 = .ok (.ireturn, 1) := by decide +kernel
theorem dX1_lengthOf_0 : decode cX1_lengthOf 0 = .ok (.aload_n 0, 1) := by decide +kernel
theorem dX1_lengthOf_1 : decode cX1_lengthOf 1 = .ok (.getfield 19, 3) := by decide +kernel
theorem dX1_lengthOf_4 : decode cX1_lengthOf 4 = .ok (.iload_n 1, 1) := by decide +kernel
theorem dX1_lengthOf_5 : decode cX1_lengthOf 5 = .ok (.iaload, 1) := by decide +kernel
theorem dX1_lengthOf_6 : decode cX1_lengthOf 6 = .ok (.ireturn, 1) := by decide +kernel
theorem dX1_used_0 : decode cX1_used 0 = .ok (.aload_n 0, 1) := by decide +kernel
theorem dX1_used_1 : decode cX1_used 1 = .ok (.getfield 27, 3) := by decide +kernel
theorem dX1_used_4 : decode cX1_used 4 = .ok (.ireturn, 1) := by decide +kernel
theorem dX1_grants_0 : decode cX1_grants 0 = .ok (.aload_n 0, 1) := by decide +kernel
theorem dX1_grants_1 : decode cX1_grants 1 = .ok (.getfield 15, 3) := by decide +kernel
theorem dX1_grants_4 : decode cX1_grants 4 = .ok (.iload_n 1, 1) := by decide +kernel
theorem dX1_grants_5 : decode cX1_grants 5 = .ok (.iaload, 1) := by decide +kernel
theorem dX1_grants_6 : decode cX1_grants 6 = .ok (.iload_n 2, 1) := by decide +kernel
theorem dX1_grants_7 : decode cX1_grants 7 = .ok (.iand, 1) := by decide +kernel
theorem dX1_grants_8 : decode cX1_grants 8 = .ok (.ifCond .eq 7, 3) := by decide +kernel
theorem dX1_grants_11 : decode cX1_grants 11 = .ok (.iconst 1, 1) := by decide +kernel
theorem dX1_grants_12 : decode cX1_grants 12 = .ok (.goto 4, 3) := by decide +kernel
theorem dX1_grants_15 : decode cX1_grants 15 = .ok (.iconst 0, 1) := by decide +kernel
theorem dX1_grants_16 : decode cX1_grants 16 = .ok (.ireturn, 1) := by decide +kernel
theorem dX1_changePermits_0 : decode cX1_changePermits 0 = .ok (.aload_n 0, 1) := by decide +kernel
theorem dX1_changePermits_1 : decode cX1_changePermits 1 = .ok (.getfield 15, 3) := by decide +kernel
theorem dX1_changePermits_4 : decode cX1_changePermits 4 = .ok (.iload_n 1, 1) := by decide +kernel
theorem dX1_changePermits_5 : decode cX1_changePermits 5 = .ok (.iaload, 1) := by decide +kernel
theorem dX1_changePermits_6 : decode cX1_changePermits 6 = .ok (.istore_n 3, 1) := by decide +kernel
theorem dX1_changePermits_7 : decode cX1_changePermits 7 = .ok (.aload_n 0, 1) := by decide +kernel
theorem dX1_changePermits_8 : decode cX1_changePermits 8 = .ok (.getfield 15, 3) := by decide +kernel
theorem dX1_changePermits_11 : decode cX1_changePermits 11 = .ok (.iload_n 1, 1) := by decide +kernel
theorem dX1_changePermits_12 : decode cX1_changePermits 12 = .ok (.iload_n 2, 1) := by decide +kernel
theorem dX1_changePermits_13 : decode cX1_changePermits 13 = .ok (.iastore, 1) := by decide +kernel
theorem dX1_changePermits_14 : decode cX1_changePermits 14 = .ok (.iload_n 3, 1) := by decide +kernel
theorem dX1_changePermits_15 : decode cX1_changePermits 15 = .ok (.ireturn, 1) := by decide +kernel
theorem dX1_byteAt_0 : decode cX1_byteAt 0 = .ok (.iload_n 2, 1) := by decide +kernel
theorem dX1_byteAt_1 : decode cX1_byteAt 1 = .ok (.ifCond .lt 24, 3) := by decide +kernel
theorem dX1_byteAt_4 : decode cX1_byteAt 4 = .ok (.iload_n 2, 1) := by decide +kernel
theorem dX1_byteAt_5 : decode cX1_byteAt 5 = .ok (.aload_n 0, 1) := by decide +kernel
theorem dX1_byteAt_6 : decode cX1_byteAt 6 = .ok (.getfield 19, 3) := by decide +kernel
theorem dX1_byteAt_9 : decode cX1_byteAt 9 = .ok (.iload_n 1, 1) := by decide +kernel
theorem dX1_byteAt_10 : decode cX1_byteAt 10 = .ok (.iaload, 1) := by decide +kernel
theorem dX1_byteAt_11 : decode cX1_byteAt 11 = .ok (.if_icmp .ge 14, 3) := by decide +kernel
theorem dX1_byteAt_14 : decode cX1_byteAt 14 = .ok (.aload_n 0, 1) := by decide +kernel
theorem dX1_byteAt_15 : decode cX1_byteAt 15 = .ok (.getfield 24, 3) := by decide +kernel
theorem dX1_byteAt_18 : decode cX1_byteAt 18 = .ok (.iload_n 1, 1) := by decide +kernel
theorem dX1_byteAt_19 : decode cX1_byteAt 19 = .ok (.aaload, 1) := by decide +kernel
theorem dX1_byteAt_20 : decode cX1_byteAt 20 = .ok (.iload_n 2, 1) := by decide +kernel
theorem dX1_byteAt_21 : decode cX1_byteAt 21 = .ok (.iaload, 1) := by decide +kernel
theorem dX1_byteAt_22 : decode cX1_byteAt 22 = .ok (.goto 4, 3) := by decide +kernel
theorem dX1_byteAt_25 : decode cX1_byteAt 25 = .ok (.iconst (-1), 1) := by decide +kernel
theorem dX1_byteAt_26 : decode cX1_byteAt 26 = .ok (.ireturn, 1) := by decide +kernel
theorem dX1_create_0 : decode cX1_create 0 = .ok (.aload_n 0, 1) := by decide +kernel
theorem dX1_create_1 : decode cX1_create 1 = .ok (.getfield 9, 3) := by decide +kernel
theorem dX1_create_4 : decode cX1_create 4 = .ok (.iload_n 1, 1) := by decide +kernel
theorem dX1_create_5 : decode cX1_create 5 = .ok (.iconst 1, 1) := by decide +kernel
theorem dX1_create_6 : decode cX1_create 6 = .ok (.bastore, 1) := by decide +kernel
theorem dX1_create_7 : decode cX1_create 7 = .ok (.return_, 1) := by decide +kernel
theorem dX1_makeEmpty_0 : decode cX1_makeEmpty 0 = .ok (.aload_n 0, 1) := by decide +kernel
theorem dX1_makeEmpty_1 : decode cX1_makeEmpty 1 = .ok (.dup, 1) := by decide +kernel
theorem dX1_makeEmpty_2 : decode cX1_makeEmpty 2 = .ok (.getfield 27, 3) := by decide +kernel
theorem dX1_makeEmpty_5 : decode cX1_makeEmpty 5 = .ok (.aload_n 0, 1) := by decide +kernel
theorem dX1_makeEmpty_6 : decode cX1_makeEmpty 6 = .ok (.getfield 19, 3) := by decide +kernel
theorem dX1_makeEmpty_9 : decode cX1_makeEmpty 9 = .ok (.iload_n 1, 1) := by decide +kernel
theorem dX1_makeEmpty_10 : decode cX1_makeEmpty 10 = .ok (.iaload, 1) := by decide +kernel
theorem dX1_makeEmpty_11 : decode cX1_makeEmpty 11 = .ok (.isub, 1) := by decide +kernel
theorem dX1_makeEmpty_12 : decode cX1_makeEmpty 12 = .ok (.putfield 27, 3) := by decide +kernel
theorem dX1_makeEmpty_15 : decode cX1_makeEmpty 15 = .ok (.aload_n 0, 1) := by decide +kernel
theorem dX1_makeEmpty_16 : decode cX1_makeEmpty 16 = .ok (.getfield 19, 3) := by decide +kernel
theorem dX1_makeEmpty_19 : decode cX1_makeEmpty 19 = .ok (.iload_n 1, 1) := by decide +kernel
theorem dX1_makeEmpty_20 : decode cX1_makeEmpty 20 = .ok (.iconst 0, 1) := by decide +kernel
theorem dX1_makeEmpty_21 : decode cX1_makeEmpty 21 = .ok (.iastore, 1) := by decide +kernel
theorem dX1_makeEmpty_22 : decode cX1_makeEmpty 22 = .ok (.return_, 1) := by decide +kernel
theorem dX1_remove_0 : decode cX1_remove 0 = .ok (.aload_n 0, 1) := by decide +kernel
theorem dX1_remove_1 : decode cX1_remove 1 = .ok (.iload_n 1, 1) := by decide +kernel
theorem dX1_remove_2 : decode cX1_remove 2 = .ok (.invokevirtual 37, 3) := by decide +kernel
theorem dX1_remove_5 : decode cX1_remove 5 = .ok (.aload_n 0, 1) := by decide +kernel
theorem dX1_remove_6 : decode cX1_remove 6 = .ok (.getfield 9, 3) := by decide +kernel
theorem dX1_remove_9 : decode cX1_remove 9 = .ok (.iload_n 1, 1) := by decide +kernel
theorem dX1_remove_10 : decode cX1_remove 10 = .ok (.iconst 0, 1) := by decide +kernel
theorem dX1_remove_11 : decode cX1_remove 11 = .ok (.bastore, 1) := by decide +kernel
theorem dX1_remove_12 : decode cX1_remove 12 = .ok (.return_, 1) := by decide +kernel
theorem dX1_append_0 : decode cX1_append 0 = .ok (.aload_n 0, 1) := by decide +kernel
theorem dX1_append_1 : decode cX1_append 1 = .ok (.getfield 19, 3) := by decide +kernel
theorem dX1_append_4 : decode cX1_append 4 = .ok (.iload_n 1, 1) := by decide +kernel
theorem dX1_append_5 : decode cX1_append 5 = .ok (.iaload, 1) := by decide +kernel
theorem dX1_append_6 : decode cX1_append 6 = .ok (.istore_n 3, 1) := by decide +kernel
theorem dX1_append_7 : decode cX1_append 7 = .ok (.iload_n 3, 1) := by decide +kernel
theorem dX1_append_8 : decode cX1_append 8 = .ok (.bipush 40, 2) := by decide +kernel
theorem dX1_append_10 : decode cX1_append 10 = .ok (.if_icmp .ge 12, 3) := by decide +kernel
theorem dX1_append_13 : decode cX1_append 13 = .ok (.aload_n 0, 1) := by decide +kernel
theorem dX1_append_14 : decode cX1_append 14 = .ok (.getfield 27, 3) := by decide +kernel
theorem dX1_append_17 : decode cX1_append 17 = .ok (.bipush 120, 2) := by decide +kernel
theorem dX1_append_19 : decode cX1_append 19 = .ok (.if_icmp .lt 5, 3) := by decide +kernel
theorem dX1_append_22 : decode cX1_append 22 = .ok (.iconst 0, 1) := by decide +kernel
theorem dX1_append_23 : decode cX1_append 23 = .ok (.ireturn, 1) := by decide +kernel
theorem dX1_append_24 : decode cX1_append 24 = .ok (.aload_n 0, 1) := by decide +kernel
theorem dX1_append_25 : decode cX1_append 25 = .ok (.getfield 24, 3) := by decide +kernel
theorem dX1_append_28 : decode cX1_append 28 = .ok (.iload_n 1, 1) := by decide +kernel
theorem dX1_append_29 : decode cX1_append 29 = .ok (.aaload, 1) := by decide +kernel
theorem dX1_append_30 : decode cX1_append 30 = .ok (.iload_n 3, 1) := by decide +kernel
theorem dX1_append_31 : decode cX1_append 31 = .ok (.iload_n 2, 1) := by decide +kernel
theorem dX1_append_32 : decode cX1_append 32 = .ok (.iastore, 1) := by decide +kernel
theorem dX1_append_33 : decode cX1_append 33 = .ok (.aload_n 0, 1) := by decide +kernel
theorem dX1_append_34 : decode cX1_append 34 = .ok (.getfield 19, 3) := by decide +kernel
theorem dX1_append_37 : decode cX1_append 37 = .ok (.iload_n 1, 1) := by decide +kernel
theorem dX1_append_38 : decode cX1_append 38 = .ok (.iload_n 3, 1) := by decide +kernel
theorem dX1_append_39 : decode cX1_append 39 = .ok (.iconst 1, 1) := by decide +kernel
theorem dX1_append_40 : decode cX1_append 40 = .ok (.iadd, 1) := by decide +kernel
theorem dX1_append_41 : decode cX1_append 41 = .ok (.iastore, 1) := by decide +kernel
theorem dX1_append_42 : decode cX1_append 42 = .ok (.aload_n 0, 1) := by decide +kernel
theorem dX1_append_43 : decode cX1_append 43 = .ok (.dup, 1) := by decide +kernel
theorem dX1_append_44 : decode cX1_append 44 = .ok (.getfield 27, 3) := by decide +kernel
theorem dX1_append_47 : decode cX1_append 47 = .ok (.iconst 1, 1) := by decide +kernel
theorem dX1_append_48 : decode cX1_append 48 = .ok (.iadd, 1) := by decide +kernel
theorem dX1_append_49 : decode cX1_append 49 = .ok (.putfield 27, 3) := by decide +kernel
theorem dX1_append_52 : decode cX1_append 52 = .ok (.aload_n 0, 1) := by decide +kernel
theorem dX1_append_53 : decode cX1_append 53 = .ok (.getfield 9, 3) := by decide +kernel
theorem dX1_append_56 : decode cX1_append 56 = .ok (.iload_n 1, 1) := by decide +kernel
theorem dX1_append_57 : decode cX1_append 57 = .ok (.iconst 1, 1) := by decide +kernel
theorem dX1_append_58 : decode cX1_append 58 = .ok (.bastore, 1) := by decide +kernel
theorem dX1_append_59 : decode cX1_append 59 = .ok (.iconst 1, 1) := by decide +kernel
theorem dX1_append_60 : decode cX1_append 60 = .ok (.ireturn, 1) := by decide +kernel
theorem dX1_write_0 : decode cX1_write 0 = .ok (.iload_n 2, 1) := by decide +kernel
theorem dX1_write_1 : decode cX1_write 1 = .ok (.aload_n 0, 1) := by decide +kernel
theorem dX1_write_2 : decode cX1_write 2 = .ok (.getfield 19, 3) := by decide +kernel
theorem dX1_write_5 : decode cX1_write 5 = .ok (.iload_n 1, 1) := by decide +kernel
theorem dX1_write_6 : decode cX1_write 6 = .ok (.iaload, 1) := by decide +kernel
theorem dX1_write_7 : decode cX1_write 7 = .ok (.invokestatic 41, 3) := by decide +kernel
theorem dX1_write_10 : decode cX1_write 10 = .ok (.ifCond .ne 10, 3) := by decide +kernel
theorem dX1_write_13 : decode cX1_write 13 = .ok (.aload_n 0, 1) := by decide +kernel
theorem dX1_write_14 : decode cX1_write 14 = .ok (.iload_n 1, 1) := by decide +kernel
theorem dX1_write_15 : decode cX1_write 15 = .ok (.iload_n 3, 1) := by decide +kernel
theorem dX1_write_16 : decode cX1_write 16 = .ok (.invokevirtual 45, 3) := by decide +kernel
theorem dX1_write_19 : decode cX1_write 19 = .ok (.ireturn, 1) := by decide +kernel
theorem dX1_write_20 : decode cX1_write 20 = .ok (.aload_n 0, 1) := by decide +kernel
theorem dX1_write_21 : decode cX1_write 21 = .ok (.getfield 24, 3) := by decide +kernel
theorem dX1_write_24 : decode cX1_write 24 = .ok (.iload_n 1, 1) := by decide +kernel
theorem dX1_write_25 : decode cX1_write 25 = .ok (.aaload, 1) := by decide +kernel
theorem dX1_write_26 : decode cX1_write 26 = .ok (.iload_n 2, 1) := by decide +kernel
theorem dX1_write_27 : decode cX1_write 27 = .ok (.iload_n 3, 1) := by decide +kernel
theorem dX1_write_28 : decode cX1_write 28 = .ok (.iastore, 1) := by decide +kernel
theorem dX1_write_29 : decode cX1_write 29 = .ok (.iconst 1, 1) := by decide +kernel
theorem dX1_write_30 : decode cX1_write 30 = .ok (.ireturn, 1) := by decide +kernel
theorem dX1_move_0 : decode cX1_move 0 = .ok (.aload_n 0, 1) := by decide +kernel
theorem dX1_move_1 : decode cX1_move 1 = .ok (.dup, 1) := by decide +kernel
theorem dX1_move_2 : decode cX1_move 2 = .ok (.getfield 27, 3) := by decide +kernel
theorem dX1_move_5 : decode cX1_move 5 = .ok (.aload_n 0, 1) := by decide +kernel
theorem dX1_move_6 : decode cX1_move 6 = .ok (.getfield 19, 3) := by decide +kernel
theorem dX1_move_9 : decode cX1_move 9 = .ok (.iload_n 2, 1) := by decide +kernel
theorem dX1_move_10 : decode cX1_move 10 = .ok (.iaload, 1) := by decide +kernel
theorem dX1_move_11 : decode cX1_move 11 = .ok (.isub, 1) := by decide +kernel
theorem dX1_move_12 : decode cX1_move 12 = .ok (.putfield 27, 3) := by decide +kernel
theorem dX1_move_15 : decode cX1_move 15 = .ok (.aload_n 0, 1) := by decide +kernel
theorem dX1_move_16 : decode cX1_move 16 = .ok (.getfield 24, 3) := by decide +kernel
theorem dX1_move_19 : decode cX1_move 19 = .ok (.iload_n 1, 1) := by decide +kernel
theorem dX1_move_20 : decode cX1_move 20 = .ok (.aaload, 1) := by decide +kernel
theorem dX1_move_21 : decode cX1_move 21 = .ok (.iconst 0, 1) := by decide +kernel
theorem dX1_move_22 : decode cX1_move 22 = .ok (.aload_n 0, 1) := by decide +kernel
theorem dX1_move_23 : decode cX1_move 23 = .ok (.getfield 24, 3) := by decide +kernel
theorem dX1_move_26 : decode cX1_move 26 = .ok (.iload_n 2, 1) := by decide +kernel
theorem dX1_move_27 : decode cX1_move 27 = .ok (.aaload, 1) := by decide +kernel
theorem dX1_move_28 : decode cX1_move 28 = .ok (.iconst 0, 1) := by decide +kernel
theorem dX1_move_29 : decode cX1_move 29 = .ok (.aload_n 0, 1) := by decide +kernel
theorem dX1_move_30 : decode cX1_move 30 = .ok (.getfield 19, 3) := by decide +kernel
theorem dX1_move_33 : decode cX1_move 33 = .ok (.iload_n 1, 1) := by decide +kernel
theorem dX1_move_34 : decode cX1_move 34 = .ok (.iaload, 1) := by decide +kernel
theorem dX1_move_35 : decode cX1_move 35 = .ok (.invokestatic 48, 3) := by decide +kernel
theorem dX1_move_38 : decode cX1_move 38 = .ok (.aload_n 0, 1) := by decide +kernel
theorem dX1_move_39 : decode cX1_move 39 = .ok (.getfield 19, 3) := by decide +kernel
theorem dX1_move_42 : decode cX1_move 42 = .ok (.iload_n 2, 1) := by decide +kernel
theorem dX1_move_43 : decode cX1_move 43 = .ok (.aload_n 0, 1) := by decide +kernel
theorem dX1_move_44 : decode cX1_move 44 = .ok (.getfield 19, 3) := by decide +kernel
theorem dX1_move_47 : decode cX1_move 47 = .ok (.iload_n 1, 1) := by decide +kernel
theorem dX1_move_48 : decode cX1_move 48 = .ok (.iaload, 1) := by decide +kernel
theorem dX1_move_49 : decode cX1_move 49 = .ok (.iastore, 1) := by decide +kernel
theorem dX1_move_50 : decode cX1_move 50 = .ok (.aload_n 0, 1) := by decide +kernel
theorem dX1_move_51 : decode cX1_move 51 = .ok (.getfield 9, 3) := by decide +kernel
theorem dX1_move_54 : decode cX1_move 54 = .ok (.iload_n 2, 1) := by decide +kernel
theorem dX1_move_55 : decode cX1_move 55 = .ok (.iconst 1, 1) := by decide +kernel
theorem dX1_move_56 : decode cX1_move 56 = .ok (.bastore, 1) := by decide +kernel
theorem dX1_move_57 : decode cX1_move 57 = .ok (.aload_n 0, 1) := by decide +kernel
theorem dX1_move_58 : decode cX1_move 58 = .ok (.getfield 19, 3) := by decide +kernel
theorem dX1_move_61 : decode cX1_move 61 = .ok (.iload_n 1, 1) := by decide +kernel
theorem dX1_move_62 : decode cX1_move 62 = .ok (.iconst 0, 1) := by decide +kernel
theorem dX1_move_63 : decode cX1_move 63 = .ok (.iastore, 1) := by decide +kernel
theorem dX1_move_64 : decode cX1_move 64 = .ok (.aload_n 0, 1) := by decide +kernel
theorem dX1_move_65 : decode cX1_move 65 = .ok (.getfield 9, 3) := by decide +kernel
theorem dX1_move_68 : decode cX1_move 68 = .ok (.iload_n 1, 1) := by decide +kernel
theorem dX1_move_69 : decode cX1_move 69 = .ok (.iconst 0, 1) := by decide +kernel
theorem dX1_move_70 : decode cX1_move 70 = .ok (.bastore, 1) := by decide +kernel
theorem dX1_move_71 : decode cX1_move 71 = .ok (.return_, 1) := by decide +kernel
theorem dX2_init_0 : decode cX2_init 0 = .ok (.aload_n 0, 1) := by decide +kernel
theorem dX2_init_1 : decode cX2_init 1 = .ok (.invokespecial 3, 3) := by decide +kernel
theorem dX2_init_4 : decode cX2_init 4 = .ok (.aload_n 0, 1) := by decide +kernel
theorem dX2_init_5 : decode cX2_init 5 = .ok (.bipush 20, 2) := by decide +kernel
theorem dX2_init_7 : decode cX2_init 7 = .ok (.newarray .int, 2) := by decide +kernel
theorem dX2_init_9 : decode cX2_init 9 = .ok (.putfield 9, 3) := by decide +kernel
theorem dX2_init_12 : decode cX2_init 12 = .ok (.aload_n 0, 1) := by decide +kernel
theorem dX2_init_13 : decode cX2_init 13 = .ok (.iconst 0, 1) := by decide +kernel
theorem dX2_init_14 : decode cX2_init 14 = .ok (.putfield 15, 3) := by decide +kernel
theorem dX2_init_17 : decode cX2_init 17 = .ok (.aload_n 0, 1) := by decide +kernel
theorem dX2_init_18 : decode cX2_init 18 = .ok (.iconst 0, 1) := by decide +kernel
theorem dX2_init_19 : decode cX2_init 19 = .ok (.putfield 19, 3) := by decide +kernel
theorem dX2_init_22 : decode cX2_init 22 = .ok (.aload_n 0, 1) := by decide +kernel
theorem dX2_init_23 : decode cX2_init 23 = .ok (.iconst 0, 1) := by decide +kernel
theorem dX2_init_24 : decode cX2_init 24 = .ok (.putfield 22, 3) := by decide +kernel
theorem dX2_init_27 : decode cX2_init 27 = .ok (.aload_n 0, 1) := by decide +kernel
theorem dX2_init_28 : decode cX2_init 28 = .ok (.iconst 0, 1) := by decide +kernel
theorem dX2_init_29 : decode cX2_init 29 = .ok (.putfield 25, 3) := by decide +kernel
theorem dX2_init_32 : decode cX2_init 32 = .ok (.aload_n 0, 1) := by decide +kernel
theorem dX2_init_33 : decode cX2_init 33 = .ok (.iconst 0, 1) := by decide +kernel
theorem dX2_init_34 : decode cX2_init 34 = .ok (.putfield 28, 3) := by decide +kernel
theorem dX2_init_37 : decode cX2_init 37 = .ok (.aload_n 0, 1) := by decide +kernel
theorem dX2_init_38 : decode cX2_init 38 = .ok (.iconst 2, 1) := by decide +kernel
theorem dX2_init_39 : decode cX2_init 39 = .ok (.putfield 31, 3) := by decide +kernel
theorem dX2_init_42 : decode cX2_init 42 = .ok (.aload_n 0, 1) := by decide +kernel
theorem dX2_init_43 : decode cX2_init 43 = .ok (.iconst 0, 1) := by decide +kernel
theorem dX2_init_44 : decode cX2_init 44 = .ok (.putfield 34, 3) := by decide +kernel
theorem dX2_init_47 : decode cX2_init 47 = .ok (.aload_n 0, 1) := by decide +kernel
theorem dX2_init_48 : decode cX2_init 48 = .ok (.iconst 0, 1) := by decide +kernel
theorem dX2_init_49 : decode cX2_init 49 = .ok (.putfield 37, 3) := by decide +kernel
theorem dX2_init_52 : decode cX2_init 52 = .ok (.aload_n 0, 1) := by decide +kernel
theorem dX2_init_53 : decode cX2_init 53 = .ok (.iconst 0, 1) := by decide +kernel
theorem dX2_init_54 : decode cX2_init 54 = .ok (.putfield 40, 3) := by decide +kernel
theorem dX2_init_57 : decode cX2_init 57 = .ok (.aload_n 0, 1) := by decide +kernel
theorem dX2_init_58 : decode cX2_init 58 = .ok (.aload_n 1, 1) := by decide +kernel
theorem dX2_init_59 : decode cX2_init 59 = .ok (.putfield 43, 3) := by decide +kernel
theorem dX2_init_62 : decode cX2_init 62 = .ok (.return_, 1) := by decide +kernel
theorem dX2_begin_0 : decode cX2_begin 0 = .ok (.aload_n 0, 1) := by decide +kernel
theorem dX2_begin_1 : decode cX2_begin 1 = .ok (.iload_n 1, 1) := by decide +kernel
theorem dX2_begin_2 : decode cX2_begin 2 = .ok (.putfield 22, 3) := by decide +kernel
theorem dX2_begin_5 : decode cX2_begin 5 = .ok (.aload_n 0, 1) := by decide +kernel
theorem dX2_begin_6 : decode cX2_begin 6 = .ok (.iload_n 2, 1) := by decide +kernel
theorem dX2_begin_7 : decode cX2_begin 7 = .ok (.putfield 25, 3) := by decide +kernel
theorem dX2_begin_10 : decode cX2_begin 10 = .ok (.aload_n 0, 1) := by decide +kernel
theorem dX2_begin_11 : decode cX2_begin 11 = .ok (.iload_n 2, 1) := by decide +kernel
theorem dX2_begin_12 : decode cX2_begin 12 = .ok (.iconst 2, 1) := by decide +kernel
theorem dX2_begin_13 : decode cX2_begin 13 = .ok (.if_icmp .ne 14, 3) := by decide +kernel
theorem dX2_begin_16 : decode cX2_begin 16 = .ok (.aload_n 0, 1) := by decide +kernel
theorem dX2_begin_17 : decode cX2_begin 17 = .ok (.getfield 43, 3) := by decide +kernel
theorem dX2_begin_20 : decode cX2_begin 20 = .ok (.iload_n 1, 1) := by decide +kernel
theorem dX2_begin_21 : decode cX2_begin 21 = .ok (.invokevirtual 47, 3) := by decide +kernel
theorem dX2_begin_24 : decode cX2_begin 24 = .ok (.goto 4, 3) := by decide +kernel
theorem dX2_begin_27 : decode cX2_begin 27 = .ok (.iconst 0, 1) := by decide +kernel
theorem dX2_begin_28 : decode cX2_begin 28 = .ok (.putfield 28, 3) := by decide +kernel
theorem dX2_begin_31 : decode cX2_begin 31 = .ok (.aload_n 0, 1) := by decide +kernel
theorem dX2_begin_32 : decode cX2_begin 32 = .ok (.iconst 0, 1) := by decide +kernel
theorem dX2_begin_33 : decode cX2_begin 33 = .ok (.putfield 31, 3) := by decide +kernel
theorem dX2_begin_36 : decode cX2_begin 36 = .ok (.aload_n 0, 1) := by decide +kernel
theorem dX2_begin_37 : decode cX2_begin 37 = .ok (.iconst 0, 1) := by decide +kernel
theorem dX2_begin_38 : decode cX2_begin 38 = .ok (.putfield 19, 3) := by decide +kernel
theorem dX2_begin_41 : decode cX2_begin 41 = .ok (.aload_n 0, 1) := by decide +kernel
theorem dX2_begin_42 : decode cX2_begin 42 = .ok (.iconst 0, 1) := by decide +kernel
theorem dX2_begin_43 : decode cX2_begin 43 = .ok (.putfield 15, 3) := by decide +kernel
theorem dX2_begin_46 : decode cX2_begin 46 = .ok (.aload_n 0, 1) := by decide +kernel
theorem dX2_begin_47 : decode cX2_begin 47 = .ok (.iconst 0, 1) := by decide +kernel
theorem dX2_begin_48 : decode cX2_begin 48 = .ok (.putfield 34, 3) := by decide +kernel
theorem dX2_begin_51 : decode cX2_begin 51 = .ok (.aload_n 0, 1) := by decide +kernel
theorem dX2_begin_52 : decode cX2_begin 52 = .ok (.iconst 0, 1) := by decide +kernel
theorem dX2_begin_53 : decode cX2_begin 53 = .ok (.putfield 37, 3) := by decide +kernel
theorem dX2_begin_56 : decode cX2_begin 56 = .ok (.aload_n 0, 1) := by decide +kernel
theorem dX2_begin_57 : decode cX2_begin 57 = .ok (.iconst 0, 1) := by decide +kernel
theorem dX2_begin_58 : decode cX2_begin 58 = .ok (.putfield 40, 3) := by decide +kernel
theorem dX2_begin_61 : decode cX2_begin 61 = .ok (.return_, 1) := by decide +kernel
theorem dX2_isOpen_0 : decode cX2_isOpen 0 = .ok (.aload_n 0, 1) := by decide +kernel
theorem dX2_isOpen_1 : decode cX2_isOpen 1 = .ok (.getfield 31, 3) := by decide +kernel
theorem dX2_isOpen_4 : decode cX2_isOpen 4 = .ok (.ifCond .ne 7, 3) := by decide +kernel
theorem dX2_isOpen_7 : decode cX2_isOpen 7 = .ok (.iconst 1, 1) := by decide +kernel
theorem dX2_isOpen_8 : decode cX2_isOpen 8 = .ok (.goto 4, 3) := by decide +kernel
theorem dX2_isOpen_11 : decode cX2_isOpen 11 = .ok (.iconst 0, 1) := by decide +kernel
theorem dX2_isOpen_12 : decode cX2_isOpen 12 = .ok (.ireturn, 1) := by decide +kernel
theorem dX2_isHalf_0 : decode cX2_isHalf 0 = .ok (.aload_n 0, 1) := by decide +kernel
theorem dX2_isHalf_1 : decode cX2_isHalf 1 = .ok (.getfield 31, 3) := by decide +kernel
theorem dX2_isHalf_4 : decode cX2_isHalf 4 = .ok (.iconst 1, 1) := by decide +kernel
theorem dX2_isHalf_5 : decode cX2_isHalf 5 = .ok (.if_icmp .ne 7, 3) := by decide +kernel
theorem dX2_isHalf_8 : decode cX2_isHalf 8 = .ok (.iconst 1, 1) := by decide +kernel
theorem dX2_isHalf_9 : decode cX2_isHalf 9 = .ok (.goto 4, 3) := by decide +kernel
theorem dX2_isHalf_12 : decode cX2_isHalf 12 = .ok (.iconst 0, 1) := by decide +kernel
theorem dX2_isHalf_13 : decode cX2_isHalf 13 = .ok (.ireturn, 1) := by decide +kernel
theorem dX2_isClosed_0 : decode cX2_isClosed 0 = .ok (.aload_n 0, 1) := by decide +kernel
theorem dX2_isClosed_1 : decode cX2_isClosed 1 = .ok (.getfield 31, 3) := by decide +kernel
theorem dX2_isClosed_4 : decode cX2_isClosed 4 = .ok (.iconst 2, 1) := by decide +kernel
theorem dX2_isClosed_5 : decode cX2_isClosed 5 = .ok (.if_icmp .ne 7, 3) := by decide +kernel
theorem dX2_isClosed_8 : decode cX2_isClosed 8 = .ok (.iconst 1, 1) := by decide +kernel
theorem dX2_isClosed_9 : decode cX2_isClosed 9 = .ok (.goto 4, 3) := by decide +kernel
theorem dX2_isClosed_12 : decode cX2_isClosed 12 = .ok (.iconst 0, 1) := by decide +kernel
theorem dX2_isClosed_13 : decode cX2_isClosed 13 = .ok (.ireturn, 1) := by decide +kernel
theorem dX2_writes_0 : decode cX2_writes 0 = .ok (.aload_n 0, 1) := by decide +kernel
theorem dX2_writes_1 : decode cX2_writes 1 = .ok (.getfield 25, 3) := by decide +kernel
theorem dX2_writes_4 : decode cX2_writes 4 = .ok (.ifCond .eq 7, 3) := by decide +kernel
theorem dX2_writes_7 : decode cX2_writes 7 = .ok (.iconst 1, 1) := by decide +kernel
theorem dX2_writes_8 : decode cX2_writes 8 = .ok (.goto 4, 3) := by decide +kernel
theorem dX2_writes_11 : decode cX2_writes 11 = .ok (.iconst 0, 1) := by decide +kernel
theorem dX2_writes_12 : decode cX2_writes 12 = .ok (.ireturn, 1) := by decide +kernel
theorem dX2_holds_0 : decode cX2_holds 0 = .ok (.aload_n 0, 1) := by decide +kernel
theorem dX2_holds_1 : decode cX2_holds 1 = .ok (.getfield 31, 3) := by decide +kernel
theorem dX2_holds_4 : decode cX2_holds 4 = .ok (.iconst 2, 1) := by decide +kernel
theorem dX2_holds_5 : decode cX2_holds 5 = .ok (.if_icmp .eq 15, 3) := by decide +kernel
theorem dX2_holds_8 : decode cX2_holds 8 = .ok (.aload_n 0, 1) := by decide +kernel
theorem dX2_holds_9 : decode cX2_holds 9 = .ok (.getfield 22, 3) := by decide +kernel
theorem dX2_holds_12 : decode cX2_holds 12 = .ok (.iload_n 1, 1) := by decide +kernel
theorem dX2_holds_13 : decode cX2_holds 13 = .ok (.if_icmp .ne 7, 3) := by decide +kernel
theorem dX2_holds_16 : decode cX2_holds 16 = .ok (.iconst 1, 1) := by decide +kernel
theorem dX2_holds_17 : decode cX2_holds 17 = .ok (.goto 4, 3) := by decide +kernel
theorem dX2_holds_20 : decode cX2_holds 20 = .ok (.iconst 0, 1) := by decide +kernel
theorem dX2_holds_21 : decode cX2_holds 21 = .ok (.ireturn, 1) := by decide +kernel
theorem dX2_becomeHalf_0 : decode cX2_becomeHalf 0 = .ok (.aload_n 0, 1) := by decide +kernel
theorem dX2_becomeHalf_1 : decode cX2_becomeHalf 1 = .ok (.getfield 31, 3) := by decide +kernel
theorem dX2_becomeHalf_4 : decode cX2_becomeHalf 4 = .ok (.ifCond .ne 10, 3) := by decide +kernel
theorem dX2_becomeHalf_7 : decode cX2_becomeHalf 7 = .ok (.aload_n 0, 1) := by decide +kernel
theorem dX2_becomeHalf_8 : decode cX2_becomeHalf 8 = .ok (.getfield 25, 3) := by decide +kernel
theorem dX2_becomeHalf_11 : decode cX2_becomeHalf 11 = .ok (.ifCond .eq 5, 3) := by decide +kernel
theorem dX2_becomeHalf_14 : decode cX2_becomeHalf 14 = .ok (.iconst 0, 1) := by decide +kernel
theorem dX2_becomeHalf_15 : decode cX2_becomeHalf 15 = .ok (.ireturn, 1) := by decide +kernel
theorem dX2_becomeHalf_16 : decode cX2_becomeHalf 16 = .ok (.aload_n 0, 1) := by decide +kernel
theorem dX2_becomeHalf_17 : decode cX2_becomeHalf 17 = .ok (.iconst 1, 1) := by decide +kernel
theorem dX2_becomeHalf_18 : decode cX2_becomeHalf 18 = .ok (.putfield 31, 3) := by decide +kernel
theorem dX2_becomeHalf_21 : decode cX2_becomeHalf 21 = .ok (.iconst 1, 1) := by decide +kernel
theorem dX2_becomeHalf_22 : decode cX2_becomeHalf 22 = .ok (.ireturn, 1) := by decide +kernel
theorem dX2_endReading_0 : decode cX2_endReading 0 = .ok (.aload_n 0, 1) := by decide +kernel
theorem dX2_endReading_1 : decode cX2_endReading 1 = .ok (.iconst 2, 1) := by decide +kernel
theorem dX2_endReading_2 : decode cX2_endReading 2 = .ok (.putfield 31, 3) := by decide +kernel
theorem dX2_endReading_5 : decode cX2_endReading 5 = .ok (.return_, 1) := by decide +kernel
theorem dX2_close_0 : decode cX2_close 0 = .ok (.aload_n 0, 1) := by decide +kernel
theorem dX2_close_1 : decode cX2_close 1 = .ok (.getfield 31, 3) := by decide +kernel
theorem dX2_close_4 : decode cX2_close 4 = .ok (.ifCond .ne 10, 3) := by decide +kernel
theorem dX2_close_7 : decode cX2_close 7 = .ok (.aload_n 0, 1) := by decide +kernel
theorem dX2_close_8 : decode cX2_close 8 = .ok (.invokevirtual 53, 3) := by decide +kernel
theorem dX2_close_11 : decode cX2_close 11 = .ok (.goto 4, 3) := by decide +kernel
theorem dX2_close_14 : decode cX2_close 14 = .ok (.iconst 0, 1) := by decide +kernel
theorem dX2_close_15 : decode cX2_close 15 = .ok (.istore_n 1, 1) := by decide +kernel
theorem dX2_close_16 : decode cX2_close 16 = .ok (.aload_n 0, 1) := by decide +kernel
theorem dX2_close_17 : decode cX2_close 17 = .ok (.iconst 2, 1) := by decide +kernel
theorem dX2_close_18 : decode cX2_close 18 = .ok (.putfield 31, 3) := by decide +kernel
theorem dX2_close_21 : decode cX2_close 21 = .ok (.iload_n 1, 1) := by decide +kernel
theorem dX2_close_22 : decode cX2_close 22 = .ok (.ireturn, 1) := by decide +kernel
theorem dX2_put_0 : decode cX2_put 0 = .ok (.aload_n 0, 1) := by decide +kernel
theorem dX2_put_1 : decode cX2_put 1 = .ok (.getfield 31, 3) := by decide +kernel
theorem dX2_put_4 : decode cX2_put 4 = .ok (.ifCond .ne 19, 3) := by decide +kernel
theorem dX2_put_7 : decode cX2_put 7 = .ok (.aload_n 0, 1) := by decide +kernel
theorem dX2_put_8 : decode cX2_put 8 = .ok (.invokevirtual 57, 3) := by decide +kernel
theorem dX2_put_11 : decode cX2_put 11 = .ok (.ifCond .eq 12, 3) := by decide +kernel
theorem dX2_put_14 : decode cX2_put 14 = .ok (.aload_n 0, 1) := by decide +kernel
theorem dX2_put_15 : decode cX2_put 15 = .ok (.getfield 15, 3) := by decide +kernel
theorem dX2_put_18 : decode cX2_put 18 = .ok (.bipush 20, 2) := by decide +kernel
theorem dX2_put_20 : decode cX2_put 20 = .ok (.if_icmp .lt 8, 3) := by decide +kernel
theorem dX2_put_23 : decode cX2_put 23 = .ok (.iconst 4, 1) := by decide +kernel
theorem dX2_put_24 : decode cX2_put 24 = .ok (.invokestatic 61, 3) := by decide +kernel
theorem dX2_put_27 : decode cX2_put 27 = .ok (.ireturn, 1) := by decide +kernel
theorem dX2_put_28 : decode cX2_put 28 = .ok (.iload_n 1, 1) := by decide +kernel
theorem dX2_put_29 : decode cX2_put 29 = .ok (.sipush 255, 3) := by decide +kernel
theorem dX2_put_32 : decode cX2_put 32 = .ok (.iand, 1) := by decide +kernel
theorem dX2_put_33 : decode cX2_put 33 = .ok (.istore_n 2, 1) := by decide +kernel
theorem dX2_put_34 : decode cX2_put 34 = .ok (.aload_n 0, 1) := by decide +kernel
theorem dX2_put_35 : decode cX2_put 35 = .ok (.getfield 9, 3) := by decide +kernel
theorem dX2_put_38 : decode cX2_put 38 = .ok (.aload_n 0, 1) := by decide +kernel
theorem dX2_put_39 : decode cX2_put 39 = .ok (.getfield 15, 3) := by decide +kernel
theorem dX2_put_42 : decode cX2_put 42 = .ok (.iload_n 2, 1) := by decide +kernel
theorem dX2_put_43 : decode cX2_put 43 = .ok (.iastore, 1) := by decide +kernel
theorem dX2_put_44 : decode cX2_put 44 = .ok (.aload_n 0, 1) := by decide +kernel
theorem dX2_put_45 : decode cX2_put 45 = .ok (.dup, 1) := by decide +kernel
theorem dX2_put_46 : decode cX2_put 46 = .ok (.getfield 15, 3) := by decide +kernel
theorem dX2_put_49 : decode cX2_put 49 = .ok (.iconst 1, 1) := by decide +kernel
theorem dX2_put_50 : decode cX2_put 50 = .ok (.iadd, 1) := by decide +kernel
theorem dX2_put_51 : decode cX2_put 51 = .ok (.putfield 15, 3) := by decide +kernel
theorem dX2_put_54 : decode cX2_put 54 = .ok (.aload_n 0, 1) := by decide +kernel
theorem dX2_put_55 : decode cX2_put 55 = .ok (.dup, 1) := by decide +kernel
theorem dX2_put_56 : decode cX2_put 56 = .ok (.getfield 34, 3) := by decide +kernel
theorem dX2_put_59 : decode cX2_put 59 = .ok (.iconst 1, 1) := by decide +kernel
theorem dX2_put_60 : decode cX2_put 60 = .ok (.iadd, 1) := by decide +kernel
theorem dX2_put_61 : decode cX2_put 61 = .ok (.putfield 34, 3) := by decide +kernel
theorem dX2_put_64 : decode cX2_put 64 = .ok (.aload_n 0, 1) := by decide +kernel
theorem dX2_put_65 : decode cX2_put 65 = .ok (.iload_n 2, 1) := by decide +kernel
theorem dX2_put_66 : decode cX2_put 66 = .ok (.invokevirtual 64, 3) := by decide +kernel
theorem dX2_put_69 : decode cX2_put 69 = .ok (.ifCond .eq 10, 3) := by decide +kernel
theorem dX2_put_72 : decode cX2_put 72 = .ok (.aload_n 0, 1) := by decide +kernel
theorem dX2_put_73 : decode cX2_put 73 = .ok (.invokevirtual 53, 3) := by decide +kernel
theorem dX2_put_76 : decode cX2_put 76 = .ok (.goto 4, 3) := by decide +kernel
theorem dX2_put_79 : decode cX2_put 79 = .ok (.iconst 0, 1) := by decide +kernel
theorem dX2_put_80 : decode cX2_put 80 = .ok (.ireturn, 1) := by decide +kernel
theorem dX2_isDue_0 : decode cX2_isDue 0 = .ok (.aload_n 0, 1) := by decide +kernel
theorem dX2_isDue_1 : decode cX2_isDue 1 = .ok (.getfield 19, 3) := by decide +kernel
theorem dX2_isDue_4 : decode cX2_isDue 4 = .ok (.iconst 1, 1) := by decide +kernel
theorem dX2_isDue_5 : decode cX2_isDue 5 = .ok (.if_icmp .ne 24, 3) := by decide +kernel
theorem dX2_isDue_8 : decode cX2_isDue 8 = .ok (.iload_n 1, 1) := by decide +kernel
theorem dX2_isDue_9 : decode cX2_isDue 9 = .ok (.bipush 10, 2) := by decide +kernel
theorem dX2_isDue_11 : decode cX2_isDue 11 = .ok (.if_icmp .eq 12, 3) := by decide +kernel
theorem dX2_isDue_14 : decode cX2_isDue 14 = .ok (.aload_n 0, 1) := by decide +kernel
theorem dX2_isDue_15 : decode cX2_isDue 15 = .ok (.getfield 15, 3) := by decide +kernel
theorem dX2_isDue_18 : decode cX2_isDue 18 = .ok (.bipush 20, 2) := by decide +kernel
theorem dX2_isDue_20 : decode cX2_isDue 20 = .ok (.if_icmp .lt 7, 3) := by decide +kernel
theorem dX2_isDue_23 : decode cX2_isDue 23 = .ok (.iconst 1, 1) := by decide +kernel
theorem dX2_isDue_24 : decode cX2_isDue 24 = .ok (.goto 4, 3) := by decide +kernel
theorem dX2_isDue_27 : decode cX2_isDue 27 = .ok (.iconst 0, 1) := by decide +kernel
theorem dX2_isDue_28 : decode cX2_isDue 28 = .ok (.ireturn, 1) := by decide +kernel
theorem dX2_isDue_29 : decode cX2_isDue 29 = .ok (.aload_n 0, 1) := by decide +kernel
theorem dX2_isDue_30 : decode cX2_isDue 30 = .ok (.getfield 19, 3) := by decide +kernel
theorem dX2_isDue_33 : decode cX2_isDue 33 = .ok (.ifCond .eq 14, 3) := by decide +kernel
theorem dX2_isDue_36 : decode cX2_isDue 36 = .ok (.aload_n 0, 1) := by decide +kernel
theorem dX2_isDue_37 : decode cX2_isDue 37 = .ok (.getfield 15, 3) := by decide +kernel
theorem dX2_isDue_40 : decode cX2_isDue 40 = .ok (.aload_n 0, 1) := by decide +kernel
theorem dX2_isDue_41 : decode cX2_isDue 41 = .ok (.getfield 19, 3) := by decide +kernel
theorem dX2_isDue_44 : decode cX2_isDue 44 = .ok (.if_icmp .lt 7, 3) := by decide +kernel
theorem dX2_isDue_47 : decode cX2_isDue 47 = .ok (.iconst 1, 1) := by decide +kernel
theorem dX2_isDue_48 : decode cX2_isDue 48 = .ok (.goto 4, 3) := by decide +kernel
theorem dX2_isDue_51 : decode cX2_isDue 51 = .ok (.iconst 0, 1) := by decide +kernel
theorem dX2_isDue_52 : decode cX2_isDue 52 = .ok (.ireturn, 1) := by decide +kernel
theorem dX2_flush_0 : decode cX2_flush 0 = .ok (.aload_n 0, 1) := by decide +kernel
theorem dX2_flush_1 : decode cX2_flush 1 = .ok (.getfield 31, 3) := by decide +kernel
theorem dX2_flush_4 : decode cX2_flush 4 = .ok (.ifCond .eq 8, 3) := by decide +kernel
theorem dX2_flush_7 : decode cX2_flush 7 = .ok (.iconst 4, 1) := by decide +kernel
theorem dX2_flush_8 : decode cX2_flush 8 = .ok (.invokestatic 61, 3) := by decide +kernel
theorem dX2_flush_11 : decode cX2_flush 11 = .ok (.ireturn, 1) := by decide +kernel
theorem dX2_flush_12 : decode cX2_flush 12 = .ok (.iconst 0, 1) := by decide +kernel
theorem dX2_flush_13 : decode cX2_flush 13 = .ok (.istore_n 1, 1) := by decide +kernel
theorem dX2_flush_14 : decode cX2_flush 14 = .ok (.iload_n 1, 1) := by decide +kernel
theorem dX2_flush_15 : decode cX2_flush 15 = .ok (.aload_n 0, 1) := by decide +kernel
theorem dX2_flush_16 : decode cX2_flush 16 = .ok (.getfield 15, 3) := by decide +kernel
theorem dX2_flush_19 : decode cX2_flush 19 = .ok (.if_icmp .ge 43, 3) := by decide +kernel
theorem dX2_flush_22 : decode cX2_flush 22 = .ok (.aload_n 0, 1) := by decide +kernel
theorem dX2_flush_23 : decode cX2_flush 23 = .ok (.getfield 43, 3) := by decide +kernel
theorem dX2_flush_26 : decode cX2_flush 26 = .ok (.aload_n 0, 1) := by decide +kernel
theorem dX2_flush_27 : decode cX2_flush 27 = .ok (.getfield 22, 3) := by decide +kernel
theorem dX2_flush_30 : decode cX2_flush 30 = .ok (.aload_n 0, 1) := by decide +kernel
theorem dX2_flush_31 : decode cX2_flush 31 = .ok (.getfield 28, 3) := by decide +kernel
theorem dX2_flush_34 : decode cX2_flush 34 = .ok (.aload_n 0, 1) := by decide +kernel
theorem dX2_flush_35 : decode cX2_flush 35 = .ok (.getfield 9, 3) := by decide +kernel
theorem dX2_flush_38 : decode cX2_flush 38 = .ok (.iload_n 1, 1) := by decide +kernel
theorem dX2_flush_39 : decode cX2_flush 39 = .ok (.iaload, 1) := by decide +kernel
theorem dX2_flush_40 : decode cX2_flush 40 = .ok (.invokevirtual 68, 3) := by decide +kernel
theorem dX2_flush_43 : decode cX2_flush 43 = .ok (.ifCond .eq 19, 3) := by decide +kernel
theorem dX2_flush_46 : decode cX2_flush 46 = .ok (.iinc 1 1, 3) := by decide +kernel
theorem dX2_flush_49 : decode cX2_flush 49 = .ok (.aload_n 0, 1) := by decide +kernel
theorem dX2_flush_50 : decode cX2_flush 50 = .ok (.dup, 1) := by decide +kernel
theorem dX2_flush_51 : decode cX2_flush 51 = .ok (.getfield 28, 3) := by decide +kernel
theorem dX2_flush_54 : decode cX2_flush 54 = .ok (.iconst 1, 1) := by decide +kernel
theorem dX2_flush_55 : decode cX2_flush 55 = .ok (.iadd, 1) := by decide +kernel
theorem dX2_flush_56 : decode cX2_flush 56 = .ok (.putfield 28, 3) := by decide +kernel
theorem dX2_flush_59 : decode cX2_flush 59 = .ok (.goto (-45), 3) := by decide +kernel
theorem dX2_flush_62 : decode cX2_flush 62 = .ok (.iload_n 1, 1) := by decide +kernel
theorem dX2_flush_63 : decode cX2_flush 63 = .ok (.aload_n 0, 1) := by decide +kernel
theorem dX2_flush_64 : decode cX2_flush 64 = .ok (.getfield 15, 3) := by decide +kernel
theorem dX2_flush_67 : decode cX2_flush 67 = .ok (.if_icmp .ne 7, 3) := by decide +kernel
theorem dX2_flush_70 : decode cX2_flush 70 = .ok (.iconst 0, 1) := by decide +kernel
theorem dX2_flush_71 : decode cX2_flush 71 = .ok (.goto 7, 3) := by decide +kernel
theorem dX2_flush_74 : decode cX2_flush 74 = .ok (.iconst 5, 1) := by decide +kernel
theorem dX2_flush_75 : decode cX2_flush 75 = .ok (.invokestatic 61, 3) := by decide +kernel
theorem dX2_flush_78 : decode cX2_flush 78 = .ok (.istore_n 2, 1) := by decide +kernel
theorem dX2_flush_79 : decode cX2_flush 79 = .ok (.aload_n 0, 1) := by decide +kernel
theorem dX2_flush_80 : decode cX2_flush 80 = .ok (.dup, 1) := by decide +kernel
theorem dX2_flush_81 : decode cX2_flush 81 = .ok (.getfield 40, 3) := by decide +kernel
theorem dX2_flush_84 : decode cX2_flush 84 = .ok (.iload_n 1, 1) := by decide +kernel
theorem dX2_flush_85 : decode cX2_flush 85 = .ok (.iadd, 1) := by decide +kernel
theorem dX2_flush_86 : decode cX2_flush 86 = .ok (.putfield 40, 3) := by decide +kernel
theorem dX2_flush_89 : decode cX2_flush 89 = .ok (.aload_n 0, 1) := by decide +kernel
theorem dX2_flush_90 : decode cX2_flush 90 = .ok (.iconst 0, 1) := by decide +kernel
theorem dX2_flush_91 : decode cX2_flush 91 = .ok (.putfield 15, 3) := by decide +kernel
theorem dX2_flush_94 : decode cX2_flush 94 = .ok (.iload_n 2, 1) := by decide +kernel
theorem dX2_flush_95 : decode cX2_flush 95 = .ok (.ireturn, 1) := by decide +kernel
theorem dX2_take_0 : decode cX2_take 0 = .ok (.aload_n 0, 1) := by decide +kernel
theorem dX2_take_1 : decode cX2_take 1 = .ok (.getfield 25, 3) := by decide +kernel
theorem dX2_take_4 : decode cX2_take 4 = .ok (.invokestatic 72, 3) := by decide +kernel
theorem dX2_take_7 : decode cX2_take 7 = .ok (.ifCond .ne 8, 3) := by decide +kernel
theorem dX2_take_10 : decode cX2_take 10 = .ok (.iconst 4, 1) := by decide +kernel
theorem dX2_take_11 : decode cX2_take 11 = .ok (.invokestatic 61, 3) := by decide +kernel
theorem dX2_take_14 : decode cX2_take 14 = .ok (.ireturn, 1) := by decide +kernel
theorem dX2_take_15 : decode cX2_take 15 = .ok (.aload_n 0, 1) := by decide +kernel
theorem dX2_take_16 : decode cX2_take 16 = .ok (.invokevirtual 53, 3) := by decide +kernel
theorem dX2_take_19 : decode cX2_take 19 = .ok (.istore_n 1, 1) := by decide +kernel
theorem dX2_take_20 : decode cX2_take 20 = .ok (.iload_n 1, 1) := by decide +kernel
theorem dX2_take_21 : decode cX2_take 21 = .ok (.ifCond .eq 5, 3) := by decide +kernel
theorem dX2_take_24 : decode cX2_take 24 = .ok (.iload_n 1, 1) := by decide +kernel
theorem dX2_take_25 : decode cX2_take 25 = .ok (.ireturn, 1) := by decide +kernel
theorem dX2_take_26 : decode cX2_take 26 = .ok (.aload_n 0, 1) := by decide +kernel
theorem dX2_take_27 : decode cX2_take 27 = .ok (.invokevirtual 75, 3) := by decide +kernel
theorem dX2_take_30 : decode cX2_take 30 = .ok (.istore_n 2, 1) := by decide +kernel
theorem dX2_take_31 : decode cX2_take 31 = .ok (.iload_n 2, 1) := by decide +kernel
theorem dX2_take_32 : decode cX2_take 32 = .ok (.iconst (-1), 1) := by decide +kernel
theorem dX2_take_33 : decode cX2_take 33 = .ok (.if_icmp .ne 10, 3) := by decide +kernel
theorem dX2_take_36 : decode cX2_take 36 = .ok (.iconst 3, 1) := by decide +kernel
theorem dX2_take_37 : decode cX2_take 37 = .ok (.invokestatic 61, 3) := by decide +kernel
theorem dX2_take_40 : decode cX2_take 40 = .ok (.goto 4, 3) := by decide +kernel
theorem dX2_take_43 : decode cX2_take 43 = .ok (.iload_n 2, 1) := by decide +kernel
theorem dX2_take_44 : decode cX2_take 44 = .ok (.ireturn, 1) := by decide +kernel
theorem dX2_nextByte_0 : decode cX2_nextByte 0 = .ok (.aload_n 0, 1) := by decide +kernel
theorem dX2_nextByte_1 : decode cX2_nextByte 1 = .ok (.getfield 43, 3) := by decide +kernel
theorem dX2_nextByte_4 : decode cX2_nextByte 4 = .ok (.aload_n 0, 1) := by decide +kernel
theorem dX2_nextByte_5 : decode cX2_nextByte 5 = .ok (.getfield 22, 3) := by decide +kernel
theorem dX2_nextByte_8 : decode cX2_nextByte 8 = .ok (.aload_n 0, 1) := by decide +kernel
theorem dX2_nextByte_9 : decode cX2_nextByte 9 = .ok (.getfield 28, 3) := by decide +kernel
theorem dX2_nextByte_12 : decode cX2_nextByte 12 = .ok (.invokevirtual 78, 3) := by decide +kernel
theorem dX2_nextByte_15 : decode cX2_nextByte 15 = .ok (.istore_n 1, 1) := by decide +kernel
theorem dX2_nextByte_16 : decode cX2_nextByte 16 = .ok (.iload_n 1, 1) := by decide +kernel
theorem dX2_nextByte_17 : decode cX2_nextByte 17 = .ok (.iconst (-1), 1) := by decide +kernel
theorem dX2_nextByte_18 : decode cX2_nextByte 18 = .ok (.if_icmp .eq 23, 3) := by decide +kernel
theorem dX2_nextByte_21 : decode cX2_nextByte 21 = .ok (.aload_n 0, 1) := by decide +kernel
theorem dX2_nextByte_22 : decode cX2_nextByte 22 = .ok (.dup, 1) := by decide +kernel
theorem dX2_nextByte_23 : decode cX2_nextByte 23 = .ok (.getfield 28, 3) := by decide +kernel
theorem dX2_nextByte_26 : decode cX2_nextByte 26 = .ok (.iconst 1, 1) := by decide +kernel
theorem dX2_nextByte_27 : decode cX2_nextByte 27 = .ok (.iadd, 1) := by decide +kernel
theorem dX2_nextByte_28 : decode cX2_nextByte 28 = .ok (.putfield 28, 3) := by decide +kernel
theorem dX2_nextByte_31 : decode cX2_nextByte 31 = .ok (.aload_n 0, 1) := by decide +kernel
theorem dX2_nextByte_32 : decode cX2_nextByte 32 = .ok (.dup, 1) := by decide +kernel
theorem dX2_nextByte_33 : decode cX2_nextByte 33 = .ok (.getfield 37, 3) := by decide +kernel
theorem dX2_nextByte_36 : decode cX2_nextByte 36 = .ok (.iconst 1, 1) := by decide +kernel
theorem dX2_nextByte_37 : decode cX2_nextByte 37 = .ok (.iadd, 1) := by decide +kernel
theorem dX2_nextByte_38 : decode cX2_nextByte 38 = .ok (.putfield 37, 3) := by decide +kernel
theorem dX2_nextByte_41 : decode cX2_nextByte 41 = .ok (.iload_n 1, 1) := by decide +kernel
theorem dX2_nextByte_42 : decode cX2_nextByte 42 = .ok (.ireturn, 1) := by decide +kernel
theorem dX2_seek_0 : decode cX2_seek 0 = .ok (.aload_n 0, 1) := by decide +kernel
theorem dX2_seek_1 : decode cX2_seek 1 = .ok (.invokevirtual 53, 3) := by decide +kernel
theorem dX2_seek_4 : decode cX2_seek 4 = .ok (.istore_n 2, 1) := by decide +kernel
theorem dX2_seek_5 : decode cX2_seek 5 = .ok (.iload_n 2, 1) := by decide +kernel
theorem dX2_seek_6 : decode cX2_seek 6 = .ok (.ifCond .eq 5, 3) := by decide +kernel
theorem dX2_seek_9 : decode cX2_seek 9 = .ok (.iload_n 2, 1) := by decide +kernel
theorem dX2_seek_10 : decode cX2_seek 10 = .ok (.ireturn, 1) := by decide +kernel
theorem dX2_seek_11 : decode cX2_seek 11 = .ok (.aload_n 0, 1) := by decide +kernel
theorem dX2_seek_12 : decode cX2_seek 12 = .ok (.getfield 25, 3) := by decide +kernel
theorem dX2_seek_15 : decode cX2_seek 15 = .ok (.iconst 2, 1) := by decide +kernel
theorem dX2_seek_16 : decode cX2_seek 16 = .ok (.if_icmp .eq 22, 3) := by decide +kernel
theorem dX2_seek_19 : decode cX2_seek 19 = .ok (.iload_n 1, 1) := by decide +kernel
theorem dX2_seek_20 : decode cX2_seek 20 = .ok (.ifCond .lt 18, 3) := by decide +kernel
theorem dX2_seek_23 : decode cX2_seek 23 = .ok (.iload_n 1, 1) := by decide +kernel
theorem dX2_seek_24 : decode cX2_seek 24 = .ok (.aload_n 0, 1) := by decide +kernel
theorem dX2_seek_25 : decode cX2_seek 25 = .ok (.getfield 43, 3) := by decide +kernel
theorem dX2_seek_28 : decode cX2_seek 28 = .ok (.aload_n 0, 1) := by decide +kernel
theorem dX2_seek_29 : decode cX2_seek 29 = .ok (.getfield 22, 3) := by decide +kernel
theorem dX2_seek_32 : decode cX2_seek 32 = .ok (.invokevirtual 47, 3) := by decide +kernel
theorem dX2_seek_35 : decode cX2_seek 35 = .ok (.if_icmp .le 8, 3) := by decide +kernel
theorem dX2_seek_38 : decode cX2_seek 38 = .ok (.iconst 4, 1) := by decide +kernel
theorem dX2_seek_39 : decode cX2_seek 39 = .ok (.invokestatic 61, 3) := by decide +kernel
theorem dX2_seek_42 : decode cX2_seek 42 = .ok (.ireturn, 1) := by decide +kernel
theorem dX2_seek_43 : decode cX2_seek 43 = .ok (.aload_n 0, 1) := by decide +kernel
theorem dX2_seek_44 : decode cX2_seek 44 = .ok (.iload_n 1, 1) := by decide +kernel
theorem dX2_seek_45 : decode cX2_seek 45 = .ok (.putfield 28, 3) := by decide +kernel
theorem dX2_seek_48 : decode cX2_seek 48 = .ok (.iconst 0, 1) := by decide +kernel
theorem dX2_seek_49 : decode cX2_seek 49 = .ok (.ireturn, 1) := by decide +kernel
theorem dX2_tellPlace_0 : decode cX2_tellPlace 0 = .ok (.aload_n 0, 1) := by decide +kernel
theorem dX2_tellPlace_1 : decode cX2_tellPlace 1 = .ok (.getfield 31, 3) := by decide +kernel
theorem dX2_tellPlace_4 : decode cX2_tellPlace 4 = .ok (.ifCond .ne 15, 3) := by decide +kernel
theorem dX2_tellPlace_7 : decode cX2_tellPlace 7 = .ok (.aload_n 0, 1) := by decide +kernel
theorem dX2_tellPlace_8 : decode cX2_tellPlace 8 = .ok (.getfield 28, 3) := by decide +kernel
theorem dX2_tellPlace_11 : decode cX2_tellPlace 11 = .ok (.aload_n 0, 1) := by decide +kernel
theorem dX2_tellPlace_12 : decode cX2_tellPlace 12 = .ok (.getfield 15, 3) := by decide +kernel
theorem dX2_tellPlace_15 : decode cX2_tellPlace 15 = .ok (.iadd, 1) := by decide +kernel
theorem dX2_tellPlace_16 : decode cX2_tellPlace 16 = .ok (.goto 7, 3) := by decide +kernel
theorem dX2_tellPlace_19 : decode cX2_tellPlace 19 = .ok (.iconst 4, 1) := by decide +kernel
theorem dX2_tellPlace_20 : decode cX2_tellPlace 20 = .ok (.invokestatic 61, 3) := by decide +kernel
theorem dX2_tellPlace_23 : decode cX2_tellPlace 23 = .ok (.ireturn, 1) := by decide +kernel
theorem dX2_measure_0 : decode cX2_measure 0 = .ok (.aload_n 0, 1) := by decide +kernel
theorem dX2_measure_1 : decode cX2_measure 1 = .ok (.invokevirtual 53, 3) := by decide +kernel
theorem dX2_measure_4 : decode cX2_measure 4 = .ok (.istore_n 1, 1) := by decide +kernel
theorem dX2_measure_5 : decode cX2_measure 5 = .ok (.iload_n 1, 1) := by decide +kernel
theorem dX2_measure_6 : decode cX2_measure 6 = .ok (.ifCond .ne 17, 3) := by decide +kernel
theorem dX2_measure_9 : decode cX2_measure 9 = .ok (.aload_n 0, 1) := by decide +kernel
theorem dX2_measure_10 : decode cX2_measure 10 = .ok (.getfield 43, 3) := by decide +kernel
theorem dX2_measure_13 : decode cX2_measure 13 = .ok (.aload_n 0, 1) := by decide +kernel
theorem dX2_measure_14 : decode cX2_measure 14 = .ok (.getfield 22, 3) := by decide +kernel
theorem dX2_measure_17 : decode cX2_measure 17 = .ok (.invokevirtual 47, 3) := by decide +kernel
theorem dX2_measure_20 : decode cX2_measure 20 = .ok (.goto 4, 3) := by decide +kernel
theorem dX2_measure_23 : decode cX2_measure 23 = .ok (.iload_n 1, 1) := by decide +kernel
theorem dX2_measure_24 : decode cX2_measure 24 = .ok (.ireturn, 1) := by decide +kernel
theorem dX2_changeBuffer_0 : decode cX2_changeBuffer 0 = .ok (.aload_n 0, 1) := by decide +kernel
theorem dX2_changeBuffer_1 : decode cX2_changeBuffer 1 = .ok (.invokevirtual 53, 3) := by decide +kernel
theorem dX2_changeBuffer_4 : decode cX2_changeBuffer 4 = .ok (.istore_n 2, 1) := by decide +kernel
theorem dX2_changeBuffer_5 : decode cX2_changeBuffer 5 = .ok (.iload_n 2, 1) := by decide +kernel
theorem dX2_changeBuffer_6 : decode cX2_changeBuffer 6 = .ok (.ifCond .ne 8, 3) := by decide +kernel
theorem dX2_changeBuffer_9 : decode cX2_changeBuffer 9 = .ok (.aload_n 0, 1) := by decide +kernel
theorem dX2_changeBuffer_10 : decode cX2_changeBuffer 10 = .ok (.iload_n 1, 1) := by decide +kernel
theorem dX2_changeBuffer_11 : decode cX2_changeBuffer 11 = .ok (.putfield 19, 3) := by decide +kernel
theorem dX2_changeBuffer_14 : decode cX2_changeBuffer 14 = .ok (.iload_n 2, 1) := by decide +kernel
theorem dX2_changeBuffer_15 : decode cX2_changeBuffer 15 = .ok (.ireturn, 1) := by decide +kernel
theorem dX2_fact_0 : decode cX2_fact 0 = .ok (.iload_n 1, 1) := by decide +kernel
theorem dX2_fact_1 : decode cX2_fact 1 = .ok (.tableswitch 60 0 4 #[35, 40, 45, 50, 55], 35) := by decide +kernel
theorem dX2_fact_36 : decode cX2_fact 36 = .ok (.aload_n 0, 1) := by decide +kernel
theorem dX2_fact_37 : decode cX2_fact 37 = .ok (.getfield 22, 3) := by decide +kernel
theorem dX2_fact_40 : decode cX2_fact 40 = .ok (.ireturn, 1) := by decide +kernel
theorem dX2_fact_41 : decode cX2_fact 41 = .ok (.aload_n 0, 1) := by decide +kernel
theorem dX2_fact_42 : decode cX2_fact 42 = .ok (.getfield 25, 3) := by decide +kernel
theorem dX2_fact_45 : decode cX2_fact 45 = .ok (.ireturn, 1) := by decide +kernel
theorem dX2_fact_46 : decode cX2_fact 46 = .ok (.aload_n 0, 1) := by decide +kernel
theorem dX2_fact_47 : decode cX2_fact 47 = .ok (.getfield 31, 3) := by decide +kernel
theorem dX2_fact_50 : decode cX2_fact 50 = .ok (.ireturn, 1) := by decide +kernel
theorem dX2_fact_51 : decode cX2_fact 51 = .ok (.aload_n 0, 1) := by decide +kernel
theorem dX2_fact_52 : decode cX2_fact 52 = .ok (.getfield 34, 3) := by decide +kernel
theorem dX2_fact_55 : decode cX2_fact 55 = .ok (.ireturn, 1) := by decide +kernel
theorem dX2_fact_56 : decode cX2_fact 56 = .ok (.aload_n 0, 1) := by decide +kernel
theorem dX2_fact_57 : decode cX2_fact 57 = .ok (.getfield 37, 3) := by decide +kernel
theorem dX2_fact_60 : decode cX2_fact 60 = .ok (.ireturn, 1) := by decide +kernel
theorem dX2_fact_61 : decode cX2_fact 61 = .ok (.aload_n 0, 1) := by decide +kernel
theorem dX2_fact_62 : decode cX2_fact 62 = .ok (.getfield 40, 3) := by decide +kernel
theorem dX2_fact_65 : decode cX2_fact 65 = .ok (.ireturn, 1) := by decide +kernel
theorem dX3_init_0 : decode cX3_init 0 = .ok (.aload_n 0, 1) := by decide +kernel
theorem dX3_init_1 : decode cX3_init 1 = .ok (.invokespecial 3, 3) := by decide +kernel
theorem dX3_init_4 : decode cX3_init 4 = .ok (.aload_n 0, 1) := by decide +kernel
theorem dX3_init_5 : decode cX3_init 5 = .ok (.bipush 20, 2) := by decide +kernel
theorem dX3_init_7 : decode cX3_init 7 = .ok (.anewarray 9, 3) := by decide +kernel
theorem dX3_init_10 : decode cX3_init 10 = .ok (.putfield 11, 3) := by decide +kernel
theorem dX3_init_13 : decode cX3_init 13 = .ok (.aload_n 0, 1) := by decide +kernel
theorem dX3_init_14 : decode cX3_init 14 = .ok (.iconst 0, 1) := by decide +kernel
theorem dX3_init_15 : decode cX3_init 15 = .ok (.putfield 17, 3) := by decide +kernel
theorem dX3_init_18 : decode cX3_init 18 = .ok (.aload_n 0, 1) := by decide +kernel
theorem dX3_init_19 : decode cX3_init 19 = .ok (.aload_n 1, 1) := by decide +kernel
theorem dX3_init_20 : decode cX3_init 20 = .ok (.putfield 21, 3) := by decide +kernel
theorem dX3_init_23 : decode cX3_init 23 = .ok (.iconst 0, 1) := by decide +kernel
theorem dX3_init_24 : decode cX3_init 24 = .ok (.istore_n 2, 1) := by decide +kernel
theorem dX3_init_25 : decode cX3_init 25 = .ok (.iload_n 2, 1) := by decide +kernel
theorem dX3_init_26 : decode cX3_init 26 = .ok (.bipush 20, 2) := by decide +kernel
theorem dX3_init_28 : decode cX3_init 28 = .ok (.if_icmp .ge 23, 3) := by decide +kernel
theorem dX3_init_31 : decode cX3_init 31 = .ok (.aload_n 0, 1) := by decide +kernel
theorem dX3_init_32 : decode cX3_init 32 = .ok (.getfield 11, 3) := by decide +kernel
theorem dX3_init_35 : decode cX3_init 35 = .ok (.iload_n 2, 1) := by decide +kernel
theorem dX3_init_36 : decode cX3_init 36 = .ok (.new 9, 3) := by decide +kernel
theorem dX3_init_39 : decode cX3_init 39 = .ok (.dup, 1) := by decide +kernel
theorem dX3_init_40 : decode cX3_init 40 = .ok (.aload_n 1, 1) := by decide +kernel
theorem dX3_init_41 : decode cX3_init 41 = .ok (.invokespecial 25, 3) := by decide +kernel
theorem dX3_init_44 : decode cX3_init 44 = .ok (.aastore, 1) := by decide +kernel
theorem dX3_init_45 : decode cX3_init 45 = .ok (.iinc 2 1, 3) := by decide +kernel
theorem dX3_init_48 : decode cX3_init 48 = .ok (.goto (-23), 3) := by decide +kernel
theorem dX3_init_51 : decode cX3_init 51 = .ok (.return_, 1) := by decide +kernel
theorem dX3_count_0 : decode cX3_count 0 = .ok (.aload_n 0, 1) := by decide +kernel
theorem dX3_count_1 : decode cX3_count 1 = .ok (.getfield 17, 3) := by decide +kernel
theorem dX3_count_4 : decode cX3_count 4 = .ok (.ireturn, 1) := by decide +kernel
theorem dX3_forget_0 : decode cX3_forget 0 = .ok (.aload_n 0, 1) := by decide +kernel
theorem dX3_forget_1 : decode cX3_forget 1 = .ok (.iconst 0, 1) := by decide +kernel
theorem dX3_forget_2 : decode cX3_forget 2 = .ok (.putfield 17, 3) := by decide +kernel
theorem dX3_forget_5 : decode cX3_forget 5 = .ok (.return_, 1) := by decide +kernel
theorem dX3_pick_0 : decode cX3_pick 0 = .ok (.iload_n 1, 1) := by decide +kernel
theorem dX3_pick_1 : decode cX3_pick 1 = .ok (.aload_n 0, 1) := by decide +kernel
theorem dX3_pick_2 : decode cX3_pick 2 = .ok (.getfield 17, 3) := by decide +kernel
theorem dX3_pick_5 : decode cX3_pick 5 = .ok (.invokestatic 28, 3) := by decide +kernel
theorem dX3_pick_8 : decode cX3_pick 8 = .ok (.ifCond .eq 12, 3) := by decide +kernel
theorem dX3_pick_11 : decode cX3_pick 11 = .ok (.aload_n 0, 1) := by decide +kernel
theorem dX3_pick_12 : decode cX3_pick 12 = .ok (.getfield 11, 3) := by decide +kernel
theorem dX3_pick_15 : decode cX3_pick 15 = .ok (.iload_n 1, 1) := by decide +kernel
theorem dX3_pick_16 : decode cX3_pick 16 = .ok (.aaload, 1) := by decide +kernel
theorem dX3_pick_17 : decode cX3_pick 17 = .ok (.goto 4, 3) := by decide +kernel
theorem dX3_pick_20 : decode cX3_pick 20 = .ok (.aconst_null, 1) := by decide +kernel
theorem dX3_pick_21 : decode cX3_pick 21 = .ok (.areturn, 1) := by decide +kernel
theorem dX3_open_0 : decode cX3_open 0 = .ok (.aload_n 0, 1) := by decide +kernel
theorem dX3_open_1 : decode cX3_open 1 = .ok (.iload_n 1, 1) := by decide +kernel
theorem dX3_open_2 : decode cX3_open 2 = .ok (.iload_n 2, 1) := by decide +kernel
theorem dX3_open_3 : decode cX3_open 3 = .ok (.invokevirtual 32, 3) := by decide +kernel
theorem dX3_open_6 : decode cX3_open 6 = .ok (.istore_n 3, 1) := by decide +kernel
theorem dX3_open_7 : decode cX3_open 7 = .ok (.iload_n 3, 1) := by decide +kernel
theorem dX3_open_8 : decode cX3_open 8 = .ok (.ifCond .eq 5, 3) := by decide +kernel
theorem dX3_open_11 : decode cX3_open 11 = .ok (.iload_n 3, 1) := by decide +kernel
theorem dX3_open_12 : decode cX3_open 12 = .ok (.ireturn, 1) := by decide +kernel
theorem dX3_open_13 : decode cX3_open 13 = .ok (.aload_n 0, 1) := by decide +kernel
theorem dX3_open_14 : decode cX3_open 14 = .ok (.getfield 21, 3) := by decide +kernel
theorem dX3_open_17 : decode cX3_open 17 = .ok (.iload_n 1, 1) := by decide +kernel
theorem dX3_open_18 : decode cX3_open 18 = .ok (.invokevirtual 36, 3) := by decide +kernel
theorem dX3_open_21 : decode cX3_open 21 = .ok (.iload_n 2, 1) := by decide +kernel
theorem dX3_open_22 : decode cX3_open 22 = .ok (.iconst 1, 1) := by decide +kernel
theorem dX3_open_23 : decode cX3_open 23 = .ok (.if_icmp .ne 11, 3) := by decide +kernel
theorem dX3_open_26 : decode cX3_open 26 = .ok (.aload_n 0, 1) := by decide +kernel
theorem dX3_open_27 : decode cX3_open 27 = .ok (.getfield 21, 3) := by decide +kernel
theorem dX3_open_30 : decode cX3_open 30 = .ok (.iload_n 1, 1) := by decide +kernel
theorem dX3_open_31 : decode cX3_open 31 = .ok (.invokevirtual 42, 3) := by decide +kernel
theorem dX3_open_34 : decode cX3_open 34 = .ok (.aload_n 0, 1) := by decide +kernel
theorem dX3_open_35 : decode cX3_open 35 = .ok (.getfield 11, 3) := by decide +kernel
theorem dX3_open_38 : decode cX3_open 38 = .ok (.aload_n 0, 1) := by decide +kernel
theorem dX3_open_39 : decode cX3_open 39 = .ok (.getfield 17, 3) := by decide +kernel
theorem dX3_open_42 : decode cX3_open 42 = .ok (.aaload, 1) := by decide +kernel
theorem dX3_open_43 : decode cX3_open 43 = .ok (.iload_n 1, 1) := by decide +kernel
theorem dX3_open_44 : decode cX3_open 44 = .ok (.iload_n 2, 1) := by decide +kernel
theorem dX3_open_45 : decode cX3_open 45 = .ok (.invokevirtual 45, 3) := by decide +kernel
theorem dX3_open_48 : decode cX3_open 48 = .ok (.aload_n 0, 1) := by decide +kernel
theorem dX3_open_49 : decode cX3_open 49 = .ok (.dup, 1) := by decide +kernel
theorem dX3_open_50 : decode cX3_open 50 = .ok (.getfield 17, 3) := by decide +kernel
theorem dX3_open_53 : decode cX3_open 53 = .ok (.iconst 1, 1) := by decide +kernel
theorem dX3_open_54 : decode cX3_open 54 = .ok (.iadd, 1) := by decide +kernel
theorem dX3_open_55 : decode cX3_open 55 = .ok (.putfield 17, 3) := by decide +kernel
theorem dX3_open_58 : decode cX3_open 58 = .ok (.aload_n 0, 1) := by decide +kernel
theorem dX3_open_59 : decode cX3_open 59 = .ok (.getfield 17, 3) := by decide +kernel
theorem dX3_open_62 : decode cX3_open 62 = .ok (.iconst 1, 1) := by decide +kernel
theorem dX3_open_63 : decode cX3_open 63 = .ok (.isub, 1) := by decide +kernel
theorem dX3_open_64 : decode cX3_open 64 = .ok (.ireturn, 1) := by decide +kernel
theorem dX3_refusalToOpen_0 : decode cX3_refusalToOpen 0 = .ok (.iload_n 2, 1) := by decide +kernel
theorem dX3_refusalToOpen_1 : decode cX3_refusalToOpen 1 = .ok (.ifCond .eq 7, 3) := by decide +kernel
theorem dX3_refusalToOpen_4 : decode cX3_refusalToOpen 4 = .ok (.iconst 1, 1) := by decide +kernel
theorem dX3_refusalToOpen_5 : decode cX3_refusalToOpen 5 = .ok (.goto 4, 3) := by decide +kernel
theorem dX3_refusalToOpen_8 : decode cX3_refusalToOpen 8 = .ok (.iconst 0, 1) := by decide +kernel
theorem dX3_refusalToOpen_9 : decode cX3_refusalToOpen 9 = .ok (.istore_n 3, 1) := by decide +kernel
theorem dX3_refusalToOpen_10 : decode cX3_refusalToOpen 10 = .ok (.iload_n 3, 1) := by decide +kernel
theorem dX3_refusalToOpen_11 : decode cX3_refusalToOpen 11 = .ok (.ifCond .ne 19, 3) := by decide +kernel
theorem dX3_refusalToOpen_14 : decode cX3_refusalToOpen 14 = .ok (.aload_n 0, 1) := by decide +kernel
theorem dX3_refusalToOpen_15 : decode cX3_refusalToOpen 15 = .ok (.getfield 21, 3) := by decide +kernel
theorem dX3_refusalToOpen_18 : decode cX3_refusalToOpen 18 = .ok (.iload_n 1, 1) := by decide +kernel
theorem dX3_refusalToOpen_19 : decode cX3_refusalToOpen 19 = .ok (.invokevirtual 49, 3) := by decide +kernel
theorem dX3_refusalToOpen_22 : decode cX3_refusalToOpen 22 = .ok (.ifCond .ne 8, 3) := by decide +kernel
theorem dX3_refusalToOpen_25 : decode cX3_refusalToOpen 25 = .ok (.iconst 1, 1) := by decide +kernel
theorem dX3_refusalToOpen_26 : decode cX3_refusalToOpen 26 = .ok (.invokestatic 53, 3) := by decide +kernel
theorem dX3_refusalToOpen_29 : decode cX3_refusalToOpen 29 = .ok (.ireturn, 1) := by decide +kernel
theorem dX3_refusalToOpen_30 : decode cX3_refusalToOpen 30 = .ok (.iload_n 2, 1) := by decide +kernel
theorem dX3_refusalToOpen_31 : decode cX3_refusalToOpen 31 = .ok (.invokestatic 57, 3) := by decide +kernel
theorem dX3_refusalToOpen_34 : decode cX3_refusalToOpen 34 = .ok (.ifCond .eq 15, 3) := by decide +kernel
theorem dX3_refusalToOpen_37 : decode cX3_refusalToOpen 37 = .ok (.aload_n 0, 1) := by decide +kernel
theorem dX3_refusalToOpen_38 : decode cX3_refusalToOpen 38 = .ok (.getfield 21, 3) := by decide +kernel
theorem dX3_refusalToOpen_41 : decode cX3_refusalToOpen 41 = .ok (.iload_n 1, 1) := by decide +kernel
theorem dX3_refusalToOpen_42 : decode cX3_refusalToOpen 42 = .ok (.iconst 1, 1) := by decide +kernel
theorem dX3_refusalToOpen_43 : decode cX3_refusalToOpen 43 = .ok (.invokevirtual 60, 3) := by decide +kernel
theorem dX3_refusalToOpen_46 : decode cX3_refusalToOpen 46 = .ok (.ifCond .eq 19, 3) := by decide +kernel
theorem dX3_refusalToOpen_49 : decode cX3_refusalToOpen 49 = .ok (.iload_n 3, 1) := by decide +kernel
theorem dX3_refusalToOpen_50 : decode cX3_refusalToOpen 50 = .ok (.ifCond .eq 20, 3) := by decide +kernel
theorem dX3_refusalToOpen_53 : decode cX3_refusalToOpen 53 = .ok (.aload_n 0, 1) := by decide +kernel
theorem dX3_refusalToOpen_54 : decode cX3_refusalToOpen 54 = .ok (.getfield 21, 3) := by decide +kernel
theorem dX3_refusalToOpen_57 : decode cX3_refusalToOpen 57 = .ok (.iload_n 1, 1) := by decide +kernel
theorem dX3_refusalToOpen_58 : decode cX3_refusalToOpen 58 = .ok (.iconst 2, 1) := by decide +kernel
theorem dX3_refusalToOpen_59 : decode cX3_refusalToOpen 59 = .ok (.invokevirtual 60, 3) := by decide +kernel
theorem dX3_refusalToOpen_62 : decode cX3_refusalToOpen 62 = .ok (.ifCond .ne 8, 3) := by decide +kernel
theorem dX3_refusalToOpen_65 : decode cX3_refusalToOpen 65 = .ok (.iconst 2, 1) := by decide +kernel
theorem dX3_refusalToOpen_66 : decode cX3_refusalToOpen 66 = .ok (.invokestatic 53, 3) := by decide +kernel
theorem dX3_refusalToOpen_69 : decode cX3_refusalToOpen 69 = .ok (.ireturn, 1) := by decide +kernel
theorem dX3_refusalToOpen_70 : decode cX3_refusalToOpen 70 = .ok (.aload_n 0, 1) := by decide +kernel
theorem dX3_refusalToOpen_71 : decode cX3_refusalToOpen 71 = .ok (.iload_n 1, 1) := by decide +kernel
theorem dX3_refusalToOpen_72 : decode cX3_refusalToOpen 72 = .ok (.iload_n 3, 1) := by decide +kernel
theorem dX3_refusalToOpen_73 : decode cX3_refusalToOpen 73 = .ok (.ifCond .ne 7, 3) := by decide +kernel
theorem dX3_refusalToOpen_76 : decode cX3_refusalToOpen 76 = .ok (.iconst 1, 1) := by decide +kernel
theorem dX3_refusalToOpen_77 : decode cX3_refusalToOpen 77 = .ok (.goto 4, 3) := by decide +kernel
theorem dX3_refusalToOpen_80 : decode cX3_refusalToOpen 80 = .ok (.iconst 0, 1) := by decide +kernel
theorem dX3_refusalToOpen_81 : decode cX3_refusalToOpen 81 = .ok (.invokevirtual 63, 3) := by decide +kernel
theorem dX3_refusalToOpen_84 : decode cX3_refusalToOpen 84 = .ok (.ifCond .eq 8, 3) := by decide +kernel
theorem dX3_refusalToOpen_87 : decode cX3_refusalToOpen 87 = .ok (.iconst 0, 1) := by decide +kernel
theorem dX3_refusalToOpen_88 : decode cX3_refusalToOpen 88 = .ok (.invokestatic 53, 3) := by decide +kernel
theorem dX3_refusalToOpen_91 : decode cX3_refusalToOpen 91 = .ok (.ireturn, 1) := by decide +kernel
theorem dX3_refusalToOpen_92 : decode cX3_refusalToOpen 92 = .ok (.aload_n 0, 1) := by decide +kernel
theorem dX3_refusalToOpen_93 : decode cX3_refusalToOpen 93 = .ok (.getfield 17, 3) := by decide +kernel
theorem dX3_refusalToOpen_96 : decode cX3_refusalToOpen 96 = .ok (.bipush 20, 2) := by decide +kernel
theorem dX3_refusalToOpen_98 : decode cX3_refusalToOpen 98 = .ok (.if_icmp .lt 10, 3) := by decide +kernel
theorem dX3_refusalToOpen_101 : decode cX3_refusalToOpen 101 = .ok (.iconst 5, 1) := by decide +kernel
theorem dX3_refusalToOpen_102 : decode cX3_refusalToOpen 102 = .ok (.invokestatic 53, 3) := by decide +kernel
theorem dX3_refusalToOpen_105 : decode cX3_refusalToOpen 105 = .ok (.goto 4, 3) := by decide +kernel
theorem dX3_refusalToOpen_108 : decode cX3_refusalToOpen 108 = .ok (.iconst 0, 1) := by decide +kernel
theorem dX3_refusalToOpen_109 : decode cX3_refusalToOpen 109 = .ok (.ireturn, 1) := by decide +kernel
theorem dX3_isHeld_0 : decode cX3_isHeld 0 = .ok (.iconst 0, 1) := by decide +kernel
theorem dX3_isHeld_1 : decode cX3_isHeld 1 = .ok (.istore_n 3, 1) := by decide +kernel
theorem dX3_isHeld_2 : decode cX3_isHeld 2 = .ok (.iload_n 3, 1) := by decide +kernel
theorem dX3_isHeld_3 : decode cX3_isHeld 3 = .ok (.aload_n 0, 1) := by decide +kernel
theorem dX3_isHeld_4 : decode cX3_isHeld 4 = .ok (.getfield 17, 3) := by decide +kernel
theorem dX3_isHeld_7 : decode cX3_isHeld 7 = .ok (.if_icmp .ge 40, 3) := by decide +kernel
theorem dX3_isHeld_10 : decode cX3_isHeld 10 = .ok (.aload_n 0, 1) := by decide +kernel
theorem dX3_isHeld_11 : decode cX3_isHeld 11 = .ok (.getfield 11, 3) := by decide +kernel
theorem dX3_isHeld_14 : decode cX3_isHeld 14 = .ok (.iload_n 3, 1) := by decide +kernel
theorem dX3_isHeld_15 : decode cX3_isHeld 15 = .ok (.aaload, 1) := by decide +kernel
theorem dX3_isHeld_16 : decode cX3_isHeld 16 = .ok (.iload_n 1, 1) := by decide +kernel
theorem dX3_isHeld_17 : decode cX3_isHeld 17 = .ok (.invokevirtual 67, 3) := by decide +kernel
theorem dX3_isHeld_20 : decode cX3_isHeld 20 = .ok (.ifCond .eq 21, 3) := by decide +kernel
theorem dX3_isHeld_23 : decode cX3_isHeld 23 = .ok (.aload_n 0, 1) := by decide +kernel
theorem dX3_isHeld_24 : decode cX3_isHeld 24 = .ok (.getfield 11, 3) := by decide +kernel
theorem dX3_isHeld_27 : decode cX3_isHeld 27 = .ok (.iload_n 3, 1) := by decide +kernel
theorem dX3_isHeld_28 : decode cX3_isHeld 28 = .ok (.aaload, 1) := by decide +kernel
theorem dX3_isHeld_29 : decode cX3_isHeld 29 = .ok (.invokevirtual 70, 3) := by decide +kernel
theorem dX3_isHeld_32 : decode cX3_isHeld 32 = .ok (.ifCond .ne 7, 3) := by decide +kernel
theorem dX3_isHeld_35 : decode cX3_isHeld 35 = .ok (.iload_n 2, 1) := by decide +kernel
theorem dX3_isHeld_36 : decode cX3_isHeld 36 = .ok (.ifCond .ne 5, 3) := by decide +kernel
theorem dX3_isHeld_39 : decode cX3_isHeld 39 = .ok (.iconst 1, 1) := by decide +kernel
theorem dX3_isHeld_40 : decode cX3_isHeld 40 = .ok (.ireturn, 1) := by decide +kernel
theorem dX3_isHeld_41 : decode cX3_isHeld 41 = .ok (.iinc 3 1, 3) := by decide +kernel
theorem dX3_isHeld_44 : decode cX3_isHeld 44 = .ok (.goto (-42), 3) := by decide +kernel
theorem dX3_isHeld_47 : decode cX3_isHeld 47 = .ok (.iconst 0, 1) := by decide +kernel
theorem dX3_isHeld_48 : decode cX3_isHeld 48 = .ok (.ireturn, 1) := by decide +kernel
theorem dX3_removeFile_0 : decode cX3_removeFile 0 = .ok (.aload_n 0, 1) := by decide +kernel
theorem dX3_removeFile_1 : decode cX3_removeFile 1 = .ok (.iload_n 1, 1) := by decide +kernel
theorem dX3_removeFile_2 : decode cX3_removeFile 2 = .ok (.iload_n 1, 1) := by decide +kernel
theorem dX3_removeFile_3 : decode cX3_removeFile 3 = .ok (.invokevirtual 74, 3) := by decide +kernel
theorem dX3_removeFile_6 : decode cX3_removeFile 6 = .ok (.istore_n 2, 1) := by decide +kernel
theorem dX3_removeFile_7 : decode cX3_removeFile 7 = .ok (.iload_n 2, 1) := by decide +kernel
theorem dX3_removeFile_8 : decode cX3_removeFile 8 = .ok (.ifCond .ne 11, 3) := by decide +kernel
theorem dX3_removeFile_11 : decode cX3_removeFile 11 = .ok (.aload_n 0, 1) := by decide +kernel
theorem dX3_removeFile_12 : decode cX3_removeFile 12 = .ok (.getfield 21, 3) := by decide +kernel
theorem dX3_removeFile_15 : decode cX3_removeFile 15 = .ok (.iload_n 1, 1) := by decide +kernel
theorem dX3_removeFile_16 : decode cX3_removeFile 16 = .ok (.invokevirtual 77, 3) := by decide +kernel
theorem dX3_removeFile_19 : decode cX3_removeFile 19 = .ok (.iload_n 2, 1) := by decide +kernel
theorem dX3_removeFile_20 : decode cX3_removeFile 20 = .ok (.ireturn, 1) := by decide +kernel
theorem dX3_renameFile_0 : decode cX3_renameFile 0 = .ok (.aload_n 0, 1) := by decide +kernel
theorem dX3_renameFile_1 : decode cX3_renameFile 1 = .ok (.iload_n 1, 1) := by decide +kernel
theorem dX3_renameFile_2 : decode cX3_renameFile 2 = .ok (.iload_n 2, 1) := by decide +kernel
theorem dX3_renameFile_3 : decode cX3_renameFile 3 = .ok (.invokevirtual 74, 3) := by decide +kernel
theorem dX3_renameFile_6 : decode cX3_renameFile 6 = .ok (.istore_n 3, 1) := by decide +kernel
theorem dX3_renameFile_7 : decode cX3_renameFile 7 = .ok (.iload_n 3, 1) := by decide +kernel
theorem dX3_renameFile_8 : decode cX3_renameFile 8 = .ok (.ifCond .ne 17, 3) := by decide +kernel
theorem dX3_renameFile_11 : decode cX3_renameFile 11 = .ok (.iload_n 1, 1) := by decide +kernel
theorem dX3_renameFile_12 : decode cX3_renameFile 12 = .ok (.iload_n 2, 1) := by decide +kernel
theorem dX3_renameFile_13 : decode cX3_renameFile 13 = .ok (.if_icmp .eq 12, 3) := by decide +kernel
theorem dX3_renameFile_16 : decode cX3_renameFile 16 = .ok (.aload_n 0, 1) := by decide +kernel
theorem dX3_renameFile_17 : decode cX3_renameFile 17 = .ok (.getfield 21, 3) := by decide +kernel
theorem dX3_renameFile_20 : decode cX3_renameFile 20 = .ok (.iload_n 1, 1) := by decide +kernel
theorem dX3_renameFile_21 : decode cX3_renameFile 21 = .ok (.iload_n 2, 1) := by decide +kernel
theorem dX3_renameFile_22 : decode cX3_renameFile 22 = .ok (.invokevirtual 80, 3) := by decide +kernel
theorem dX3_renameFile_25 : decode cX3_renameFile 25 = .ok (.iload_n 3, 1) := by decide +kernel
theorem dX3_renameFile_26 : decode cX3_renameFile 26 = .ok (.ireturn, 1) := by decide +kernel
theorem dX3_refusalToMove_0 : decode cX3_refusalToMove 0 = .ok (.aload_n 0, 1) := by decide +kernel
theorem dX3_refusalToMove_1 : decode cX3_refusalToMove 1 = .ok (.getfield 21, 3) := by decide +kernel
theorem dX3_refusalToMove_4 : decode cX3_refusalToMove 4 = .ok (.iload_n 1, 1) := by decide +kernel
theorem dX3_refusalToMove_5 : decode cX3_refusalToMove 5 = .ok (.invokevirtual 49, 3) := by decide +kernel
theorem dX3_refusalToMove_8 : decode cX3_refusalToMove 8 = .ok (.ifCond .ne 8, 3) := by decide +kernel
theorem dX3_refusalToMove_11 : decode cX3_refusalToMove 11 = .ok (.iconst 1, 1) := by decide +kernel
theorem dX3_refusalToMove_12 : decode cX3_refusalToMove 12 = .ok (.invokestatic 53, 3) := by decide +kernel
theorem dX3_refusalToMove_15 : decode cX3_refusalToMove 15 = .ok (.ireturn, 1) := by decide +kernel
theorem dX3_refusalToMove_16 : decode cX3_refusalToMove 16 = .ok (.aload_n 0, 1) := by decide +kernel
theorem dX3_refusalToMove_17 : decode cX3_refusalToMove 17 = .ok (.getfield 21, 3) := by decide +kernel
theorem dX3_refusalToMove_20 : decode cX3_refusalToMove 20 = .ok (.iload_n 1, 1) := by decide +kernel
theorem dX3_refusalToMove_21 : decode cX3_refusalToMove 21 = .ok (.iconst 2, 1) := by decide +kernel
theorem dX3_refusalToMove_22 : decode cX3_refusalToMove 22 = .ok (.invokevirtual 60, 3) := by decide +kernel
theorem dX3_refusalToMove_25 : decode cX3_refusalToMove 25 = .ok (.ifCond .eq 15, 3) := by decide +kernel
theorem dX3_refusalToMove_28 : decode cX3_refusalToMove 28 = .ok (.aload_n 0, 1) := by decide +kernel
theorem dX3_refusalToMove_29 : decode cX3_refusalToMove 29 = .ok (.getfield 21, 3) := by decide +kernel
theorem dX3_refusalToMove_32 : decode cX3_refusalToMove 32 = .ok (.iload_n 2, 1) := by decide +kernel
theorem dX3_refusalToMove_33 : decode cX3_refusalToMove 33 = .ok (.iconst 2, 1) := by decide +kernel
theorem dX3_refusalToMove_34 : decode cX3_refusalToMove 34 = .ok (.invokevirtual 60, 3) := by decide +kernel
theorem dX3_refusalToMove_37 : decode cX3_refusalToMove 37 = .ok (.ifCond .ne 8, 3) := by decide +kernel
theorem dX3_refusalToMove_40 : decode cX3_refusalToMove 40 = .ok (.iconst 2, 1) := by decide +kernel
theorem dX3_refusalToMove_41 : decode cX3_refusalToMove 41 = .ok (.invokestatic 53, 3) := by decide +kernel
theorem dX3_refusalToMove_44 : decode cX3_refusalToMove 44 = .ok (.ireturn, 1) := by decide +kernel
theorem dX3_refusalToMove_45 : decode cX3_refusalToMove 45 = .ok (.aload_n 0, 1) := by decide +kernel
theorem dX3_refusalToMove_46 : decode cX3_refusalToMove 46 = .ok (.iload_n 1, 1) := by decide +kernel
theorem dX3_refusalToMove_47 : decode cX3_refusalToMove 47 = .ok (.iconst 0, 1) := by decide +kernel
theorem dX3_refusalToMove_48 : decode cX3_refusalToMove 48 = .ok (.invokevirtual 63, 3) := by decide +kernel
theorem dX3_refusalToMove_51 : decode cX3_refusalToMove 51 = .ok (.ifCond .ne 12, 3) := by decide +kernel
theorem dX3_refusalToMove_54 : decode cX3_refusalToMove 54 = .ok (.aload_n 0, 1) := by decide +kernel
theorem dX3_refusalToMove_55 : decode cX3_refusalToMove 55 = .ok (.iload_n 2, 1) := by decide +kernel
theorem dX3_refusalToMove_56 : decode cX3_refusalToMove 56 = .ok (.iconst 0, 1) := by decide +kernel
theorem dX3_refusalToMove_57 : decode cX3_refusalToMove 57 = .ok (.invokevirtual 63, 3) := by decide +kernel
theorem dX3_refusalToMove_60 : decode cX3_refusalToMove 60 = .ok (.ifCond .eq 10, 3) := by decide +kernel
theorem dX3_refusalToMove_63 : decode cX3_refusalToMove 63 = .ok (.iconst 0, 1) := by decide +kernel
theorem dX3_refusalToMove_64 : decode cX3_refusalToMove 64 = .ok (.invokestatic 53, 3) := by decide +kernel
theorem dX3_refusalToMove_67 : decode cX3_refusalToMove 67 = .ok (.goto 4, 3) := by decide +kernel
theorem dX3_refusalToMove_70 : decode cX3_refusalToMove 70 = .ok (.iconst 0, 1) := by decide +kernel
theorem dX3_refusalToMove_71 : decode cX3_refusalToMove 71 = .ok (.ireturn, 1) := by decide +kernel
theorem dX3_closeBehindRun_0 : decode cX3_closeBehindRun 0 = .ok (.iconst 0, 1) := by decide +kernel
theorem dX3_closeBehindRun_1 : decode cX3_closeBehindRun 1 = .ok (.istore_n 1, 1) := by decide +kernel
theorem dX3_closeBehindRun_2 : decode cX3_closeBehindRun 2 = .ok (.iload_n 1, 1) := by decide +kernel
theorem dX3_closeBehindRun_3 : decode cX3_closeBehindRun 3 = .ok (.aload_n 0, 1) := by decide +kernel
theorem dX3_closeBehindRun_4 : decode cX3_closeBehindRun 4 = .ok (.getfield 17, 3) := by decide +kernel
theorem dX3_closeBehindRun_7 : decode cX3_closeBehindRun 7 = .ok (.if_icmp .ge 31, 3) := by decide +kernel
theorem dX3_closeBehindRun_10 : decode cX3_closeBehindRun 10 = .ok (.aload_n 0, 1) := by decide +kernel
theorem dX3_closeBehindRun_11 : decode cX3_closeBehindRun 11 = .ok (.getfield 11, 3) := by decide +kernel
theorem dX3_closeBehindRun_14 : decode cX3_closeBehindRun 14 = .ok (.iload_n 1, 1) := by decide +kernel
theorem dX3_closeBehindRun_15 : decode cX3_closeBehindRun 15 = .ok (.aaload, 1) := by decide +kernel
theorem dX3_closeBehindRun_16 : decode cX3_closeBehindRun 16 = .ok (.invokevirtual 83, 3) := by decide +kernel
theorem dX3_closeBehindRun_19 : decode cX3_closeBehindRun 19 = .ok (.ifCond .eq 13, 3) := by decide +kernel
theorem dX3_closeBehindRun_22 : decode cX3_closeBehindRun 22 = .ok (.aload_n 0, 1) := by decide +kernel
theorem dX3_closeBehindRun_23 : decode cX3_closeBehindRun 23 = .ok (.getfield 11, 3) := by decide +kernel
theorem dX3_closeBehindRun_26 : decode cX3_closeBehindRun 26 = .ok (.iload_n 1, 1) := by decide +kernel
theorem dX3_closeBehindRun_27 : decode cX3_closeBehindRun 27 = .ok (.aaload, 1) := by decide +kernel
theorem dX3_closeBehindRun_28 : decode cX3_closeBehindRun 28 = .ok (.invokevirtual 86, 3) := by decide +kernel
theorem dX3_closeBehindRun_31 : decode cX3_closeBehindRun 31 = .ok (.pop, 1) := by decide +kernel
theorem dX3_closeBehindRun_32 : decode cX3_closeBehindRun 32 = .ok (.iinc 1 1, 3) := by decide +kernel
theorem dX3_closeBehindRun_35 : decode cX3_closeBehindRun 35 = .ok (.goto (-33), 3) := by decide +kernel
theorem dX3_closeBehindRun_38 : decode cX3_closeBehindRun 38 = .ok (.return_, 1) := by decide +kernel
theorem dX4_init_0 : decode cX4_init 0 = .ok (.aload_n 0, 1) := by decide +kernel
theorem dX4_init_1 : decode cX4_init 1 = .ok (.invokespecial 3, 3) := by decide +kernel
theorem dX4_init_4 : decode cX4_init 4 = .ok (.aload_n 0, 1) := by decide +kernel
theorem dX4_init_5 : decode cX4_init 5 = .ok (.sipush 300, 3) := by decide +kernel
theorem dX4_init_8 : decode cX4_init 8 = .ok (.newarray .int, 2) := by decide +kernel
theorem dX4_init_10 : decode cX4_init 10 = .ok (.putfield 9, 3) := by decide +kernel
theorem dX4_init_13 : decode cX4_init 13 = .ok (.aload_n 0, 1) := by decide +kernel
theorem dX4_init_14 : decode cX4_init 14 = .ok (.iconst 0, 1) := by decide +kernel
theorem dX4_init_15 : decode cX4_init 15 = .ok (.putfield 15, 3) := by decide +kernel
theorem dX4_init_18 : decode cX4_init 18 = .ok (.return_, 1) := by decide +kernel
theorem dX4_count_0 : decode cX4_count 0 = .ok (.aload_n 0, 1) := by decide +kernel
theorem dX4_count_1 : decode cX4_count 1 = .ok (.getfield 15, 3) := by decide +kernel
theorem dX4_count_4 : decode cX4_count 4 = .ok (.ireturn, 1) := by decide +kernel
theorem dX4_forget_0 : decode cX4_forget 0 = .ok (.aload_n 0, 1) := by decide +kernel
theorem dX4_forget_1 : decode cX4_forget 1 = .ok (.iconst 0, 1) := by decide +kernel
theorem dX4_forget_2 : decode cX4_forget 2 = .ok (.putfield 15, 3) := by decide +kernel
theorem dX4_forget_5 : decode cX4_forget 5 = .ok (.return_, 1) := by decide +kernel
theorem dX4_note_0 : decode cX4_note 0 = .ok (.aload_n 0, 1) := by decide +kernel
theorem dX4_note_1 : decode cX4_note 1 = .ok (.getfield 15, 3) := by decide +kernel
theorem dX4_note_4 : decode cX4_note 4 = .ok (.sipush 300, 3) := by decide +kernel
theorem dX4_note_7 : decode cX4_note 7 = .ok (.if_icmp .ge 13, 3) := by decide +kernel
theorem dX4_note_10 : decode cX4_note 10 = .ok (.aload_n 0, 1) := by decide +kernel
theorem dX4_note_11 : decode cX4_note 11 = .ok (.getfield 9, 3) := by decide +kernel
theorem dX4_note_14 : decode cX4_note 14 = .ok (.aload_n 0, 1) := by decide +kernel
theorem dX4_note_15 : decode cX4_note 15 = .ok (.getfield 15, 3) := by decide +kernel
theorem dX4_note_18 : decode cX4_note 18 = .ok (.iload_n 1, 1) := by decide +kernel
theorem dX4_note_19 : decode cX4_note 19 = .ok (.iastore, 1) := by decide +kernel
theorem dX4_note_20 : decode cX4_note 20 = .ok (.aload_n 0, 1) := by decide +kernel
theorem dX4_note_21 : decode cX4_note 21 = .ok (.dup, 1) := by decide +kernel
theorem dX4_note_22 : decode cX4_note 22 = .ok (.getfield 15, 3) := by decide +kernel
theorem dX4_note_25 : decode cX4_note 25 = .ok (.iconst 1, 1) := by decide +kernel
theorem dX4_note_26 : decode cX4_note 26 = .ok (.iadd, 1) := by decide +kernel
theorem dX4_note_27 : decode cX4_note 27 = .ok (.putfield 15, 3) := by decide +kernel
theorem dX4_note_30 : decode cX4_note 30 = .ok (.return_, 1) := by decide +kernel
theorem dX4_entry_0 : decode cX4_entry 0 = .ok (.iload_n 1, 1) := by decide +kernel
theorem dX4_entry_1 : decode cX4_entry 1 = .ok (.aload_n 0, 1) := by decide +kernel
theorem dX4_entry_2 : decode cX4_entry 2 = .ok (.getfield 15, 3) := by decide +kernel
theorem dX4_entry_5 : decode cX4_entry 5 = .ok (.sipush 300, 3) := by decide +kernel
theorem dX4_entry_8 : decode cX4_entry 8 = .ok (.invokestatic 19, 3) := by decide +kernel
theorem dX4_entry_11 : decode cX4_entry 11 = .ok (.invokestatic 25, 3) := by decide +kernel
theorem dX4_entry_14 : decode cX4_entry 14 = .ok (.ifCond .eq 12, 3) := by decide +kernel
theorem dX4_entry_17 : decode cX4_entry 17 = .ok (.aload_n 0, 1) := by decide +kernel
theorem dX4_entry_18 : decode cX4_entry 18 = .ok (.getfield 9, 3) := by decide +kernel
theorem dX4_entry_21 : decode cX4_entry 21 = .ok (.iload_n 1, 1) := by decide +kernel
theorem dX4_entry_22 : decode cX4_entry 22 = .ok (.iaload, 1) := by decide +kernel
theorem dX4_entry_23 : decode cX4_entry 23 = .ok (.goto 4, 3) := by decide +kernel
theorem dX4_entry_26 : decode cX4_entry 26 = .ok (.iconst (-1), 1) := by decide +kernel
theorem dX4_entry_27 : decode cX4_entry 27 = .ok (.ireturn, 1) := by decide +kernel
theorem dX5_init_0 : decode cX5_init 0 = .ok (.aload_n 0, 1) := by decide +kernel
theorem dX5_init_1 : decode cX5_init 1 = .ok (.invokespecial 3, 3) := by decide +kernel
theorem dX5_init_4 : decode cX5_init 4 = .ok (.aload_n 0, 1) := by decide +kernel
theorem dX5_init_5 : decode cX5_init 5 = .ok (.bipush 40, 2) := by decide +kernel
theorem dX5_init_7 : decode cX5_init 7 = .ok (.newarray .int, 2) := by decide +kernel
theorem dX5_init_9 : decode cX5_init 9 = .ok (.putfield 9, 3) := by decide +kernel
theorem dX5_init_12 : decode cX5_init 12 = .ok (.aload_n 0, 1) := by decide +kernel
theorem dX5_init_13 : decode cX5_init 13 = .ok (.aconst_null, 1) := by decide +kernel
theorem dX5_init_14 : decode cX5_init 14 = .ok (.putfield 15, 3) := by decide +kernel
theorem dX5_init_17 : decode cX5_init 17 = .ok (.aload_n 0, 1) := by decide +kernel
theorem dX5_init_18 : decode cX5_init 18 = .ok (.iconst 0, 1) := by decide +kernel
theorem dX5_init_19 : decode cX5_init 19 = .ok (.putfield 19, 3) := by decide +kernel
theorem dX5_init_22 : decode cX5_init 22 = .ok (.return_, 1) := by decide +kernel
theorem dX5_begin_0 : decode cX5_begin 0 = .ok (.aload_n 0, 1) := by decide +kernel
theorem dX5_begin_1 : decode cX5_begin 1 = .ok (.aload_n 1, 1) := by decide +kernel
theorem dX5_begin_2 : decode cX5_begin 2 = .ok (.putfield 15, 3) := by decide +kernel
theorem dX5_begin_5 : decode cX5_begin 5 = .ok (.aload_n 0, 1) := by decide +kernel
theorem dX5_begin_6 : decode cX5_begin 6 = .ok (.iconst 0, 1) := by decide +kernel
theorem dX5_begin_7 : decode cX5_begin 7 = .ok (.putfield 19, 3) := by decide +kernel
theorem dX5_begin_10 : decode cX5_begin 10 = .ok (.return_, 1) := by decide +kernel
theorem dX5_length_0 : decode cX5_length 0 = .ok (.aload_n 0, 1) := by decide +kernel
theorem dX5_length_1 : decode cX5_length 1 = .ok (.getfield 19, 3) := by decide +kernel
theorem dX5_length_4 : decode cX5_length 4 = .ok (.ireturn, 1) := by decide +kernel
theorem dX5_item_0 : decode cX5_item 0 = .ok (.iload_n 1, 1) := by decide +kernel
theorem dX5_item_1 : decode cX5_item 1 = .ok (.aload_n 0, 1) := by decide +kernel
theorem dX5_item_2 : decode cX5_item 2 = .ok (.getfield 19, 3) := by decide +kernel
theorem dX5_item_5 : decode cX5_item 5 = .ok (.invokestatic 23, 3) := by decide +kernel
theorem dX5_item_8 : decode cX5_item 8 = .ok (.ifCond .eq 12, 3) := by decide +kernel
theorem dX5_item_11 : decode cX5_item 11 = .ok (.aload_n 0, 1) := by decide +kernel
theorem dX5_item_12 : decode cX5_item 12 = .ok (.getfield 9, 3) := by decide +kernel
theorem dX5_item_15 : decode cX5_item 15 = .ok (.iload_n 1, 1) := by decide +kernel
theorem dX5_item_16 : decode cX5_item 16 = .ok (.iaload, 1) := by decide +kernel
theorem dX5_item_17 : decode cX5_item 17 = .ok (.goto 4, 3) := by decide +kernel
theorem dX5_item_20 : decode cX5_item 20 = .ok (.iconst (-1), 1) := by decide +kernel
theorem dX5_item_21 : decode cX5_item 21 = .ok (.ireturn, 1) := by decide +kernel
theorem dX5_reach_0 : decode cX5_reach 0 = .ok (.aload_n 0, 1) := by decide +kernel
theorem dX5_reach_1 : decode cX5_reach 1 = .ok (.getfield 19, 3) := by decide +kernel
theorem dX5_reach_4 : decode cX5_reach 4 = .ok (.istore_n 2, 1) := by decide +kernel
theorem dX5_reach_5 : decode cX5_reach 5 = .ok (.iload_n 1, 1) := by decide +kernel
theorem dX5_reach_6 : decode cX5_reach 6 = .ok (.bipush 40, 2) := by decide +kernel
theorem dX5_reach_8 : decode cX5_reach 8 = .ok (.invokestatic 27, 3) := by decide +kernel
theorem dX5_reach_11 : decode cX5_reach 11 = .ok (.istore_n 3, 1) := by decide +kernel
theorem dX5_reach_12 : decode cX5_reach 12 = .ok (.iconst 1, 1) := by decide +kernel
theorem dX5_reach_13 : decode cX5_reach 13 = .ok (.istore 4, 2) := by decide +kernel
theorem dX5_reach_15 : decode cX5_reach 15 = .ok (.iload_n 2, 1) := by decide +kernel
theorem dX5_reach_16 : decode cX5_reach 16 = .ok (.istore 5, 2) := by decide +kernel
theorem dX5_reach_18 : decode cX5_reach 18 = .ok (.iload 4, 2) := by decide +kernel
theorem dX5_reach_20 : decode cX5_reach 20 = .ok (.ifCond .eq 21, 3) := by decide +kernel
theorem dX5_reach_23 : decode cX5_reach 23 = .ok (.iload 5, 2) := by decide +kernel
theorem dX5_reach_25 : decode cX5_reach 25 = .ok (.iload_n 3, 1) := by decide +kernel
theorem dX5_reach_26 : decode cX5_reach 26 = .ok (.if_icmp .gt 15, 3) := by decide +kernel
theorem dX5_reach_29 : decode cX5_reach 29 = .ok (.aload_n 0, 1) := by decide +kernel
theorem dX5_reach_30 : decode cX5_reach 30 = .ok (.invokevirtual 33, 3) := by decide +kernel
theorem dX5_reach_33 : decode cX5_reach 33 = .ok (.istore 4, 2) := by decide +kernel
theorem dX5_reach_35 : decode cX5_reach 35 = .ok (.iinc 5 1, 3) := by decide +kernel
theorem dX5_reach_38 : decode cX5_reach 38 = .ok (.goto (-20), 3) := by decide +kernel
theorem dX5_reach_41 : decode cX5_reach 41 = .ok (.aload_n 0, 1) := by decide +kernel
theorem dX5_reach_42 : decode cX5_reach 42 = .ok (.getfield 19, 3) := by decide +kernel
theorem dX5_reach_45 : decode cX5_reach 45 = .ok (.iload_n 2, 1) := by decide +kernel
theorem dX5_reach_46 : decode cX5_reach 46 = .ok (.isub, 1) := by decide +kernel
theorem dX5_reach_47 : decode cX5_reach 47 = .ok (.ireturn, 1) := by decide +kernel
theorem dX5_grow_0 : decode cX5_grow 0 = .ok (.aload_n 0, 1) := by decide +kernel
theorem dX5_grow_1 : decode cX5_grow 1 = .ok (.getfield 15, 3) := by decide +kernel
theorem dX5_grow_4 : decode cX5_grow 4 = .ok (.ifnull 13, 3) := by decide +kernel
theorem dX5_grow_7 : decode cX5_grow 7 = .ok (.aload_n 0, 1) := by decide +kernel
theorem dX5_grow_8 : decode cX5_grow 8 = .ok (.getfield 15, 3) := by decide +kernel
theorem dX5_grow_11 : decode cX5_grow 11 = .ok (.invokevirtual 37, 3) := by decide +kernel
theorem dX5_grow_14 : decode cX5_grow 14 = .ok (.ifCond .ne 5, 3) := by decide +kernel
theorem dX5_grow_17 : decode cX5_grow 17 = .ok (.iconst 0, 1) := by decide +kernel
theorem dX5_grow_18 : decode cX5_grow 18 = .ok (.ireturn, 1) := by decide +kernel
theorem dX5_grow_19 : decode cX5_grow 19 = .ok (.aload_n 0, 1) := by decide +kernel
theorem dX5_grow_20 : decode cX5_grow 20 = .ok (.getfield 15, 3) := by decide +kernel
theorem dX5_grow_23 : decode cX5_grow 23 = .ok (.invokevirtual 42, 3) := by decide +kernel
theorem dX5_grow_26 : decode cX5_grow 26 = .ok (.istore_n 1, 1) := by decide +kernel
theorem dX5_grow_27 : decode cX5_grow 27 = .ok (.iload_n 1, 1) := by decide +kernel
theorem dX5_grow_28 : decode cX5_grow 28 = .ok (.iconst (-1), 1) := by decide +kernel
theorem dX5_grow_29 : decode cX5_grow 29 = .ok (.if_icmp .eq 12, 3) := by decide +kernel
theorem dX5_grow_32 : decode cX5_grow 32 = .ok (.aload_n 0, 1) := by decide +kernel
theorem dX5_grow_33 : decode cX5_grow 33 = .ok (.getfield 19, 3) := by decide +kernel
theorem dX5_grow_36 : decode cX5_grow 36 = .ok (.bipush 40, 2) := by decide +kernel
theorem dX5_grow_38 : decode cX5_grow 38 = .ok (.if_icmp .lt 12, 3) := by decide +kernel
theorem dX5_grow_41 : decode cX5_grow 41 = .ok (.aload_n 0, 1) := by decide +kernel
theorem dX5_grow_42 : decode cX5_grow 42 = .ok (.getfield 15, 3) := by decide +kernel
theorem dX5_grow_45 : decode cX5_grow 45 = .ok (.invokevirtual 46, 3) := by decide +kernel
theorem dX5_grow_48 : decode cX5_grow 48 = .ok (.iconst 0, 1) := by decide +kernel
theorem dX5_grow_49 : decode cX5_grow 49 = .ok (.ireturn, 1) := by decide +kernel
theorem dX5_grow_50 : decode cX5_grow 50 = .ok (.aload_n 0, 1) := by decide +kernel
theorem dX5_grow_51 : decode cX5_grow 51 = .ok (.getfield 9, 3) := by decide +kernel
theorem dX5_grow_54 : decode cX5_grow 54 = .ok (.aload_n 0, 1) := by decide +kernel
theorem dX5_grow_55 : decode cX5_grow 55 = .ok (.getfield 19, 3) := by decide +kernel
theorem dX5_grow_58 : decode cX5_grow 58 = .ok (.iload_n 1, 1) := by decide +kernel
theorem dX5_grow_59 : decode cX5_grow 59 = .ok (.iastore, 1) := by decide +kernel
theorem dX5_grow_60 : decode cX5_grow 60 = .ok (.aload_n 0, 1) := by decide +kernel
theorem dX5_grow_61 : decode cX5_grow 61 = .ok (.dup, 1) := by decide +kernel
theorem dX5_grow_62 : decode cX5_grow 62 = .ok (.getfield 19, 3) := by decide +kernel
theorem dX5_grow_65 : decode cX5_grow 65 = .ok (.iconst 1, 1) := by decide +kernel
theorem dX5_grow_66 : decode cX5_grow 66 = .ok (.iadd, 1) := by decide +kernel
theorem dX5_grow_67 : decode cX5_grow 67 = .ok (.putfield 19, 3) := by decide +kernel
theorem dX5_grow_70 : decode cX5_grow 70 = .ok (.iconst 1, 1) := by decide +kernel
theorem dX5_grow_71 : decode cX5_grow 71 = .ok (.ireturn, 1) := by decide +kernel
theorem dX6_init_0 : decode cX6_init 0 = .ok (.aload_n 0, 1) := by decide +kernel
theorem dX6_init_1 : decode cX6_init 1 = .ok (.invokespecial 3, 3) := by decide +kernel
theorem dX6_init_4 : decode cX6_init 4 = .ok (.aload_n 0, 1) := by decide +kernel
theorem dX6_init_5 : decode cX6_init 5 = .ok (.bipush 20, 2) := by decide +kernel
theorem dX6_init_7 : decode cX6_init 7 = .ok (.anewarray 9, 3) := by decide +kernel
theorem dX6_init_10 : decode cX6_init 10 = .ok (.putfield 11, 3) := by decide +kernel
theorem dX6_init_13 : decode cX6_init 13 = .ok (.aload_n 0, 1) := by decide +kernel
theorem dX6_init_14 : decode cX6_init 14 = .ok (.iconst 0, 1) := by decide +kernel
theorem dX6_init_15 : decode cX6_init 15 = .ok (.putfield 17, 3) := by decide +kernel
theorem dX6_init_18 : decode cX6_init 18 = .ok (.iconst 0, 1) := by decide +kernel
theorem dX6_init_19 : decode cX6_init 19 = .ok (.istore_n 1, 1) := by decide +kernel
theorem dX6_init_20 : decode cX6_init 20 = .ok (.iload_n 1, 1) := by decide +kernel
theorem dX6_init_21 : decode cX6_init 21 = .ok (.bipush 20, 2) := by decide +kernel
theorem dX6_init_23 : decode cX6_init 23 = .ok (.if_icmp .ge 22, 3) := by decide +kernel
theorem dX6_init_26 : decode cX6_init 26 = .ok (.aload_n 0, 1) := by decide +kernel
theorem dX6_init_27 : decode cX6_init 27 = .ok (.getfield 11, 3) := by decide +kernel
theorem dX6_init_30 : decode cX6_init 30 = .ok (.iload_n 1, 1) := by decide +kernel
theorem dX6_init_31 : decode cX6_init 31 = .ok (.new 9, 3) := by decide +kernel
theorem dX6_init_34 : decode cX6_init 34 = .ok (.dup, 1) := by decide +kernel
theorem dX6_init_35 : decode cX6_init 35 = .ok (.invokespecial 21, 3) := by decide +kernel
theorem dX6_init_38 : decode cX6_init 38 = .ok (.aastore, 1) := by decide +kernel
theorem dX6_init_39 : decode cX6_init 39 = .ok (.iinc 1 1, 3) := by decide +kernel
theorem dX6_init_42 : decode cX6_init 42 = .ok (.goto (-22), 3) := by decide +kernel
theorem dX6_init_45 : decode cX6_init 45 = .ok (.return_, 1) := by decide +kernel
theorem dX6_count_0 : decode cX6_count 0 = .ok (.aload_n 0, 1) := by decide +kernel
theorem dX6_count_1 : decode cX6_count 1 = .ok (.getfield 17, 3) := by decide +kernel
theorem dX6_count_4 : decode cX6_count 4 = .ok (.ireturn, 1) := by decide +kernel
theorem dX6_forget_0 : decode cX6_forget 0 = .ok (.aload_n 0, 1) := by decide +kernel
theorem dX6_forget_1 : decode cX6_forget 1 = .ok (.iconst 0, 1) := by decide +kernel
theorem dX6_forget_2 : decode cX6_forget 2 = .ok (.putfield 17, 3) := by decide +kernel
theorem dX6_forget_5 : decode cX6_forget 5 = .ok (.return_, 1) := by decide +kernel
theorem dX6_pick_0 : decode cX6_pick 0 = .ok (.iload_n 1, 1) := by decide +kernel
theorem dX6_pick_1 : decode cX6_pick 1 = .ok (.aload_n 0, 1) := by decide +kernel
theorem dX6_pick_2 : decode cX6_pick 2 = .ok (.getfield 17, 3) := by decide +kernel
theorem dX6_pick_5 : decode cX6_pick 5 = .ok (.invokestatic 22, 3) := by decide +kernel
theorem dX6_pick_8 : decode cX6_pick 8 = .ok (.ifCond .eq 12, 3) := by decide +kernel
theorem dX6_pick_11 : decode cX6_pick 11 = .ok (.aload_n 0, 1) := by decide +kernel
theorem dX6_pick_12 : decode cX6_pick 12 = .ok (.getfield 11, 3) := by decide +kernel
theorem dX6_pick_15 : decode cX6_pick 15 = .ok (.iload_n 1, 1) := by decide +kernel
theorem dX6_pick_16 : decode cX6_pick 16 = .ok (.aaload, 1) := by decide +kernel
theorem dX6_pick_17 : decode cX6_pick 17 = .ok (.goto 4, 3) := by decide +kernel
theorem dX6_pick_20 : decode cX6_pick 20 = .ok (.aconst_null, 1) := by decide +kernel
theorem dX6_pick_21 : decode cX6_pick 21 = .ok (.areturn, 1) := by decide +kernel
theorem dX6_begin_0 : decode cX6_begin 0 = .ok (.aload_n 0, 1) := by decide +kernel
theorem dX6_begin_1 : decode cX6_begin 1 = .ok (.getfield 17, 3) := by decide +kernel
theorem dX6_begin_4 : decode cX6_begin 4 = .ok (.bipush 20, 2) := by decide +kernel
theorem dX6_begin_6 : decode cX6_begin 6 = .ok (.if_icmp .ge 10, 3) := by decide +kernel
theorem dX6_begin_9 : decode cX6_begin 9 = .ok (.aload_n 1, 1) := by decide +kernel
theorem dX6_begin_10 : decode cX6_begin 10 = .ok (.invokevirtual 26, 3) := by decide +kernel
theorem dX6_begin_13 : decode cX6_begin 13 = .ok (.ifCond .ne 8, 3) := by decide +kernel
theorem dX6_begin_16 : decode cX6_begin 16 = .ok (.iconst 4, 1) := by decide +kernel
theorem dX6_begin_17 : decode cX6_begin 17 = .ok (.invokestatic 32, 3) := by decide +kernel
theorem dX6_begin_20 : decode cX6_begin 20 = .ok (.ireturn, 1) := by decide +kernel
theorem dX6_begin_21 : decode cX6_begin 21 = .ok (.aload_n 0, 1) := by decide +kernel
theorem dX6_begin_22 : decode cX6_begin 22 = .ok (.getfield 11, 3) := by decide +kernel
theorem dX6_begin_25 : decode cX6_begin 25 = .ok (.aload_n 0, 1) := by decide +kernel
theorem dX6_begin_26 : decode cX6_begin 26 = .ok (.getfield 17, 3) := by decide +kernel
theorem dX6_begin_29 : decode cX6_begin 29 = .ok (.aaload, 1) := by decide +kernel
theorem dX6_begin_30 : decode cX6_begin 30 = .ok (.aload_n 1, 1) := by decide +kernel
theorem dX6_begin_31 : decode cX6_begin 31 = .ok (.invokevirtual 36, 3) := by decide +kernel
theorem dX6_begin_34 : decode cX6_begin 34 = .ok (.aload_n 0, 1) := by decide +kernel
theorem dX6_begin_35 : decode cX6_begin 35 = .ok (.dup, 1) := by decide +kernel
theorem dX6_begin_36 : decode cX6_begin 36 = .ok (.getfield 17, 3) := by decide +kernel
theorem dX6_begin_39 : decode cX6_begin 39 = .ok (.iconst 1, 1) := by decide +kernel
theorem dX6_begin_40 : decode cX6_begin 40 = .ok (.iadd, 1) := by decide +kernel
theorem dX6_begin_41 : decode cX6_begin 41 = .ok (.putfield 17, 3) := by decide +kernel
theorem dX6_begin_44 : decode cX6_begin 44 = .ok (.aload_n 0, 1) := by decide +kernel
theorem dX6_begin_45 : decode cX6_begin 45 = .ok (.getfield 17, 3) := by decide +kernel
theorem dX6_begin_48 : decode cX6_begin 48 = .ok (.iconst 1, 1) := by decide +kernel
theorem dX6_begin_49 : decode cX6_begin 49 = .ok (.isub, 1) := by decide +kernel
theorem dX6_begin_50 : decode cX6_begin 50 = .ok (.ireturn, 1) := by decide +kernel
theorem dX7_init_0 : decode cX7_init 0 = .ok (.aload_n 0, 1) := by decide +kernel
theorem dX7_init_1 : decode cX7_init 1 = .ok (.invokespecial 3, 3) := by decide +kernel
theorem dX7_init_4 : decode cX7_init 4 = .ok (.aload_n 0, 1) := by decide +kernel
theorem dX7_init_5 : decode cX7_init 5 = .ok (.bipush 60, 2) := by decide +kernel
theorem dX7_init_7 : decode cX7_init 7 = .ok (.newarray .int, 2) := by decide +kernel
theorem dX7_init_9 : decode cX7_init 9 = .ok (.putfield 9, 3) := by decide +kernel
theorem dX7_init_12 : decode cX7_init 12 = .ok (.aload_n 0, 1) := by decide +kernel
theorem dX7_init_13 : decode cX7_init 13 = .ok (.bipush 60, 2) := by decide +kernel
theorem dX7_init_15 : decode cX7_init 15 = .ok (.newarray .int, 2) := by decide +kernel
theorem dX7_init_17 : decode cX7_init 17 = .ok (.putfield 15, 3) := by decide +kernel
theorem dX7_init_20 : decode cX7_init 20 = .ok (.aload_n 0, 1) := by decide +kernel
theorem dX7_init_21 : decode cX7_init 21 = .ok (.bipush 60, 2) := by decide +kernel
theorem dX7_init_23 : decode cX7_init 23 = .ok (.newarray .int, 2) := by decide +kernel
theorem dX7_init_25 : decode cX7_init 25 = .ok (.putfield 18, 3) := by decide +kernel
theorem dX7_init_28 : decode cX7_init 28 = .ok (.aload_n 0, 1) := by decide +kernel
theorem dX7_init_29 : decode cX7_init 29 = .ok (.bipush 60, 2) := by decide +kernel
theorem dX7_init_31 : decode cX7_init 31 = .ok (.newarray .int, 2) := by decide +kernel
theorem dX7_init_33 : decode cX7_init 33 = .ok (.putfield 21, 3) := by decide +kernel
theorem dX7_init_36 : decode cX7_init 36 = .ok (.aload_n 0, 1) := by decide +kernel
theorem dX7_init_37 : decode cX7_init 37 = .ok (.iconst 0, 1) := by decide +kernel
theorem dX7_init_38 : decode cX7_init 38 = .ok (.putfield 24, 3) := by decide +kernel
theorem dX7_init_41 : decode cX7_init 41 = .ok (.return_, 1) := by decide +kernel
theorem dX7_length_0 : decode cX7_length 0 = .ok (.aload_n 0, 1) := by decide +kernel
theorem dX7_length_1 : decode cX7_length 1 = .ok (.getfield 24, 3) := by decide +kernel
theorem dX7_length_4 : decode cX7_length 4 = .ok (.ireturn, 1) := by decide +kernel
theorem dX7_forget_0 : decode cX7_forget 0 = .ok (.aload_n 0, 1) := by decide +kernel
theorem dX7_forget_1 : decode cX7_forget 1 = .ok (.iconst 0, 1) := by decide +kernel
theorem dX7_forget_2 : decode cX7_forget 2 = .ok (.putfield 24, 3) := by decide +kernel
theorem dX7_forget_5 : decode cX7_forget 5 = .ok (.return_, 1) := by decide +kernel
theorem dX7_allows_0 : decode cX7_allows 0 = .ok (.aload_n 0, 1) := by decide +kernel
theorem dX7_allows_1 : decode cX7_allows 1 = .ok (.iload_n 2, 1) := by decide +kernel
theorem dX7_allows_2 : decode cX7_allows 2 = .ok (.getstatic 28, 3) := by decide +kernel
theorem dX7_allows_5 : decode cX7_allows 5 = .ok (.iload_n 1, 1) := by decide +kernel
theorem dX7_allows_6 : decode cX7_allows 6 = .ok (.iaload, 1) := by decide +kernel
theorem dX7_allows_7 : decode cX7_allows 7 = .ok (.invokevirtual 31, 3) := by decide +kernel
theorem dX7_allows_10 : decode cX7_allows 10 = .ok (.ifCond .eq 34, 3) := by decide +kernel
theorem dX7_allows_13 : decode cX7_allows 13 = .ok (.aload_n 0, 1) := by decide +kernel
theorem dX7_allows_14 : decode cX7_allows 14 = .ok (.iload_n 3, 1) := by decide +kernel
theorem dX7_allows_15 : decode cX7_allows 15 = .ok (.getstatic 35, 3) := by decide +kernel
theorem dX7_allows_18 : decode cX7_allows 18 = .ok (.iload_n 1, 1) := by decide +kernel
theorem dX7_allows_19 : decode cX7_allows 19 = .ok (.iaload, 1) := by decide +kernel
theorem dX7_allows_20 : decode cX7_allows 20 = .ok (.invokevirtual 31, 3) := by decide +kernel
theorem dX7_allows_23 : decode cX7_allows 23 = .ok (.ifCond .eq 21, 3) := by decide +kernel
theorem dX7_allows_26 : decode cX7_allows 26 = .ok (.aload_n 0, 1) := by decide +kernel
theorem dX7_allows_27 : decode cX7_allows 27 = .ok (.iload 4, 2) := by decide +kernel
theorem dX7_allows_29 : decode cX7_allows 29 = .ok (.getstatic 38, 3) := by decide +kernel
theorem dX7_allows_32 : decode cX7_allows 32 = .ok (.iload_n 1, 1) := by decide +kernel
theorem dX7_allows_33 : decode cX7_allows 33 = .ok (.iaload, 1) := by decide +kernel
theorem dX7_allows_34 : decode cX7_allows 34 = .ok (.invokevirtual 31, 3) := by decide +kernel
theorem dX7_allows_37 : decode cX7_allows 37 = .ok (.ifCond .eq 7, 3) := by decide +kernel
theorem dX7_allows_40 : decode cX7_allows 40 = .ok (.iconst 1, 1) := by decide +kernel
theorem dX7_allows_41 : decode cX7_allows 41 = .ok (.goto 4, 3) := by decide +kernel
theorem dX7_allows_44 : decode cX7_allows 44 = .ok (.iconst 0, 1) := by decide +kernel
theorem dX7_allows_45 : decode cX7_allows 45 = .ok (.ireturn, 1) := by decide +kernel
theorem dX7_fits_0 : decode cX7_fits 0 = .ok (.iload_n 2, 1) := by decide +kernel
theorem dX7_fits_1 : decode cX7_fits 1 = .ok (.iconst (-1), 1) := by decide +kernel
theorem dX7_fits_2 : decode cX7_fits 2 = .ok (.if_icmp .eq 22, 3) := by decide +kernel
theorem dX7_fits_5 : decode cX7_fits 5 = .ok (.iload_n 1, 1) := by decide +kernel
theorem dX7_fits_6 : decode cX7_fits 6 = .ok (.iload_n 2, 1) := by decide +kernel
theorem dX7_fits_7 : decode cX7_fits 7 = .ok (.ifCond .ne 10, 3) := by decide +kernel
theorem dX7_fits_10 : decode cX7_fits 10 = .ok (.aload_n 0, 1) := by decide +kernel
theorem dX7_fits_11 : decode cX7_fits 11 = .ok (.getfield 24, 3) := by decide +kernel
theorem dX7_fits_14 : decode cX7_fits 14 = .ok (.goto 4, 3) := by decide +kernel
theorem dX7_fits_17 : decode cX7_fits 17 = .ok (.iload_n 2, 1) := by decide +kernel
theorem dX7_fits_18 : decode cX7_fits 18 = .ok (.invokestatic 41, 3) := by decide +kernel
theorem dX7_fits_21 : decode cX7_fits 21 = .ok (.ifCond .eq 7, 3) := by decide +kernel
theorem dX7_fits_24 : decode cX7_fits 24 = .ok (.iconst 1, 1) := by decide +kernel
theorem dX7_fits_25 : decode cX7_fits 25 = .ok (.goto 4, 3) := by decide +kernel
theorem dX7_fits_28 : decode cX7_fits 28 = .ok (.iconst 0, 1) := by decide +kernel
theorem dX7_fits_29 : decode cX7_fits 29 = .ok (.ireturn, 1) := by decide +kernel
theorem dX7_add_0 : decode cX7_add 0 = .ok (.aload_n 0, 1) := by decide +kernel
theorem dX7_add_1 : decode cX7_add 1 = .ok (.getfield 24, 3) := by decide +kernel
theorem dX7_add_4 : decode cX7_add 4 = .ok (.bipush 60, 2) := by decide +kernel
theorem dX7_add_6 : decode cX7_add 6 = .ok (.if_icmp .lt 6, 3) := by decide +kernel
theorem dX7_add_9 : decode cX7_add 9 = .ok (.bipush (-3), 2) := by decide +kernel
theorem dX7_add_11 : decode cX7_add 11 = .ok (.ireturn, 1) := by decide +kernel
theorem dX7_add_12 : decode cX7_add 12 = .ok (.aload_n 0, 1) := by decide +kernel
theorem dX7_add_13 : decode cX7_add 13 = .ok (.getfield 9, 3) := by decide +kernel
theorem dX7_add_16 : decode cX7_add 16 = .ok (.aload_n 0, 1) := by decide +kernel
theorem dX7_add_17 : decode cX7_add 17 = .ok (.getfield 24, 3) := by decide +kernel
theorem dX7_add_20 : decode cX7_add 20 = .ok (.iload_n 1, 1) := by decide +kernel
theorem dX7_add_21 : decode cX7_add 21 = .ok (.iastore, 1) := by decide +kernel
theorem dX7_add_22 : decode cX7_add 22 = .ok (.aload_n 0, 1) := by decide +kernel
theorem dX7_add_23 : decode cX7_add 23 = .ok (.getfield 15, 3) := by decide +kernel
theorem dX7_add_26 : decode cX7_add 26 = .ok (.aload_n 0, 1) := by decide +kernel
theorem dX7_add_27 : decode cX7_add 27 = .ok (.getfield 24, 3) := by decide +kernel
theorem dX7_add_30 : decode cX7_add 30 = .ok (.iload_n 2, 1) := by decide +kernel
theorem dX7_add_31 : decode cX7_add 31 = .ok (.iastore, 1) := by decide +kernel
theorem dX7_add_32 : decode cX7_add 32 = .ok (.aload_n 0, 1) := by decide +kernel
theorem dX7_add_33 : decode cX7_add 33 = .ok (.getfield 18, 3) := by decide +kernel
theorem dX7_add_36 : decode cX7_add 36 = .ok (.aload_n 0, 1) := by decide +kernel
theorem dX7_add_37 : decode cX7_add 37 = .ok (.getfield 24, 3) := by decide +kernel
theorem dX7_add_40 : decode cX7_add 40 = .ok (.iload_n 3, 1) := by decide +kernel
theorem dX7_add_41 : decode cX7_add 41 = .ok (.iastore, 1) := by decide +kernel
theorem dX7_add_42 : decode cX7_add 42 = .ok (.aload_n 0, 1) := by decide +kernel
theorem dX7_add_43 : decode cX7_add 43 = .ok (.getfield 21, 3) := by decide +kernel
theorem dX7_add_46 : decode cX7_add 46 = .ok (.aload_n 0, 1) := by decide +kernel
theorem dX7_add_47 : decode cX7_add 47 = .ok (.getfield 24, 3) := by decide +kernel
theorem dX7_add_50 : decode cX7_add 50 = .ok (.iload 4, 2) := by decide +kernel
theorem dX7_add_52 : decode cX7_add 52 = .ok (.iastore, 1) := by decide +kernel
theorem dX7_add_53 : decode cX7_add 53 = .ok (.aload_n 0, 1) := by decide +kernel
theorem dX7_add_54 : decode cX7_add 54 = .ok (.dup, 1) := by decide +kernel
theorem dX7_add_55 : decode cX7_add 55 = .ok (.getfield 24, 3) := by decide +kernel
theorem dX7_add_58 : decode cX7_add 58 = .ok (.iconst 1, 1) := by decide +kernel
theorem dX7_add_59 : decode cX7_add 59 = .ok (.iadd, 1) := by decide +kernel
theorem dX7_add_60 : decode cX7_add 60 = .ok (.putfield 24, 3) := by decide +kernel
theorem dX7_add_63 : decode cX7_add 63 = .ok (.aload_n 0, 1) := by decide +kernel
theorem dX7_add_64 : decode cX7_add 64 = .ok (.getfield 24, 3) := by decide +kernel
theorem dX7_add_67 : decode cX7_add 67 = .ok (.iconst 1, 1) := by decide +kernel
theorem dX7_add_68 : decode cX7_add 68 = .ok (.isub, 1) := by decide +kernel
theorem dX7_add_69 : decode cX7_add 69 = .ok (.ireturn, 1) := by decide +kernel
theorem dX7_code_0 : decode cX7_code 0 = .ok (.aload_n 0, 1) := by decide +kernel
theorem dX7_code_1 : decode cX7_code 1 = .ok (.getfield 9, 3) := by decide +kernel
theorem dX7_code_4 : decode cX7_code 4 = .ok (.iload_n 1, 1) := by decide +kernel
theorem dX7_code_5 : decode cX7_code 5 = .ok (.iaload, 1) := by decide +kernel
theorem dX7_code_6 : decode cX7_code 6 = .ok (.ireturn, 1) := by decide +kernel
theorem dX7_first_0 : decode cX7_first 0 = .ok (.aload_n 0, 1) := by decide +kernel
theorem dX7_first_1 : decode cX7_first 1 = .ok (.getfield 15, 3) := by decide +kernel
theorem dX7_first_4 : decode cX7_first 4 = .ok (.iload_n 1, 1) := by decide +kernel
theorem dX7_first_5 : decode cX7_first 5 = .ok (.iaload, 1) := by decide +kernel
theorem dX7_first_6 : decode cX7_first 6 = .ok (.ireturn, 1) := by decide +kernel
theorem dX7_second_0 : decode cX7_second 0 = .ok (.aload_n 0, 1) := by decide +kernel
theorem dX7_second_1 : decode cX7_second 1 = .ok (.getfield 18, 3) := by decide +kernel
theorem dX7_second_4 : decode cX7_second 4 = .ok (.iload_n 1, 1) := by decide +kernel
theorem dX7_second_5 : decode cX7_second 5 = .ok (.iaload, 1) := by decide +kernel
theorem dX7_second_6 : decode cX7_second 6 = .ok (.ireturn, 1) := by decide +kernel
theorem dX7_third_0 : decode cX7_third 0 = .ok (.aload_n 0, 1) := by decide +kernel
theorem dX7_third_1 : decode cX7_third 1 = .ok (.getfield 21, 3) := by decide +kernel
theorem dX7_third_4 : decode cX7_third 4 = .ok (.iload_n 1, 1) := by decide +kernel
theorem dX7_third_5 : decode cX7_third 5 = .ok (.iaload, 1) := by decide +kernel
theorem dX7_third_6 : decode cX7_third 6 = .ok (.ireturn, 1) := by decide +kernel
theorem dX8_init_0 : decode cX8_init 0 = .ok (.aload_n 0, 1) := by decide +kernel
theorem dX8_init_1 : decode cX8_init 1 = .ok (.invokespecial 3, 3) := by decide +kernel
theorem dX8_init_4 : decode cX8_init 4 = .ok (.aload_n 0, 1) := by decide +kernel
theorem dX8_init_5 : decode cX8_init 5 = .ok (.bipush 6, 2) := by decide +kernel
theorem dX8_init_7 : decode cX8_init 7 = .ok (.newarray .int, 2) := by decide +kernel
theorem dX8_init_9 : decode cX8_init 9 = .ok (.putfield 9, 3) := by decide +kernel
theorem dX8_init_12 : decode cX8_init 12 = .ok (.aload_n 0, 1) := by decide +kernel
theorem dX8_init_13 : decode cX8_init 13 = .ok (.bipush 6, 2) := by decide +kernel
theorem dX8_init_15 : decode cX8_init 15 = .ok (.newarray .int, 2) := by decide +kernel
theorem dX8_init_17 : decode cX8_init 17 = .ok (.putfield 15, 3) := by decide +kernel
theorem dX8_init_20 : decode cX8_init 20 = .ok (.aload_n 0, 1) := by decide +kernel
theorem dX8_init_21 : decode cX8_init 21 = .ok (.iconst 0, 1) := by decide +kernel
theorem dX8_init_22 : decode cX8_init 22 = .ok (.putfield 18, 3) := by decide +kernel
theorem dX8_init_25 : decode cX8_init 25 = .ok (.aload_n 0, 1) := by decide +kernel
theorem dX8_init_26 : decode cX8_init 26 = .ok (.iconst 0, 1) := by decide +kernel
theorem dX8_init_27 : decode cX8_init 27 = .ok (.putfield 22, 3) := by decide +kernel
theorem dX8_init_30 : decode cX8_init 30 = .ok (.aload_n 0, 1) := by decide +kernel
theorem dX8_init_31 : decode cX8_init 31 = .ok (.iconst (-1), 1) := by decide +kernel
theorem dX8_init_32 : decode cX8_init 32 = .ok (.putfield 25, 3) := by decide +kernel
theorem dX8_init_35 : decode cX8_init 35 = .ok (.aload_n 0, 1) := by decide +kernel
theorem dX8_init_36 : decode cX8_init 36 = .ok (.iconst 0, 1) := by decide +kernel
theorem dX8_init_37 : decode cX8_init 37 = .ok (.putfield 28, 3) := by decide +kernel
theorem dX8_init_40 : decode cX8_init 40 = .ok (.aload_n 0, 1) := by decide +kernel
theorem dX8_init_41 : decode cX8_init 41 = .ok (.aload_n 1, 1) := by decide +kernel
theorem dX8_init_42 : decode cX8_init 42 = .ok (.putfield 31, 3) := by decide +kernel
theorem dX8_init_45 : decode cX8_init 45 = .ok (.aload_n 0, 1) := by decide +kernel
theorem dX8_init_46 : decode cX8_init 46 = .ok (.aload_n 2, 1) := by decide +kernel
theorem dX8_init_47 : decode cX8_init 47 = .ok (.putfield 35, 3) := by decide +kernel
theorem dX8_init_50 : decode cX8_init 50 = .ok (.aload_n 0, 1) := by decide +kernel
theorem dX8_init_51 : decode cX8_init 51 = .ok (.aload_n 3, 1) := by decide +kernel
theorem dX8_init_52 : decode cX8_init 52 = .ok (.putfield 39, 3) := by decide +kernel
theorem dX8_init_55 : decode cX8_init 55 = .ok (.aload_n 0, 1) := by decide +kernel
theorem dX8_init_56 : decode cX8_init 56 = .ok (.aload 4, 2) := by decide +kernel
theorem dX8_init_58 : decode cX8_init 58 = .ok (.putfield 43, 3) := by decide +kernel
theorem dX8_init_61 : decode cX8_init 61 = .ok (.aload_n 0, 1) := by decide +kernel
theorem dX8_init_62 : decode cX8_init 62 = .ok (.aload 5, 2) := by decide +kernel
theorem dX8_init_64 : decode cX8_init 64 = .ok (.putfield 47, 3) := by decide +kernel
theorem dX8_init_67 : decode cX8_init 67 = .ok (.return_, 1) := by decide +kernel
theorem dX8_outcome_0 : decode cX8_outcome 0 = .ok (.aload_n 0, 1) := by decide +kernel
theorem dX8_outcome_1 : decode cX8_outcome 1 = .ok (.getfield 22, 3) := by decide +kernel
theorem dX8_outcome_4 : decode cX8_outcome 4 = .ok (.ireturn, 1) := by decide +kernel
theorem dX8_failedNode_0 : decode cX8_failedNode 0 = .ok (.aload_n 0, 1) := by decide +kernel
theorem dX8_failedNode_1 : decode cX8_failedNode 1 = .ok (.getfield 18, 3) := by decide +kernel
theorem dX8_failedNode_4 : decode cX8_failedNode 4 = .ok (.iconst 3, 1) := by decide +kernel
theorem dX8_failedNode_5 : decode cX8_failedNode 5 = .ok (.if_icmp .ne 10, 3) := by decide +kernel
theorem dX8_failedNode_8 : decode cX8_failedNode 8 = .ok (.aload_n 0, 1) := by decide +kernel
theorem dX8_failedNode_9 : decode cX8_failedNode 9 = .ok (.getfield 25, 3) := by decide +kernel
theorem dX8_failedNode_12 : decode cX8_failedNode 12 = .ok (.goto 4, 3) := by decide +kernel
theorem dX8_failedNode_15 : decode cX8_failedNode 15 = .ok (.iconst (-1), 1) := by decide +kernel
theorem dX8_failedNode_16 : decode cX8_failedNode 16 = .ok (.ireturn, 1) := by decide +kernel
theorem dX8_steps_0 : decode cX8_steps 0 = .ok (.aload_n 0, 1) := by decide +kernel
theorem dX8_steps_1 : decode cX8_steps 1 = .ok (.getfield 28, 3) := by decide +kernel
theorem dX8_steps_4 : decode cX8_steps 4 = .ok (.ireturn, 1) := by decide +kernel
theorem dX8_perform_0 : decode cX8_perform 0 = .ok (.aload_n 0, 1) := by decide +kernel
theorem dX8_perform_1 : decode cX8_perform 1 = .ok (.getfield 9, 3) := by decide +kernel
theorem dX8_perform_4 : decode cX8_perform 4 = .ok (.iconst 0, 1) := by decide +kernel
theorem dX8_perform_5 : decode cX8_perform 5 = .ok (.invokestatic 51, 3) := by decide +kernel
theorem dX8_perform_8 : decode cX8_perform 8 = .ok (.aload_n 0, 1) := by decide +kernel
theorem dX8_perform_9 : decode cX8_perform 9 = .ok (.getfield 15, 3) := by decide +kernel
theorem dX8_perform_12 : decode cX8_perform 12 = .ok (.iconst 0, 1) := by decide +kernel
theorem dX8_perform_13 : decode cX8_perform 13 = .ok (.invokestatic 51, 3) := by decide +kernel
theorem dX8_perform_16 : decode cX8_perform 16 = .ok (.aload_n 0, 1) := by decide +kernel
theorem dX8_perform_17 : decode cX8_perform 17 = .ok (.getfield 39, 3) := by decide +kernel
theorem dX8_perform_20 : decode cX8_perform 20 = .ok (.invokevirtual 57, 3) := by decide +kernel
theorem dX8_perform_23 : decode cX8_perform 23 = .ok (.aload_n 0, 1) := by decide +kernel
theorem dX8_perform_24 : decode cX8_perform 24 = .ok (.getfield 43, 3) := by decide +kernel
theorem dX8_perform_27 : decode cX8_perform 27 = .ok (.invokevirtual 62, 3) := by decide +kernel
theorem dX8_perform_30 : decode cX8_perform 30 = .ok (.aload_n 0, 1) := by decide +kernel
theorem dX8_perform_31 : decode cX8_perform 31 = .ok (.getfield 47, 3) := by decide +kernel
theorem dX8_perform_34 : decode cX8_perform 34 = .ok (.invokevirtual 65, 3) := by decide +kernel
theorem dX8_perform_37 : decode cX8_perform 37 = .ok (.aload_n 0, 1) := by decide +kernel
theorem dX8_perform_38 : decode cX8_perform 38 = .ok (.iconst 0, 1) := by decide +kernel
theorem dX8_perform_39 : decode cX8_perform 39 = .ok (.putfield 28, 3) := by decide +kernel
theorem dX8_perform_42 : decode cX8_perform 42 = .ok (.aload_n 0, 1) := by decide +kernel
theorem dX8_perform_43 : decode cX8_perform 43 = .ok (.iload_n 1, 1) := by decide +kernel
theorem dX8_perform_44 : decode cX8_perform 44 = .ok (.iconst 1, 1) := by decide +kernel
theorem dX8_perform_45 : decode cX8_perform 45 = .ok (.invokevirtual 68, 3) := by decide +kernel
theorem dX8_perform_48 : decode cX8_perform 48 = .ok (.pop, 1) := by decide +kernel
theorem dX8_perform_49 : decode cX8_perform 49 = .ok (.aload_n 0, 1) := by decide +kernel
theorem dX8_perform_50 : decode cX8_perform 50 = .ok (.getfield 39, 3) := by decide +kernel
theorem dX8_perform_53 : decode cX8_perform 53 = .ok (.invokevirtual 72, 3) := by decide +kernel
theorem dX8_perform_56 : decode cX8_perform 56 = .ok (.aload_n 0, 1) := by decide +kernel
theorem dX8_perform_57 : decode cX8_perform 57 = .ok (.getfield 18, 3) := by decide +kernel
theorem dX8_perform_60 : decode cX8_perform 60 = .ok (.ireturn, 1) := by decide +kernel
theorem dX8_work_0 : decode cX8_work 0 = .ok (.aload_n 0, 1) := by decide +kernel
theorem dX8_work_1 : decode cX8_work 1 = .ok (.getfield 28, 3) := by decide +kernel
theorem dX8_work_4 : decode cX8_work 4 = .ok (.sipush 600, 3) := by decide +kernel
theorem dX8_work_7 : decode cX8_work 7 = .ok (.if_icmp .ge 9, 3) := by decide +kernel
theorem dX8_work_10 : decode cX8_work 10 = .ok (.iload_n 2, 1) := by decide +kernel
theorem dX8_work_11 : decode cX8_work 11 = .ok (.bipush 60, 2) := by decide +kernel
theorem dX8_work_13 : decode cX8_work 13 = .ok (.if_icmp .le 8, 3) := by decide +kernel
theorem dX8_work_16 : decode cX8_work 16 = .ok (.aload_n 0, 1) := by decide +kernel
theorem dX8_work_17 : decode cX8_work 17 = .ok (.invokevirtual 75, 3) := by decide +kernel
theorem dX8_work_20 : decode cX8_work 20 = .ok (.ireturn, 1) := by decide +kernel
theorem dX8_work_21 : decode cX8_work 21 = .ok (.aload_n 0, 1) := by decide +kernel
theorem dX8_work_22 : decode cX8_work 22 = .ok (.dup, 1) := by decide +kernel
theorem dX8_work_23 : decode cX8_work 23 = .ok (.getfield 28, 3) := by decide +kernel
theorem dX8_work_26 : decode cX8_work 26 = .ok (.iconst 1, 1) := by decide +kernel
theorem dX8_work_27 : decode cX8_work 27 = .ok (.iadd, 1) := by decide +kernel
theorem dX8_work_28 : decode cX8_work 28 = .ok (.putfield 28, 3) := by decide +kernel
theorem dX8_work_31 : decode cX8_work 31 = .ok (.aload_n 0, 1) := by decide +kernel
theorem dX8_work_32 : decode cX8_work 32 = .ok (.getfield 31, 3) := by decide +kernel
theorem dX8_work_35 : decode cX8_work 35 = .ok (.iload_n 1, 1) := by decide +kernel
theorem dX8_work_36 : decode cX8_work 36 = .ok (.invokevirtual 79, 3) := by decide +kernel
theorem dX8_work_39 : decode cX8_work 39 = .ok (.tableswitch 322 0 28 #[129, 143, 174, 202, 322, 181, 322, 322, 188, 195, 181, 322, 322, 322, 322, 202, 202, 208, 202, 215, 208, 257, 257, 208, 264, 208, 278, 285, 315], 129) := by decide +kernel
theorem dX8_work_168 : decode cX8_work 168 = .ok (.aload_n 0, 1) := by decide +kernel
theorem dX8_work_169 : decode cX8_work 169 = .ok (.iconst 0, 1) := by decide +kernel
theorem dX8_work_170 : decode cX8_work 170 = .ok (.aload_n 0, 1) := by decide +kernel
theorem dX8_work_171 : decode cX8_work 171 = .ok (.getfield 31, 3) := by decide +kernel
theorem dX8_work_174 : decode cX8_work 174 = .ok (.iload_n 1, 1) := by decide +kernel
theorem dX8_work_175 : decode cX8_work 175 = .ok (.invokevirtual 85, 3) := by decide +kernel
theorem dX8_work_178 : decode cX8_work 178 = .ok (.invokevirtual 88, 3) := by decide +kernel
theorem dX8_work_181 : decode cX8_work 181 = .ok (.ireturn, 1) := by decide +kernel
theorem dX8_work_182 : decode cX8_work 182 = .ok (.aload_n 0, 1) := by decide +kernel
theorem dX8_work_183 : decode cX8_work 183 = .ok (.aload_n 0, 1) := by decide +kernel
theorem dX8_work_184 : decode cX8_work 184 = .ok (.getfield 9, 3) := by decide +kernel
theorem dX8_work_187 : decode cX8_work 187 = .ok (.aload_n 0, 1) := by decide +kernel
theorem dX8_work_188 : decode cX8_work 188 = .ok (.getfield 31, 3) := by decide +kernel
theorem dX8_work_191 : decode cX8_work 191 = .ok (.iload_n 1, 1) := by decide +kernel
theorem dX8_work_192 : decode cX8_work 192 = .ok (.invokevirtual 85, 3) := by decide +kernel
theorem dX8_work_195 : decode cX8_work 195 = .ok (.iaload, 1) := by decide +kernel
theorem dX8_work_196 : decode cX8_work 196 = .ok (.aload_n 0, 1) := by decide +kernel
theorem dX8_work_197 : decode cX8_work 197 = .ok (.getfield 15, 3) := by decide +kernel
theorem dX8_work_200 : decode cX8_work 200 = .ok (.aload_n 0, 1) := by decide +kernel
theorem dX8_work_201 : decode cX8_work 201 = .ok (.getfield 31, 3) := by decide +kernel
theorem dX8_work_204 : decode cX8_work 204 = .ok (.iload_n 1, 1) := by decide +kernel
theorem dX8_work_205 : decode cX8_work 205 = .ok (.invokevirtual 85, 3) := by decide +kernel
theorem dX8_work_208 : decode cX8_work 208 = .ok (.iaload, 1) := by decide +kernel
theorem dX8_work_209 : decode cX8_work 209 = .ok (.invokevirtual 88, 3) := by decide +kernel
theorem dX8_work_212 : decode cX8_work 212 = .ok (.ireturn, 1) := by decide +kernel
theorem dX8_work_213 : decode cX8_work 213 = .ok (.aload_n 0, 1) := by decide +kernel
theorem dX8_work_214 : decode cX8_work 214 = .ok (.iload_n 1, 1) := by decide +kernel
theorem dX8_work_215 : decode cX8_work 215 = .ok (.iload_n 2, 1) := by decide +kernel
theorem dX8_work_216 : decode cX8_work 216 = .ok (.invokevirtual 91, 3) := by decide +kernel
theorem dX8_work_219 : decode cX8_work 219 = .ok (.ireturn, 1) := by decide +kernel
theorem dX8_work_220 : decode cX8_work 220 = .ok (.aload_n 0, 1) := by decide +kernel
theorem dX8_work_221 : decode cX8_work 221 = .ok (.iload_n 1, 1) := by decide +kernel
theorem dX8_work_222 : decode cX8_work 222 = .ok (.iload_n 2, 1) := by decide +kernel
theorem dX8_work_223 : decode cX8_work 223 = .ok (.invokevirtual 94, 3) := by decide +kernel
theorem dX8_work_226 : decode cX8_work 226 = .ok (.ireturn, 1) := by decide +kernel
theorem dX8_work_227 : decode cX8_work 227 = .ok (.aload_n 0, 1) := by decide +kernel
theorem dX8_work_228 : decode cX8_work 228 = .ok (.iload_n 1, 1) := by decide +kernel
theorem dX8_work_229 : decode cX8_work 229 = .ok (.iload_n 2, 1) := by decide +kernel
theorem dX8_work_230 : decode cX8_work 230 = .ok (.invokevirtual 97, 3) := by decide +kernel
theorem dX8_work_233 : decode cX8_work 233 = .ok (.ireturn, 1) := by decide +kernel
theorem dX8_work_234 : decode cX8_work 234 = .ok (.aload_n 0, 1) := by decide +kernel
theorem dX8_work_235 : decode cX8_work 235 = .ok (.iload_n 1, 1) := by decide +kernel
theorem dX8_work_236 : decode cX8_work 236 = .ok (.iload_n 2, 1) := by decide +kernel
theorem dX8_work_237 : decode cX8_work 237 = .ok (.invokevirtual 100, 3) := by decide +kernel
theorem dX8_work_240 : decode cX8_work 240 = .ok (.ireturn, 1) := by decide +kernel
theorem dX8_work_241 : decode cX8_work 241 = .ok (.aload_n 0, 1) := by decide +kernel
theorem dX8_work_242 : decode cX8_work 242 = .ok (.iload_n 1, 1) := by decide +kernel
theorem dX8_work_243 : decode cX8_work 243 = .ok (.invokevirtual 103, 3) := by decide +kernel
theorem dX8_work_246 : decode cX8_work 246 = .ok (.ireturn, 1) := by decide +kernel
