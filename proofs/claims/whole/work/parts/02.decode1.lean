theorem dX0_init_0 : decode cX0_init 0 = .ok (.aload_n 0, 1) := by decide +kernel
theorem dX0_init_1 : decode cX0_init 1 = .ok (.invokespecial 3, 3) := by decide +kernel
theorem dX0_init_4 : decode cX0_init 4 = .ok (.aload_n 0, 1) := by decide +kernel
theorem dX0_init_5 : decode cX0_init 5 = .ok (.aload_n 1, 1) := by decide +kernel
theorem dX0_init_6 : decode cX0_init 6 = .ok (.putfield 9, 3) := by decide +kernel
theorem dX0_init_9 : decode cX0_init 9 = .ok (.return_, 1) := by decide +kernel
theorem dX0_isAtEnd_0 : decode cX0_isAtEnd 0 = .ok (.aload_n 0, 1) := by decide +kernel
theorem dX0_isAtEnd_1 : decode cX0_isAtEnd 1 = .ok (.getfield 15, 3) := by decide +kernel
theorem dX0_isAtEnd_4 : decode cX0_isAtEnd 4 = .ok (.bipush 8, 2) := by decide +kernel
theorem dX0_isAtEnd_6 : decode cX0_isAtEnd 6 = .ok (.aload_n 0, 1) := by decide +kernel
theorem dX0_isAtEnd_7 : decode cX0_isAtEnd 7 = .ok (.getfield 9, 3) := by decide +kernel
theorem dX0_isAtEnd_10 : decode cX0_isAtEnd 10 = .ok (.getfield 19, 3) := by decide +kernel
theorem dX0_isAtEnd_13 : decode cX0_isAtEnd 13 = .ok (.imul, 1) := by decide +kernel
theorem dX0_isAtEnd_14 : decode cX0_isAtEnd 14 = .ok (.if_icmp .lt 7, 3) := by decide +kernel
theorem dX0_isAtEnd_17 : decode cX0_isAtEnd 17 = .ok (.iconst 1, 1) := by decide +kernel
theorem dX0_isAtEnd_18 : decode cX0_isAtEnd 18 = .ok (.goto 4, 3) := by decide +kernel
theorem dX0_isAtEnd_21 : decode cX0_isAtEnd 21 = .ok (.iconst 0, 1) := by decide +kernel
theorem dX0_isAtEnd_22 : decode cX0_isAtEnd 22 = .ok (.ireturn, 1) := by decide +kernel
theorem dX0_next_0 : decode cX0_next 0 = .ok (.aload_n 0, 1) := by decide +kernel
theorem dX0_next_1 : decode cX0_next 1 = .ok (.getfield 15, 3) := by decide +kernel
theorem dX0_next_4 : decode cX0_next 4 = .ok (.iconst 3, 1) := by decide +kernel
theorem dX0_next_5 : decode cX0_next 5 = .ok (.ishr, 1) := by decide +kernel
theorem dX0_next_6 : decode cX0_next 6 = .ok (.istore_n 1, 1) := by decide +kernel
theorem dX0_next_7 : decode cX0_next 7 = .ok (.iload_n 1, 1) := by decide +kernel
theorem dX0_next_8 : decode cX0_next 8 = .ok (.ifCond .lt 14, 3) := by decide +kernel
theorem dX0_next_11 : decode cX0_next 11 = .ok (.iload_n 1, 1) := by decide +kernel
theorem dX0_next_12 : decode cX0_next 12 = .ok (.aload_n 0, 1) := by decide +kernel
theorem dX0_next_13 : decode cX0_next 13 = .ok (.getfield 9, 3) := by decide +kernel
theorem dX0_next_16 : decode cX0_next 16 = .ok (.getfield 19, 3) := by decide +kernel
theorem dX0_next_19 : decode cX0_next 19 = .ok (.if_icmp .lt 5, 3) := by decide +kernel
theorem dX0_next_22 : decode cX0_next 22 = .ok (.iconst (-1), 1) := by decide +kernel
theorem dX0_next_23 : decode cX0_next 23 = .ok (.ireturn, 1) := by decide +kernel
theorem dX0_next_24 : decode cX0_next 24 = .ok (.aload_n 0, 1) := by decide +kernel
theorem dX0_next_25 : decode cX0_next 25 = .ok (.getfield 9, 3) := by decide +kernel
theorem dX0_next_28 : decode cX0_next 28 = .ok (.getfield 24, 3) := by decide +kernel
theorem dX0_next_31 : decode cX0_next 31 = .ok (.iload_n 1, 1) := by decide +kernel
theorem dX0_next_32 : decode cX0_next 32 = .ok (.baload, 1) := by decide +kernel
theorem dX0_next_33 : decode cX0_next 33 = .ok (.bipush 7, 2) := by decide +kernel
theorem dX0_next_35 : decode cX0_next 35 = .ok (.aload_n 0, 1) := by decide +kernel
theorem dX0_next_36 : decode cX0_next 36 = .ok (.getfield 15, 3) := by decide +kernel
theorem dX0_next_39 : decode cX0_next 39 = .ok (.bipush 7, 2) := by decide +kernel
theorem dX0_next_41 : decode cX0_next 41 = .ok (.iand, 1) := by decide +kernel
theorem dX0_next_42 : decode cX0_next 42 = .ok (.isub, 1) := by decide +kernel
theorem dX0_next_43 : decode cX0_next 43 = .ok (.ishr, 1) := by decide +kernel
theorem dX0_next_44 : decode cX0_next 44 = .ok (.iconst 1, 1) := by decide +kernel
theorem dX0_next_45 : decode cX0_next 45 = .ok (.iand, 1) := by decide +kernel
theorem dX0_next_46 : decode cX0_next 46 = .ok (.istore_n 2, 1) := by decide +kernel
theorem dX0_next_47 : decode cX0_next 47 = .ok (.aload_n 0, 1) := by decide +kernel
theorem dX0_next_48 : decode cX0_next 48 = .ok (.dup, 1) := by decide +kernel
theorem dX0_next_49 : decode cX0_next 49 = .ok (.getfield 15, 3) := by decide +kernel
theorem dX0_next_52 : decode cX0_next 52 = .ok (.iconst 1, 1) := by decide +kernel
theorem dX0_next_53 : decode cX0_next 53 = .ok (.iadd, 1) := by decide +kernel
theorem dX0_next_54 : decode cX0_next 54 = .ok (.putfield 15, 3) := by decide +kernel
theorem dX0_next_57 : decode cX0_next 57 = .ok (.iload_n 2, 1) := by decide +kernel
theorem dX0_next_58 : decode cX0_next 58 = .ok (.ireturn, 1) := by decide +kernel
theorem dX0_number_0 : decode cX0_number 0 = .ok (.lconst 0, 1) := by decide +kernel
theorem dX0_number_1 : decode cX0_number 1 = .ok (.lstore_n 2, 1) := by decide +kernel
theorem dX0_number_2 : decode cX0_number 2 = .ok (.iconst 0, 1) := by decide +kernel
theorem dX0_number_3 : decode cX0_number 3 = .ok (.istore 4, 2) := by decide +kernel
theorem dX0_number_5 : decode cX0_number 5 = .ok (.iload 4, 2) := by decide +kernel
theorem dX0_number_7 : decode cX0_number 7 = .ok (.iload_n 1, 1) := by decide +kernel
theorem dX0_number_8 : decode cX0_number 8 = .ok (.if_icmp .ge 33, 3) := by decide +kernel
theorem dX0_number_11 : decode cX0_number 11 = .ok (.aload_n 0, 1) := by decide +kernel
theorem dX0_number_12 : decode cX0_number 12 = .ok (.invokevirtual 28, 3) := by decide +kernel
theorem dX0_number_15 : decode cX0_number 15 = .ok (.istore 5, 2) := by decide +kernel
theorem dX0_number_17 : decode cX0_number 17 = .ok (.iload 5, 2) := by decide +kernel
theorem dX0_number_19 : decode cX0_number 19 = .ok (.iconst (-1), 1) := by decide +kernel
theorem dX0_number_20 : decode cX0_number 20 = .ok (.if_icmp .ne 7, 3) := by decide +kernel
theorem dX0_number_23 : decode cX0_number 23 = .ok (.ldc2_w 32, 3) := by decide +kernel
theorem dX0_number_26 : decode cX0_number 26 = .ok (.lreturn, 1) := by decide +kernel
theorem dX0_number_27 : decode cX0_number 27 = .ok (.lload_n 2, 1) := by decide +kernel
theorem dX0_number_28 : decode cX0_number 28 = .ok (.iconst 1, 1) := by decide +kernel
theorem dX0_number_29 : decode cX0_number 29 = .ok (.lshl, 1) := by decide +kernel
theorem dX0_number_30 : decode cX0_number 30 = .ok (.iload 5, 2) := by decide +kernel
theorem dX0_number_32 : decode cX0_number 32 = .ok (.i2l, 1) := by decide +kernel
theorem dX0_number_33 : decode cX0_number 33 = .ok (.lor, 1) := by decide +kernel
theorem dX0_number_34 : decode cX0_number 34 = .ok (.lstore_n 2, 1) := by decide +kernel
theorem dX0_number_35 : decode cX0_number 35 = .ok (.iinc 4 1, 3) := by decide +kernel
theorem dX0_number_38 : decode cX0_number 38 = .ok (.goto (-33), 3) := by decide +kernel
theorem dX0_number_41 : decode cX0_number 41 = .ok (.lload_n 2, 1) := by decide +kernel
theorem dX0_number_42 : decode cX0_number 42 = .ok (.lreturn, 1) := by decide +kernel
theorem dX0_bytesTouched_0 : decode cX0_bytesTouched 0 = .ok (.aload_n 0, 1) := by decide +kernel
theorem dX0_bytesTouched_1 : decode cX0_bytesTouched 1 = .ok (.getfield 15, 3) := by decide +kernel
theorem dX0_bytesTouched_4 : decode cX0_bytesTouched 4 = .ok (.bipush 7, 2) := by decide +kernel
theorem dX0_bytesTouched_6 : decode cX0_bytesTouched 6 = .ok (.iadd, 1) := by decide +kernel
theorem dX0_bytesTouched_7 : decode cX0_bytesTouched 7 = .ok (.bipush 8, 2) := by decide +kernel
theorem dX0_bytesTouched_9 : decode cX0_bytesTouched 9 = .ok (.idiv, 1) := by decide +kernel
theorem dX0_bytesTouched_10 : decode cX0_bytesTouched 10 = .ok (.ireturn, 1) := by decide +kernel
theorem dX1_init_0 : decode cX1_init 0 = .ok (.aload_n 0, 1) := by decide +kernel
theorem dX1_init_1 : decode cX1_init 1 = .ok (.invokespecial 1, 3) := by decide +kernel
theorem dX1_init_4 : decode cX1_init 4 = .ok (.aload_n 0, 1) := by decide +kernel
theorem dX1_init_5 : decode cX1_init 5 = .ok (.aload_n 1, 1) := by decide +kernel
theorem dX1_init_6 : decode cX1_init 6 = .ok (.putfield 7, 3) := by decide +kernel
theorem dX1_init_9 : decode cX1_init 9 = .ok (.return_, 1) := by decide +kernel
theorem dX1_restart_0 : decode cX1_restart 0 = .ok (.aload_n 0, 1) := by decide +kernel
theorem dX1_restart_1 : decode cX1_restart 1 = .ok (.getfield 7, 3) := by decide +kernel
theorem dX1_restart_4 : decode cX1_restart 4 = .ok (.iconst 0, 1) := by decide +kernel
theorem dX1_restart_5 : decode cX1_restart 5 = .ok (.invokevirtual 13, 3) := by decide +kernel
theorem dX1_restart_8 : decode cX1_restart 8 = .ok (.aload_n 0, 1) := by decide +kernel
theorem dX1_restart_9 : decode cX1_restart 9 = .ok (.iconst 0, 1) := by decide +kernel
theorem dX1_restart_10 : decode cX1_restart 10 = .ok (.putfield 19, 3) := by decide +kernel
theorem dX1_restart_13 : decode cX1_restart 13 = .ok (.aload_n 0, 1) := by decide +kernel
theorem dX1_restart_14 : decode cX1_restart 14 = .ok (.iconst 0, 1) := by decide +kernel
theorem dX1_restart_15 : decode cX1_restart 15 = .ok (.putfield 23, 3) := by decide +kernel
theorem dX1_restart_18 : decode cX1_restart 18 = .ok (.return_, 1) := by decide +kernel
theorem dX1_putBit_0 : decode cX1_putBit 0 = .ok (.aload_n 0, 1) := by decide +kernel
theorem dX1_putBit_1 : decode cX1_putBit 1 = .ok (.aload_n 0, 1) := by decide +kernel
theorem dX1_putBit_2 : decode cX1_putBit 2 = .ok (.getfield 23, 3) := by decide +kernel
theorem dX1_putBit_5 : decode cX1_putBit 5 = .ok (.iconst 1, 1) := by decide +kernel
theorem dX1_putBit_6 : decode cX1_putBit 6 = .ok (.ishl, 1) := by decide +kernel
theorem dX1_putBit_7 : decode cX1_putBit 7 = .ok (.iload_n 1, 1) := by decide +kernel
theorem dX1_putBit_8 : decode cX1_putBit 8 = .ok (.iconst 1, 1) := by decide +kernel
theorem dX1_putBit_9 : decode cX1_putBit 9 = .ok (.iand, 1) := by decide +kernel
theorem dX1_putBit_10 : decode cX1_putBit 10 = .ok (.ior, 1) := by decide +kernel
theorem dX1_putBit_11 : decode cX1_putBit 11 = .ok (.putfield 23, 3) := by decide +kernel
theorem dX1_putBit_14 : decode cX1_putBit 14 = .ok (.aload_n 0, 1) := by decide +kernel
theorem dX1_putBit_15 : decode cX1_putBit 15 = .ok (.dup, 1) := by decide +kernel
theorem dX1_putBit_16 : decode cX1_putBit 16 = .ok (.getfield 19, 3) := by decide +kernel
theorem dX1_putBit_19 : decode cX1_putBit 19 = .ok (.iconst 1, 1) := by decide +kernel
theorem dX1_putBit_20 : decode cX1_putBit 20 = .ok (.iadd, 1) := by decide +kernel
theorem dX1_putBit_21 : decode cX1_putBit 21 = .ok (.putfield 19, 3) := by decide +kernel
theorem dX1_putBit_24 : decode cX1_putBit 24 = .ok (.aload_n 0, 1) := by decide +kernel
theorem dX1_putBit_25 : decode cX1_putBit 25 = .ok (.getfield 19, 3) := by decide +kernel
theorem dX1_putBit_28 : decode cX1_putBit 28 = .ok (.bipush 8, 2) := by decide +kernel
theorem dX1_putBit_30 : decode cX1_putBit 30 = .ok (.irem, 1) := by decide +kernel
theorem dX1_putBit_31 : decode cX1_putBit 31 = .ok (.ifCond .ne 19, 3) := by decide +kernel
theorem dX1_putBit_34 : decode cX1_putBit 34 = .ok (.aload_n 0, 1) := by decide +kernel
theorem dX1_putBit_35 : decode cX1_putBit 35 = .ok (.getfield 7, 3) := by decide +kernel
theorem dX1_putBit_38 : decode cX1_putBit 38 = .ok (.aload_n 0, 1) := by decide +kernel
theorem dX1_putBit_39 : decode cX1_putBit 39 = .ok (.getfield 23, 3) := by decide +kernel
theorem dX1_putBit_42 : decode cX1_putBit 42 = .ok (.invokevirtual 26, 3) := by decide +kernel
theorem dX1_putBit_45 : decode cX1_putBit 45 = .ok (.aload_n 0, 1) := by decide +kernel
theorem dX1_putBit_46 : decode cX1_putBit 46 = .ok (.iconst 0, 1) := by decide +kernel
theorem dX1_putBit_47 : decode cX1_putBit 47 = .ok (.putfield 23, 3) := by decide +kernel
theorem dX1_putBit_50 : decode cX1_putBit 50 = .ok (.return_, 1) := by decide +kernel
theorem dX1_put_0 : decode cX1_put 0 = .ok (.iload_n 1, 1) := by decide +kernel
theorem dX1_put_1 : decode cX1_put 1 = .ok (.iconst 1, 1) := by decide +kernel
theorem dX1_put_2 : decode cX1_put 2 = .ok (.isub, 1) := by decide +kernel
theorem dX1_put_3 : decode cX1_put 3 = .ok (.istore 4, 2) := by decide +kernel
theorem dX1_put_5 : decode cX1_put 5 = .ok (.iload 4, 2) := by decide +kernel
theorem dX1_put_7 : decode cX1_put 7 = .ok (.ifCond .lt 20, 3) := by decide +kernel
theorem dX1_put_10 : decode cX1_put 10 = .ok (.aload_n 0, 1) := by decide +kernel
theorem dX1_put_11 : decode cX1_put 11 = .ok (.lload_n 2, 1) := by decide +kernel
theorem dX1_put_12 : decode cX1_put 12 = .ok (.iload 4, 2) := by decide +kernel
theorem dX1_put_14 : decode cX1_put 14 = .ok (.lshr, 1) := by decide +kernel
theorem dX1_put_15 : decode cX1_put 15 = .ok (.lconst 1, 1) := by decide +kernel
theorem dX1_put_16 : decode cX1_put 16 = .ok (.land, 1) := by decide +kernel
theorem dX1_put_17 : decode cX1_put 17 = .ok (.l2i, 1) := by decide +kernel
theorem dX1_put_18 : decode cX1_put 18 = .ok (.invokevirtual 29, 3) := by decide +kernel
theorem dX1_put_21 : decode cX1_put 21 = .ok (.iinc 4 (-1), 3) := by decide +kernel
theorem dX1_put_24 : decode cX1_put 24 = .ok (.goto (-19), 3) := by decide +kernel
theorem dX1_put_27 : decode cX1_put 27 = .ok (.return_, 1) := by decide +kernel
theorem dX1_putOnes_0 : decode cX1_putOnes 0 = .ok (.iconst 0, 1) := by decide +kernel
theorem dX1_putOnes_1 : decode cX1_putOnes 1 = .ok (.istore_n 2, 1) := by decide +kernel
theorem dX1_putOnes_2 : decode cX1_putOnes 2 = .ok (.iload_n 2, 1) := by decide +kernel
theorem dX1_putOnes_3 : decode cX1_putOnes 3 = .ok (.iload_n 1, 1) := by decide +kernel
theorem dX1_putOnes_4 : decode cX1_putOnes 4 = .ok (.if_icmp .ge 14, 3) := by decide +kernel
theorem dX1_putOnes_7 : decode cX1_putOnes 7 = .ok (.aload_n 0, 1) := by decide +kernel
theorem dX1_putOnes_8 : decode cX1_putOnes 8 = .ok (.iconst 1, 1) := by decide +kernel
theorem dX1_putOnes_9 : decode cX1_putOnes 9 = .ok (.invokevirtual 29, 3) := by decide +kernel
theorem dX1_putOnes_12 : decode cX1_putOnes 12 = .ok (.iinc 2 1, 3) := by decide +kernel
theorem dX1_putOnes_15 : decode cX1_putOnes 15 = .ok (.goto (-13), 3) := by decide +kernel
theorem dX1_putOnes_18 : decode cX1_putOnes 18 = .ok (.return_, 1) := by decide +kernel
theorem dX1_fillByte_0 : decode cX1_fillByte 0 = .ok (.iconst 0, 1) := by decide +kernel
theorem dX1_fillByte_1 : decode cX1_fillByte 1 = .ok (.istore_n 1, 1) := by decide +kernel
theorem dX1_fillByte_2 : decode cX1_fillByte 2 = .ok (.iload_n 1, 1) := by decide +kernel
theorem dX1_fillByte_3 : decode cX1_fillByte 3 = .ok (.bipush 7, 2) := by decide +kernel
theorem dX1_fillByte_5 : decode cX1_fillByte 5 = .ok (.if_icmp .ge 24, 3) := by decide +kernel
theorem dX1_fillByte_8 : decode cX1_fillByte 8 = .ok (.aload_n 0, 1) := by decide +kernel
theorem dX1_fillByte_9 : decode cX1_fillByte 9 = .ok (.getfield 19, 3) := by decide +kernel
theorem dX1_fillByte_12 : decode cX1_fillByte 12 = .ok (.bipush 8, 2) := by decide +kernel
theorem dX1_fillByte_14 : decode cX1_fillByte 14 = .ok (.irem, 1) := by decide +kernel
theorem dX1_fillByte_15 : decode cX1_fillByte 15 = .ok (.ifCond .eq 14, 3) := by decide +kernel
theorem dX1_fillByte_18 : decode cX1_fillByte 18 = .ok (.aload_n 0, 1) := by decide +kernel
theorem dX1_fillByte_19 : decode cX1_fillByte 19 = .ok (.iconst 0, 1) := by decide +kernel
theorem dX1_fillByte_20 : decode cX1_fillByte 20 = .ok (.invokevirtual 29, 3) := by decide +kernel
theorem dX1_fillByte_23 : decode cX1_fillByte 23 = .ok (.iinc 1 1, 3) := by decide +kernel
theorem dX1_fillByte_26 : decode cX1_fillByte 26 = .ok (.goto (-24), 3) := by decide +kernel
theorem dX1_fillByte_29 : decode cX1_fillByte 29 = .ok (.return_, 1) := by decide +kernel
theorem dX1_allFitted_0 : decode cX1_allFitted 0 = .ok (.aload_n 0, 1) := by decide +kernel
theorem dX1_allFitted_1 : decode cX1_allFitted 1 = .ok (.getfield 19, 3) := by decide +kernel
theorem dX1_allFitted_4 : decode cX1_allFitted 4 = .ok (.bipush 8, 2) := by decide +kernel
theorem dX1_allFitted_6 : decode cX1_allFitted 6 = .ok (.aload_n 0, 1) := by decide +kernel
theorem dX1_allFitted_7 : decode cX1_allFitted 7 = .ok (.getfield 7, 3) := by decide +kernel
theorem dX1_allFitted_10 : decode cX1_allFitted 10 = .ok (.getfield 32, 3) := by decide +kernel
theorem dX1_allFitted_13 : decode cX1_allFitted 13 = .ok (.imul, 1) := by decide +kernel
theorem dX1_allFitted_14 : decode cX1_allFitted 14 = .ok (.if_icmp .gt 7, 3) := by decide +kernel
theorem dX1_allFitted_17 : decode cX1_allFitted 17 = .ok (.iconst 1, 1) := by decide +kernel
theorem dX1_allFitted_18 : decode cX1_allFitted 18 = .ok (.goto 4, 3) := by decide +kernel
theorem dX1_allFitted_21 : decode cX1_allFitted 21 = .ok (.iconst 0, 1) := by decide +kernel
theorem dX1_allFitted_22 : decode cX1_allFitted 22 = .ok (.ireturn, 1) := by decide +kernel
theorem dX2_init_0 : decode cX2_init 0 = .ok (.aload_n 0, 1) := by decide +kernel
theorem dX2_init_1 : decode cX2_init 1 = .ok (.invokespecial 3, 3) := by decide +kernel
theorem dX2_init_4 : decode cX2_init 4 = .ok (.aload_n 0, 1) := by decide +kernel
theorem dX2_init_5 : decode cX2_init 5 = .ok (.bipush 22, 2) := by decide +kernel
theorem dX2_init_7 : decode cX2_init 7 = .ok (.newarray .int, 2) := by decide +kernel
theorem dX2_init_9 : decode cX2_init 9 = .ok (.putfield 9, 3) := by decide +kernel
theorem dX2_init_12 : decode cX2_init 12 = .ok (.aload_n 0, 1) := by decide +kernel
theorem dX2_init_13 : decode cX2_init 13 = .ok (.bipush 22, 2) := by decide +kernel
theorem dX2_init_15 : decode cX2_init 15 = .ok (.newarray .int, 2) := by decide +kernel
theorem dX2_init_17 : decode cX2_init 17 = .ok (.putfield 15, 3) := by decide +kernel
theorem dX2_init_20 : decode cX2_init 20 = .ok (.aload_n 0, 1) := by decide +kernel
theorem dX2_init_21 : decode cX2_init 21 = .ok (.bipush 22, 2) := by decide +kernel
theorem dX2_init_23 : decode cX2_init 23 = .ok (.newarray .int, 2) := by decide +kernel
theorem dX2_init_25 : decode cX2_init 25 = .ok (.putfield 18, 3) := by decide +kernel
theorem dX2_init_28 : decode cX2_init 28 = .ok (.aload_n 0, 1) := by decide +kernel
theorem dX2_init_29 : decode cX2_init 29 = .ok (.sipush 258, 3) := by decide +kernel
theorem dX2_init_32 : decode cX2_init 32 = .ok (.newarray .int, 2) := by decide +kernel
theorem dX2_init_34 : decode cX2_init 34 = .ok (.putfield 21, 3) := by decide +kernel
theorem dX2_init_37 : decode cX2_init 37 = .ok (.aload_n 0, 1) := by decide +kernel
theorem dX2_init_38 : decode cX2_init 38 = .ok (.sipush 258, 3) := by decide +kernel
theorem dX2_init_41 : decode cX2_init 41 = .ok (.newarray .int, 2) := by decide +kernel
theorem dX2_init_43 : decode cX2_init 43 = .ok (.putfield 24, 3) := by decide +kernel
theorem dX2_init_46 : decode cX2_init 46 = .ok (.return_, 1) := by decide +kernel
theorem dX2_make_0 : decode cX2_make 0 = .ok (.iconst 0, 1) := by decide +kernel
theorem dX2_make_1 : decode cX2_make 1 = .ok (.istore_n 3, 1) := by decide +kernel
theorem dX2_make_2 : decode cX2_make 2 = .ok (.iconst 0, 1) := by decide +kernel
theorem dX2_make_3 : decode cX2_make 3 = .ok (.istore 4, 2) := by decide +kernel
theorem dX2_make_5 : decode cX2_make 5 = .ok (.iconst 1, 1) := by decide +kernel
theorem dX2_make_6 : decode cX2_make 6 = .ok (.istore 5, 2) := by decide +kernel
theorem dX2_make_8 : decode cX2_make 8 = .ok (.iload 5, 2) := by decide +kernel
theorem dX2_make_10 : decode cX2_make 10 = .ok (.bipush 20, 2) := by decide +kernel
theorem dX2_make_12 : decode cX2_make 12 = .ok (.if_icmp .gt 129, 3) := by decide +kernel
theorem dX2_make_15 : decode cX2_make 15 = .ok (.aload_n 0, 1) := by decide +kernel
theorem dX2_make_16 : decode cX2_make 16 = .ok (.getfield 9, 3) := by decide +kernel
theorem dX2_make_19 : decode cX2_make 19 = .ok (.iload 5, 2) := by decide +kernel
theorem dX2_make_21 : decode cX2_make 21 = .ok (.iload 4, 2) := by decide +kernel
theorem dX2_make_23 : decode cX2_make 23 = .ok (.iastore, 1) := by decide +kernel
theorem dX2_make_24 : decode cX2_make 24 = .ok (.aload_n 0, 1) := by decide +kernel
theorem dX2_make_25 : decode cX2_make 25 = .ok (.getfield 18, 3) := by decide +kernel
theorem dX2_make_28 : decode cX2_make 28 = .ok (.iload 5, 2) := by decide +kernel
theorem dX2_make_30 : decode cX2_make 30 = .ok (.iload_n 3, 1) := by decide +kernel
theorem dX2_make_31 : decode cX2_make 31 = .ok (.iastore, 1) := by decide +kernel
theorem dX2_make_32 : decode cX2_make 32 = .ok (.iconst 0, 1) := by decide +kernel
theorem dX2_make_33 : decode cX2_make 33 = .ok (.istore 6, 2) := by decide +kernel
theorem dX2_make_35 : decode cX2_make 35 = .ok (.iload 6, 2) := by decide +kernel
theorem dX2_make_37 : decode cX2_make 37 = .ok (.iload_n 2, 1) := by decide +kernel
theorem dX2_make_38 : decode cX2_make 38 = .ok (.if_icmp .ge 62, 3) := by decide +kernel
theorem dX2_make_41 : decode cX2_make 41 = .ok (.aload_n 1, 1) := by decide +kernel
theorem dX2_make_42 : decode cX2_make 42 = .ok (.iload 6, 2) := by decide +kernel
theorem dX2_make_44 : decode cX2_make 44 = .ok (.iaload, 1) := by decide +kernel
theorem dX2_make_45 : decode cX2_make 45 = .ok (.iload 5, 2) := by decide +kernel
theorem dX2_make_47 : decode cX2_make 47 = .ok (.if_icmp .ne 47, 3) := by decide +kernel
theorem dX2_make_50 : decode cX2_make 50 = .ok (.iload_n 3, 1) := by decide +kernel
theorem dX2_make_51 : decode cX2_make 51 = .ok (.aload_n 0, 1) := by decide +kernel
theorem dX2_make_52 : decode cX2_make 52 = .ok (.getfield 21, 3) := by decide +kernel
theorem dX2_make_55 : decode cX2_make 55 = .ok (.arraylength, 1) := by decide +kernel
theorem dX2_make_56 : decode cX2_make 56 = .ok (.if_icmp .ge 38, 3) := by decide +kernel
theorem dX2_make_59 : decode cX2_make 59 = .ok (.aload_n 0, 1) := by decide +kernel
theorem dX2_make_60 : decode cX2_make 60 = .ok (.getfield 24, 3) := by decide +kernel
theorem dX2_make_63 : decode cX2_make 63 = .ok (.iload 6, 2) := by decide +kernel
theorem dX2_make_65 : decode cX2_make 65 = .ok (.aload_n 0, 1) := by decide +kernel
theorem dX2_make_66 : decode cX2_make 66 = .ok (.getfield 9, 3) := by decide +kernel
theorem dX2_make_69 : decode cX2_make 69 = .ok (.iload 5, 2) := by decide +kernel
theorem dX2_make_71 : decode cX2_make 71 = .ok (.iaload, 1) := by decide +kernel
theorem dX2_make_72 : decode cX2_make 72 = .ok (.iload_n 3, 1) := by decide +kernel
theorem dX2_make_73 : decode cX2_make 73 = .ok (.iadd, 1) := by decide +kernel
theorem dX2_make_74 : decode cX2_make 74 = .ok (.aload_n 0, 1) := by decide +kernel
theorem dX2_make_75 : decode cX2_make 75 = .ok (.getfield 18, 3) := by decide +kernel
theorem dX2_make_78 : decode cX2_make 78 = .ok (.iload 5, 2) := by decide +kernel
theorem dX2_make_80 : decode cX2_make 80 = .ok (.iaload, 1) := by decide +kernel
theorem dX2_make_81 : decode cX2_make 81 = .ok (.isub, 1) := by decide +kernel
theorem dX2_make_82 : decode cX2_make 82 = .ok (.iastore, 1) := by decide +kernel
theorem dX2_make_83 : decode cX2_make 83 = .ok (.aload_n 0, 1) := by decide +kernel
theorem dX2_make_84 : decode cX2_make 84 = .ok (.getfield 21, 3) := by decide +kernel
theorem dX2_make_87 : decode cX2_make 87 = .ok (.iload_n 3, 1) := by decide +kernel
theorem dX2_make_88 : decode cX2_make 88 = .ok (.iload 6, 2) := by decide +kernel
theorem dX2_make_90 : decode cX2_make 90 = .ok (.iastore, 1) := by decide +kernel
theorem dX2_make_91 : decode cX2_make 91 = .ok (.iinc 3 1, 3) := by decide +kernel
theorem dX2_make_94 : decode cX2_make 94 = .ok (.iinc 6 1, 3) := by decide +kernel
theorem dX2_make_97 : decode cX2_make 97 = .ok (.goto (-62), 3) := by decide +kernel
theorem dX2_make_100 : decode cX2_make 100 = .ok (.aload_n 0, 1) := by decide +kernel
theorem dX2_make_101 : decode cX2_make 101 = .ok (.getfield 15, 3) := by decide +kernel
theorem dX2_make_104 : decode cX2_make 104 = .ok (.iload 5, 2) := by decide +kernel
theorem dX2_make_106 : decode cX2_make 106 = .ok (.iload_n 3, 1) := by decide +kernel
theorem dX2_make_107 : decode cX2_make 107 = .ok (.aload_n 0, 1) := by decide +kernel
theorem dX2_make_108 : decode cX2_make 108 = .ok (.getfield 18, 3) := by decide +kernel
theorem dX2_make_111 : decode cX2_make 111 = .ok (.iload 5, 2) := by decide +kernel
theorem dX2_make_113 : decode cX2_make 113 = .ok (.iaload, 1) := by decide +kernel
theorem dX2_make_114 : decode cX2_make 114 = .ok (.isub, 1) := by decide +kernel
theorem dX2_make_115 : decode cX2_make 115 = .ok (.iastore, 1) := by decide +kernel
theorem dX2_make_116 : decode cX2_make 116 = .ok (.iconst 2, 1) := by decide +kernel
theorem dX2_make_117 : decode cX2_make 117 = .ok (.aload_n 0, 1) := by decide +kernel
theorem dX2_make_118 : decode cX2_make 118 = .ok (.getfield 9, 3) := by decide +kernel
theorem dX2_make_121 : decode cX2_make 121 = .ok (.iload 5, 2) := by decide +kernel
theorem dX2_make_123 : decode cX2_make 123 = .ok (.iaload, 1) := by decide +kernel
theorem dX2_make_124 : decode cX2_make 124 = .ok (.aload_n 0, 1) := by decide +kernel
theorem dX2_make_125 : decode cX2_make 125 = .ok (.getfield 15, 3) := by decide +kernel
theorem dX2_make_128 : decode cX2_make 128 = .ok (.iload 5, 2) := by decide +kernel
theorem dX2_make_130 : decode cX2_make 130 = .ok (.iaload, 1) := by decide +kernel
theorem dX2_make_131 : decode cX2_make 131 = .ok (.iadd, 1) := by decide +kernel
theorem dX2_make_132 : decode cX2_make 132 = .ok (.imul, 1) := by decide +kernel
theorem dX2_make_133 : decode cX2_make 133 = .ok (.istore 4, 2) := by decide +kernel
theorem dX2_make_135 : decode cX2_make 135 = .ok (.iinc 5 1, 3) := by decide +kernel
theorem dX2_make_138 : decode cX2_make 138 = .ok (.goto (-130), 3) := by decide +kernel
theorem dX2_make_141 : decode cX2_make 141 = .ok (.return_, 1) := by decide +kernel
theorem dX2_read_0 : decode cX2_read 0 = .ok (.iconst 0, 1) := by decide +kernel
theorem dX2_read_1 : decode cX2_read 1 = .ok (.istore_n 2, 1) := by decide +kernel
theorem dX2_read_2 : decode cX2_read 2 = .ok (.iconst 1, 1) := by decide +kernel
theorem dX2_read_3 : decode cX2_read 3 = .ok (.istore_n 3, 1) := by decide +kernel
theorem dX2_read_4 : decode cX2_read 4 = .ok (.iload_n 3, 1) := by decide +kernel
theorem dX2_read_5 : decode cX2_read 5 = .ok (.bipush 20, 2) := by decide +kernel
theorem dX2_read_7 : decode cX2_read 7 = .ok (.if_icmp .gt 71, 3) := by decide +kernel
theorem dX2_read_10 : decode cX2_read 10 = .ok (.aload_n 1, 1) := by decide +kernel
theorem dX2_read_11 : decode cX2_read 11 = .ok (.invokevirtual 27, 3) := by decide +kernel
theorem dX2_read_14 : decode cX2_read 14 = .ok (.istore 4, 2) := by decide +kernel
theorem dX2_read_16 : decode cX2_read 16 = .ok (.iload 4, 2) := by decide +kernel
theorem dX2_read_18 : decode cX2_read 18 = .ok (.iconst (-1), 1) := by decide +kernel
theorem dX2_read_19 : decode cX2_read 19 = .ok (.if_icmp .ne 5, 3) := by decide +kernel
theorem dX2_read_22 : decode cX2_read 22 = .ok (.iconst (-1), 1) := by decide +kernel
theorem dX2_read_23 : decode cX2_read 23 = .ok (.ireturn, 1) := by decide +kernel
theorem dX2_read_24 : decode cX2_read 24 = .ok (.iconst 2, 1) := by decide +kernel
theorem dX2_read_25 : decode cX2_read 25 = .ok (.iload_n 2, 1) := by decide +kernel
theorem dX2_read_26 : decode cX2_read 26 = .ok (.imul, 1) := by decide +kernel
theorem dX2_read_27 : decode cX2_read 27 = .ok (.iload 4, 2) := by decide +kernel
theorem dX2_read_29 : decode cX2_read 29 = .ok (.iadd, 1) := by decide +kernel
theorem dX2_read_30 : decode cX2_read 30 = .ok (.istore_n 2, 1) := by decide +kernel
theorem dX2_read_31 : decode cX2_read 31 = .ok (.iload_n 2, 1) := by decide +kernel
theorem dX2_read_32 : decode cX2_read 32 = .ok (.aload_n 0, 1) := by decide +kernel
theorem dX2_read_33 : decode cX2_read 33 = .ok (.getfield 9, 3) := by decide +kernel
theorem dX2_read_36 : decode cX2_read 36 = .ok (.iload_n 3, 1) := by decide +kernel
theorem dX2_read_37 : decode cX2_read 37 = .ok (.iaload, 1) := by decide +kernel
theorem dX2_read_38 : decode cX2_read 38 = .ok (.isub, 1) := by decide +kernel
theorem dX2_read_39 : decode cX2_read 39 = .ok (.istore 5, 2) := by decide +kernel
theorem dX2_read_41 : decode cX2_read 41 = .ok (.iload 5, 2) := by decide +kernel
theorem dX2_read_43 : decode cX2_read 43 = .ok (.ifCond .lt 29, 3) := by decide +kernel
theorem dX2_read_46 : decode cX2_read 46 = .ok (.iload 5, 2) := by decide +kernel
theorem dX2_read_48 : decode cX2_read 48 = .ok (.aload_n 0, 1) := by decide +kernel
theorem dX2_read_49 : decode cX2_read 49 = .ok (.getfield 15, 3) := by decide +kernel
theorem dX2_read_52 : decode cX2_read 52 = .ok (.iload_n 3, 1) := by decide +kernel
theorem dX2_read_53 : decode cX2_read 53 = .ok (.iaload, 1) := by decide +kernel
theorem dX2_read_54 : decode cX2_read 54 = .ok (.if_icmp .ge 18, 3) := by decide +kernel
theorem dX2_read_57 : decode cX2_read 57 = .ok (.aload_n 0, 1) := by decide +kernel
theorem dX2_read_58 : decode cX2_read 58 = .ok (.getfield 21, 3) := by decide +kernel
theorem dX2_read_61 : decode cX2_read 61 = .ok (.aload_n 0, 1) := by decide +kernel
theorem dX2_read_62 : decode cX2_read 62 = .ok (.getfield 18, 3) := by decide +kernel
theorem dX2_read_65 : decode cX2_read 65 = .ok (.iload_n 3, 1) := by decide +kernel
theorem dX2_read_66 : decode cX2_read 66 = .ok (.iaload, 1) := by decide +kernel
theorem dX2_read_67 : decode cX2_read 67 = .ok (.iload 5, 2) := by decide +kernel
theorem dX2_read_69 : decode cX2_read 69 = .ok (.iadd, 1) := by decide +kernel
theorem dX2_read_70 : decode cX2_read 70 = .ok (.iaload, 1) := by decide +kernel
theorem dX2_read_71 : decode cX2_read 71 = .ok (.ireturn, 1) := by decide +kernel
theorem dX2_read_72 : decode cX2_read 72 = .ok (.iinc 3 1, 3) := by decide +kernel
theorem dX2_read_75 : decode cX2_read 75 = .ok (.goto (-71), 3) := by decide +kernel
theorem dX2_read_78 : decode cX2_read 78 = .ok (.bipush (-2), 2) := by decide +kernel
theorem dX2_read_80 : decode cX2_read 80 = .ok (.ireturn, 1) := by decide +kernel
theorem dX3_init_0 : decode cX3_init 0 = .ok (.aload_n 0, 1) := by decide +kernel
theorem dX3_init_1 : decode cX3_init 1 = .ok (.invokespecial 3, 3) := by decide +kernel
theorem dX3_init_4 : decode cX3_init 4 = .ok (.aload_n 0, 1) := by decide +kernel
theorem dX3_init_5 : decode cX3_init 5 = .ok (.sipush 12000, 3) := by decide +kernel
theorem dX3_init_8 : decode cX3_init 8 = .ok (.newarray .byte, 2) := by decide +kernel
theorem dX3_init_10 : decode cX3_init 10 = .ok (.putfield 9, 3) := by decide +kernel
theorem dX3_init_13 : decode cX3_init 13 = .ok (.aload_n 0, 1) := by decide +kernel
theorem dX3_init_14 : decode cX3_init 14 = .ok (.bipush 6, 2) := by decide +kernel
theorem dX3_init_16 : decode cX3_init 16 = .ok (.sipush 258, 3) := by decide +kernel
theorem dX3_init_19 : decode cX3_init 19 = .ok (.multianewarray 15 2, 4) := by decide +kernel
theorem dX3_init_23 : decode cX3_init 23 = .ok (.putfield 17, 3) := by decide +kernel
theorem dX3_init_26 : decode cX3_init 26 = .ok (.return_, 1) := by decide +kernel
theorem dX3_forget_0 : decode cX3_forget 0 = .ok (.aload_n 0, 1) := by decide +kernel
theorem dX3_forget_1 : decode cX3_forget 1 = .ok (.iconst 0, 1) := by decide +kernel
theorem dX3_forget_2 : decode cX3_forget 2 = .ok (.putfield 20, 3) := by decide +kernel
theorem dX3_forget_5 : decode cX3_forget 5 = .ok (.aload_n 0, 1) := by decide +kernel
theorem dX3_forget_6 : decode cX3_forget 6 = .ok (.iconst 0, 1) := by decide +kernel
theorem dX3_forget_7 : decode cX3_forget 7 = .ok (.putfield 24, 3) := by decide +kernel
theorem dX3_forget_10 : decode cX3_forget 10 = .ok (.aload_n 0, 1) := by decide +kernel
theorem dX3_forget_11 : decode cX3_forget 11 = .ok (.iconst 0, 1) := by decide +kernel
theorem dX3_forget_12 : decode cX3_forget 12 = .ok (.putfield 27, 3) := by decide +kernel
theorem dX3_forget_15 : decode cX3_forget 15 = .ok (.return_, 1) := by decide +kernel
theorem dX3_hasChoice_0 : decode cX3_hasChoice 0 = .ok (.iload_n 1, 1) := by decide +kernel
theorem dX3_hasChoice_1 : decode cX3_hasChoice 1 = .ok (.ifCond .lt 24, 3) := by decide +kernel
theorem dX3_hasChoice_4 : decode cX3_hasChoice 4 = .ok (.iload_n 1, 1) := by decide +kernel
theorem dX3_hasChoice_5 : decode cX3_hasChoice 5 = .ok (.aload_n 0, 1) := by decide +kernel
theorem dX3_hasChoice_6 : decode cX3_hasChoice 6 = .ok (.getfield 24, 3) := by decide +kernel
theorem dX3_hasChoice_9 : decode cX3_hasChoice 9 = .ok (.if_icmp .ge 16, 3) := by decide +kernel
theorem dX3_hasChoice_12 : decode cX3_hasChoice 12 = .ok (.iload_n 1, 1) := by decide +kernel
theorem dX3_hasChoice_13 : decode cX3_hasChoice 13 = .ok (.aload_n 0, 1) := by decide +kernel
theorem dX3_hasChoice_14 : decode cX3_hasChoice 14 = .ok (.getfield 9, 3) := by decide +kernel
theorem dX3_hasChoice_17 : decode cX3_hasChoice 17 = .ok (.arraylength, 1) := by decide +kernel
theorem dX3_hasChoice_18 : decode cX3_hasChoice 18 = .ok (.if_icmp .ge 7, 3) := by decide +kernel
theorem dX3_hasChoice_21 : decode cX3_hasChoice 21 = .ok (.iconst 1, 1) := by decide +kernel
theorem dX3_hasChoice_22 : decode cX3_hasChoice 22 = .ok (.goto 4, 3) := by decide +kernel
theorem dX3_hasChoice_25 : decode cX3_hasChoice 25 = .ok (.iconst 0, 1) := by decide +kernel
theorem dX3_hasChoice_26 : decode cX3_hasChoice 26 = .ok (.ireturn, 1) := by decide +kernel
theorem dX3_hasLength_0 : decode cX3_hasLength 0 = .ok (.iload_n 1, 1) := by decide +kernel
theorem dX3_hasLength_1 : decode cX3_hasLength 1 = .ok (.ifCond .lt 27, 3) := by decide +kernel
theorem dX3_hasLength_4 : decode cX3_hasLength 4 = .ok (.iload_n 1, 1) := by decide +kernel
theorem dX3_hasLength_5 : decode cX3_hasLength 5 = .ok (.aload_n 0, 1) := by decide +kernel
theorem dX3_hasLength_6 : decode cX3_hasLength 6 = .ok (.getfield 20, 3) := by decide +kernel
theorem dX3_hasLength_9 : decode cX3_hasLength 9 = .ok (.if_icmp .ge 19, 3) := by decide +kernel
theorem dX3_hasLength_12 : decode cX3_hasLength 12 = .ok (.iload_n 2, 1) := by decide +kernel
theorem dX3_hasLength_13 : decode cX3_hasLength 13 = .ok (.ifCond .lt 15, 3) := by decide +kernel
theorem dX3_hasLength_16 : decode cX3_hasLength 16 = .ok (.iload_n 2, 1) := by decide +kernel
theorem dX3_hasLength_17 : decode cX3_hasLength 17 = .ok (.aload_n 0, 1) := by decide +kernel
theorem dX3_hasLength_18 : decode cX3_hasLength 18 = .ok (.getfield 27, 3) := by decide +kernel
theorem dX3_hasLength_21 : decode cX3_hasLength 21 = .ok (.if_icmp .ge 7, 3) := by decide +kernel
theorem dX3_hasLength_24 : decode cX3_hasLength 24 = .ok (.iconst 1, 1) := by decide +kernel
theorem dX3_hasLength_25 : decode cX3_hasLength 25 = .ok (.goto 4, 3) := by decide +kernel
theorem dX3_hasLength_28 : decode cX3_hasLength 28 = .ok (.iconst 0, 1) := by decide +kernel
theorem dX3_hasLength_29 : decode cX3_hasLength 29 = .ok (.ireturn, 1) := by decide +kernel
theorem dX3_chosen_0 : decode cX3_chosen 0 = .ok (.aload_n 0, 1) := by decide +kernel
theorem dX3_chosen_1 : decode cX3_chosen 1 = .ok (.iload_n 1, 1) := by decide +kernel
theorem dX3_chosen_2 : decode cX3_chosen 2 = .ok (.invokevirtual 30, 3) := by decide +kernel
theorem dX3_chosen_5 : decode cX3_chosen 5 = .ok (.ifCond .eq 12, 3) := by decide +kernel
theorem dX3_chosen_8 : decode cX3_chosen 8 = .ok (.aload_n 0, 1) := by decide +kernel
theorem dX3_chosen_9 : decode cX3_chosen 9 = .ok (.getfield 9, 3) := by decide +kernel
theorem dX3_chosen_12 : decode cX3_chosen 12 = .ok (.iload_n 1, 1) := by decide +kernel
theorem dX3_chosen_13 : decode cX3_chosen 13 = .ok (.baload, 1) := by decide +kernel
theorem dX3_chosen_14 : decode cX3_chosen 14 = .ok (.goto 4, 3) := by decide +kernel
theorem dX3_chosen_17 : decode cX3_chosen 17 = .ok (.iconst 0, 1) := by decide +kernel
theorem dX3_chosen_18 : decode cX3_chosen 18 = .ok (.ireturn, 1) := by decide +kernel
theorem dX3_choose_0 : decode cX3_choose 0 = .ok (.iload_n 1, 1) := by decide +kernel
theorem dX3_choose_1 : decode cX3_choose 1 = .ok (.ifCond .lt 30, 3) := by decide +kernel
theorem dX3_choose_4 : decode cX3_choose 4 = .ok (.iload_n 1, 1) := by decide +kernel
theorem dX3_choose_5 : decode cX3_choose 5 = .ok (.aload_n 0, 1) := by decide +kernel
theorem dX3_choose_6 : decode cX3_choose 6 = .ok (.getfield 9, 3) := by decide +kernel
theorem dX3_choose_9 : decode cX3_choose 9 = .ok (.arraylength, 1) := by decide +kernel
theorem dX3_choose_10 : decode cX3_choose 10 = .ok (.if_icmp .ge 21, 3) := by decide +kernel
theorem dX3_choose_13 : decode cX3_choose 13 = .ok (.iload_n 2, 1) := by decide +kernel
theorem dX3_choose_14 : decode cX3_choose 14 = .ok (.ifCond .lt 17, 3) := by decide +kernel
theorem dX3_choose_17 : decode cX3_choose 17 = .ok (.iload_n 2, 1) := by decide +kernel
theorem dX3_choose_18 : decode cX3_choose 18 = .ok (.bipush 6, 2) := by decide +kernel
theorem dX3_choose_20 : decode cX3_choose 20 = .ok (.if_icmp .ge 11, 3) := by decide +kernel
theorem dX3_choose_23 : decode cX3_choose 23 = .ok (.aload_n 0, 1) := by decide +kernel
theorem dX3_choose_24 : decode cX3_choose 24 = .ok (.getfield 9, 3) := by decide +kernel
theorem dX3_choose_27 : decode cX3_choose 27 = .ok (.iload_n 1, 1) := by decide +kernel
theorem dX3_choose_28 : decode cX3_choose 28 = .ok (.iload_n 2, 1) := by decide +kernel
theorem dX3_choose_29 : decode cX3_choose 29 = .ok (.i2b, 1) := by decide +kernel
theorem dX3_choose_30 : decode cX3_choose 30 = .ok (.bastore, 1) := by decide +kernel
theorem dX3_choose_31 : decode cX3_choose 31 = .ok (.return_, 1) := by decide +kernel
theorem dX4_init_0 : decode cX4_init 0 = .ok (.aload_n 0, 1) := by decide +kernel
theorem dX4_init_1 : decode cX4_init 1 = .ok (.invokespecial 1, 3) := by decide +kernel
theorem dX4_init_4 : decode cX4_init 4 = .ok (.aload_n 0, 1) := by decide +kernel
theorem dX4_init_5 : decode cX4_init 5 = .ok (.iconst 1, 1) := by decide +kernel
theorem dX4_init_6 : decode cX4_init 6 = .ok (.iload_n 1, 1) := by decide +kernel
theorem dX4_init_7 : decode cX4_init 7 = .ok (.invokestatic 7, 3) := by decide +kernel
theorem dX4_init_10 : decode cX4_init 10 = .ok (.newarray .int, 2) := by decide +kernel
theorem dX4_init_12 : decode cX4_init 12 = .ok (.putfield 13, 3) := by decide +kernel
theorem dX4_init_15 : decode cX4_init 15 = .ok (.return_, 1) := by decide +kernel
theorem dX4_clear_0 : decode cX4_clear 0 = .ok (.aload_n 0, 1) := by decide +kernel
theorem dX4_clear_1 : decode cX4_clear 1 = .ok (.iconst 0, 1) := by decide +kernel
theorem dX4_clear_2 : decode cX4_clear 2 = .ok (.putfield 19, 3) := by decide +kernel
theorem dX4_clear_5 : decode cX4_clear 5 = .ok (.return_, 1) := by decide +kernel
theorem dX4_add_0 : decode cX4_add 0 = .ok (.aload_n 0, 1) := by decide +kernel
theorem dX4_add_1 : decode cX4_add 1 = .ok (.getfield 19, 3) := by decide +kernel
theorem dX4_add_4 : decode cX4_add 4 = .ok (.aload_n 0, 1) := by decide +kernel
theorem dX4_add_5 : decode cX4_add 5 = .ok (.getfield 13, 3) := by decide +kernel
theorem dX4_add_8 : decode cX4_add 8 = .ok (.arraylength, 1) := by decide +kernel
theorem dX4_add_9 : decode cX4_add 9 = .ok (.if_icmp .ge 23, 3) := by decide +kernel
theorem dX4_add_12 : decode cX4_add 12 = .ok (.aload_n 0, 1) := by decide +kernel
theorem dX4_add_13 : decode cX4_add 13 = .ok (.getfield 13, 3) := by decide +kernel
theorem dX4_add_16 : decode cX4_add 16 = .ok (.aload_n 0, 1) := by decide +kernel
theorem dX4_add_17 : decode cX4_add 17 = .ok (.getfield 19, 3) := by decide +kernel
theorem dX4_add_20 : decode cX4_add 20 = .ok (.iload_n 1, 1) := by decide +kernel
theorem dX4_add_21 : decode cX4_add 21 = .ok (.iastore, 1) := by decide +kernel
theorem dX4_add_22 : decode cX4_add 22 = .ok (.aload_n 0, 1) := by decide +kernel
theorem dX4_add_23 : decode cX4_add 23 = .ok (.dup, 1) := by decide +kernel
theorem dX4_add_24 : decode cX4_add 24 = .ok (.getfield 19, 3) := by decide +kernel
theorem dX4_add_27 : decode cX4_add 27 = .ok (.iconst 1, 1) := by decide +kernel
theorem dX4_add_28 : decode cX4_add 28 = .ok (.iadd, 1) := by decide +kernel
theorem dX4_add_29 : decode cX4_add 29 = .ok (.putfield 19, 3) := by decide +kernel
theorem dX4_add_32 : decode cX4_add 32 = .ok (.return_, 1) := by decide +kernel
theorem dX4_restart_0 : decode cX4_restart 0 = .ok (.aload_n 0, 1) := by decide +kernel
theorem dX4_restart_1 : decode cX4_restart 1 = .ok (.invokevirtual 23, 3) := by decide +kernel
theorem dX4_restart_4 : decode cX4_restart 4 = .ok (.iconst 0, 1) := by decide +kernel
theorem dX4_restart_5 : decode cX4_restart 5 = .ok (.istore_n 2, 1) := by decide +kernel
theorem dX4_restart_6 : decode cX4_restart 6 = .ok (.iload_n 2, 1) := by decide +kernel
theorem dX4_restart_7 : decode cX4_restart 7 = .ok (.iload_n 1, 1) := by decide +kernel
theorem dX4_restart_8 : decode cX4_restart 8 = .ok (.if_icmp .ge 14, 3) := by decide +kernel
theorem dX4_restart_11 : decode cX4_restart 11 = .ok (.aload_n 0, 1) := by decide +kernel
theorem dX4_restart_12 : decode cX4_restart 12 = .ok (.iload_n 2, 1) := by decide +kernel
theorem dX4_restart_13 : decode cX4_restart 13 = .ok (.invokevirtual 26, 3) := by decide +kernel
theorem dX4_restart_16 : decode cX4_restart 16 = .ok (.iinc 2 1, 3) := by decide +kernel
theorem dX4_restart_19 : decode cX4_restart 19 = .ok (.goto (-13), 3) := by decide +kernel
theorem dX4_restart_22 : decode cX4_restart 22 = .ok (.return_, 1) := by decide +kernel
theorem dX4_first_0 : decode cX4_first 0 = .ok (.aload_n 0, 1) := by decide +kernel
theorem dX4_first_1 : decode cX4_first 1 = .ok (.getfield 13, 3) := by decide +kernel
theorem dX4_first_4 : decode cX4_first 4 = .ok (.iconst 0, 1) := by decide +kernel
theorem dX4_first_5 : decode cX4_first 5 = .ok (.iaload, 1) := by decide +kernel
theorem dX4_first_6 : decode cX4_first 6 = .ok (.ireturn, 1) := by decide +kernel
theorem dX4_takeAt_0 : decode cX4_takeAt 0 = .ok (.iload_n 1, 1) := by decide +kernel
theorem dX4_takeAt_1 : decode cX4_takeAt 1 = .ok (.ifCond .lt 11, 3) := by decide +kernel
theorem dX4_takeAt_4 : decode cX4_takeAt 4 = .ok (.iload_n 1, 1) := by decide +kernel
theorem dX4_takeAt_5 : decode cX4_takeAt 5 = .ok (.aload_n 0, 1) := by decide +kernel
theorem dX4_takeAt_6 : decode cX4_takeAt 6 = .ok (.getfield 19, 3) := by decide +kernel
theorem dX4_takeAt_9 : decode cX4_takeAt 9 = .ok (.if_icmp .lt 5, 3) := by decide +kernel
theorem dX4_takeAt_12 : decode cX4_takeAt 12 = .ok (.iconst 0, 1) := by decide +kernel
theorem dX4_takeAt_13 : decode cX4_takeAt 13 = .ok (.ireturn, 1) := by decide +kernel
theorem dX4_takeAt_14 : decode cX4_takeAt 14 = .ok (.aload_n 0, 1) := by decide +kernel
theorem dX4_takeAt_15 : decode cX4_takeAt 15 = .ok (.getfield 13, 3) := by decide +kernel
theorem dX4_takeAt_18 : decode cX4_takeAt 18 = .ok (.iload_n 1, 1) := by decide +kernel
theorem dX4_takeAt_19 : decode cX4_takeAt 19 = .ok (.iaload, 1) := by decide +kernel
theorem dX4_takeAt_20 : decode cX4_takeAt 20 = .ok (.istore_n 2, 1) := by decide +kernel
theorem dX4_takeAt_21 : decode cX4_takeAt 21 = .ok (.aload_n 0, 1) := by decide +kernel
theorem dX4_takeAt_22 : decode cX4_takeAt 22 = .ok (.getfield 13, 3) := by decide +kernel
theorem dX4_takeAt_25 : decode cX4_takeAt 25 = .ok (.iconst 0, 1) := by decide +kernel
theorem dX4_takeAt_26 : decode cX4_takeAt 26 = .ok (.aload_n 0, 1) := by decide +kernel
theorem dX4_takeAt_27 : decode cX4_takeAt 27 = .ok (.getfield 13, 3) := by decide +kernel
theorem dX4_takeAt_30 : decode cX4_takeAt 30 = .ok (.iconst 1, 1) := by decide +kernel
theorem dX4_takeAt_31 : decode cX4_takeAt 31 = .ok (.iload_n 1, 1) := by decide +kernel
theorem dX4_takeAt_32 : decode cX4_takeAt 32 = .ok (.invokestatic 30, 3) := by decide +kernel
theorem dX4_takeAt_35 : decode cX4_takeAt 35 = .ok (.aload_n 0, 1) := by decide +kernel
theorem dX4_takeAt_36 : decode cX4_takeAt 36 = .ok (.getfield 13, 3) := by decide +kernel
theorem dX4_takeAt_39 : decode cX4_takeAt 39 = .ok (.iconst 0, 1) := by decide +kernel
theorem dX4_takeAt_40 : decode cX4_takeAt 40 = .ok (.iload_n 2, 1) := by decide +kernel
theorem dX4_takeAt_41 : decode cX4_takeAt 41 = .ok (.iastore, 1) := by decide +kernel
theorem dX4_takeAt_42 : decode cX4_takeAt 42 = .ok (.iload_n 2, 1) := by decide +kernel
theorem dX4_takeAt_43 : decode cX4_takeAt 43 = .ok (.ireturn, 1) := by decide +kernel
theorem dX4_placeOf_0 : decode cX4_placeOf 0 = .ok (.iconst 0, 1) := by decide +kernel
theorem dX4_placeOf_1 : decode cX4_placeOf 1 = .ok (.istore_n 2, 1) := by decide +kernel
theorem dX4_placeOf_2 : decode cX4_placeOf 2 = .ok (.iload_n 2, 1) := by decide +kernel
theorem dX4_placeOf_3 : decode cX4_placeOf 3 = .ok (.aload_n 0, 1) := by decide +kernel
theorem dX4_placeOf_4 : decode cX4_placeOf 4 = .ok (.getfield 19, 3) := by decide +kernel
theorem dX4_placeOf_7 : decode cX4_placeOf 7 = .ok (.if_icmp .ge 27, 3) := by decide +kernel
theorem dX4_placeOf_10 : decode cX4_placeOf 10 = .ok (.aload_n 0, 1) := by decide +kernel
theorem dX4_placeOf_11 : decode cX4_placeOf 11 = .ok (.getfield 13, 3) := by decide +kernel
theorem dX4_placeOf_14 : decode cX4_placeOf 14 = .ok (.iload_n 2, 1) := by decide +kernel
theorem dX4_placeOf_15 : decode cX4_placeOf 15 = .ok (.iaload, 1) := by decide +kernel
theorem dX4_placeOf_16 : decode cX4_placeOf 16 = .ok (.iload_n 1, 1) := by decide +kernel
theorem dX4_placeOf_17 : decode cX4_placeOf 17 = .ok (.if_icmp .ne 11, 3) := by decide +kernel
theorem dX4_placeOf_20 : decode cX4_placeOf 20 = .ok (.aload_n 0, 1) := by decide +kernel
theorem dX4_placeOf_21 : decode cX4_placeOf 21 = .ok (.iload_n 2, 1) := by decide +kernel
theorem dX4_placeOf_22 : decode cX4_placeOf 22 = .ok (.invokevirtual 36, 3) := by decide +kernel
theorem dX4_placeOf_25 : decode cX4_placeOf 25 = .ok (.pop, 1) := by decide +kernel
theorem dX4_placeOf_26 : decode cX4_placeOf 26 = .ok (.iload_n 2, 1) := by decide +kernel
theorem dX4_placeOf_27 : decode cX4_placeOf 27 = .ok (.ireturn, 1) := by decide +kernel
theorem dX4_placeOf_28 : decode cX4_placeOf 28 = .ok (.iinc 2 1, 3) := by decide +kernel
theorem dX4_placeOf_31 : decode cX4_placeOf 31 = .ok (.goto (-29), 3) := by decide +kernel
theorem dX4_placeOf_34 : decode cX4_placeOf 34 = .ok (.iconst 0, 1) := by decide +kernel
theorem dX4_placeOf_35 : decode cX4_placeOf 35 = .ok (.ireturn, 1) := by decide +kernel
theorem dX5_init_0 : decode cX5_init 0 = .ok (.aload_n 0, 1) := by decide +kernel
theorem dX5_init_1 : decode cX5_init 1 = .ok (.invokespecial 3, 3) := by decide +kernel
theorem dX5_init_4 : decode cX5_init 4 = .ok (.aload_n 0, 1) := by decide +kernel
theorem dX5_init_5 : decode cX5_init 5 = .ok (.new 9, 3) := by decide +kernel
theorem dX5_init_8 : decode cX5_init 8 = .ok (.dup, 1) := by decide +kernel
theorem dX5_init_9 : decode cX5_init 9 = .ok (.sipush 256, 3) := by decide +kernel
theorem dX5_init_12 : decode cX5_init 12 = .ok (.invokespecial 11, 3) := by decide +kernel
theorem dX5_init_15 : decode cX5_init 15 = .ok (.putfield 14, 3) := by decide +kernel
theorem dX5_init_18 : decode cX5_init 18 = .ok (.aload_n 0, 1) := by decide +kernel
theorem dX5_init_19 : decode cX5_init 19 = .ok (.new 9, 3) := by decide +kernel
theorem dX5_init_22 : decode cX5_init 22 = .ok (.dup, 1) := by decide +kernel
theorem dX5_init_23 : decode cX5_init 23 = .ok (.bipush 6, 2) := by decide +kernel
theorem dX5_init_25 : decode cX5_init 25 = .ok (.invokespecial 11, 3) := by decide +kernel
theorem dX5_init_28 : decode cX5_init 28 = .ok (.putfield 20, 3) := by decide +kernel
theorem dX5_init_31 : decode cX5_init 31 = .ok (.aload_n 0, 1) := by decide +kernel
theorem dX5_init_32 : decode cX5_init 32 = .ok (.bipush 6, 2) := by decide +kernel
theorem dX5_init_34 : decode cX5_init 34 = .ok (.anewarray 23, 3) := by decide +kernel
theorem dX5_init_37 : decode cX5_init 37 = .ok (.putfield 25, 3) := by decide +kernel
theorem dX5_init_40 : decode cX5_init 40 = .ok (.aload_n 0, 1) := by decide +kernel
theorem dX5_init_41 : decode cX5_init 41 = .ok (.sipush 1800, 3) := by decide +kernel
theorem dX5_init_44 : decode cX5_init 44 = .ok (.newarray .byte, 2) := by decide +kernel
theorem dX5_init_46 : decode cX5_init 46 = .ok (.putfield 29, 3) := by decide +kernel
theorem dX5_init_49 : decode cX5_init 49 = .ok (.aload_n 0, 1) := by decide +kernel
theorem dX5_init_50 : decode cX5_init 50 = .ok (.sipush 1800, 3) := by decide +kernel
theorem dX5_init_53 : decode cX5_init 53 = .ok (.newarray .byte, 2) := by decide +kernel
theorem dX5_init_55 : decode cX5_init 55 = .ok (.putfield 33, 3) := by decide +kernel
theorem dX5_init_58 : decode cX5_init 58 = .ok (.aload_n 0, 1) := by decide +kernel
theorem dX5_init_59 : decode cX5_init 59 = .ok (.aload_n 2, 1) := by decide +kernel
theorem dX5_init_60 : decode cX5_init 60 = .ok (.putfield 36, 3) := by decide +kernel
theorem dX5_init_63 : decode cX5_init 63 = .ok (.aload_n 0, 1) := by decide +kernel
theorem dX5_init_64 : decode cX5_init 64 = .ok (.aload_n 3, 1) := by decide +kernel
theorem dX5_init_65 : decode cX5_init 65 = .ok (.putfield 40, 3) := by decide +kernel
theorem dX5_init_68 : decode cX5_init 68 = .ok (.aload_n 0, 1) := by decide +kernel
theorem dX5_init_69 : decode cX5_init 69 = .ok (.aload 4, 2) := by decide +kernel
theorem dX5_init_71 : decode cX5_init 71 = .ok (.putfield 44, 3) := by decide +kernel
theorem dX5_init_74 : decode cX5_init 74 = .ok (.aload_n 0, 1) := by decide +kernel
theorem dX5_init_75 : decode cX5_init 75 = .ok (.new 48, 3) := by decide +kernel
theorem dX5_init_78 : decode cX5_init 78 = .ok (.dup, 1) := by decide +kernel
theorem dX5_init_79 : decode cX5_init 79 = .ok (.aload_n 1, 1) := by decide +kernel
theorem dX5_init_80 : decode cX5_init 80 = .ok (.invokespecial 50, 3) := by decide +kernel
theorem dX5_init_83 : decode cX5_init 83 = .ok (.putfield 53, 3) := by decide +kernel
theorem dX5_init_86 : decode cX5_init 86 = .ok (.iconst 0, 1) := by decide +kernel
theorem dX5_init_87 : decode cX5_init 87 = .ok (.istore 5, 2) := by decide +kernel
theorem dX5_init_89 : decode cX5_init 89 = .ok (.iload 5, 2) := by decide +kernel
theorem dX5_init_91 : decode cX5_init 91 = .ok (.bipush 6, 2) := by decide +kernel
theorem dX5_init_93 : decode cX5_init 93 = .ok (.if_icmp .ge 23, 3) := by decide +kernel
theorem dX5_init_96 : decode cX5_init 96 = .ok (.aload_n 0, 1) := by decide +kernel
theorem dX5_init_97 : decode cX5_init 97 = .ok (.getfield 25, 3) := by decide +kernel
theorem dX5_init_100 : decode cX5_init 100 = .ok (.iload 5, 2) := by decide +kernel
theorem dX5_init_102 : decode cX5_init 102 = .ok (.new 23, 3) := by decide +kernel
theorem dX5_init_105 : decode cX5_init 105 = .ok (.dup, 1) := by decide +kernel
theorem dX5_init_106 : decode cX5_init 106 = .ok (.invokespecial 57, 3) := by decide +kernel
theorem dX5_init_109 : decode cX5_init 109 = .ok (.aastore, 1) := by decide +kernel
theorem dX5_init_110 : decode cX5_init 110 = .ok (.iinc 5 1, 3) := by decide +kernel
theorem dX5_init_113 : decode cX5_init 113 = .ok (.goto (-24), 3) := by decide +kernel
theorem dX5_init_116 : decode cX5_init 116 = .ok (.return_, 1) := by decide +kernel
theorem dX5_brokenAnswer_0 : decode cX5_brokenAnswer 0 = .ok (.bipush (-10), 2) := by decide +kernel
theorem dX5_brokenAnswer_2 : decode cX5_brokenAnswer 2 = .ok (.aload_n 0, 1) := by decide +kernel
theorem dX5_brokenAnswer_3 : decode cX5_brokenAnswer 3 = .ok (.getfield 53, 3) := by decide +kernel
theorem dX5_brokenAnswer_6 : decode cX5_brokenAnswer 6 = .ok (.invokevirtual 58, 3) := by decide +kernel
theorem dX5_brokenAnswer_9 : decode cX5_brokenAnswer 9 = .ok (.isub, 1) := by decide +kernel
theorem dX5_brokenAnswer_10 : decode cX5_brokenAnswer 10 = .ok (.ireturn, 1) := by decide +kernel
theorem dX5_openRows_0 : decode cX5_openRows 0 = .ok (.aload_n 0, 1) := by decide +kernel
theorem dX5_openRows_1 : decode cX5_openRows 1 = .ok (.iconst 0, 1) := by decide +kernel
theorem dX5_openRows_2 : decode cX5_openRows 2 = .ok (.invokevirtual 62, 3) := by decide +kernel
theorem dX5_openRows_5 : decode cX5_openRows 5 = .ok (.aload_n 0, 1) := by decide +kernel
theorem dX5_openRows_6 : decode cX5_openRows 6 = .ok (.getfield 40, 3) := by decide +kernel
theorem dX5_openRows_9 : decode cX5_openRows 9 = .ok (.invokevirtual 65, 3) := by decide +kernel
theorem dX5_openRows_12 : decode cX5_openRows 12 = .ok (.iconst 0, 1) := by decide +kernel
theorem dX5_openRows_13 : decode cX5_openRows 13 = .ok (.istore_n 1, 1) := by decide +kernel
theorem dX5_openRows_14 : decode cX5_openRows 14 = .ok (.iload_n 1, 1) := by decide +kernel
theorem dX5_openRows_15 : decode cX5_openRows 15 = .ok (.sipush 1500, 3) := by decide +kernel
theorem dX5_openRows_18 : decode cX5_openRows 18 = .ok (.if_icmp .gt 31, 3) := by decide +kernel
theorem dX5_openRows_21 : decode cX5_openRows 21 = .ok (.aload_n 0, 1) := by decide +kernel
theorem dX5_openRows_22 : decode cX5_openRows 22 = .ok (.iload_n 1, 1) := by decide +kernel
theorem dX5_openRows_23 : decode cX5_openRows 23 = .ok (.invokevirtual 70, 3) := by decide +kernel
theorem dX5_openRows_26 : decode cX5_openRows 26 = .ok (.ifCond .ne 5, 3) := by decide +kernel
theorem dX5_openRows_29 : decode cX5_openRows 29 = .ok (.iconst 0, 1) := by decide +kernel
theorem dX5_openRows_30 : decode cX5_openRows 30 = .ok (.ireturn, 1) := by decide +kernel
theorem dX5_openRows_31 : decode cX5_openRows 31 = .ok (.aload_n 0, 1) := by decide +kernel
theorem dX5_openRows_32 : decode cX5_openRows 32 = .ok (.getfield 53, 3) := by decide +kernel
theorem dX5_openRows_35 : decode cX5_openRows 35 = .ok (.invokevirtual 74, 3) := by decide +kernel
theorem dX5_openRows_38 : decode cX5_openRows 38 = .ok (.ifCond .eq 5, 3) := by decide +kernel
theorem dX5_openRows_41 : decode cX5_openRows 41 = .ok (.iconst 1, 1) := by decide +kernel
theorem dX5_openRows_42 : decode cX5_openRows 42 = .ok (.ireturn, 1) := by decide +kernel
theorem dX5_openRows_43 : decode cX5_openRows 43 = .ok (.iinc 1 1, 3) := by decide +kernel
theorem dX5_openRows_46 : decode cX5_openRows 46 = .ok (.goto (-32), 3) := by decide +kernel
theorem dX5_openRows_49 : decode cX5_openRows 49 = .ok (.iconst 1, 1) := by decide +kernel
theorem dX5_openRows_50 : decode cX5_openRows 50 = .ok (.ireturn, 1) := by decide +kernel
theorem dX5_openAlone_0 : decode cX5_openAlone 0 = .ok (.aload_n 0, 1) := by decide +kernel
theorem dX5_openAlone_1 : decode cX5_openAlone 1 = .ok (.iload_n 1, 1) := by decide +kernel
theorem dX5_openAlone_2 : decode cX5_openAlone 2 = .ok (.bipush 48, 2) := by decide +kernel
theorem dX5_openAlone_4 : decode cX5_openAlone 4 = .ok (.iadd, 1) := by decide +kernel
theorem dX5_openAlone_5 : decode cX5_openAlone 5 = .ok (.invokevirtual 62, 3) := by decide +kernel
theorem dX5_openAlone_8 : decode cX5_openAlone 8 = .ok (.aload_n 0, 1) := by decide +kernel
theorem dX5_openAlone_9 : decode cX5_openAlone 9 = .ok (.sipush 1800, 3) := by decide +kernel
theorem dX5_openAlone_12 : decode cX5_openAlone 12 = .ok (.invokevirtual 78, 3) := by decide +kernel
theorem dX5_openAlone_15 : decode cX5_openAlone 15 = .ok (.ifCond .ne 5, 3) := by decide +kernel
theorem dX5_openAlone_18 : decode cX5_openAlone 18 = .ok (.iconst 0, 1) := by decide +kernel
theorem dX5_openAlone_19 : decode cX5_openAlone 19 = .ok (.ireturn, 1) := by decide +kernel
theorem dX5_openAlone_20 : decode cX5_openAlone 20 = .ok (.aload_n 0, 1) := by decide +kernel
theorem dX5_openAlone_21 : decode cX5_openAlone 21 = .ok (.getfield 40, 3) := by decide +kernel
theorem dX5_openAlone_24 : decode cX5_openAlone 24 = .ok (.invokevirtual 81, 3) := by decide +kernel
theorem dX5_openAlone_27 : decode cX5_openAlone 27 = .ok (.iconst 1, 1) := by decide +kernel
theorem dX5_openAlone_28 : decode cX5_openAlone 28 = .ok (.ireturn, 1) := by decide +kernel
theorem dX5_restart_0 : decode cX5_restart 0 = .ok (.aload_n 0, 1) := by decide +kernel
theorem dX5_restart_1 : decode cX5_restart 1 = .ok (.getfield 53, 3) := by decide +kernel
theorem dX5_restart_4 : decode cX5_restart 4 = .ok (.iload_n 1, 1) := by decide +kernel
theorem dX5_restart_5 : decode cX5_restart 5 = .ok (.putfield 84, 3) := by decide +kernel
theorem dX5_restart_8 : decode cX5_restart 8 = .ok (.aload_n 0, 1) := by decide +kernel
theorem dX5_restart_9 : decode cX5_restart 9 = .ok (.iconst 0, 1) := by decide +kernel
theorem dX5_restart_10 : decode cX5_restart 10 = .ok (.putfield 88, 3) := by decide +kernel
theorem dX5_restart_13 : decode cX5_restart 13 = .ok (.aload_n 0, 1) := by decide +kernel
theorem dX5_restart_14 : decode cX5_restart 14 = .ok (.getfield 36, 3) := by decide +kernel
theorem dX5_restart_17 : decode cX5_restart 17 = .ok (.iconst 0, 1) := by decide +kernel
theorem dX5_restart_18 : decode cX5_restart 18 = .ok (.invokevirtual 91, 3) := by decide +kernel
theorem dX5_restart_21 : decode cX5_restart 21 = .ok (.return_, 1) := by decide +kernel
theorem dX5_breaks_0 : decode cX5_breaks 0 = .ok (.aload_n 0, 1) := by decide +kernel
theorem dX5_breaks_1 : decode cX5_breaks 1 = .ok (.iload_n 1, 1) := by decide +kernel
theorem dX5_breaks_2 : decode cX5_breaks 2 = .ok (.putfield 88, 3) := by decide +kernel
theorem dX5_breaks_5 : decode cX5_breaks 5 = .ok (.iconst 0, 1) := by decide +kernel
theorem dX5_breaks_6 : decode cX5_breaks 6 = .ok (.ireturn, 1) := by decide +kernel
theorem dX5_openRow_0 : decode cX5_openRow 0 = .ok (.aload_n 0, 1) := by decide +kernel
theorem dX5_openRow_1 : decode cX5_openRow 1 = .ok (.invokevirtual 96, 3) := by decide +kernel
theorem dX5_openRow_4 : decode cX5_openRow 4 = .ok (.ifCond .ne 5, 3) := by decide +kernel
theorem dX5_openRow_7 : decode cX5_openRow 7 = .ok (.iconst 0, 1) := by decide +kernel
theorem dX5_openRow_8 : decode cX5_openRow 8 = .ok (.ireturn, 1) := by decide +kernel
theorem dX5_openRow_9 : decode cX5_openRow 9 = .ok (.iconst 0, 1) := by decide +kernel
theorem dX5_openRow_10 : decode cX5_openRow 10 = .ok (.istore_n 2, 1) := by decide +kernel
theorem dX5_openRow_11 : decode cX5_openRow 11 = .ok (.iconst 0, 1) := by decide +kernel
theorem dX5_openRow_12 : decode cX5_openRow 12 = .ok (.istore_n 3, 1) := by decide +kernel
theorem dX5_openRow_13 : decode cX5_openRow 13 = .ok (.iload_n 3, 1) := by decide +kernel
theorem dX5_openRow_14 : decode cX5_openRow 14 = .ok (.sipush 12000, 3) := by decide +kernel
theorem dX5_openRow_17 : decode cX5_openRow 17 = .ok (.if_icmp .ge 137, 3) := by decide +kernel
theorem dX5_openRow_20 : decode cX5_openRow 20 = .ok (.aload_n 0, 1) := by decide +kernel
theorem dX5_openRow_21 : decode cX5_openRow 21 = .ok (.getfield 53, 3) := by decide +kernel
theorem dX5_openRow_24 : decode cX5_openRow 24 = .ok (.getfield 84, 3) := by decide +kernel
theorem dX5_openRow_27 : decode cX5_openRow 27 = .ok (.istore 4, 2) := by decide +kernel
theorem dX5_openRow_29 : decode cX5_openRow 29 = .ok (.aload_n 0, 1) := by decide +kernel
theorem dX5_openRow_30 : decode cX5_openRow 30 = .ok (.getfield 53, 3) := by decide +kernel
theorem dX5_openRow_33 : decode cX5_openRow 33 = .ok (.bipush 48, 2) := by decide +kernel
theorem dX5_openRow_35 : decode cX5_openRow 35 = .ok (.invokevirtual 99, 3) := by decide +kernel
theorem dX5_openRow_38 : decode cX5_openRow 38 = .ok (.lstore 5, 2) := by decide +kernel
theorem dX5_openRow_40 : decode cX5_openRow 40 = .ok (.lload 5, 2) := by decide +kernel
theorem dX5_openRow_42 : decode cX5_openRow 42 = .ok (.ldc2_w 103, 3) := by decide +kernel
theorem dX5_openRow_45 : decode cX5_openRow 45 = .ok (.lcmp, 1) := by decide +kernel
theorem dX5_openRow_46 : decode cX5_openRow 46 = .ok (.ifCond .ne 9, 3) := by decide +kernel
theorem dX5_openRow_49 : decode cX5_openRow 49 = .ok (.aload_n 0, 1) := by decide +kernel
theorem dX5_openRow_50 : decode cX5_openRow 50 = .ok (.iconst 1, 1) := by decide +kernel
theorem dX5_openRow_51 : decode cX5_openRow 51 = .ok (.invokevirtual 105, 3) := by decide +kernel
theorem dX5_openRow_54 : decode cX5_openRow 54 = .ok (.ireturn, 1) := by decide +kernel
theorem dX5_openRow_55 : decode cX5_openRow 55 = .ok (.lload 5, 2) := by decide +kernel
theorem dX5_openRow_57 : decode cX5_openRow 57 = .ok (.ldc2_w 108, 3) := by decide +kernel
theorem dX5_openRow_60 : decode cX5_openRow 60 = .ok (.lcmp, 1) := by decide +kernel
theorem dX5_openRow_61 : decode cX5_openRow 61 = .ok (.ifCond .ne 9, 3) := by decide +kernel
theorem dX5_openRow_64 : decode cX5_openRow 64 = .ok (.aload_n 0, 1) := by decide +kernel
theorem dX5_openRow_65 : decode cX5_openRow 65 = .ok (.iload_n 2, 1) := by decide +kernel
theorem dX5_openRow_66 : decode cX5_openRow 66 = .ok (.invokevirtual 110, 3) := by decide +kernel
theorem dX5_openRow_69 : decode cX5_openRow 69 = .ok (.ireturn, 1) := by decide +kernel
theorem dX5_openRow_70 : decode cX5_openRow 70 = .ok (.lload 5, 2) := by decide +kernel
theorem dX5_openRow_72 : decode cX5_openRow 72 = .ok (.ldc2_w 113, 3) := by decide +kernel
theorem dX5_openRow_75 : decode cX5_openRow 75 = .ok (.lcmp, 1) := by decide +kernel
theorem dX5_openRow_76 : decode cX5_openRow 76 = .ok (.ifCond .eq 9, 3) := by decide +kernel
theorem dX5_openRow_79 : decode cX5_openRow 79 = .ok (.aload_n 0, 1) := by decide +kernel
theorem dX5_openRow_80 : decode cX5_openRow 80 = .ok (.iconst 3, 1) := by decide +kernel
theorem dX5_openRow_81 : decode cX5_openRow 81 = .ok (.invokevirtual 105, 3) := by decide +kernel
theorem dX5_openRow_84 : decode cX5_openRow 84 = .ok (.ireturn, 1) := by decide +kernel
theorem dX5_openRow_85 : decode cX5_openRow 85 = .ok (.aload_n 0, 1) := by decide +kernel
theorem dX5_openRow_86 : decode cX5_openRow 86 = .ok (.getfield 40, 3) := by decide +kernel
theorem dX5_openRow_89 : decode cX5_openRow 89 = .ok (.iconst 0, 1) := by decide +kernel
theorem dX5_openRow_90 : decode cX5_openRow 90 = .ok (.iload 4, 2) := by decide +kernel
theorem dX5_openRow_92 : decode cX5_openRow 92 = .ok (.invokevirtual 115, 3) := by decide +kernel
theorem dX5_openRow_95 : decode cX5_openRow 95 = .ok (.aload_n 0, 1) := by decide +kernel
theorem dX5_openRow_96 : decode cX5_openRow 96 = .ok (.getfield 40, 3) := by decide +kernel
theorem dX5_openRow_99 : decode cX5_openRow 99 = .ok (.bipush 7, 2) := by decide +kernel
theorem dX5_openRow_101 : decode cX5_openRow 101 = .ok (.iload_n 1, 1) := by decide +kernel
theorem dX5_openRow_102 : decode cX5_openRow 102 = .ok (.invokevirtual 115, 3) := by decide +kernel
theorem dX5_openRow_105 : decode cX5_openRow 105 = .ok (.aload_n 0, 1) := by decide +kernel
theorem dX5_openRow_106 : decode cX5_openRow 106 = .ok (.aload_n 0, 1) := by decide +kernel
theorem dX5_openRow_107 : decode cX5_openRow 107 = .ok (.getfield 119, 3) := by decide +kernel
theorem dX5_openRow_110 : decode cX5_openRow 110 = .ok (.sipush 200, 3) := by decide +kernel
theorem dX5_openRow_113 : decode cX5_openRow 113 = .ok (.imul, 1) := by decide +kernel
theorem dX5_openRow_114 : decode cX5_openRow 114 = .ok (.invokevirtual 78, 3) := by decide +kernel
theorem dX5_openRow_117 : decode cX5_openRow 117 = .ok (.ifCond .ne 5, 3) := by decide +kernel
theorem dX5_openRow_120 : decode cX5_openRow 120 = .ok (.iconst 0, 1) := by decide +kernel
theorem dX5_openRow_121 : decode cX5_openRow 121 = .ok (.ireturn, 1) := by decide +kernel
theorem dX5_openRow_122 : decode cX5_openRow 122 = .ok (.iload_n 2, 1) := by decide +kernel
theorem dX5_openRow_123 : decode cX5_openRow 123 = .ok (.aload_n 0, 1) := by decide +kernel
theorem dX5_openRow_124 : decode cX5_openRow 124 = .ok (.getfield 40, 3) := by decide +kernel
theorem dX5_openRow_127 : decode cX5_openRow 127 = .ok (.getfield 122, 3) := by decide +kernel
theorem dX5_openRow_130 : decode cX5_openRow 130 = .ok (.invokestatic 125, 3) := by decide +kernel
theorem dX5_openRow_133 : decode cX5_openRow 133 = .ok (.istore_n 2, 1) := by decide +kernel
theorem dX5_openRow_134 : decode cX5_openRow 134 = .ok (.aload_n 0, 1) := by decide +kernel
theorem dX5_openRow_135 : decode cX5_openRow 135 = .ok (.getfield 40, 3) := by decide +kernel
theorem dX5_openRow_138 : decode cX5_openRow 138 = .ok (.invokevirtual 129, 3) := by decide +kernel
theorem dX5_openRow_141 : decode cX5_openRow 141 = .ok (.aload_n 0, 1) := by decide +kernel
theorem dX5_openRow_142 : decode cX5_openRow 142 = .ok (.getfield 40, 3) := by decide +kernel
theorem dX5_openRow_145 : decode cX5_openRow 145 = .ok (.invokevirtual 81, 3) := by decide +kernel
theorem dX5_openRow_148 : decode cX5_openRow 148 = .ok (.iinc 3 1, 3) := by decide +kernel
theorem dX5_openRow_151 : decode cX5_openRow 151 = .ok (.goto (-138), 3) := by decide +kernel
theorem dX5_openRow_154 : decode cX5_openRow 154 = .ok (.iconst 1, 1) := by decide +kernel
theorem dX5_openRow_155 : decode cX5_openRow 155 = .ok (.ireturn, 1) := by decide +kernel
theorem dX5_readRowHead_0 : decode cX5_readRowHead 0 = .ok (.iconst 0, 1) := by decide +kernel
theorem dX5_readRowHead_1 : decode cX5_readRowHead 1 = .ok (.istore_n 1, 1) := by decide +kernel
theorem dX5_readRowHead_2 : decode cX5_readRowHead 2 = .ok (.iload_n 1, 1) := by decide +kernel
theorem dX5_readRowHead_3 : decode cX5_readRowHead 3 = .ok (.iconst 4, 1) := by decide +kernel
theorem dX5_readRowHead_4 : decode cX5_readRowHead 4 = .ok (.if_icmp .ge 53, 3) := by decide +kernel
theorem dX5_readRowHead_7 : decode cX5_readRowHead 7 = .ok (.aload_n 0, 1) := by decide +kernel
theorem dX5_readRowHead_8 : decode cX5_readRowHead 8 = .ok (.getfield 53, 3) := by decide +kernel
theorem dX5_readRowHead_11 : decode cX5_readRowHead 11 = .ok (.bipush 8, 2) := by decide +kernel
theorem dX5_readRowHead_13 : decode cX5_readRowHead 13 = .ok (.invokevirtual 99, 3) := by decide +kernel
theorem dX5_readRowHead_16 : decode cX5_readRowHead 16 = .ok (.l2i, 1) := by decide +kernel
theorem dX5_readRowHead_17 : decode cX5_readRowHead 17 = .ok (.istore_n 2, 1) := by decide +kernel
theorem dX5_readRowHead_18 : decode cX5_readRowHead 18 = .ok (.iload_n 2, 1) := by decide +kernel
theorem dX5_readRowHead_19 : decode cX5_readRowHead 19 = .ok (.iconst (-1), 1) := by decide +kernel
theorem dX5_readRowHead_20 : decode cX5_readRowHead 20 = .ok (.if_icmp .ne 9, 3) := by decide +kernel
theorem dX5_readRowHead_23 : decode cX5_readRowHead 23 = .ok (.aload_n 0, 1) := by decide +kernel
theorem dX5_readRowHead_24 : decode cX5_readRowHead 24 = .ok (.iconst 1, 1) := by decide +kernel
theorem dX5_readRowHead_25 : decode cX5_readRowHead 25 = .ok (.invokevirtual 105, 3) := by decide +kernel
theorem dX5_readRowHead_28 : decode cX5_readRowHead 28 = .ok (.ireturn, 1) := by decide +kernel
theorem dX5_readRowHead_29 : decode cX5_readRowHead 29 = .ok (.iload_n 1, 1) := by decide +kernel
theorem dX5_readRowHead_30 : decode cX5_readRowHead 30 = .ok (.iload_n 2, 1) := by decide +kernel
theorem dX5_readRowHead_31 : decode cX5_readRowHead 31 = .ok (.invokestatic 132, 3) := by decide +kernel
theorem dX5_readRowHead_34 : decode cX5_readRowHead 34 = .ok (.ifCond .ne 9, 3) := by decide +kernel
theorem dX5_readRowHead_37 : decode cX5_readRowHead 37 = .ok (.aload_n 0, 1) := by decide +kernel
theorem dX5_readRowHead_38 : decode cX5_readRowHead 38 = .ok (.iconst 2, 1) := by decide +kernel
theorem dX5_readRowHead_39 : decode cX5_readRowHead 39 = .ok (.invokevirtual 105, 3) := by decide +kernel
theorem dX5_readRowHead_42 : decode cX5_readRowHead 42 = .ok (.ireturn, 1) := by decide +kernel
theorem dX5_readRowHead_43 : decode cX5_readRowHead 43 = .ok (.aload_n 0, 1) := by decide +kernel
theorem dX5_readRowHead_44 : decode cX5_readRowHead 44 = .ok (.iload_n 2, 1) := by decide +kernel
theorem dX5_readRowHead_45 : decode cX5_readRowHead 45 = .ok (.bipush 48, 2) := by decide +kernel
theorem dX5_readRowHead_47 : decode cX5_readRowHead 47 = .ok (.isub, 1) := by decide +kernel
theorem dX5_readRowHead_48 : decode cX5_readRowHead 48 = .ok (.putfield 119, 3) := by decide +kernel
theorem dX5_readRowHead_51 : decode cX5_readRowHead 51 = .ok (.iinc 1 1, 3) := by decide +kernel
theorem dX5_readRowHead_54 : decode cX5_readRowHead 54 = .ok (.goto (-52), 3) := by decide +kernel
theorem dX5_readRowHead_57 : decode cX5_readRowHead 57 = .ok (.iconst 1, 1) := by decide +kernel
theorem dX5_readRowHead_58 : decode cX5_readRowHead 58 = .ok (.ireturn, 1) := by decide +kernel
theorem dX5_fitsHead_0 : decode cX5_fitsHead 0 = .ok (.iload_n 0, 1) := by decide +kernel
theorem dX5_fitsHead_1 : decode cX5_fitsHead 1 = .ok (.tableswitch 63 0 2 #[27, 39, 51], 27) := by decide +kernel
theorem dX5_fitsHead_28 : decode cX5_fitsHead 28 = .ok (.iload_n 1, 1) := by decide +kernel
theorem dX5_fitsHead_29 : decode cX5_fitsHead 29 = .ok (.bipush 66, 2) := by decide +kernel
theorem dX5_fitsHead_31 : decode cX5_fitsHead 31 = .ok (.if_icmp .ne 7, 3) := by decide +kernel
theorem dX5_fitsHead_34 : decode cX5_fitsHead 34 = .ok (.iconst 1, 1) := by decide +kernel
theorem dX5_fitsHead_35 : decode cX5_fitsHead 35 = .ok (.goto 4, 3) := by decide +kernel
theorem dX5_fitsHead_38 : decode cX5_fitsHead 38 = .ok (.iconst 0, 1) := by decide +kernel
theorem dX5_fitsHead_39 : decode cX5_fitsHead 39 = .ok (.ireturn, 1) := by decide +kernel
theorem dX5_fitsHead_40 : decode cX5_fitsHead 40 = .ok (.iload_n 1, 1) := by decide +kernel
theorem dX5_fitsHead_41 : decode cX5_fitsHead 41 = .ok (.bipush 90, 2) := by decide +kernel
theorem dX5_fitsHead_43 : decode cX5_fitsHead 43 = .ok (.if_icmp .ne 7, 3) := by decide +kernel
theorem dX5_fitsHead_46 : decode cX5_fitsHead 46 = .ok (.iconst 1, 1) := by decide +kernel
theorem dX5_fitsHead_47 : decode cX5_fitsHead 47 = .ok (.goto 4, 3) := by decide +kernel
theorem dX5_fitsHead_50 : decode cX5_fitsHead 50 = .ok (.iconst 0, 1) := by decide +kernel
theorem dX5_fitsHead_51 : decode cX5_fitsHead 51 = .ok (.ireturn, 1) := by decide +kernel
theorem dX5_fitsHead_52 : decode cX5_fitsHead 52 = .ok (.iload_n 1, 1) := by decide +kernel
theorem dX5_fitsHead_53 : decode cX5_fitsHead 53 = .ok (.bipush 104, 2) := by decide +kernel
theorem dX5_fitsHead_55 : decode cX5_fitsHead 55 = .ok (.if_icmp .ne 7, 3) := by decide +kernel
theorem dX5_fitsHead_58 : decode cX5_fitsHead 58 = .ok (.iconst 1, 1) := by decide +kernel
theorem dX5_fitsHead_59 : decode cX5_fitsHead 59 = .ok (.goto 4, 3) := by decide +kernel
theorem dX5_fitsHead_62 : decode cX5_fitsHead 62 = .ok (.iconst 0, 1) := by decide +kernel
theorem dX5_fitsHead_63 : decode cX5_fitsHead 63 = .ok (.ireturn, 1) := by decide +kernel
theorem dX5_fitsHead_64 : decode cX5_fitsHead 64 = .ok (.iload_n 1, 1) := by decide +kernel
theorem dX5_fitsHead_65 : decode cX5_fitsHead 65 = .ok (.bipush 48, 2) := by decide +kernel
theorem dX5_fitsHead_67 : decode cX5_fitsHead 67 = .ok (.if_icmp .le 13, 3) := by decide +kernel
theorem dX5_fitsHead_70 : decode cX5_fitsHead 70 = .ok (.iload_n 1, 1) := by decide +kernel
theorem dX5_fitsHead_71 : decode cX5_fitsHead 71 = .ok (.bipush 57, 2) := by decide +kernel
theorem dX5_fitsHead_73 : decode cX5_fitsHead 73 = .ok (.if_icmp .gt 7, 3) := by decide +kernel
theorem dX5_fitsHead_76 : decode cX5_fitsHead 76 = .ok (.iconst 1, 1) := by decide +kernel
theorem dX5_fitsHead_77 : decode cX5_fitsHead 77 = .ok (.goto 4, 3) := by decide +kernel
theorem dX5_fitsHead_80 : decode cX5_fitsHead 80 = .ok (.iconst 0, 1) := by decide +kernel
theorem dX5_fitsHead_81 : decode cX5_fitsHead 81 = .ok (.ireturn, 1) := by decide +kernel
theorem dX5_readRowEnd_0 : decode cX5_readRowEnd 0 = .ok (.aload_n 0, 1) := by decide +kernel
theorem dX5_readRowEnd_1 : decode cX5_readRowEnd 1 = .ok (.getfield 53, 3) := by decide +kernel
theorem dX5_readRowEnd_4 : decode cX5_readRowEnd 4 = .ok (.bipush 32, 2) := by decide +kernel
theorem dX5_readRowEnd_6 : decode cX5_readRowEnd 6 = .ok (.invokevirtual 99, 3) := by decide +kernel
theorem dX5_readRowEnd_9 : decode cX5_readRowEnd 9 = .ok (.lstore_n 2, 1) := by decide +kernel
theorem dX5_readRowEnd_10 : decode cX5_readRowEnd 10 = .ok (.lload_n 2, 1) := by decide +kernel
theorem dX5_readRowEnd_11 : decode cX5_readRowEnd 11 = .ok (.ldc2_w 103, 3) := by decide +kernel
theorem dX5_readRowEnd_14 : decode cX5_readRowEnd 14 = .ok (.lcmp, 1) := by decide +kernel
theorem dX5_readRowEnd_15 : decode cX5_readRowEnd 15 = .ok (.ifCond .ne 9, 3) := by decide +kernel
theorem dX5_readRowEnd_18 : decode cX5_readRowEnd 18 = .ok (.aload_n 0, 1) := by decide +kernel
theorem dX5_readRowEnd_19 : decode cX5_readRowEnd 19 = .ok (.iconst 1, 1) := by decide +kernel
theorem dX5_readRowEnd_20 : decode cX5_readRowEnd 20 = .ok (.invokevirtual 105, 3) := by decide +kernel
theorem dX5_readRowEnd_23 : decode cX5_readRowEnd 23 = .ok (.ireturn, 1) := by decide +kernel
theorem dX5_readRowEnd_24 : decode cX5_readRowEnd 24 = .ok (.lload_n 2, 1) := by decide +kernel
theorem dX5_readRowEnd_25 : decode cX5_readRowEnd 25 = .ok (.iload_n 1, 1) := by decide +kernel
theorem dX5_readRowEnd_26 : decode cX5_readRowEnd 26 = .ok (.i2l, 1) := by decide +kernel
theorem dX5_readRowEnd_27 : decode cX5_readRowEnd 27 = .ok (.ldc2_w 136, 3) := by decide +kernel
theorem dX5_readRowEnd_30 : decode cX5_readRowEnd 30 = .ok (.land, 1) := by decide +kernel
theorem dX5_readRowEnd_31 : decode cX5_readRowEnd 31 = .ok (.lcmp, 1) := by decide +kernel
theorem dX5_readRowEnd_32 : decode cX5_readRowEnd 32 = .ok (.ifCond .eq 10, 3) := by decide +kernel
theorem dX5_readRowEnd_35 : decode cX5_readRowEnd 35 = .ok (.aload_n 0, 1) := by decide +kernel
theorem dX5_readRowEnd_36 : decode cX5_readRowEnd 36 = .ok (.bipush 13, 2) := by decide +kernel
theorem dX5_readRowEnd_38 : decode cX5_readRowEnd 38 = .ok (.invokevirtual 105, 3) := by decide +kernel
theorem dX5_readRowEnd_41 : decode cX5_readRowEnd 41 = .ok (.ireturn, 1) := by decide +kernel
theorem dX5_readRowEnd_42 : decode cX5_readRowEnd 42 = .ok (.iconst 0, 1) := by decide +kernel
theorem dX5_readRowEnd_43 : decode cX5_readRowEnd 43 = .ok (.istore 4, 2) := by decide +kernel
theorem dX5_readRowEnd_45 : decode cX5_readRowEnd 45 = .ok (.iload 4, 2) := by decide +kernel
theorem dX5_readRowEnd_47 : decode cX5_readRowEnd 47 = .ok (.bipush 7, 2) := by decide +kernel
theorem dX5_readRowEnd_49 : decode cX5_readRowEnd 49 = .ok (.if_icmp .ge 39, 3) := by decide +kernel
theorem dX5_readRowEnd_52 : decode cX5_readRowEnd 52 = .ok (.aload_n 0, 1) := by decide +kernel
theorem dX5_readRowEnd_53 : decode cX5_readRowEnd 53 = .ok (.getfield 53, 3) := by decide +kernel
theorem dX5_readRowEnd_56 : decode cX5_readRowEnd 56 = .ok (.getfield 84, 3) := by decide +kernel
theorem dX5_readRowEnd_59 : decode cX5_readRowEnd 59 = .ok (.bipush 8, 2) := by decide +kernel
theorem dX5_readRowEnd_61 : decode cX5_readRowEnd 61 = .ok (.irem, 1) := by decide +kernel
theorem dX5_readRowEnd_62 : decode cX5_readRowEnd 62 = .ok (.ifCond .eq 26, 3) := by decide +kernel
theorem dX5_readRowEnd_65 : decode cX5_readRowEnd 65 = .ok (.aload_n 0, 1) := by decide +kernel
theorem dX5_readRowEnd_66 : decode cX5_readRowEnd 66 = .ok (.getfield 53, 3) := by decide +kernel
theorem dX5_readRowEnd_69 : decode cX5_readRowEnd 69 = .ok (.invokevirtual 138, 3) := by decide +kernel
theorem dX5_readRowEnd_72 : decode cX5_readRowEnd 72 = .ok (.ifCond .eq 10, 3) := by decide +kernel
theorem dX5_readRowEnd_75 : decode cX5_readRowEnd 75 = .ok (.aload_n 0, 1) := by decide +kernel
theorem dX5_readRowEnd_76 : decode cX5_readRowEnd 76 = .ok (.bipush 14, 2) := by decide +kernel
theorem dX5_readRowEnd_78 : decode cX5_readRowEnd 78 = .ok (.invokevirtual 105, 3) := by decide +kernel
theorem dX5_readRowEnd_81 : decode cX5_readRowEnd 81 = .ok (.ireturn, 1) := by decide +kernel
theorem dX5_readRowEnd_82 : decode cX5_readRowEnd 82 = .ok (.iinc 4 1, 3) := by decide +kernel
theorem dX5_readRowEnd_85 : decode cX5_readRowEnd 85 = .ok (.goto (-40), 3) := by decide +kernel
theorem dX5_readRowEnd_88 : decode cX5_readRowEnd 88 = .ok (.iconst 1, 1) := by decide +kernel
theorem dX5_readRowEnd_89 : decode cX5_readRowEnd 89 = .ok (.ireturn, 1) := by decide +kernel
theorem dX5_openBlock_0 : decode cX5_openBlock 0 = .ok (.aload_n 0, 1) := by decide +kernel
theorem dX5_openBlock_1 : decode cX5_openBlock 1 = .ok (.getfield 40, 3) := by decide +kernel
theorem dX5_openBlock_4 : decode cX5_openBlock 4 = .ok (.getfield 141, 3) := by decide +kernel
theorem dX5_openBlock_7 : decode cX5_openBlock 7 = .ok (.astore_n 2, 1) := by decide +kernel
theorem dX5_openBlock_8 : decode cX5_openBlock 8 = .ok (.aload_n 0, 1) := by decide +kernel
theorem dX5_openBlock_9 : decode cX5_openBlock 9 = .ok (.invokevirtual 145, 3) := by decide +kernel
theorem dX5_openBlock_12 : decode cX5_openBlock 12 = .ok (.ifCond .eq 53, 3) := by decide +kernel
theorem dX5_openBlock_15 : decode cX5_openBlock 15 = .ok (.aload_n 0, 1) := by decide +kernel
theorem dX5_openBlock_16 : decode cX5_openBlock 16 = .ok (.invokevirtual 148, 3) := by decide +kernel
theorem dX5_openBlock_19 : decode cX5_openBlock 19 = .ok (.ifCond .eq 46, 3) := by decide +kernel
theorem dX5_openBlock_22 : decode cX5_openBlock 22 = .ok (.aload_n 0, 1) := by decide +kernel
theorem dX5_openBlock_23 : decode cX5_openBlock 23 = .ok (.aload_n 2, 1) := by decide +kernel
theorem dX5_openBlock_24 : decode cX5_openBlock 24 = .ok (.invokevirtual 151, 3) := by decide +kernel
theorem dX5_openBlock_27 : decode cX5_openBlock 27 = .ok (.ifCond .eq 38, 3) := by decide +kernel
theorem dX5_openBlock_30 : decode cX5_openBlock 30 = .ok (.aload_n 0, 1) := by decide +kernel
theorem dX5_openBlock_31 : decode cX5_openBlock 31 = .ok (.aload_n 2, 1) := by decide +kernel
theorem dX5_openBlock_32 : decode cX5_openBlock 32 = .ok (.invokevirtual 155, 3) := by decide +kernel
theorem dX5_openBlock_35 : decode cX5_openBlock 35 = .ok (.ifCond .eq 30, 3) := by decide +kernel
theorem dX5_openBlock_38 : decode cX5_openBlock 38 = .ok (.aload_n 0, 1) := by decide +kernel
theorem dX5_openBlock_39 : decode cX5_openBlock 39 = .ok (.aload_n 2, 1) := by decide +kernel
theorem dX5_openBlock_40 : decode cX5_openBlock 40 = .ok (.iload_n 1, 1) := by decide +kernel
theorem dX5_openBlock_41 : decode cX5_openBlock 41 = .ok (.invokevirtual 158, 3) := by decide +kernel
theorem dX5_openBlock_44 : decode cX5_openBlock 44 = .ok (.ifCond .eq 21, 3) := by decide +kernel
theorem dX5_openBlock_47 : decode cX5_openBlock 47 = .ok (.aload_n 0, 1) := by decide +kernel
theorem dX5_openBlock_48 : decode cX5_openBlock 48 = .ok (.invokevirtual 162, 3) := by decide +kernel
theorem dX5_openBlock_51 : decode cX5_openBlock 51 = .ok (.ifCond .eq 14, 3) := by decide +kernel
theorem dX5_openBlock_54 : decode cX5_openBlock 54 = .ok (.aload_n 0, 1) := by decide +kernel
theorem dX5_openBlock_55 : decode cX5_openBlock 55 = .ok (.invokevirtual 165, 3) := by decide +kernel
theorem dX5_openBlock_58 : decode cX5_openBlock 58 = .ok (.ifCond .eq 7, 3) := by decide +kernel
theorem dX5_openBlock_61 : decode cX5_openBlock 61 = .ok (.iconst 1, 1) := by decide +kernel
theorem dX5_openBlock_62 : decode cX5_openBlock 62 = .ok (.goto 4, 3) := by decide +kernel
theorem dX5_openBlock_65 : decode cX5_openBlock 65 = .ok (.iconst 0, 1) := by decide +kernel
theorem dX5_openBlock_66 : decode cX5_openBlock 66 = .ok (.ireturn, 1) := by decide +kernel
theorem dX5_readHead_0 : decode cX5_readHead 0 = .ok (.aload_n 0, 1) := by decide +kernel
theorem dX5_readHead_1 : decode cX5_readHead 1 = .ok (.getfield 53, 3) := by decide +kernel
theorem dX5_readHead_4 : decode cX5_readHead 4 = .ok (.bipush 32, 2) := by decide +kernel
theorem dX5_readHead_6 : decode cX5_readHead 6 = .ok (.invokevirtual 99, 3) := by decide +kernel
theorem dX5_readHead_9 : decode cX5_readHead 9 = .ok (.lstore_n 1, 1) := by decide +kernel
theorem dX5_readHead_10 : decode cX5_readHead 10 = .ok (.lload_n 1, 1) := by decide +kernel
theorem dX5_readHead_11 : decode cX5_readHead 11 = .ok (.ldc2_w 103, 3) := by decide +kernel
theorem dX5_readHead_14 : decode cX5_readHead 14 = .ok (.lcmp, 1) := by decide +kernel
theorem dX5_readHead_15 : decode cX5_readHead 15 = .ok (.ifCond .ne 9, 3) := by decide +kernel
theorem dX5_readHead_18 : decode cX5_readHead 18 = .ok (.aload_n 0, 1) := by decide +kernel
theorem dX5_readHead_19 : decode cX5_readHead 19 = .ok (.iconst 1, 1) := by decide +kernel
theorem dX5_readHead_20 : decode cX5_readHead 20 = .ok (.invokevirtual 105, 3) := by decide +kernel
theorem dX5_readHead_23 : decode cX5_readHead 23 = .ok (.ireturn, 1) := by decide +kernel
theorem dX5_readHead_24 : decode cX5_readHead 24 = .ok (.aload_n 0, 1) := by decide +kernel
theorem dX5_readHead_25 : decode cX5_readHead 25 = .ok (.getfield 40, 3) := by decide +kernel
theorem dX5_readHead_28 : decode cX5_readHead 28 = .ok (.lload_n 1, 1) := by decide +kernel
theorem dX5_readHead_29 : decode cX5_readHead 29 = .ok (.l2i, 1) := by decide +kernel
theorem dX5_readHead_30 : decode cX5_readHead 30 = .ok (.putfield 122, 3) := by decide +kernel
theorem dX5_readHead_33 : decode cX5_readHead 33 = .ok (.aload_n 0, 1) := by decide +kernel
theorem dX5_readHead_34 : decode cX5_readHead 34 = .ok (.getfield 53, 3) := by decide +kernel
theorem dX5_readHead_37 : decode cX5_readHead 37 = .ok (.invokevirtual 138, 3) := by decide +kernel
theorem dX5_readHead_40 : decode cX5_readHead 40 = .ok (.istore_n 3, 1) := by decide +kernel
theorem dX5_readHead_41 : decode cX5_readHead 41 = .ok (.iload_n 3, 1) := by decide +kernel
theorem dX5_readHead_42 : decode cX5_readHead 42 = .ok (.iconst (-1), 1) := by decide +kernel
theorem dX5_readHead_43 : decode cX5_readHead 43 = .ok (.if_icmp .ne 9, 3) := by decide +kernel
theorem dX5_readHead_46 : decode cX5_readHead 46 = .ok (.aload_n 0, 1) := by decide +kernel
theorem dX5_readHead_47 : decode cX5_readHead 47 = .ok (.iconst 1, 1) := by decide +kernel
theorem dX5_readHead_48 : decode cX5_readHead 48 = .ok (.invokevirtual 105, 3) := by decide +kernel
theorem dX5_readHead_51 : decode cX5_readHead 51 = .ok (.ireturn, 1) := by decide +kernel
theorem dX5_readHead_52 : decode cX5_readHead 52 = .ok (.iload_n 3, 1) := by decide +kernel
theorem dX5_readHead_53 : decode cX5_readHead 53 = .ok (.ifCond .eq 9, 3) := by decide +kernel
theorem dX5_readHead_56 : decode cX5_readHead 56 = .ok (.aload_n 0, 1) := by decide +kernel
theorem dX5_readHead_57 : decode cX5_readHead 57 = .ok (.iconst 4, 1) := by decide +kernel
theorem dX5_readHead_58 : decode cX5_readHead 58 = .ok (.invokevirtual 105, 3) := by decide +kernel
theorem dX5_readHead_61 : decode cX5_readHead 61 = .ok (.ireturn, 1) := by decide +kernel
theorem dX5_readHead_62 : decode cX5_readHead 62 = .ok (.aload_n 0, 1) := by decide +kernel
theorem dX5_readHead_63 : decode cX5_readHead 63 = .ok (.aload_n 0, 1) := by decide +kernel
theorem dX5_readHead_64 : decode cX5_readHead 64 = .ok (.getfield 53, 3) := by decide +kernel
theorem dX5_readHead_67 : decode cX5_readHead 67 = .ok (.bipush 24, 2) := by decide +kernel
theorem dX5_readHead_69 : decode cX5_readHead 69 = .ok (.invokevirtual 99, 3) := by decide +kernel
theorem dX5_readHead_72 : decode cX5_readHead 72 = .ok (.l2i, 1) := by decide +kernel
theorem dX5_readHead_73 : decode cX5_readHead 73 = .ok (.putfield 168, 3) := by decide +kernel
theorem dX5_readHead_76 : decode cX5_readHead 76 = .ok (.aload_n 0, 1) := by decide +kernel
theorem dX5_readHead_77 : decode cX5_readHead 77 = .ok (.getfield 168, 3) := by decide +kernel
theorem dX5_readHead_80 : decode cX5_readHead 80 = .ok (.iconst (-1), 1) := by decide +kernel
theorem dX5_readHead_81 : decode cX5_readHead 81 = .ok (.if_icmp .ne 9, 3) := by decide +kernel
theorem dX5_readHead_84 : decode cX5_readHead 84 = .ok (.aload_n 0, 1) := by decide +kernel
theorem dX5_readHead_85 : decode cX5_readHead 85 = .ok (.iconst 1, 1) := by decide +kernel
theorem dX5_readHead_86 : decode cX5_readHead 86 = .ok (.invokevirtual 105, 3) := by decide +kernel
theorem dX5_readHead_89 : decode cX5_readHead 89 = .ok (.ireturn, 1) := by decide +kernel
theorem dX5_readHead_90 : decode cX5_readHead 90 = .ok (.aload_n 0, 1) := by decide +kernel
theorem dX5_readHead_91 : decode cX5_readHead 91 = .ok (.getfield 40, 3) := by decide +kernel
theorem dX5_readHead_94 : decode cX5_readHead 94 = .ok (.iconst 3, 1) := by decide +kernel
theorem dX5_readHead_95 : decode cX5_readHead 95 = .ok (.aload_n 0, 1) := by decide +kernel
theorem dX5_readHead_96 : decode cX5_readHead 96 = .ok (.getfield 168, 3) := by decide +kernel
theorem dX5_readHead_99 : decode cX5_readHead 99 = .ok (.invokevirtual 115, 3) := by decide +kernel
theorem dX5_readHead_102 : decode cX5_readHead 102 = .ok (.iconst 1, 1) := by decide +kernel
theorem dX5_readHead_103 : decode cX5_readHead 103 = .ok (.ireturn, 1) := by decide +kernel
theorem dX5_readMap_0 : decode cX5_readMap 0 = .ok (.aload_n 0, 1) := by decide +kernel
theorem dX5_readMap_1 : decode cX5_readMap 1 = .ok (.getfield 53, 3) := by decide +kernel
theorem dX5_readMap_4 : decode cX5_readMap 4 = .ok (.bipush 16, 2) := by decide +kernel
theorem dX5_readMap_6 : decode cX5_readMap 6 = .ok (.invokevirtual 99, 3) := by decide +kernel
theorem dX5_readMap_9 : decode cX5_readMap 9 = .ok (.l2i, 1) := by decide +kernel
theorem dX5_readMap_10 : decode cX5_readMap 10 = .ok (.istore_n 1, 1) := by decide +kernel
theorem dX5_readMap_11 : decode cX5_readMap 11 = .ok (.iload_n 1, 1) := by decide +kernel
theorem dX5_readMap_12 : decode cX5_readMap 12 = .ok (.iconst (-1), 1) := by decide +kernel
theorem dX5_readMap_13 : decode cX5_readMap 13 = .ok (.if_icmp .ne 9, 3) := by decide +kernel
theorem dX5_readMap_16 : decode cX5_readMap 16 = .ok (.aload_n 0, 1) := by decide +kernel
theorem dX5_readMap_17 : decode cX5_readMap 17 = .ok (.iconst 1, 1) := by decide +kernel
theorem dX5_readMap_18 : decode cX5_readMap 18 = .ok (.invokevirtual 105, 3) := by decide +kernel
theorem dX5_readMap_21 : decode cX5_readMap 21 = .ok (.ireturn, 1) := by decide +kernel
theorem dX5_readMap_22 : decode cX5_readMap 22 = .ok (.aload_n 0, 1) := by decide +kernel
theorem dX5_readMap_23 : decode cX5_readMap 23 = .ok (.getfield 14, 3) := by decide +kernel
theorem dX5_readMap_26 : decode cX5_readMap 26 = .ok (.invokevirtual 171, 3) := by decide +kernel
theorem dX5_readMap_29 : decode cX5_readMap 29 = .ok (.iconst 0, 1) := by decide +kernel
theorem dX5_readMap_30 : decode cX5_readMap 30 = .ok (.istore_n 2, 1) := by decide +kernel
theorem dX5_readMap_31 : decode cX5_readMap 31 = .ok (.iload_n 2, 1) := by decide +kernel
theorem dX5_readMap_32 : decode cX5_readMap 32 = .ok (.bipush 16, 2) := by decide +kernel
theorem dX5_readMap_34 : decode cX5_readMap 34 = .ok (.if_icmp .ge 88, 3) := by decide +kernel
theorem dX5_readMap_37 : decode cX5_readMap 37 = .ok (.iload_n 1, 1) := by decide +kernel
theorem dX5_readMap_38 : decode cX5_readMap 38 = .ok (.bipush 15, 2) := by decide +kernel
theorem dX5_readMap_40 : decode cX5_readMap 40 = .ok (.iload_n 2, 1) := by decide +kernel
theorem dX5_readMap_41 : decode cX5_readMap 41 = .ok (.isub, 1) := by decide +kernel
theorem dX5_readMap_42 : decode cX5_readMap 42 = .ok (.ishr, 1) := by decide +kernel
theorem dX5_readMap_43 : decode cX5_readMap 43 = .ok (.iconst 1, 1) := by decide +kernel
theorem dX5_readMap_44 : decode cX5_readMap 44 = .ok (.iand, 1) := by decide +kernel
theorem dX5_readMap_45 : decode cX5_readMap 45 = .ok (.ifCond .ne 6, 3) := by decide +kernel
theorem dX5_readMap_48 : decode cX5_readMap 48 = .ok (.goto 68, 3) := by decide +kernel
theorem dX5_readMap_51 : decode cX5_readMap 51 = .ok (.aload_n 0, 1) := by decide +kernel
theorem dX5_readMap_52 : decode cX5_readMap 52 = .ok (.getfield 53, 3) := by decide +kernel
theorem dX5_readMap_55 : decode cX5_readMap 55 = .ok (.bipush 16, 2) := by decide +kernel
theorem dX5_readMap_57 : decode cX5_readMap 57 = .ok (.invokevirtual 99, 3) := by decide +kernel
theorem dX5_readMap_60 : decode cX5_readMap 60 = .ok (.l2i, 1) := by decide +kernel
theorem dX5_readMap_61 : decode cX5_readMap 61 = .ok (.istore_n 3, 1) := by decide +kernel
theorem dX5_readMap_62 : decode cX5_readMap 62 = .ok (.iload_n 3, 1) := by decide +kernel
theorem dX5_readMap_63 : decode cX5_readMap 63 = .ok (.iconst (-1), 1) := by decide +kernel
theorem dX5_readMap_64 : decode cX5_readMap 64 = .ok (.if_icmp .ne 9, 3) := by decide +kernel
theorem dX5_readMap_67 : decode cX5_readMap 67 = .ok (.aload_n 0, 1) := by decide +kernel
theorem dX5_readMap_68 : decode cX5_readMap 68 = .ok (.iconst 1, 1) := by decide +kernel
theorem dX5_readMap_69 : decode cX5_readMap 69 = .ok (.invokevirtual 105, 3) := by decide +kernel
theorem dX5_readMap_72 : decode cX5_readMap 72 = .ok (.ireturn, 1) := by decide +kernel
theorem dX5_readMap_73 : decode cX5_readMap 73 = .ok (.iconst 0, 1) := by decide +kernel
theorem dX5_readMap_74 : decode cX5_readMap 74 = .ok (.istore 4, 2) := by decide +kernel
theorem dX5_readMap_76 : decode cX5_readMap 76 = .ok (.iload 4, 2) := by decide +kernel
theorem dX5_readMap_78 : decode cX5_readMap 78 = .ok (.bipush 16, 2) := by decide +kernel
theorem dX5_readMap_80 : decode cX5_readMap 80 = .ok (.if_icmp .ge 36, 3) := by decide +kernel
theorem dX5_readMap_83 : decode cX5_readMap 83 = .ok (.iload_n 3, 1) := by decide +kernel
theorem dX5_readMap_84 : decode cX5_readMap 84 = .ok (.bipush 15, 2) := by decide +kernel
theorem dX5_readMap_86 : decode cX5_readMap 86 = .ok (.iload 4, 2) := by decide +kernel
theorem dX5_readMap_88 : decode cX5_readMap 88 = .ok (.isub, 1) := by decide +kernel
theorem dX5_readMap_89 : decode cX5_readMap 89 = .ok (.ishr, 1) := by decide +kernel
theorem dX5_readMap_90 : decode cX5_readMap 90 = .ok (.iconst 1, 1) := by decide +kernel
theorem dX5_readMap_91 : decode cX5_readMap 91 = .ok (.iand, 1) := by decide +kernel
theorem dX5_readMap_92 : decode cX5_readMap 92 = .ok (.iconst 1, 1) := by decide +kernel
theorem dX5_readMap_93 : decode cX5_readMap 93 = .ok (.if_icmp .ne 17, 3) := by decide +kernel
theorem dX5_readMap_96 : decode cX5_readMap 96 = .ok (.aload_n 0, 1) := by decide +kernel
theorem dX5_readMap_97 : decode cX5_readMap 97 = .ok (.getfield 14, 3) := by decide +kernel
theorem dX5_readMap_100 : decode cX5_readMap 100 = .ok (.bipush 16, 2) := by decide +kernel
theorem dX5_readMap_102 : decode cX5_readMap 102 = .ok (.iload_n 2, 1) := by decide +kernel
theorem dX5_readMap_103 : decode cX5_readMap 103 = .ok (.imul, 1) := by decide +kernel
theorem dX5_readMap_104 : decode cX5_readMap 104 = .ok (.iload 4, 2) := by decide +kernel
theorem dX5_readMap_106 : decode cX5_readMap 106 = .ok (.iadd, 1) := by decide +kernel
theorem dX5_readMap_107 : decode cX5_readMap 107 = .ok (.invokevirtual 174, 3) := by decide +kernel
theorem dX5_readMap_110 : decode cX5_readMap 110 = .ok (.iinc 4 1, 3) := by decide +kernel
theorem dX5_readMap_113 : decode cX5_readMap 113 = .ok (.goto (-37), 3) := by decide +kernel
theorem dX5_readMap_116 : decode cX5_readMap 116 = .ok (.iinc 2 1, 3) := by decide +kernel
theorem dX5_readMap_119 : decode cX5_readMap 119 = .ok (.goto (-88), 3) := by decide +kernel
theorem dX5_readMap_122 : decode cX5_readMap 122 = .ok (.aload_n 0, 1) := by decide +kernel
theorem dX5_readMap_123 : decode cX5_readMap 123 = .ok (.getfield 40, 3) := by decide +kernel
theorem dX5_readMap_126 : decode cX5_readMap 126 = .ok (.iconst 4, 1) := by decide +kernel
theorem dX5_readMap_127 : decode cX5_readMap 127 = .ok (.aload_n 0, 1) := by decide +kernel
theorem dX5_readMap_128 : decode cX5_readMap 128 = .ok (.getfield 14, 3) := by decide +kernel
theorem dX5_readMap_131 : decode cX5_readMap 131 = .ok (.getfield 177, 3) := by decide +kernel
theorem dX5_readMap_134 : decode cX5_readMap 134 = .ok (.invokevirtual 115, 3) := by decide +kernel
theorem dX5_readMap_137 : decode cX5_readMap 137 = .ok (.aload_n 0, 1) := by decide +kernel
theorem dX5_readMap_138 : decode cX5_readMap 138 = .ok (.getfield 14, 3) := by decide +kernel
theorem dX5_readMap_141 : decode cX5_readMap 141 = .ok (.getfield 177, 3) := by decide +kernel
theorem dX5_readMap_144 : decode cX5_readMap 144 = .ok (.ifCond .gt 11, 3) := by decide +kernel
theorem dX5_readMap_147 : decode cX5_readMap 147 = .ok (.aload_n 0, 1) := by decide +kernel
theorem dX5_readMap_148 : decode cX5_readMap 148 = .ok (.iconst 5, 1) := by decide +kernel
theorem dX5_readMap_149 : decode cX5_readMap 149 = .ok (.invokevirtual 105, 3) := by decide +kernel
theorem dX5_readMap_152 : decode cX5_readMap 152 = .ok (.ifCond .eq 7, 3) := by decide +kernel
theorem dX5_readMap_155 : decode cX5_readMap 155 = .ok (.iconst 1, 1) := by decide +kernel
theorem dX5_readMap_156 : decode cX5_readMap 156 = .ok (.goto 4, 3) := by decide +kernel
theorem dX5_readMap_159 : decode cX5_readMap 159 = .ok (.iconst 0, 1) := by decide +kernel
theorem dX5_readMap_160 : decode cX5_readMap 160 = .ok (.ireturn, 1) := by decide +kernel
theorem dX5_readChoices_0 : decode cX5_readChoices 0 = .ok (.aload_n 1, 1) := by decide +kernel
theorem dX5_readChoices_1 : decode cX5_readChoices 1 = .ok (.aload_n 0, 1) := by decide +kernel
theorem dX5_readChoices_2 : decode cX5_readChoices 2 = .ok (.getfield 14, 3) := by decide +kernel
theorem dX5_readChoices_5 : decode cX5_readChoices 5 = .ok (.getfield 177, 3) := by decide +kernel
theorem dX5_readChoices_8 : decode cX5_readChoices 8 = .ok (.iconst 2, 1) := by decide +kernel
theorem dX5_readChoices_9 : decode cX5_readChoices 9 = .ok (.iadd, 1) := by decide +kernel
theorem dX5_readChoices_10 : decode cX5_readChoices 10 = .ok (.putfield 180, 3) := by decide +kernel
theorem dX5_readChoices_13 : decode cX5_readChoices 13 = .ok (.aload_n 1, 1) := by decide +kernel
theorem dX5_readChoices_14 : decode cX5_readChoices 14 = .ok (.iconst 0, 1) := by decide +kernel
theorem dX5_readChoices_15 : decode cX5_readChoices 15 = .ok (.putfield 185, 3) := by decide +kernel
theorem dX5_readChoices_18 : decode cX5_readChoices 18 = .ok (.aload_n 0, 1) := by decide +kernel
theorem dX5_readChoices_19 : decode cX5_readChoices 19 = .ok (.getfield 53, 3) := by decide +kernel
theorem dX5_readChoices_22 : decode cX5_readChoices 22 = .ok (.iconst 3, 1) := by decide +kernel
theorem dX5_readChoices_23 : decode cX5_readChoices 23 = .ok (.invokevirtual 99, 3) := by decide +kernel
theorem dX5_readChoices_26 : decode cX5_readChoices 26 = .ok (.l2i, 1) := by decide +kernel
theorem dX5_readChoices_27 : decode cX5_readChoices 27 = .ok (.istore_n 2, 1) := by decide +kernel
theorem dX5_readChoices_28 : decode cX5_readChoices 28 = .ok (.iload_n 2, 1) := by decide +kernel
theorem dX5_readChoices_29 : decode cX5_readChoices 29 = .ok (.iconst (-1), 1) := by decide +kernel
theorem dX5_readChoices_30 : decode cX5_readChoices 30 = .ok (.if_icmp .ne 9, 3) := by decide +kernel
theorem dX5_readChoices_33 : decode cX5_readChoices 33 = .ok (.aload_n 0, 1) := by decide +kernel
theorem dX5_readChoices_34 : decode cX5_readChoices 34 = .ok (.iconst 1, 1) := by decide +kernel
theorem dX5_readChoices_35 : decode cX5_readChoices 35 = .ok (.invokevirtual 105, 3) := by decide +kernel
theorem dX5_readChoices_38 : decode cX5_readChoices 38 = .ok (.ireturn, 1) := by decide +kernel
theorem dX5_readChoices_39 : decode cX5_readChoices 39 = .ok (.iload_n 2, 1) := by decide +kernel
theorem dX5_readChoices_40 : decode cX5_readChoices 40 = .ok (.iconst 2, 1) := by decide +kernel
theorem dX5_readChoices_41 : decode cX5_readChoices 41 = .ok (.if_icmp .lt 9, 3) := by decide +kernel
theorem dX5_readChoices_44 : decode cX5_readChoices 44 = .ok (.iload_n 2, 1) := by decide +kernel
theorem dX5_readChoices_45 : decode cX5_readChoices 45 = .ok (.bipush 6, 2) := by decide +kernel
theorem dX5_readChoices_47 : decode cX5_readChoices 47 = .ok (.if_icmp .le 10, 3) := by decide +kernel
theorem dX5_readChoices_50 : decode cX5_readChoices 50 = .ok (.aload_n 0, 1) := by decide +kernel
theorem dX5_readChoices_51 : decode cX5_readChoices 51 = .ok (.bipush 6, 2) := by decide +kernel
theorem dX5_readChoices_53 : decode cX5_readChoices 53 = .ok (.invokevirtual 105, 3) := by decide +kernel
theorem dX5_readChoices_56 : decode cX5_readChoices 56 = .ok (.ireturn, 1) := by decide +kernel
theorem dX5_readChoices_57 : decode cX5_readChoices 57 = .ok (.aload_n 0, 1) := by decide +kernel
theorem dX5_readChoices_58 : decode cX5_readChoices 58 = .ok (.getfield 53, 3) := by decide +kernel
theorem dX5_readChoices_61 : decode cX5_readChoices 61 = .ok (.bipush 15, 2) := by decide +kernel
theorem dX5_readChoices_63 : decode cX5_readChoices 63 = .ok (.invokevirtual 99, 3) := by decide +kernel
theorem dX5_readChoices_66 : decode cX5_readChoices 66 = .ok (.l2i, 1) := by decide +kernel
theorem dX5_readChoices_67 : decode cX5_readChoices 67 = .ok (.istore_n 3, 1) := by decide +kernel
theorem dX5_readChoices_68 : decode cX5_readChoices 68 = .ok (.iload_n 3, 1) := by decide +kernel
theorem dX5_readChoices_69 : decode cX5_readChoices 69 = .ok (.iconst (-1), 1) := by decide +kernel
theorem dX5_readChoices_70 : decode cX5_readChoices 70 = .ok (.if_icmp .ne 9, 3) := by decide +kernel
theorem dX5_readChoices_73 : decode cX5_readChoices 73 = .ok (.aload_n 0, 1) := by decide +kernel
theorem dX5_readChoices_74 : decode cX5_readChoices 74 = .ok (.iconst 1, 1) := by decide +kernel
theorem dX5_readChoices_75 : decode cX5_readChoices 75 = .ok (.invokevirtual 105, 3) := by decide +kernel
theorem dX5_readChoices_78 : decode cX5_readChoices 78 = .ok (.ireturn, 1) := by decide +kernel
theorem dX5_readChoices_79 : decode cX5_readChoices 79 = .ok (.iload_n 3, 1) := by decide +kernel
theorem dX5_readChoices_80 : decode cX5_readChoices 80 = .ok (.ifCond .ne 10, 3) := by decide +kernel
theorem dX5_readChoices_83 : decode cX5_readChoices 83 = .ok (.aload_n 0, 1) := by decide +kernel
theorem dX5_readChoices_84 : decode cX5_readChoices 84 = .ok (.bipush 6, 2) := by decide +kernel
theorem dX5_readChoices_86 : decode cX5_readChoices 86 = .ok (.invokevirtual 105, 3) := by decide +kernel
theorem dX5_readChoices_89 : decode cX5_readChoices 89 = .ok (.ireturn, 1) := by decide +kernel
theorem dX5_readChoices_90 : decode cX5_readChoices 90 = .ok (.aload_n 1, 1) := by decide +kernel
theorem dX5_readChoices_91 : decode cX5_readChoices 91 = .ok (.iload_n 2, 1) := by decide +kernel
theorem dX5_readChoices_92 : decode cX5_readChoices 92 = .ok (.putfield 185, 3) := by decide +kernel
theorem dX5_readChoices_95 : decode cX5_readChoices 95 = .ok (.aload_n 1, 1) := by decide +kernel
theorem dX5_readChoices_96 : decode cX5_readChoices 96 = .ok (.iload_n 3, 1) := by decide +kernel
theorem dX5_readChoices_97 : decode cX5_readChoices 97 = .ok (.putfield 188, 3) := by decide +kernel
theorem dX5_readChoices_100 : decode cX5_readChoices 100 = .ok (.aload_n 0, 1) := by decide +kernel
theorem dX5_readChoices_101 : decode cX5_readChoices 101 = .ok (.getfield 40, 3) := by decide +kernel
theorem dX5_readChoices_104 : decode cX5_readChoices 104 = .ok (.iconst 5, 1) := by decide +kernel
theorem dX5_readChoices_105 : decode cX5_readChoices 105 = .ok (.iload_n 2, 1) := by decide +kernel
theorem dX5_readChoices_106 : decode cX5_readChoices 106 = .ok (.invokevirtual 115, 3) := by decide +kernel
theorem dX5_readChoices_109 : decode cX5_readChoices 109 = .ok (.aload_n 0, 1) := by decide +kernel
theorem dX5_readChoices_110 : decode cX5_readChoices 110 = .ok (.getfield 40, 3) := by decide +kernel
theorem dX5_readChoices_113 : decode cX5_readChoices 113 = .ok (.bipush 6, 2) := by decide +kernel
theorem dX5_readChoices_115 : decode cX5_readChoices 115 = .ok (.iload_n 3, 1) := by decide +kernel
theorem dX5_readChoices_116 : decode cX5_readChoices 116 = .ok (.invokevirtual 115, 3) := by decide +kernel
theorem dX5_readChoices_119 : decode cX5_readChoices 119 = .ok (.aload_n 0, 1) := by decide +kernel
theorem dX5_readChoices_120 : decode cX5_readChoices 120 = .ok (.getfield 20, 3) := by decide +kernel
theorem dX5_readChoices_123 : decode cX5_readChoices 123 = .ok (.iload_n 2, 1) := by decide +kernel
theorem dX5_readChoices_124 : decode cX5_readChoices 124 = .ok (.invokevirtual 191, 3) := by decide +kernel
theorem dX5_readChoices_127 : decode cX5_readChoices 127 = .ok (.iconst 0, 1) := by decide +kernel
theorem dX5_readChoices_128 : decode cX5_readChoices 128 = .ok (.istore 4, 2) := by decide +kernel
theorem dX5_readChoices_130 : decode cX5_readChoices 130 = .ok (.iload 4, 2) := by decide +kernel
theorem dX5_readChoices_132 : decode cX5_readChoices 132 = .ok (.iload_n 3, 1) := by decide +kernel
theorem dX5_readChoices_133 : decode cX5_readChoices 133 = .ok (.if_icmp .ge 21, 3) := by decide +kernel
theorem dX5_readChoices_136 : decode cX5_readChoices 136 = .ok (.aload_n 0, 1) := by decide +kernel
theorem dX5_readChoices_137 : decode cX5_readChoices 137 = .ok (.aload_n 1, 1) := by decide +kernel
theorem dX5_readChoices_138 : decode cX5_readChoices 138 = .ok (.iload 4, 2) := by decide +kernel
theorem dX5_readChoices_140 : decode cX5_readChoices 140 = .ok (.invokevirtual 192, 3) := by decide +kernel
theorem dX5_readChoices_143 : decode cX5_readChoices 143 = .ok (.ifCond .ne 5, 3) := by decide +kernel
theorem dX5_readChoices_146 : decode cX5_readChoices 146 = .ok (.iconst 0, 1) := by decide +kernel
theorem dX5_readChoices_147 : decode cX5_readChoices 147 = .ok (.ireturn, 1) := by decide +kernel
theorem dX5_readChoices_148 : decode cX5_readChoices 148 = .ok (.iinc 4 1, 3) := by decide +kernel
theorem dX5_readChoices_151 : decode cX5_readChoices 151 = .ok (.goto (-21), 3) := by decide +kernel
theorem dX5_readChoices_154 : decode cX5_readChoices 154 = .ok (.iconst 1, 1) := by decide +kernel
theorem dX5_readChoices_155 : decode cX5_readChoices 155 = .ok (.ireturn, 1) := by decide +kernel
theorem dX5_readChoice_0 : decode cX5_readChoice 0 = .ok (.iconst 0, 1) := by decide +kernel
theorem dX5_readChoice_1 : decode cX5_readChoice 1 = .ok (.istore_n 3, 1) := by decide +kernel
theorem dX5_readChoice_2 : decode cX5_readChoice 2 = .ok (.iload_n 3, 1) := by decide +kernel
theorem dX5_readChoice_3 : decode cX5_readChoice 3 = .ok (.aload_n 1, 1) := by decide +kernel
theorem dX5_readChoice_4 : decode cX5_readChoice 4 = .ok (.getfield 185, 3) := by decide +kernel
theorem dX5_readChoice_7 : decode cX5_readChoice 7 = .ok (.if_icmp .ge 50, 3) := by decide +kernel
theorem dX5_readChoice_10 : decode cX5_readChoice 10 = .ok (.aload_n 0, 1) := by decide +kernel
theorem dX5_readChoice_11 : decode cX5_readChoice 11 = .ok (.getfield 53, 3) := by decide +kernel
theorem dX5_readChoice_14 : decode cX5_readChoice 14 = .ok (.invokevirtual 138, 3) := by decide +kernel
theorem dX5_readChoice_17 : decode cX5_readChoice 17 = .ok (.istore 4, 2) := by decide +kernel
theorem dX5_readChoice_19 : decode cX5_readChoice 19 = .ok (.iload 4, 2) := by decide +kernel
theorem dX5_readChoice_21 : decode cX5_readChoice 21 = .ok (.iconst (-1), 1) := by decide +kernel
theorem dX5_readChoice_22 : decode cX5_readChoice 22 = .ok (.if_icmp .ne 9, 3) := by decide +kernel
theorem dX5_readChoice_25 : decode cX5_readChoice 25 = .ok (.aload_n 0, 1) := by decide +kernel
theorem dX5_readChoice_26 : decode cX5_readChoice 26 = .ok (.iconst 1, 1) := by decide +kernel
theorem dX5_readChoice_27 : decode cX5_readChoice 27 = .ok (.invokevirtual 105, 3) := by decide +kernel
theorem dX5_readChoice_30 : decode cX5_readChoice 30 = .ok (.ireturn, 1) := by decide +kernel
theorem dX5_readChoice_31 : decode cX5_readChoice 31 = .ok (.iload 4, 2) := by decide +kernel
theorem dX5_readChoice_33 : decode cX5_readChoice 33 = .ok (.ifCond .ne 18, 3) := by decide +kernel
theorem dX5_readChoice_36 : decode cX5_readChoice 36 = .ok (.aload_n 1, 1) := by decide +kernel
theorem dX5_readChoice_37 : decode cX5_readChoice 37 = .ok (.iload_n 2, 1) := by decide +kernel
theorem dX5_readChoice_38 : decode cX5_readChoice 38 = .ok (.aload_n 0, 1) := by decide +kernel
theorem dX5_readChoice_39 : decode cX5_readChoice 39 = .ok (.getfield 20, 3) := by decide +kernel
theorem dX5_readChoice_42 : decode cX5_readChoice 42 = .ok (.iload_n 3, 1) := by decide +kernel
theorem dX5_readChoice_43 : decode cX5_readChoice 43 = .ok (.invokevirtual 195, 3) := by decide +kernel
theorem dX5_readChoice_46 : decode cX5_readChoice 46 = .ok (.invokevirtual 199, 3) := by decide +kernel
theorem dX5_readChoice_49 : decode cX5_readChoice 49 = .ok (.iconst 1, 1) := by decide +kernel
theorem dX5_readChoice_50 : decode cX5_readChoice 50 = .ok (.ireturn, 1) := by decide +kernel
theorem dX5_readChoice_51 : decode cX5_readChoice 51 = .ok (.iinc 3 1, 3) := by decide +kernel
theorem dX5_readChoice_54 : decode cX5_readChoice 54 = .ok (.goto (-52), 3) := by decide +kernel
theorem dX5_readChoice_57 : decode cX5_readChoice 57 = .ok (.aload_n 0, 1) := by decide +kernel
theorem dX5_readChoice_58 : decode cX5_readChoice 58 = .ok (.bipush 6, 2) := by decide +kernel
theorem dX5_readChoice_60 : decode cX5_readChoice 60 = .ok (.invokevirtual 105, 3) := by decide +kernel
theorem dX5_readChoice_63 : decode cX5_readChoice 63 = .ok (.ireturn, 1) := by decide +kernel
theorem dX5_readLengths_0 : decode cX5_readLengths 0 = .ok (.iconst 0, 1) := by decide +kernel
theorem dX5_readLengths_1 : decode cX5_readLengths 1 = .ok (.istore_n 2, 1) := by decide +kernel
theorem dX5_readLengths_2 : decode cX5_readLengths 2 = .ok (.iload_n 2, 1) := by decide +kernel
theorem dX5_readLengths_3 : decode cX5_readLengths 3 = .ok (.aload_n 1, 1) := by decide +kernel
theorem dX5_readLengths_4 : decode cX5_readLengths 4 = .ok (.getfield 185, 3) := by decide +kernel
theorem dX5_readLengths_7 : decode cX5_readLengths 7 = .ok (.if_icmp .ge 104, 3) := by decide +kernel
theorem dX5_readLengths_10 : decode cX5_readLengths 10 = .ok (.aload_n 0, 1) := by decide +kernel
theorem dX5_readLengths_11 : decode cX5_readLengths 11 = .ok (.getfield 53, 3) := by decide +kernel
theorem dX5_readLengths_14 : decode cX5_readLengths 14 = .ok (.iconst 5, 1) := by decide +kernel
theorem dX5_readLengths_15 : decode cX5_readLengths 15 = .ok (.invokevirtual 99, 3) := by decide +kernel
theorem dX5_readLengths_18 : decode cX5_readLengths 18 = .ok (.l2i, 1) := by decide +kernel
theorem dX5_readLengths_19 : decode cX5_readLengths 19 = .ok (.istore_n 3, 1) := by decide +kernel
theorem dX5_readLengths_20 : decode cX5_readLengths 20 = .ok (.iload_n 3, 1) := by decide +kernel
theorem dX5_readLengths_21 : decode cX5_readLengths 21 = .ok (.iconst (-1), 1) := by decide +kernel
theorem dX5_readLengths_22 : decode cX5_readLengths 22 = .ok (.if_icmp .ne 9, 3) := by decide +kernel
theorem dX5_readLengths_25 : decode cX5_readLengths 25 = .ok (.aload_n 0, 1) := by decide +kernel
theorem dX5_readLengths_26 : decode cX5_readLengths 26 = .ok (.iconst 1, 1) := by decide +kernel
theorem dX5_readLengths_27 : decode cX5_readLengths 27 = .ok (.invokevirtual 105, 3) := by decide +kernel
theorem dX5_readLengths_30 : decode cX5_readLengths 30 = .ok (.ireturn, 1) := by decide +kernel
theorem dX5_readLengths_31 : decode cX5_readLengths 31 = .ok (.iload_n 3, 1) := by decide +kernel
theorem dX5_readLengths_32 : decode cX5_readLengths 32 = .ok (.invokestatic 202, 3) := by decide +kernel
theorem dX5_readLengths_35 : decode cX5_readLengths 35 = .ok (.ifCond .ne 10, 3) := by decide +kernel
theorem dX5_readLengths_38 : decode cX5_readLengths 38 = .ok (.aload_n 0, 1) := by decide +kernel
theorem dX5_readLengths_39 : decode cX5_readLengths 39 = .ok (.bipush 7, 2) := by decide +kernel
theorem dX5_readLengths_41 : decode cX5_readLengths 41 = .ok (.invokevirtual 105, 3) := by decide +kernel
theorem dX5_readLengths_44 : decode cX5_readLengths 44 = .ok (.ireturn, 1) := by decide +kernel
theorem dX5_readLengths_45 : decode cX5_readLengths 45 = .ok (.iconst 0, 1) := by decide +kernel
theorem dX5_readLengths_46 : decode cX5_readLengths 46 = .ok (.istore 4, 2) := by decide +kernel
theorem dX5_readLengths_48 : decode cX5_readLengths 48 = .ok (.iload 4, 2) := by decide +kernel
theorem dX5_readLengths_50 : decode cX5_readLengths 50 = .ok (.aload_n 1, 1) := by decide +kernel
theorem dX5_readLengths_51 : decode cX5_readLengths 51 = .ok (.getfield 180, 3) := by decide +kernel
theorem dX5_readLengths_54 : decode cX5_readLengths 54 = .ok (.if_icmp .ge 32, 3) := by decide +kernel
theorem dX5_readLengths_57 : decode cX5_readLengths 57 = .ok (.aload_n 0, 1) := by decide +kernel
theorem dX5_readLengths_58 : decode cX5_readLengths 58 = .ok (.iload_n 3, 1) := by decide +kernel
theorem dX5_readLengths_59 : decode cX5_readLengths 59 = .ok (.invokevirtual 205, 3) := by decide +kernel
theorem dX5_readLengths_62 : decode cX5_readLengths 62 = .ok (.istore_n 3, 1) := by decide +kernel
theorem dX5_readLengths_63 : decode cX5_readLengths 63 = .ok (.iload_n 3, 1) := by decide +kernel
theorem dX5_readLengths_64 : decode cX5_readLengths 64 = .ok (.iconst (-1), 1) := by decide +kernel
theorem dX5_readLengths_65 : decode cX5_readLengths 65 = .ok (.if_icmp .ne 5, 3) := by decide +kernel
theorem dX5_readLengths_68 : decode cX5_readLengths 68 = .ok (.iconst 0, 1) := by decide +kernel
theorem dX5_readLengths_69 : decode cX5_readLengths 69 = .ok (.ireturn, 1) := by decide +kernel
theorem dX5_readLengths_70 : decode cX5_readLengths 70 = .ok (.aload_n 1, 1) := by decide +kernel
theorem dX5_readLengths_71 : decode cX5_readLengths 71 = .ok (.getfield 208, 3) := by decide +kernel
theorem dX5_readLengths_74 : decode cX5_readLengths 74 = .ok (.iload_n 2, 1) := by decide +kernel
theorem dX5_readLengths_75 : decode cX5_readLengths 75 = .ok (.aaload, 1) := by decide +kernel
theorem dX5_readLengths_76 : decode cX5_readLengths 76 = .ok (.iload 4, 2) := by decide +kernel
theorem dX5_readLengths_78 : decode cX5_readLengths 78 = .ok (.iload_n 3, 1) := by decide +kernel
theorem dX5_readLengths_79 : decode cX5_readLengths 79 = .ok (.iastore, 1) := by decide +kernel
theorem dX5_readLengths_80 : decode cX5_readLengths 80 = .ok (.iinc 4 1, 3) := by decide +kernel
theorem dX5_readLengths_83 : decode cX5_readLengths 83 = .ok (.goto (-35), 3) := by decide +kernel
theorem dX5_readLengths_86 : decode cX5_readLengths 86 = .ok (.aload_n 0, 1) := by decide +kernel
theorem dX5_readLengths_87 : decode cX5_readLengths 87 = .ok (.getfield 25, 3) := by decide +kernel
theorem dX5_readLengths_90 : decode cX5_readLengths 90 = .ok (.iload_n 2, 1) := by decide +kernel
theorem dX5_readLengths_91 : decode cX5_readLengths 91 = .ok (.aaload, 1) := by decide +kernel
theorem dX5_readLengths_92 : decode cX5_readLengths 92 = .ok (.aload_n 1, 1) := by decide +kernel
theorem dX5_readLengths_93 : decode cX5_readLengths 93 = .ok (.getfield 208, 3) := by decide +kernel
theorem dX5_readLengths_96 : decode cX5_readLengths 96 = .ok (.iload_n 2, 1) := by decide +kernel
theorem dX5_readLengths_97 : decode cX5_readLengths 97 = .ok (.aaload, 1) := by decide +kernel
theorem dX5_readLengths_98 : decode cX5_readLengths 98 = .ok (.aload_n 1, 1) := by decide +kernel
theorem dX5_readLengths_99 : decode cX5_readLengths 99 = .ok (.getfield 180, 3) := by decide +kernel
theorem dX5_readLengths_102 : decode cX5_readLengths 102 = .ok (.invokevirtual 212, 3) := by decide +kernel
theorem dX5_readLengths_105 : decode cX5_readLengths 105 = .ok (.iinc 2 1, 3) := by decide +kernel
theorem dX5_readLengths_108 : decode cX5_readLengths 108 = .ok (.goto (-106), 3) := by decide +kernel
theorem dX5_readLengths_111 : decode cX5_readLengths 111 = .ok (.iconst 1, 1) := by decide +kernel
theorem dX5_readLengths_112 : decode cX5_readLengths 112 = .ok (.ireturn, 1) := by decide +kernel
theorem dX5_changedLength_0 : decode cX5_changedLength 0 = .ok (.iload_n 1, 1) := by decide +kernel
theorem dX5_changedLength_1 : decode cX5_changedLength 1 = .ok (.istore_n 2, 1) := by decide +kernel
theorem dX5_changedLength_2 : decode cX5_changedLength 2 = .ok (.iconst 0, 1) := by decide +kernel
theorem dX5_changedLength_3 : decode cX5_changedLength 3 = .ok (.istore_n 3, 1) := by decide +kernel
theorem dX5_changedLength_4 : decode cX5_changedLength 4 = .ok (.iload_n 3, 1) := by decide +kernel
theorem dX5_changedLength_5 : decode cX5_changedLength 5 = .ok (.sipush 12000, 3) := by decide +kernel
theorem dX5_changedLength_8 : decode cX5_changedLength 8 = .ok (.if_icmp .ge 87, 3) := by decide +kernel
theorem dX5_changedLength_11 : decode cX5_changedLength 11 = .ok (.aload_n 0, 1) := by decide +kernel
theorem dX5_changedLength_12 : decode cX5_changedLength 12 = .ok (.getfield 53, 3) := by decide +kernel
theorem dX5_changedLength_15 : decode cX5_changedLength 15 = .ok (.invokevirtual 138, 3) := by decide +kernel
theorem dX5_changedLength_18 : decode cX5_changedLength 18 = .ok (.istore 4, 2) := by decide +kernel
theorem dX5_changedLength_20 : decode cX5_changedLength 20 = .ok (.iload 4, 2) := by decide +kernel
theorem dX5_changedLength_22 : decode cX5_changedLength 22 = .ok (.ifCond .ne 5, 3) := by decide +kernel
theorem dX5_changedLength_25 : decode cX5_changedLength 25 = .ok (.iload_n 2, 1) := by decide +kernel
theorem dX5_changedLength_26 : decode cX5_changedLength 26 = .ok (.ireturn, 1) := by decide +kernel
theorem dX5_changedLength_27 : decode cX5_changedLength 27 = .ok (.iload 4, 2) := by decide +kernel
theorem dX5_changedLength_29 : decode cX5_changedLength 29 = .ok (.iconst (-1), 1) := by decide +kernel
theorem dX5_changedLength_30 : decode cX5_changedLength 30 = .ok (.if_icmp .ne 7, 3) := by decide +kernel
theorem dX5_changedLength_33 : decode cX5_changedLength 33 = .ok (.iconst (-1), 1) := by decide +kernel
theorem dX5_changedLength_34 : decode cX5_changedLength 34 = .ok (.goto 10, 3) := by decide +kernel
theorem dX5_changedLength_37 : decode cX5_changedLength 37 = .ok (.aload_n 0, 1) := by decide +kernel
theorem dX5_changedLength_38 : decode cX5_changedLength 38 = .ok (.getfield 53, 3) := by decide +kernel
theorem dX5_changedLength_41 : decode cX5_changedLength 41 = .ok (.invokevirtual 138, 3) := by decide +kernel
theorem dX5_changedLength_44 : decode cX5_changedLength 44 = .ok (.istore 5, 2) := by decide +kernel
theorem dX5_changedLength_46 : decode cX5_changedLength 46 = .ok (.iload 5, 2) := by decide +kernel
theorem dX5_changedLength_48 : decode cX5_changedLength 48 = .ok (.iconst (-1), 1) := by decide +kernel
theorem dX5_changedLength_49 : decode cX5_changedLength 49 = .ok (.if_icmp .ne 11, 3) := by decide +kernel
theorem dX5_changedLength_52 : decode cX5_changedLength 52 = .ok (.aload_n 0, 1) := by decide +kernel
theorem dX5_changedLength_53 : decode cX5_changedLength 53 = .ok (.iconst 1, 1) := by decide +kernel
theorem dX5_changedLength_54 : decode cX5_changedLength 54 = .ok (.invokevirtual 105, 3) := by decide +kernel
theorem dX5_changedLength_57 : decode cX5_changedLength 57 = .ok (.pop, 1) := by decide +kernel
theorem dX5_changedLength_58 : decode cX5_changedLength 58 = .ok (.iconst (-1), 1) := by decide +kernel
theorem dX5_changedLength_59 : decode cX5_changedLength 59 = .ok (.ireturn, 1) := by decide +kernel
theorem dX5_changedLength_60 : decode cX5_changedLength 60 = .ok (.iload_n 2, 1) := by decide +kernel
theorem dX5_changedLength_61 : decode cX5_changedLength 61 = .ok (.iload 5, 2) := by decide +kernel
theorem dX5_changedLength_63 : decode cX5_changedLength 63 = .ok (.ifCond .ne 7, 3) := by decide +kernel
theorem dX5_changedLength_66 : decode cX5_changedLength 66 = .ok (.iconst 1, 1) := by decide +kernel
theorem dX5_changedLength_67 : decode cX5_changedLength 67 = .ok (.goto 4, 3) := by decide +kernel
theorem dX5_changedLength_70 : decode cX5_changedLength 70 = .ok (.iconst (-1), 1) := by decide +kernel
theorem dX5_changedLength_71 : decode cX5_changedLength 71 = .ok (.iadd, 1) := by decide +kernel
theorem dX5_changedLength_72 : decode cX5_changedLength 72 = .ok (.istore_n 2, 1) := by decide +kernel
theorem dX5_changedLength_73 : decode cX5_changedLength 73 = .ok (.iload_n 2, 1) := by decide +kernel
theorem dX5_changedLength_74 : decode cX5_changedLength 74 = .ok (.invokestatic 202, 3) := by decide +kernel
theorem dX5_changedLength_77 : decode cX5_changedLength 77 = .ok (.ifCond .ne 12, 3) := by decide +kernel
theorem dX5_changedLength_80 : decode cX5_changedLength 80 = .ok (.aload_n 0, 1) := by decide +kernel
theorem dX5_changedLength_81 : decode cX5_changedLength 81 = .ok (.bipush 7, 2) := by decide +kernel
theorem dX5_changedLength_83 : decode cX5_changedLength 83 = .ok (.invokevirtual 105, 3) := by decide +kernel
theorem dX5_changedLength_86 : decode cX5_changedLength 86 = .ok (.pop, 1) := by decide +kernel
theorem dX5_changedLength_87 : decode cX5_changedLength 87 = .ok (.iconst (-1), 1) := by decide +kernel
theorem dX5_changedLength_88 : decode cX5_changedLength 88 = .ok (.ireturn, 1) := by decide +kernel
theorem dX5_changedLength_89 : decode cX5_changedLength 89 = .ok (.iinc 3 1, 3) := by decide +kernel
theorem dX5_changedLength_92 : decode cX5_changedLength 92 = .ok (.goto (-88), 3) := by decide +kernel
theorem dX5_changedLength_95 : decode cX5_changedLength 95 = .ok (.iload_n 2, 1) := by decide +kernel
theorem dX5_changedLength_96 : decode cX5_changedLength 96 = .ok (.ireturn, 1) := by decide +kernel
theorem dX5_isLength_0 : decode cX5_isLength 0 = .ok (.iload_n 0, 1) := by decide +kernel
theorem dX5_isLength_1 : decode cX5_isLength 1 = .ok (.iconst 1, 1) := by decide +kernel
theorem dX5_isLength_2 : decode cX5_isLength 2 = .ok (.if_icmp .lt 13, 3) := by decide +kernel
theorem dX5_isLength_5 : decode cX5_isLength 5 = .ok (.iload_n 0, 1) := by decide +kernel
theorem dX5_isLength_6 : decode cX5_isLength 6 = .ok (.bipush 20, 2) := by decide +kernel
theorem dX5_isLength_8 : decode cX5_isLength 8 = .ok (.if_icmp .gt 7, 3) := by decide +kernel
theorem dX5_isLength_11 : decode cX5_isLength 11 = .ok (.iconst 1, 1) := by decide +kernel
theorem dX5_isLength_12 : decode cX5_isLength 12 = .ok (.goto 4, 3) := by decide +kernel
theorem dX5_isLength_15 : decode cX5_isLength 15 = .ok (.iconst 0, 1) := by decide +kernel
theorem dX5_isLength_16 : decode cX5_isLength 16 = .ok (.ireturn, 1) := by decide +kernel
theorem dX5_readNumbers_0 : decode cX5_readNumbers 0 = .ok (.aload_n 0, 1) := by decide +kernel
theorem dX5_readNumbers_1 : decode cX5_readNumbers 1 = .ok (.iconst 0, 1) := by decide +kernel
theorem dX5_readNumbers_2 : decode cX5_readNumbers 2 = .ok (.putfield 216, 3) := by decide +kernel
theorem dX5_readNumbers_5 : decode cX5_readNumbers 5 = .ok (.iconst 0, 1) := by decide +kernel
theorem dX5_readNumbers_6 : decode cX5_readNumbers 6 = .ok (.istore_n 3, 1) := by decide +kernel
theorem dX5_readNumbers_7 : decode cX5_readNumbers 7 = .ok (.iconst 1, 1) := by decide +kernel
theorem dX5_readNumbers_8 : decode cX5_readNumbers 8 = .ok (.istore 4, 2) := by decide +kernel
theorem dX5_readNumbers_10 : decode cX5_readNumbers 10 = .ok (.iconst 0, 1) := by decide +kernel
theorem dX5_readNumbers_11 : decode cX5_readNumbers 11 = .ok (.istore 5, 2) := by decide +kernel
theorem dX5_readNumbers_13 : decode cX5_readNumbers 13 = .ok (.iload 5, 2) := by decide +kernel
theorem dX5_readNumbers_15 : decode cX5_readNumbers 15 = .ok (.sipush 12000, 3) := by decide +kernel
theorem dX5_readNumbers_18 : decode cX5_readNumbers 18 = .ok (.if_icmp .ge 193, 3) := by decide +kernel
theorem dX5_readNumbers_21 : decode cX5_readNumbers 21 = .ok (.iload 5, 2) := by decide +kernel
theorem dX5_readNumbers_23 : decode cX5_readNumbers 23 = .ok (.bipush 50, 2) := by decide +kernel
theorem dX5_readNumbers_25 : decode cX5_readNumbers 25 = .ok (.idiv, 1) := by decide +kernel
theorem dX5_readNumbers_26 : decode cX5_readNumbers 26 = .ok (.aload_n 1, 1) := by decide +kernel
theorem dX5_readNumbers_27 : decode cX5_readNumbers 27 = .ok (.getfield 188, 3) := by decide +kernel
theorem dX5_readNumbers_30 : decode cX5_readNumbers 30 = .ok (.if_icmp .lt 10, 3) := by decide +kernel
theorem dX5_readNumbers_33 : decode cX5_readNumbers 33 = .ok (.aload_n 0, 1) := by decide +kernel
theorem dX5_readNumbers_34 : decode cX5_readNumbers 34 = .ok (.bipush 8, 2) := by decide +kernel
theorem dX5_readNumbers_36 : decode cX5_readNumbers 36 = .ok (.invokevirtual 105, 3) := by decide +kernel
theorem dX5_readNumbers_39 : decode cX5_readNumbers 39 = .ok (.ireturn, 1) := by decide +kernel
theorem dX5_readNumbers_40 : decode cX5_readNumbers 40 = .ok (.aload_n 0, 1) := by decide +kernel
theorem dX5_readNumbers_41 : decode cX5_readNumbers 41 = .ok (.getfield 25, 3) := by decide +kernel
theorem dX5_readNumbers_44 : decode cX5_readNumbers 44 = .ok (.aload_n 1, 1) := by decide +kernel
theorem dX5_readNumbers_45 : decode cX5_readNumbers 45 = .ok (.iload 5, 2) := by decide +kernel
theorem dX5_readNumbers_47 : decode cX5_readNumbers 47 = .ok (.bipush 50, 2) := by decide +kernel
theorem dX5_readNumbers_49 : decode cX5_readNumbers 49 = .ok (.idiv, 1) := by decide +kernel
theorem dX5_readNumbers_50 : decode cX5_readNumbers 50 = .ok (.invokevirtual 217, 3) := by decide +kernel
theorem dX5_readNumbers_53 : decode cX5_readNumbers 53 = .ok (.aaload, 1) := by decide +kernel
theorem dX5_readNumbers_54 : decode cX5_readNumbers 54 = .ok (.aload_n 0, 1) := by decide +kernel
theorem dX5_readNumbers_55 : decode cX5_readNumbers 55 = .ok (.getfield 53, 3) := by decide +kernel
theorem dX5_readNumbers_58 : decode cX5_readNumbers 58 = .ok (.invokevirtual 220, 3) := by decide +kernel
theorem dX5_readNumbers_61 : decode cX5_readNumbers 61 = .ok (.istore 6, 2) := by decide +kernel
theorem dX5_readNumbers_63 : decode cX5_readNumbers 63 = .ok (.iload 6, 2) := by decide +kernel
theorem dX5_readNumbers_65 : decode cX5_readNumbers 65 = .ok (.ifCond .ge 20, 3) := by decide +kernel
theorem dX5_readNumbers_68 : decode cX5_readNumbers 68 = .ok (.aload_n 0, 1) := by decide +kernel
theorem dX5_readNumbers_69 : decode cX5_readNumbers 69 = .ok (.iload 6, 2) := by decide +kernel
theorem dX5_readNumbers_71 : decode cX5_readNumbers 71 = .ok (.iconst (-1), 1) := by decide +kernel
theorem dX5_readNumbers_72 : decode cX5_readNumbers 72 = .ok (.if_icmp .ne 7, 3) := by decide +kernel
theorem dX5_readNumbers_75 : decode cX5_readNumbers 75 = .ok (.iconst 1, 1) := by decide +kernel
theorem dX5_readNumbers_76 : decode cX5_readNumbers 76 = .ok (.goto 5, 3) := by decide +kernel
theorem dX5_readNumbers_79 : decode cX5_readNumbers 79 = .ok (.bipush 8, 2) := by decide +kernel
theorem dX5_readNumbers_81 : decode cX5_readNumbers 81 = .ok (.invokevirtual 105, 3) := by decide +kernel
theorem dX5_readNumbers_84 : decode cX5_readNumbers 84 = .ok (.ireturn, 1) := by decide +kernel
theorem dX5_readNumbers_85 : decode cX5_readNumbers 85 = .ok (.iload 6, 2) := by decide +kernel
theorem dX5_readNumbers_87 : decode cX5_readNumbers 87 = .ok (.iconst 1, 1) := by decide +kernel
theorem dX5_readNumbers_88 : decode cX5_readNumbers 88 = .ok (.if_icmp .gt 36, 3) := by decide +kernel
theorem dX5_readNumbers_91 : decode cX5_readNumbers 91 = .ok (.iload_n 3, 1) := by decide +kernel
theorem dX5_readNumbers_92 : decode cX5_readNumbers 92 = .ok (.iload 6, 2) := by decide +kernel
theorem dX5_readNumbers_94 : decode cX5_readNumbers 94 = .ok (.iconst 1, 1) := by decide +kernel
theorem dX5_readNumbers_95 : decode cX5_readNumbers 95 = .ok (.iadd, 1) := by decide +kernel
theorem dX5_readNumbers_96 : decode cX5_readNumbers 96 = .ok (.iload 4, 2) := by decide +kernel
theorem dX5_readNumbers_98 : decode cX5_readNumbers 98 = .ok (.imul, 1) := by decide +kernel
theorem dX5_readNumbers_99 : decode cX5_readNumbers 99 = .ok (.iadd, 1) := by decide +kernel
theorem dX5_readNumbers_100 : decode cX5_readNumbers 100 = .ok (.istore_n 3, 1) := by decide +kernel
theorem dX5_readNumbers_101 : decode cX5_readNumbers 101 = .ok (.iload 4, 2) := by decide +kernel
theorem dX5_readNumbers_103 : decode cX5_readNumbers 103 = .ok (.iconst 2, 1) := by decide +kernel
theorem dX5_readNumbers_104 : decode cX5_readNumbers 104 = .ok (.imul, 1) := by decide +kernel
theorem dX5_readNumbers_105 : decode cX5_readNumbers 105 = .ok (.istore 4, 2) := by decide +kernel
theorem dX5_readNumbers_107 : decode cX5_readNumbers 107 = .ok (.iload_n 3, 1) := by decide +kernel
theorem dX5_readNumbers_108 : decode cX5_readNumbers 108 = .ok (.iload_n 2, 1) := by decide +kernel
theorem dX5_readNumbers_109 : decode cX5_readNumbers 109 = .ok (.aload_n 0, 1) := by decide +kernel
theorem dX5_readNumbers_110 : decode cX5_readNumbers 110 = .ok (.getfield 216, 3) := by decide +kernel
theorem dX5_readNumbers_113 : decode cX5_readNumbers 113 = .ok (.isub, 1) := by decide +kernel
theorem dX5_readNumbers_114 : decode cX5_readNumbers 114 = .ok (.if_icmp .le 91, 3) := by decide +kernel
theorem dX5_readNumbers_117 : decode cX5_readNumbers 117 = .ok (.aload_n 0, 1) := by decide +kernel
theorem dX5_readNumbers_118 : decode cX5_readNumbers 118 = .ok (.bipush 8, 2) := by decide +kernel
theorem dX5_readNumbers_120 : decode cX5_readNumbers 120 = .ok (.invokevirtual 105, 3) := by decide +kernel
theorem dX5_readNumbers_123 : decode cX5_readNumbers 123 = .ok (.ireturn, 1) := by decide +kernel
theorem dX5_readNumbers_124 : decode cX5_readNumbers 124 = .ok (.aload_n 0, 1) := by decide +kernel
theorem dX5_readNumbers_125 : decode cX5_readNumbers 125 = .ok (.aload_n 0, 1) := by decide +kernel
theorem dX5_readNumbers_126 : decode cX5_readNumbers 126 = .ok (.getfield 14, 3) := by decide +kernel
theorem dX5_readNumbers_129 : decode cX5_readNumbers 129 = .ok (.invokevirtual 224, 3) := by decide +kernel
theorem dX5_readNumbers_132 : decode cX5_readNumbers 132 = .ok (.iload_n 3, 1) := by decide +kernel
theorem dX5_readNumbers_133 : decode cX5_readNumbers 133 = .ok (.iload_n 2, 1) := by decide +kernel
theorem dX5_readNumbers_134 : decode cX5_readNumbers 134 = .ok (.invokevirtual 227, 3) := by decide +kernel
theorem dX5_readNumbers_137 : decode cX5_readNumbers 137 = .ok (.ifCond .ne 10, 3) := by decide +kernel
theorem dX5_readNumbers_140 : decode cX5_readNumbers 140 = .ok (.aload_n 0, 1) := by decide +kernel
theorem dX5_readNumbers_141 : decode cX5_readNumbers 141 = .ok (.bipush 8, 2) := by decide +kernel
theorem dX5_readNumbers_143 : decode cX5_readNumbers 143 = .ok (.invokevirtual 105, 3) := by decide +kernel
theorem dX5_readNumbers_146 : decode cX5_readNumbers 146 = .ok (.ireturn, 1) := by decide +kernel
theorem dX5_readNumbers_147 : decode cX5_readNumbers 147 = .ok (.iconst 0, 1) := by decide +kernel
theorem dX5_readNumbers_148 : decode cX5_readNumbers 148 = .ok (.istore_n 3, 1) := by decide +kernel
theorem dX5_readNumbers_149 : decode cX5_readNumbers 149 = .ok (.iconst 1, 1) := by decide +kernel
theorem dX5_readNumbers_150 : decode cX5_readNumbers 150 = .ok (.istore 4, 2) := by decide +kernel
theorem dX5_readNumbers_152 : decode cX5_readNumbers 152 = .ok (.iload 6, 2) := by decide +kernel
theorem dX5_readNumbers_154 : decode cX5_readNumbers 154 = .ok (.aload_n 1, 1) := by decide +kernel
theorem dX5_readNumbers_155 : decode cX5_readNumbers 155 = .ok (.getfield 180, 3) := by decide +kernel
theorem dX5_readNumbers_158 : decode cX5_readNumbers 158 = .ok (.iconst 1, 1) := by decide +kernel
theorem dX5_readNumbers_159 : decode cX5_readNumbers 159 = .ok (.isub, 1) := by decide +kernel
theorem dX5_readNumbers_160 : decode cX5_readNumbers 160 = .ok (.if_icmp .ne 18, 3) := by decide +kernel
theorem dX5_readNumbers_163 : decode cX5_readNumbers 163 = .ok (.aload_n 0, 1) := by decide +kernel
theorem dX5_readNumbers_164 : decode cX5_readNumbers 164 = .ok (.getfield 40, 3) := by decide +kernel
theorem dX5_readNumbers_167 : decode cX5_readNumbers 167 = .ok (.bipush 8, 2) := by decide +kernel
theorem dX5_readNumbers_169 : decode cX5_readNumbers 169 = .ok (.iload 5, 2) := by decide +kernel
theorem dX5_readNumbers_171 : decode cX5_readNumbers 171 = .ok (.iconst 1, 1) := by decide +kernel
theorem dX5_readNumbers_172 : decode cX5_readNumbers 172 = .ok (.iadd, 1) := by decide +kernel
theorem dX5_readNumbers_173 : decode cX5_readNumbers 173 = .ok (.invokevirtual 115, 3) := by decide +kernel
theorem dX5_readNumbers_176 : decode cX5_readNumbers 176 = .ok (.iconst 1, 1) := by decide +kernel
theorem dX5_readNumbers_177 : decode cX5_readNumbers 177 = .ok (.ireturn, 1) := by decide +kernel
theorem dX5_readNumbers_178 : decode cX5_readNumbers 178 = .ok (.aload_n 0, 1) := by decide +kernel
theorem dX5_readNumbers_179 : decode cX5_readNumbers 179 = .ok (.aload_n 0, 1) := by decide +kernel
theorem dX5_readNumbers_180 : decode cX5_readNumbers 180 = .ok (.getfield 14, 3) := by decide +kernel
theorem dX5_readNumbers_183 : decode cX5_readNumbers 183 = .ok (.iload 6, 2) := by decide +kernel
theorem dX5_readNumbers_185 : decode cX5_readNumbers 185 = .ok (.iconst 1, 1) := by decide +kernel
theorem dX5_readNumbers_186 : decode cX5_readNumbers 186 = .ok (.isub, 1) := by decide +kernel
theorem dX5_readNumbers_187 : decode cX5_readNumbers 187 = .ok (.invokevirtual 195, 3) := by decide +kernel
theorem dX5_readNumbers_190 : decode cX5_readNumbers 190 = .ok (.iconst 1, 1) := by decide +kernel
theorem dX5_readNumbers_191 : decode cX5_readNumbers 191 = .ok (.iload_n 2, 1) := by decide +kernel
theorem dX5_readNumbers_192 : decode cX5_readNumbers 192 = .ok (.invokevirtual 227, 3) := by decide +kernel
theorem dX5_readNumbers_195 : decode cX5_readNumbers 195 = .ok (.ifCond .ne 10, 3) := by decide +kernel
theorem dX5_readNumbers_198 : decode cX5_readNumbers 198 = .ok (.aload_n 0, 1) := by decide +kernel
theorem dX5_readNumbers_199 : decode cX5_readNumbers 199 = .ok (.bipush 8, 2) := by decide +kernel
theorem dX5_readNumbers_201 : decode cX5_readNumbers 201 = .ok (.invokevirtual 105, 3) := by decide +kernel
theorem dX5_readNumbers_204 : decode cX5_readNumbers 204 = .ok (.ireturn, 1) := by decide +kernel
theorem dX5_readNumbers_205 : decode cX5_readNumbers 205 = .ok (.iinc 5 1, 3) := by decide +kernel
theorem dX5_readNumbers_208 : decode cX5_readNumbers 208 = .ok (.goto (-195), 3) := by decide +kernel
theorem dX5_readNumbers_211 : decode cX5_readNumbers 211 = .ok (.aload_n 0, 1) := by decide +kernel
theorem dX5_readNumbers_212 : decode cX5_readNumbers 212 = .ok (.iconst 1, 1) := by decide +kernel
theorem dX5_readNumbers_213 : decode cX5_readNumbers 213 = .ok (.invokevirtual 105, 3) := by decide +kernel
theorem dX5_readNumbers_216 : decode cX5_readNumbers 216 = .ok (.ireturn, 1) := by decide +kernel
theorem dX5_addLast_0 : decode cX5_addLast 0 = .ok (.iload_n 2, 1) := by decide +kernel
theorem dX5_addLast_1 : decode cX5_addLast 1 = .ok (.iload_n 3, 1) := by decide +kernel
theorem dX5_addLast_2 : decode cX5_addLast 2 = .ok (.aload_n 0, 1) := by decide +kernel
theorem dX5_addLast_3 : decode cX5_addLast 3 = .ok (.getfield 216, 3) := by decide +kernel
theorem dX5_addLast_6 : decode cX5_addLast 6 = .ok (.isub, 1) := by decide +kernel
theorem dX5_addLast_7 : decode cX5_addLast 7 = .ok (.if_icmp .gt 17, 3) := by decide +kernel
theorem dX5_addLast_10 : decode cX5_addLast 10 = .ok (.iload_n 2, 1) := by decide +kernel
theorem dX5_addLast_11 : decode cX5_addLast 11 = .ok (.aload_n 0, 1) := by decide +kernel
theorem dX5_addLast_12 : decode cX5_addLast 12 = .ok (.getfield 29, 3) := by decide +kernel
theorem dX5_addLast_15 : decode cX5_addLast 15 = .ok (.arraylength, 1) := by decide +kernel
theorem dX5_addLast_16 : decode cX5_addLast 16 = .ok (.aload_n 0, 1) := by decide +kernel
theorem dX5_addLast_17 : decode cX5_addLast 17 = .ok (.getfield 216, 3) := by decide +kernel
theorem dX5_addLast_20 : decode cX5_addLast 20 = .ok (.isub, 1) := by decide +kernel
theorem dX5_addLast_21 : decode cX5_addLast 21 = .ok (.if_icmp .le 5, 3) := by decide +kernel
theorem dX5_addLast_24 : decode cX5_addLast 24 = .ok (.iconst 0, 1) := by decide +kernel
theorem dX5_addLast_25 : decode cX5_addLast 25 = .ok (.ireturn, 1) := by decide +kernel
theorem dX5_addLast_26 : decode cX5_addLast 26 = .ok (.iconst 0, 1) := by decide +kernel
theorem dX5_addLast_27 : decode cX5_addLast 27 = .ok (.istore 4, 2) := by decide +kernel
theorem dX5_addLast_29 : decode cX5_addLast 29 = .ok (.iload 4, 2) := by decide +kernel
theorem dX5_addLast_31 : decode cX5_addLast 31 = .ok (.iload_n 2, 1) := by decide +kernel
theorem dX5_addLast_32 : decode cX5_addLast 32 = .ok (.if_icmp .ge 30, 3) := by decide +kernel
theorem dX5_addLast_35 : decode cX5_addLast 35 = .ok (.aload_n 0, 1) := by decide +kernel
theorem dX5_addLast_36 : decode cX5_addLast 36 = .ok (.getfield 29, 3) := by decide +kernel
theorem dX5_addLast_39 : decode cX5_addLast 39 = .ok (.aload_n 0, 1) := by decide +kernel
theorem dX5_addLast_40 : decode cX5_addLast 40 = .ok (.getfield 216, 3) := by decide +kernel
theorem dX5_addLast_43 : decode cX5_addLast 43 = .ok (.iload_n 1, 1) := by decide +kernel
theorem dX5_addLast_44 : decode cX5_addLast 44 = .ok (.i2b, 1) := by decide +kernel
theorem dX5_addLast_45 : decode cX5_addLast 45 = .ok (.bastore, 1) := by decide +kernel
theorem dX5_addLast_46 : decode cX5_addLast 46 = .ok (.aload_n 0, 1) := by decide +kernel
theorem dX5_addLast_47 : decode cX5_addLast 47 = .ok (.dup, 1) := by decide +kernel
theorem dX5_addLast_48 : decode cX5_addLast 48 = .ok (.getfield 216, 3) := by decide +kernel
theorem dX5_addLast_51 : decode cX5_addLast 51 = .ok (.iconst 1, 1) := by decide +kernel
theorem dX5_addLast_52 : decode cX5_addLast 52 = .ok (.iadd, 1) := by decide +kernel
theorem dX5_addLast_53 : decode cX5_addLast 53 = .ok (.putfield 216, 3) := by decide +kernel
theorem dX5_addLast_56 : decode cX5_addLast 56 = .ok (.iinc 4 1, 3) := by decide +kernel
theorem dX5_addLast_59 : decode cX5_addLast 59 = .ok (.goto (-30), 3) := by decide +kernel
theorem dX5_addLast_62 : decode cX5_addLast 62 = .ok (.iconst 1, 1) := by decide +kernel
theorem dX5_addLast_63 : decode cX5_addLast 63 = .ok (.ireturn, 1) := by decide +kernel
theorem dX5_turnBlockBack_0 : decode cX5_turnBlockBack 0 = .ok (.aload_n 0, 1) := by decide +kernel
theorem dX5_turnBlockBack_1 : decode cX5_turnBlockBack 1 = .ok (.getfield 40, 3) := by decide +kernel
theorem dX5_turnBlockBack_4 : decode cX5_turnBlockBack 4 = .ok (.iconst 2, 1) := by decide +kernel
theorem dX5_turnBlockBack_5 : decode cX5_turnBlockBack 5 = .ok (.aload_n 0, 1) := by decide +kernel
theorem dX5_turnBlockBack_6 : decode cX5_turnBlockBack 6 = .ok (.getfield 216, 3) := by decide +kernel
theorem dX5_turnBlockBack_9 : decode cX5_turnBlockBack 9 = .ok (.invokevirtual 115, 3) := by decide +kernel
theorem dX5_turnBlockBack_12 : decode cX5_turnBlockBack 12 = .ok (.aload_n 0, 1) := by decide +kernel
theorem dX5_turnBlockBack_13 : decode cX5_turnBlockBack 13 = .ok (.getfield 168, 3) := by decide +kernel
theorem dX5_turnBlockBack_16 : decode cX5_turnBlockBack 16 = .ok (.aload_n 0, 1) := by decide +kernel
theorem dX5_turnBlockBack_17 : decode cX5_turnBlockBack 17 = .ok (.getfield 216, 3) := by decide +kernel
theorem dX5_turnBlockBack_20 : decode cX5_turnBlockBack 20 = .ok (.if_icmp .lt 10, 3) := by decide +kernel
theorem dX5_turnBlockBack_23 : decode cX5_turnBlockBack 23 = .ok (.aload_n 0, 1) := by decide +kernel
theorem dX5_turnBlockBack_24 : decode cX5_turnBlockBack 24 = .ok (.bipush 9, 2) := by decide +kernel
theorem dX5_turnBlockBack_26 : decode cX5_turnBlockBack 26 = .ok (.invokevirtual 105, 3) := by decide +kernel
theorem dX5_turnBlockBack_29 : decode cX5_turnBlockBack 29 = .ok (.ireturn, 1) := by decide +kernel
theorem dX5_turnBlockBack_30 : decode cX5_turnBlockBack 30 = .ok (.aload_n 0, 1) := by decide +kernel
theorem dX5_turnBlockBack_31 : decode cX5_turnBlockBack 31 = .ok (.getfield 44, 3) := by decide +kernel
theorem dX5_turnBlockBack_34 : decode cX5_turnBlockBack 34 = .ok (.aload_n 0, 1) := by decide +kernel
theorem dX5_turnBlockBack_35 : decode cX5_turnBlockBack 35 = .ok (.getfield 29, 3) := by decide +kernel
theorem dX5_turnBlockBack_38 : decode cX5_turnBlockBack 38 = .ok (.aload_n 0, 1) := by decide +kernel
theorem dX5_turnBlockBack_39 : decode cX5_turnBlockBack 39 = .ok (.getfield 216, 3) := by decide +kernel
theorem dX5_turnBlockBack_42 : decode cX5_turnBlockBack 42 = .ok (.aload_n 0, 1) := by decide +kernel
theorem dX5_turnBlockBack_43 : decode cX5_turnBlockBack 43 = .ok (.getfield 168, 3) := by decide +kernel
theorem dX5_turnBlockBack_46 : decode cX5_turnBlockBack 46 = .ok (.aload_n 0, 1) := by decide +kernel
theorem dX5_turnBlockBack_47 : decode cX5_turnBlockBack 47 = .ok (.getfield 33, 3) := by decide +kernel
theorem dX5_turnBlockBack_50 : decode cX5_turnBlockBack 50 = .ok (.invokevirtual 231, 3) := by decide +kernel
theorem dX5_turnBlockBack_53 : decode cX5_turnBlockBack 53 = .ok (.iconst 1, 1) := by decide +kernel
theorem dX5_turnBlockBack_54 : decode cX5_turnBlockBack 54 = .ok (.ireturn, 1) := by decide +kernel
theorem dX5_writeOut_0 : decode cX5_writeOut 0 = .ok (.aload_n 0, 1) := by decide +kernel
theorem dX5_writeOut_1 : decode cX5_writeOut 1 = .ok (.invokevirtual 237, 3) := by decide +kernel
theorem dX5_writeOut_4 : decode cX5_writeOut 4 = .ok (.istore_n 1, 1) := by decide +kernel
theorem dX5_writeOut_5 : decode cX5_writeOut 5 = .ok (.iload_n 1, 1) := by decide +kernel
theorem dX5_writeOut_6 : decode cX5_writeOut 6 = .ok (.ifCond .ge 10, 3) := by decide +kernel
theorem dX5_writeOut_9 : decode cX5_writeOut 9 = .ok (.aload_n 0, 1) := by decide +kernel
theorem dX5_writeOut_10 : decode cX5_writeOut 10 = .ok (.bipush 10, 2) := by decide +kernel
theorem dX5_writeOut_12 : decode cX5_writeOut 12 = .ok (.invokevirtual 105, 3) := by decide +kernel
theorem dX5_writeOut_15 : decode cX5_writeOut 15 = .ok (.ireturn, 1) := by decide +kernel
theorem dX5_writeOut_16 : decode cX5_writeOut 16 = .ok (.aload_n 0, 1) := by decide +kernel
theorem dX5_writeOut_17 : decode cX5_writeOut 17 = .ok (.getfield 36, 3) := by decide +kernel
theorem dX5_writeOut_20 : decode cX5_writeOut 20 = .ok (.getfield 240, 3) := by decide +kernel
theorem dX5_writeOut_23 : decode cX5_writeOut 23 = .ok (.istore_n 2, 1) := by decide +kernel
theorem dX5_writeOut_24 : decode cX5_writeOut 24 = .ok (.iload_n 2, 1) := by decide +kernel
theorem dX5_writeOut_25 : decode cX5_writeOut 25 = .ok (.iload_n 1, 1) := by decide +kernel
theorem dX5_writeOut_26 : decode cX5_writeOut 26 = .ok (.iadd, 1) := by decide +kernel
theorem dX5_writeOut_27 : decode cX5_writeOut 27 = .ok (.sipush 3000, 3) := by decide +kernel
theorem dX5_writeOut_30 : decode cX5_writeOut 30 = .ok (.if_icmp .le 10, 3) := by decide +kernel
theorem dX5_writeOut_33 : decode cX5_writeOut 33 = .ok (.aload_n 0, 1) := by decide +kernel
theorem dX5_writeOut_34 : decode cX5_writeOut 34 = .ok (.bipush 11, 2) := by decide +kernel
theorem dX5_writeOut_36 : decode cX5_writeOut 36 = .ok (.invokevirtual 105, 3) := by decide +kernel
theorem dX5_writeOut_39 : decode cX5_writeOut 39 = .ok (.ireturn, 1) := by decide +kernel
theorem dX5_writeOut_40 : decode cX5_writeOut 40 = .ok (.aload_n 0, 1) := by decide +kernel
theorem dX5_writeOut_41 : decode cX5_writeOut 41 = .ok (.getfield 40, 3) := by decide +kernel
theorem dX5_writeOut_44 : decode cX5_writeOut 44 = .ok (.iconst 1, 1) := by decide +kernel
theorem dX5_writeOut_45 : decode cX5_writeOut 45 = .ok (.iload_n 1, 1) := by decide +kernel
theorem dX5_writeOut_46 : decode cX5_writeOut 46 = .ok (.invokevirtual 115, 3) := by decide +kernel
theorem dX5_writeOut_49 : decode cX5_writeOut 49 = .ok (.aload_n 0, 1) := by decide +kernel
theorem dX5_writeOut_50 : decode cX5_writeOut 50 = .ok (.invokevirtual 241, 3) := by decide +kernel
theorem dX5_writeOut_53 : decode cX5_writeOut 53 = .ok (.aload_n 0, 1) := by decide +kernel
theorem dX5_writeOut_54 : decode cX5_writeOut 54 = .ok (.getfield 40, 3) := by decide +kernel
theorem dX5_writeOut_57 : decode cX5_writeOut 57 = .ok (.getfield 122, 3) := by decide +kernel
theorem dX5_writeOut_60 : decode cX5_writeOut 60 = .ok (.if_icmp .eq 18, 3) := by decide +kernel
theorem dX5_writeOut_63 : decode cX5_writeOut 63 = .ok (.aload_n 0, 1) := by decide +kernel
theorem dX5_writeOut_64 : decode cX5_writeOut 64 = .ok (.getfield 36, 3) := by decide +kernel
theorem dX5_writeOut_67 : decode cX5_writeOut 67 = .ok (.iload_n 2, 1) := by decide +kernel
theorem dX5_writeOut_68 : decode cX5_writeOut 68 = .ok (.invokevirtual 91, 3) := by decide +kernel
theorem dX5_writeOut_71 : decode cX5_writeOut 71 = .ok (.aload_n 0, 1) := by decide +kernel
theorem dX5_writeOut_72 : decode cX5_writeOut 72 = .ok (.bipush 12, 2) := by decide +kernel
theorem dX5_writeOut_74 : decode cX5_writeOut 74 = .ok (.invokevirtual 105, 3) := by decide +kernel
theorem dX5_writeOut_77 : decode cX5_writeOut 77 = .ok (.ireturn, 1) := by decide +kernel
theorem dX5_writeOut_78 : decode cX5_writeOut 78 = .ok (.iconst 1, 1) := by decide +kernel
theorem dX5_writeOut_79 : decode cX5_writeOut 79 = .ok (.ireturn, 1) := by decide +kernel
theorem dX5_plainSize_0 : decode cX5_plainSize 0 = .ok (.iconst 0, 1) := by decide +kernel
theorem dX5_plainSize_1 : decode cX5_plainSize 1 = .ok (.istore_n 1, 1) := by decide +kernel
theorem dX5_plainSize_2 : decode cX5_plainSize 2 = .ok (.iconst 0, 1) := by decide +kernel
theorem dX5_plainSize_3 : decode cX5_plainSize 3 = .ok (.istore_n 2, 1) := by decide +kernel
theorem dX5_plainSize_4 : decode cX5_plainSize 4 = .ok (.iconst 0, 1) := by decide +kernel
theorem dX5_plainSize_5 : decode cX5_plainSize 5 = .ok (.istore_n 3, 1) := by decide +kernel
theorem dX5_plainSize_6 : decode cX5_plainSize 6 = .ok (.iload_n 3, 1) := by decide +kernel
theorem dX5_plainSize_7 : decode cX5_plainSize 7 = .ok (.aload_n 0, 1) := by decide +kernel
theorem dX5_plainSize_8 : decode cX5_plainSize 8 = .ok (.getfield 216, 3) := by decide +kernel
theorem dX5_plainSize_11 : decode cX5_plainSize 11 = .ok (.if_icmp .ge 64, 3) := by decide +kernel
theorem dX5_plainSize_14 : decode cX5_plainSize 14 = .ok (.iload_n 2, 1) := by decide +kernel
theorem dX5_plainSize_15 : decode cX5_plainSize 15 = .ok (.iconst 4, 1) := by decide +kernel
theorem dX5_plainSize_16 : decode cX5_plainSize 16 = .ok (.if_icmp .ne 21, 3) := by decide +kernel
theorem dX5_plainSize_19 : decode cX5_plainSize 19 = .ok (.iload_n 1, 1) := by decide +kernel
theorem dX5_plainSize_20 : decode cX5_plainSize 20 = .ok (.aload_n 0, 1) := by decide +kernel
theorem dX5_plainSize_21 : decode cX5_plainSize 21 = .ok (.getfield 33, 3) := by decide +kernel
theorem dX5_plainSize_24 : decode cX5_plainSize 24 = .ok (.iload_n 3, 1) := by decide +kernel
theorem dX5_plainSize_25 : decode cX5_plainSize 25 = .ok (.baload, 1) := by decide +kernel
theorem dX5_plainSize_26 : decode cX5_plainSize 26 = .ok (.sipush 255, 3) := by decide +kernel
theorem dX5_plainSize_29 : decode cX5_plainSize 29 = .ok (.iand, 1) := by decide +kernel
theorem dX5_plainSize_30 : decode cX5_plainSize 30 = .ok (.iadd, 1) := by decide +kernel
theorem dX5_plainSize_31 : decode cX5_plainSize 31 = .ok (.istore_n 1, 1) := by decide +kernel
theorem dX5_plainSize_32 : decode cX5_plainSize 32 = .ok (.iconst 0, 1) := by decide +kernel
theorem dX5_plainSize_33 : decode cX5_plainSize 33 = .ok (.istore_n 2, 1) := by decide +kernel
theorem dX5_plainSize_34 : decode cX5_plainSize 34 = .ok (.goto 35, 3) := by decide +kernel
theorem dX5_plainSize_37 : decode cX5_plainSize 37 = .ok (.iload_n 2, 1) := by decide +kernel
theorem dX5_plainSize_38 : decode cX5_plainSize 38 = .ok (.ifCond .le 26, 3) := by decide +kernel
theorem dX5_plainSize_41 : decode cX5_plainSize 41 = .ok (.aload_n 0, 1) := by decide +kernel
theorem dX5_plainSize_42 : decode cX5_plainSize 42 = .ok (.getfield 33, 3) := by decide +kernel
theorem dX5_plainSize_45 : decode cX5_plainSize 45 = .ok (.iload_n 3, 1) := by decide +kernel
theorem dX5_plainSize_46 : decode cX5_plainSize 46 = .ok (.baload, 1) := by decide +kernel
theorem dX5_plainSize_47 : decode cX5_plainSize 47 = .ok (.aload_n 0, 1) := by decide +kernel
theorem dX5_plainSize_48 : decode cX5_plainSize 48 = .ok (.getfield 33, 3) := by decide +kernel
theorem dX5_plainSize_51 : decode cX5_plainSize 51 = .ok (.iload_n 3, 1) := by decide +kernel
theorem dX5_plainSize_52 : decode cX5_plainSize 52 = .ok (.iconst 1, 1) := by decide +kernel
theorem dX5_plainSize_53 : decode cX5_plainSize 53 = .ok (.isub, 1) := by decide +kernel
theorem dX5_plainSize_54 : decode cX5_plainSize 54 = .ok (.baload, 1) := by decide +kernel
theorem dX5_plainSize_55 : decode cX5_plainSize 55 = .ok (.if_icmp .ne 9, 3) := by decide +kernel
theorem dX5_plainSize_58 : decode cX5_plainSize 58 = .ok (.iload_n 2, 1) := by decide +kernel
theorem dX5_plainSize_59 : decode cX5_plainSize 59 = .ok (.iconst 1, 1) := by decide +kernel
theorem dX5_plainSize_60 : decode cX5_plainSize 60 = .ok (.iadd, 1) := by decide +kernel
theorem dX5_plainSize_61 : decode cX5_plainSize 61 = .ok (.goto 4, 3) := by decide +kernel
theorem dX5_plainSize_64 : decode cX5_plainSize 64 = .ok (.iconst 1, 1) := by decide +kernel
theorem dX5_plainSize_65 : decode cX5_plainSize 65 = .ok (.istore_n 2, 1) := by decide +kernel
theorem dX5_plainSize_66 : decode cX5_plainSize 66 = .ok (.iinc 1 1, 3) := by decide +kernel
theorem dX5_plainSize_69 : decode cX5_plainSize 69 = .ok (.iinc 3 1, 3) := by decide +kernel
theorem dX5_plainSize_72 : decode cX5_plainSize 72 = .ok (.goto (-66), 3) := by decide +kernel
theorem dX5_plainSize_75 : decode cX5_plainSize 75 = .ok (.iload_n 2, 1) := by decide +kernel
theorem dX5_plainSize_76 : decode cX5_plainSize 76 = .ok (.iconst 4, 1) := by decide +kernel
theorem dX5_plainSize_77 : decode cX5_plainSize 77 = .ok (.if_icmp .ne 7, 3) := by decide +kernel
theorem dX5_plainSize_80 : decode cX5_plainSize 80 = .ok (.iconst (-1), 1) := by decide +kernel
theorem dX5_plainSize_81 : decode cX5_plainSize 81 = .ok (.goto 4, 3) := by decide +kernel
theorem dX5_plainSize_84 : decode cX5_plainSize 84 = .ok (.iload_n 1, 1) := by decide +kernel
theorem dX5_plainSize_85 : decode cX5_plainSize 85 = .ok (.ireturn, 1) := by decide +kernel
theorem dX5_lengthenRuns_0 : decode cX5_lengthenRuns 0 = .ok (.iconst (-1), 1) := by decide +kernel
theorem dX5_lengthenRuns_1 : decode cX5_lengthenRuns 1 = .ok (.istore_n 1, 1) := by decide +kernel
theorem dX5_lengthenRuns_2 : decode cX5_lengthenRuns 2 = .ok (.iconst 0, 1) := by decide +kernel
theorem dX5_lengthenRuns_3 : decode cX5_lengthenRuns 3 = .ok (.istore_n 2, 1) := by decide +kernel
theorem dX5_lengthenRuns_4 : decode cX5_lengthenRuns 4 = .ok (.iconst 0, 1) := by decide +kernel
theorem dX5_lengthenRuns_5 : decode cX5_lengthenRuns 5 = .ok (.istore_n 3, 1) := by decide +kernel
theorem dX5_lengthenRuns_6 : decode cX5_lengthenRuns 6 = .ok (.iload_n 3, 1) := by decide +kernel
theorem dX5_lengthenRuns_7 : decode cX5_lengthenRuns 7 = .ok (.aload_n 0, 1) := by decide +kernel
theorem dX5_lengthenRuns_8 : decode cX5_lengthenRuns 8 = .ok (.getfield 216, 3) := by decide +kernel
theorem dX5_lengthenRuns_11 : decode cX5_lengthenRuns 11 = .ok (.if_icmp .ge 113, 3) := by decide +kernel
theorem dX5_lengthenRuns_14 : decode cX5_lengthenRuns 14 = .ok (.aload_n 0, 1) := by decide +kernel
theorem dX5_lengthenRuns_15 : decode cX5_lengthenRuns 15 = .ok (.getfield 33, 3) := by decide +kernel
theorem dX5_lengthenRuns_18 : decode cX5_lengthenRuns 18 = .ok (.iload_n 3, 1) := by decide +kernel
theorem dX5_lengthenRuns_19 : decode cX5_lengthenRuns 19 = .ok (.baload, 1) := by decide +kernel
theorem dX5_lengthenRuns_20 : decode cX5_lengthenRuns 20 = .ok (.sipush 255, 3) := by decide +kernel
theorem dX5_lengthenRuns_23 : decode cX5_lengthenRuns 23 = .ok (.iand, 1) := by decide +kernel
theorem dX5_lengthenRuns_24 : decode cX5_lengthenRuns 24 = .ok (.istore 4, 2) := by decide +kernel
theorem dX5_lengthenRuns_26 : decode cX5_lengthenRuns 26 = .ok (.iconst 1, 1) := by decide +kernel
theorem dX5_lengthenRuns_27 : decode cX5_lengthenRuns 27 = .ok (.istore 5, 2) := by decide +kernel
theorem dX5_lengthenRuns_29 : decode cX5_lengthenRuns 29 = .ok (.iload_n 2, 1) := by decide +kernel
theorem dX5_lengthenRuns_30 : decode cX5_lengthenRuns 30 = .ok (.iconst 4, 1) := by decide +kernel
theorem dX5_lengthenRuns_31 : decode cX5_lengthenRuns 31 = .ok (.if_icmp .ne 26, 3) := by decide +kernel
theorem dX5_lengthenRuns_34 : decode cX5_lengthenRuns 34 = .ok (.iload 4, 2) := by decide +kernel
theorem dX5_lengthenRuns_36 : decode cX5_lengthenRuns 36 = .ok (.istore 5, 2) := by decide +kernel
theorem dX5_lengthenRuns_38 : decode cX5_lengthenRuns 38 = .ok (.aload_n 0, 1) := by decide +kernel
theorem dX5_lengthenRuns_39 : decode cX5_lengthenRuns 39 = .ok (.getfield 33, 3) := by decide +kernel
theorem dX5_lengthenRuns_42 : decode cX5_lengthenRuns 42 = .ok (.iload_n 3, 1) := by decide +kernel
theorem dX5_lengthenRuns_43 : decode cX5_lengthenRuns 43 = .ok (.iconst 1, 1) := by decide +kernel
theorem dX5_lengthenRuns_44 : decode cX5_lengthenRuns 44 = .ok (.isub, 1) := by decide +kernel
theorem dX5_lengthenRuns_45 : decode cX5_lengthenRuns 45 = .ok (.baload, 1) := by decide +kernel
theorem dX5_lengthenRuns_46 : decode cX5_lengthenRuns 46 = .ok (.sipush 255, 3) := by decide +kernel
theorem dX5_lengthenRuns_49 : decode cX5_lengthenRuns 49 = .ok (.iand, 1) := by decide +kernel
theorem dX5_lengthenRuns_50 : decode cX5_lengthenRuns 50 = .ok (.istore 4, 2) := by decide +kernel
theorem dX5_lengthenRuns_52 : decode cX5_lengthenRuns 52 = .ok (.iconst 0, 1) := by decide +kernel
theorem dX5_lengthenRuns_53 : decode cX5_lengthenRuns 53 = .ok (.istore_n 2, 1) := by decide +kernel
theorem dX5_lengthenRuns_54 : decode cX5_lengthenRuns 54 = .ok (.goto 32, 3) := by decide +kernel
theorem dX5_lengthenRuns_57 : decode cX5_lengthenRuns 57 = .ok (.iload_n 2, 1) := by decide +kernel
theorem dX5_lengthenRuns_58 : decode cX5_lengthenRuns 58 = .ok (.ifCond .le 26, 3) := by decide +kernel
theorem dX5_lengthenRuns_61 : decode cX5_lengthenRuns 61 = .ok (.aload_n 0, 1) := by decide +kernel
theorem dX5_lengthenRuns_62 : decode cX5_lengthenRuns 62 = .ok (.getfield 33, 3) := by decide +kernel
theorem dX5_lengthenRuns_65 : decode cX5_lengthenRuns 65 = .ok (.iload_n 3, 1) := by decide +kernel
theorem dX5_lengthenRuns_66 : decode cX5_lengthenRuns 66 = .ok (.baload, 1) := by decide +kernel
theorem dX5_lengthenRuns_67 : decode cX5_lengthenRuns 67 = .ok (.aload_n 0, 1) := by decide +kernel
theorem dX5_lengthenRuns_68 : decode cX5_lengthenRuns 68 = .ok (.getfield 33, 3) := by decide +kernel
theorem dX5_lengthenRuns_71 : decode cX5_lengthenRuns 71 = .ok (.iload_n 3, 1) := by decide +kernel
theorem dX5_lengthenRuns_72 : decode cX5_lengthenRuns 72 = .ok (.iconst 1, 1) := by decide +kernel
theorem dX5_lengthenRuns_73 : decode cX5_lengthenRuns 73 = .ok (.isub, 1) := by decide +kernel
theorem dX5_lengthenRuns_74 : decode cX5_lengthenRuns 74 = .ok (.baload, 1) := by decide +kernel
theorem dX5_lengthenRuns_75 : decode cX5_lengthenRuns 75 = .ok (.if_icmp .ne 9, 3) := by decide +kernel
theorem dX5_lengthenRuns_78 : decode cX5_lengthenRuns 78 = .ok (.iload_n 2, 1) := by decide +kernel
theorem dX5_lengthenRuns_79 : decode cX5_lengthenRuns 79 = .ok (.iconst 1, 1) := by decide +kernel
theorem dX5_lengthenRuns_80 : decode cX5_lengthenRuns 80 = .ok (.iadd, 1) := by decide +kernel
theorem dX5_lengthenRuns_81 : decode cX5_lengthenRuns 81 = .ok (.goto 4, 3) := by decide +kernel
theorem dX5_lengthenRuns_84 : decode cX5_lengthenRuns 84 = .ok (.iconst 1, 1) := by decide +kernel
theorem dX5_lengthenRuns_85 : decode cX5_lengthenRuns 85 = .ok (.istore_n 2, 1) := by decide +kernel
theorem dX5_lengthenRuns_86 : decode cX5_lengthenRuns 86 = .ok (.iconst 0, 1) := by decide +kernel
theorem dX5_lengthenRuns_87 : decode cX5_lengthenRuns 87 = .ok (.istore 6, 2) := by decide +kernel
theorem dX5_lengthenRuns_89 : decode cX5_lengthenRuns 89 = .ok (.iload 6, 2) := by decide +kernel
theorem dX5_lengthenRuns_91 : decode cX5_lengthenRuns 91 = .ok (.iload 5, 2) := by decide +kernel
theorem dX5_lengthenRuns_93 : decode cX5_lengthenRuns 93 = .ok (.if_icmp .ge 25, 3) := by decide +kernel
theorem dX5_lengthenRuns_96 : decode cX5_lengthenRuns 96 = .ok (.aload_n 0, 1) := by decide +kernel
theorem dX5_lengthenRuns_97 : decode cX5_lengthenRuns 97 = .ok (.getfield 36, 3) := by decide +kernel
theorem dX5_lengthenRuns_100 : decode cX5_lengthenRuns 100 = .ok (.iload 4, 2) := by decide +kernel
theorem dX5_lengthenRuns_102 : decode cX5_lengthenRuns 102 = .ok (.invokevirtual 244, 3) := by decide +kernel
theorem dX5_lengthenRuns_105 : decode cX5_lengthenRuns 105 = .ok (.iload_n 1, 1) := by decide +kernel
theorem dX5_lengthenRuns_106 : decode cX5_lengthenRuns 106 = .ok (.iload 4, 2) := by decide +kernel
theorem dX5_lengthenRuns_108 : decode cX5_lengthenRuns 108 = .ok (.invokestatic 245, 3) := by decide +kernel
theorem dX5_lengthenRuns_111 : decode cX5_lengthenRuns 111 = .ok (.istore_n 1, 1) := by decide +kernel
theorem dX5_lengthenRuns_112 : decode cX5_lengthenRuns 112 = .ok (.iinc 6 1, 3) := by decide +kernel
theorem dX5_lengthenRuns_115 : decode cX5_lengthenRuns 115 = .ok (.goto (-26), 3) := by decide +kernel
theorem dX5_lengthenRuns_118 : decode cX5_lengthenRuns 118 = .ok (.iinc 3 1, 3) := by decide +kernel
theorem dX5_lengthenRuns_121 : decode cX5_lengthenRuns 121 = .ok (.goto (-115), 3) := by decide +kernel
theorem dX5_lengthenRuns_124 : decode cX5_lengthenRuns 124 = .ok (.iload_n 1, 1) := by decide +kernel
theorem dX5_lengthenRuns_125 : decode cX5_lengthenRuns 125 = .ok (.iconst (-1), 1) := by decide +kernel
theorem dX5_lengthenRuns_126 : decode cX5_lengthenRuns 126 = .ok (.ixor, 1) := by decide +kernel
theorem dX5_lengthenRuns_127 : decode cX5_lengthenRuns 127 = .ok (.ireturn, 1) := by decide +kernel
theorem dX6_init_0 : decode cX6_init 0 = .ok (.aload_n 0, 1) := by decide +kernel
theorem dX6_init_1 : decode cX6_init 1 = .ok (.invokespecial 3, 3) := by decide +kernel
theorem dX6_init_4 : decode cX6_init 4 = .ok (.aload_n 0, 1) := by decide +kernel
theorem dX6_init_5 : decode cX6_init 5 = .ok (.new 9, 3) := by decide +kernel
theorem dX6_init_8 : decode cX6_init 8 = .ok (.dup, 1) := by decide +kernel
theorem dX6_init_9 : decode cX6_init 9 = .ok (.sipush 256, 3) := by decide +kernel
theorem dX6_init_12 : decode cX6_init 12 = .ok (.invokespecial 11, 3) := by decide +kernel
theorem dX6_init_15 : decode cX6_init 15 = .ok (.putfield 14, 3) := by decide +kernel
theorem dX6_init_18 : decode cX6_init 18 = .ok (.aload_n 0, 1) := by decide +kernel
theorem dX6_init_19 : decode cX6_init 19 = .ok (.new 9, 3) := by decide +kernel
theorem dX6_init_22 : decode cX6_init 22 = .ok (.dup, 1) := by decide +kernel
theorem dX6_init_23 : decode cX6_init 23 = .ok (.bipush 6, 2) := by decide +kernel
theorem dX6_init_25 : decode cX6_init 25 = .ok (.invokespecial 11, 3) := by decide +kernel
theorem dX6_init_28 : decode cX6_init 28 = .ok (.putfield 20, 3) := by decide +kernel
theorem dX6_init_31 : decode cX6_init 31 = .ok (.aload_n 0, 1) := by decide +kernel
theorem dX6_init_32 : decode cX6_init 32 = .ok (.new 23, 3) := by decide +kernel
theorem dX6_init_35 : decode cX6_init 35 = .ok (.dup, 1) := by decide +kernel
theorem dX6_init_36 : decode cX6_init 36 = .ok (.invokespecial 25, 3) := by decide +kernel
theorem dX6_init_39 : decode cX6_init 39 = .ok (.putfield 26, 3) := by decide +kernel
theorem dX6_init_42 : decode cX6_init 42 = .ok (.aload_n 0, 1) := by decide +kernel
theorem dX6_init_43 : decode cX6_init 43 = .ok (.bipush 6, 2) := by decide +kernel
theorem dX6_init_45 : decode cX6_init 45 = .ok (.anewarray 30, 3) := by decide +kernel
theorem dX6_init_48 : decode cX6_init 48 = .ok (.putfield 32, 3) := by decide +kernel
theorem dX6_init_51 : decode cX6_init 51 = .ok (.aload_n 0, 1) := by decide +kernel
theorem dX6_init_52 : decode cX6_init 52 = .ok (.sipush 256, 3) := by decide +kernel
theorem dX6_init_55 : decode cX6_init 55 = .ok (.newarray .int, 2) := by decide +kernel
theorem dX6_init_57 : decode cX6_init 57 = .ok (.putfield 36, 3) := by decide +kernel
theorem dX6_init_60 : decode cX6_init 60 = .ok (.aload_n 0, 1) := by decide +kernel
theorem dX6_init_61 : decode cX6_init 61 = .ok (.sipush 1800, 3) := by decide +kernel
theorem dX6_init_64 : decode cX6_init 64 = .ok (.newarray .byte, 2) := by decide +kernel
theorem dX6_init_66 : decode cX6_init 66 = .ok (.putfield 40, 3) := by decide +kernel
theorem dX6_init_69 : decode cX6_init 69 = .ok (.aload_n 0, 1) := by decide +kernel
theorem dX6_init_70 : decode cX6_init 70 = .ok (.sipush 1801, 3) := by decide +kernel
theorem dX6_init_73 : decode cX6_init 73 = .ok (.newarray .int, 2) := by decide +kernel
theorem dX6_init_75 : decode cX6_init 75 = .ok (.putfield 44, 3) := by decide +kernel
theorem dX6_init_78 : decode cX6_init 78 = .ok (.aload_n 0, 1) := by decide +kernel
theorem dX6_init_79 : decode cX6_init 79 = .ok (.aload_n 2, 1) := by decide +kernel
theorem dX6_init_80 : decode cX6_init 80 = .ok (.putfield 47, 3) := by decide +kernel
theorem dX6_init_83 : decode cX6_init 83 = .ok (.aload_n 0, 1) := by decide +kernel
theorem dX6_init_84 : decode cX6_init 84 = .ok (.aload_n 3, 1) := by decide +kernel
theorem dX6_init_85 : decode cX6_init 85 = .ok (.putfield 51, 3) := by decide +kernel
theorem dX6_init_88 : decode cX6_init 88 = .ok (.aload_n 0, 1) := by decide +kernel
theorem dX6_init_89 : decode cX6_init 89 = .ok (.new 55, 3) := by decide +kernel
theorem dX6_init_92 : decode cX6_init 92 = .ok (.dup, 1) := by decide +kernel
theorem dX6_init_93 : decode cX6_init 93 = .ok (.aload_n 1, 1) := by decide +kernel
theorem dX6_init_94 : decode cX6_init 94 = .ok (.invokespecial 57, 3) := by decide +kernel
theorem dX6_init_97 : decode cX6_init 97 = .ok (.putfield 60, 3) := by decide +kernel
theorem dX6_init_100 : decode cX6_init 100 = .ok (.iconst 0, 1) := by decide +kernel
theorem dX6_init_101 : decode cX6_init 101 = .ok (.istore 4, 2) := by decide +kernel
theorem dX6_init_103 : decode cX6_init 103 = .ok (.iload 4, 2) := by decide +kernel
theorem dX6_init_105 : decode cX6_init 105 = .ok (.bipush 6, 2) := by decide +kernel
theorem dX6_init_107 : decode cX6_init 107 = .ok (.if_icmp .ge 23, 3) := by decide +kernel
theorem dX6_init_110 : decode cX6_init 110 = .ok (.aload_n 0, 1) := by decide +kernel
theorem dX6_init_111 : decode cX6_init 111 = .ok (.getfield 32, 3) := by decide +kernel
theorem dX6_init_114 : decode cX6_init 114 = .ok (.iload 4, 2) := by decide +kernel
theorem dX6_init_116 : decode cX6_init 116 = .ok (.new 30, 3) := by decide +kernel
theorem dX6_init_119 : decode cX6_init 119 = .ok (.dup, 1) := by decide +kernel
theorem dX6_init_120 : decode cX6_init 120 = .ok (.invokespecial 64, 3) := by decide +kernel
theorem dX6_init_123 : decode cX6_init 123 = .ok (.aastore, 1) := by decide +kernel
theorem dX6_init_124 : decode cX6_init 124 = .ok (.iinc 4 1, 3) := by decide +kernel
theorem dX6_init_127 : decode cX6_init 127 = .ok (.goto (-24), 3) := by decide +kernel
theorem dX6_init_130 : decode cX6_init 130 = .ok (.return_, 1) := by decide +kernel
theorem dX6_packAll_0 : decode cX6_packAll 0 = .ok (.aload_n 0, 1) := by decide +kernel
theorem dX6_packAll_1 : decode cX6_packAll 1 = .ok (.getfield 47, 3) := by decide +kernel
theorem dX6_packAll_4 : decode cX6_packAll 4 = .ok (.invokevirtual 65, 3) := by decide +kernel
theorem dX6_packAll_7 : decode cX6_packAll 7 = .ok (.aload_n 0, 1) := by decide +kernel
theorem dX6_packAll_8 : decode cX6_packAll 8 = .ok (.getfield 60, 3) := by decide +kernel
theorem dX6_packAll_11 : decode cX6_packAll 11 = .ok (.invokevirtual 70, 3) := by decide +kernel
theorem dX6_packAll_14 : decode cX6_packAll 14 = .ok (.aload_n 0, 1) := by decide +kernel
theorem dX6_packAll_15 : decode cX6_packAll 15 = .ok (.getfield 60, 3) := by decide +kernel
theorem dX6_packAll_18 : decode cX6_packAll 18 = .ok (.bipush 8, 2) := by decide +kernel
theorem dX6_packAll_20 : decode cX6_packAll 20 = .ok (.ldc2_w 73, 3) := by decide +kernel
theorem dX6_packAll_23 : decode cX6_packAll 23 = .ok (.invokevirtual 75, 3) := by decide +kernel
theorem dX6_packAll_26 : decode cX6_packAll 26 = .ok (.aload_n 0, 1) := by decide +kernel
theorem dX6_packAll_27 : decode cX6_packAll 27 = .ok (.getfield 60, 3) := by decide +kernel
theorem dX6_packAll_30 : decode cX6_packAll 30 = .ok (.bipush 8, 2) := by decide +kernel
theorem dX6_packAll_32 : decode cX6_packAll 32 = .ok (.ldc2_w 79, 3) := by decide +kernel
theorem dX6_packAll_35 : decode cX6_packAll 35 = .ok (.invokevirtual 75, 3) := by decide +kernel
theorem dX6_packAll_38 : decode cX6_packAll 38 = .ok (.aload_n 0, 1) := by decide +kernel
theorem dX6_packAll_39 : decode cX6_packAll 39 = .ok (.getfield 60, 3) := by decide +kernel
theorem dX6_packAll_42 : decode cX6_packAll 42 = .ok (.bipush 8, 2) := by decide +kernel
theorem dX6_packAll_44 : decode cX6_packAll 44 = .ok (.ldc2_w 81, 3) := by decide +kernel
theorem dX6_packAll_47 : decode cX6_packAll 47 = .ok (.invokevirtual 75, 3) := by decide +kernel
theorem dX6_packAll_50 : decode cX6_packAll 50 = .ok (.aload_n 0, 1) := by decide +kernel
theorem dX6_packAll_51 : decode cX6_packAll 51 = .ok (.getfield 60, 3) := by decide +kernel
theorem dX6_packAll_54 : decode cX6_packAll 54 = .ok (.bipush 8, 2) := by decide +kernel
theorem dX6_packAll_56 : decode cX6_packAll 56 = .ok (.bipush 48, 2) := by decide +kernel
theorem dX6_packAll_58 : decode cX6_packAll 58 = .ok (.iload_n 2, 1) := by decide +kernel
theorem dX6_packAll_59 : decode cX6_packAll 59 = .ok (.iadd, 1) := by decide +kernel
theorem dX6_packAll_60 : decode cX6_packAll 60 = .ok (.i2l, 1) := by decide +kernel
theorem dX6_packAll_61 : decode cX6_packAll 61 = .ok (.invokevirtual 75, 3) := by decide +kernel
theorem dX6_packAll_64 : decode cX6_packAll 64 = .ok (.iconst 0, 1) := by decide +kernel
theorem dX6_packAll_65 : decode cX6_packAll 65 = .ok (.istore_n 3, 1) := by decide +kernel
theorem dX6_packAll_66 : decode cX6_packAll 66 = .ok (.iconst 0, 1) := by decide +kernel
theorem dX6_packAll_67 : decode cX6_packAll 67 = .ok (.istore 4, 2) := by decide +kernel
theorem dX6_packAll_69 : decode cX6_packAll 69 = .ok (.iconst 0, 1) := by decide +kernel
theorem dX6_packAll_70 : decode cX6_packAll 70 = .ok (.istore 5, 2) := by decide +kernel
theorem dX6_packAll_72 : decode cX6_packAll 72 = .ok (.iload 5, 2) := by decide +kernel
theorem dX6_packAll_74 : decode cX6_packAll 74 = .ok (.sipush 1500, 3) := by decide +kernel
theorem dX6_packAll_77 : decode cX6_packAll 77 = .ok (.if_icmp .ge 65, 3) := by decide +kernel
theorem dX6_packAll_80 : decode cX6_packAll 80 = .ok (.iload 4, 2) := by decide +kernel
theorem dX6_packAll_82 : decode cX6_packAll 82 = .ok (.aload_n 1, 1) := by decide +kernel
theorem dX6_packAll_83 : decode cX6_packAll 83 = .ok (.getfield 83, 3) := by decide +kernel
theorem dX6_packAll_86 : decode cX6_packAll 86 = .ok (.if_icmp .ge 56, 3) := by decide +kernel
theorem dX6_packAll_89 : decode cX6_packAll 89 = .ok (.aload_n 0, 1) := by decide +kernel
theorem dX6_packAll_90 : decode cX6_packAll 90 = .ok (.aload_n 1, 1) := by decide +kernel
theorem dX6_packAll_91 : decode cX6_packAll 91 = .ok (.iload 4, 2) := by decide +kernel
theorem dX6_packAll_93 : decode cX6_packAll 93 = .ok (.iload_n 2, 1) := by decide +kernel
theorem dX6_packAll_94 : decode cX6_packAll 94 = .ok (.sipush 200, 3) := by decide +kernel
theorem dX6_packAll_97 : decode cX6_packAll 97 = .ok (.imul, 1) := by decide +kernel
theorem dX6_packAll_98 : decode cX6_packAll 98 = .ok (.invokevirtual 89, 3) := by decide +kernel
theorem dX6_packAll_101 : decode cX6_packAll 101 = .ok (.istore 6, 2) := by decide +kernel
theorem dX6_packAll_103 : decode cX6_packAll 103 = .ok (.aload_n 0, 1) := by decide +kernel
theorem dX6_packAll_104 : decode cX6_packAll 104 = .ok (.aload_n 1, 1) := by decide +kernel
theorem dX6_packAll_105 : decode cX6_packAll 105 = .ok (.iload 4, 2) := by decide +kernel
theorem dX6_packAll_107 : decode cX6_packAll 107 = .ok (.iload 6, 2) := by decide +kernel
theorem dX6_packAll_109 : decode cX6_packAll 109 = .ok (.invokestatic 93, 3) := by decide +kernel
theorem dX6_packAll_112 : decode cX6_packAll 112 = .ok (.iload 6, 2) := by decide +kernel
theorem dX6_packAll_114 : decode cX6_packAll 114 = .ok (.iload 4, 2) := by decide +kernel
theorem dX6_packAll_116 : decode cX6_packAll 116 = .ok (.isub, 1) := by decide +kernel
theorem dX6_packAll_117 : decode cX6_packAll 117 = .ok (.invokevirtual 96, 3) := by decide +kernel
theorem dX6_packAll_120 : decode cX6_packAll 120 = .ok (.iload_n 3, 1) := by decide +kernel
theorem dX6_packAll_121 : decode cX6_packAll 121 = .ok (.aload_n 0, 1) := by decide +kernel
theorem dX6_packAll_122 : decode cX6_packAll 122 = .ok (.getfield 47, 3) := by decide +kernel
theorem dX6_packAll_125 : decode cX6_packAll 125 = .ok (.getfield 100, 3) := by decide +kernel
theorem dX6_packAll_128 : decode cX6_packAll 128 = .ok (.invokestatic 103, 3) := by decide +kernel
theorem dX6_packAll_131 : decode cX6_packAll 131 = .ok (.istore_n 3, 1) := by decide +kernel
theorem dX6_packAll_132 : decode cX6_packAll 132 = .ok (.iload 6, 2) := by decide +kernel
theorem dX6_packAll_134 : decode cX6_packAll 134 = .ok (.istore 4, 2) := by decide +kernel
theorem dX6_packAll_136 : decode cX6_packAll 136 = .ok (.iinc 5 1, 3) := by decide +kernel
theorem dX6_packAll_139 : decode cX6_packAll 139 = .ok (.goto (-67), 3) := by decide +kernel
theorem dX6_packAll_142 : decode cX6_packAll 142 = .ok (.aload_n 0, 1) := by decide +kernel
theorem dX6_packAll_143 : decode cX6_packAll 143 = .ok (.getfield 60, 3) := by decide +kernel
theorem dX6_packAll_146 : decode cX6_packAll 146 = .ok (.bipush 48, 2) := by decide +kernel
theorem dX6_packAll_148 : decode cX6_packAll 148 = .ok (.ldc2_w 107, 3) := by decide +kernel
theorem dX6_packAll_151 : decode cX6_packAll 151 = .ok (.invokevirtual 75, 3) := by decide +kernel
theorem dX6_packAll_154 : decode cX6_packAll 154 = .ok (.aload_n 0, 1) := by decide +kernel
theorem dX6_packAll_155 : decode cX6_packAll 155 = .ok (.getfield 60, 3) := by decide +kernel
theorem dX6_packAll_158 : decode cX6_packAll 158 = .ok (.bipush 32, 2) := by decide +kernel
theorem dX6_packAll_160 : decode cX6_packAll 160 = .ok (.iload_n 3, 1) := by decide +kernel
theorem dX6_packAll_161 : decode cX6_packAll 161 = .ok (.i2l, 1) := by decide +kernel
theorem dX6_packAll_162 : decode cX6_packAll 162 = .ok (.ldc2_w 109, 3) := by decide +kernel
theorem dX6_packAll_165 : decode cX6_packAll 165 = .ok (.land, 1) := by decide +kernel
theorem dX6_packAll_166 : decode cX6_packAll 166 = .ok (.invokevirtual 75, 3) := by decide +kernel
theorem dX6_packAll_169 : decode cX6_packAll 169 = .ok (.aload_n 0, 1) := by decide +kernel
theorem dX6_packAll_170 : decode cX6_packAll 170 = .ok (.getfield 60, 3) := by decide +kernel
theorem dX6_packAll_173 : decode cX6_packAll 173 = .ok (.invokevirtual 111, 3) := by decide +kernel
theorem dX6_packAll_176 : decode cX6_packAll 176 = .ok (.aload_n 0, 1) := by decide +kernel
theorem dX6_packAll_177 : decode cX6_packAll 177 = .ok (.getfield 60, 3) := by decide +kernel
theorem dX6_packAll_180 : decode cX6_packAll 180 = .ok (.invokevirtual 114, 3) := by decide +kernel
theorem dX6_packAll_183 : decode cX6_packAll 183 = .ok (.ireturn, 1) := by decide +kernel
theorem dX6_sumBetween_0 : decode cX6_sumBetween 0 = .ok (.iconst (-1), 1) := by decide +kernel
theorem dX6_sumBetween_1 : decode cX6_sumBetween 1 = .ok (.istore_n 3, 1) := by decide +kernel
theorem dX6_sumBetween_2 : decode cX6_sumBetween 2 = .ok (.iload_n 1, 1) := by decide +kernel
theorem dX6_sumBetween_3 : decode cX6_sumBetween 3 = .ok (.istore 4, 2) := by decide +kernel
theorem dX6_sumBetween_5 : decode cX6_sumBetween 5 = .ok (.iload 4, 2) := by decide +kernel
theorem dX6_sumBetween_7 : decode cX6_sumBetween 7 = .ok (.iload_n 2, 1) := by decide +kernel
theorem dX6_sumBetween_8 : decode cX6_sumBetween 8 = .ok (.if_icmp .ge 20, 3) := by decide +kernel
theorem dX6_sumBetween_11 : decode cX6_sumBetween 11 = .ok (.iload_n 3, 1) := by decide +kernel
theorem dX6_sumBetween_12 : decode cX6_sumBetween 12 = .ok (.aload_n 0, 1) := by decide +kernel
theorem dX6_sumBetween_13 : decode cX6_sumBetween 13 = .ok (.iload 4, 2) := by decide +kernel
theorem dX6_sumBetween_15 : decode cX6_sumBetween 15 = .ok (.invokevirtual 118, 3) := by decide +kernel
theorem dX6_sumBetween_18 : decode cX6_sumBetween 18 = .ok (.invokestatic 122, 3) := by decide +kernel
theorem dX6_sumBetween_21 : decode cX6_sumBetween 21 = .ok (.istore_n 3, 1) := by decide +kernel
theorem dX6_sumBetween_22 : decode cX6_sumBetween 22 = .ok (.iinc 4 1, 3) := by decide +kernel
theorem dX6_sumBetween_25 : decode cX6_sumBetween 25 = .ok (.goto (-20), 3) := by decide +kernel
theorem dX6_sumBetween_28 : decode cX6_sumBetween 28 = .ok (.iload_n 3, 1) := by decide +kernel
theorem dX6_sumBetween_29 : decode cX6_sumBetween 29 = .ok (.iconst (-1), 1) := by decide +kernel
theorem dX6_sumBetween_30 : decode cX6_sumBetween 30 = .ok (.ixor, 1) := by decide +kernel
theorem dX6_sumBetween_31 : decode cX6_sumBetween 31 = .ok (.ireturn, 1) := by decide +kernel
theorem dX6_shortenRuns_0 : decode cX6_shortenRuns 0 = .ok (.aload_n 0, 1) := by decide +kernel
theorem dX6_shortenRuns_1 : decode cX6_shortenRuns 1 = .ok (.iconst 0, 1) := by decide +kernel
theorem dX6_shortenRuns_2 : decode cX6_shortenRuns 2 = .ok (.putfield 125, 3) := by decide +kernel
theorem dX6_shortenRuns_5 : decode cX6_shortenRuns 5 = .ok (.iload_n 2, 1) := by decide +kernel
theorem dX6_shortenRuns_6 : decode cX6_shortenRuns 6 = .ok (.istore 4, 2) := by decide +kernel
theorem dX6_shortenRuns_8 : decode cX6_shortenRuns 8 = .ok (.iload 4, 2) := by decide +kernel
theorem dX6_shortenRuns_10 : decode cX6_shortenRuns 10 = .ok (.aload_n 1, 1) := by decide +kernel
theorem dX6_shortenRuns_11 : decode cX6_shortenRuns 11 = .ok (.getfield 83, 3) := by decide +kernel
theorem dX6_shortenRuns_14 : decode cX6_shortenRuns 14 = .ok (.if_icmp .ge 142, 3) := by decide +kernel
theorem dX6_shortenRuns_17 : decode cX6_shortenRuns 17 = .ok (.aload_n 1, 1) := by decide +kernel
theorem dX6_shortenRuns_18 : decode cX6_shortenRuns 18 = .ok (.iload 4, 2) := by decide +kernel
theorem dX6_shortenRuns_20 : decode cX6_shortenRuns 20 = .ok (.invokestatic 126, 3) := by decide +kernel
theorem dX6_shortenRuns_23 : decode cX6_shortenRuns 23 = .ok (.istore 5, 2) := by decide +kernel
theorem dX6_shortenRuns_25 : decode cX6_shortenRuns 25 = .ok (.iload 5, 2) := by decide +kernel
theorem dX6_shortenRuns_27 : decode cX6_shortenRuns 27 = .ok (.iconst 4, 1) := by decide +kernel
theorem dX6_shortenRuns_28 : decode cX6_shortenRuns 28 = .ok (.if_icmp .ge 8, 3) := by decide +kernel
theorem dX6_shortenRuns_31 : decode cX6_shortenRuns 31 = .ok (.iload 5, 2) := by decide +kernel
theorem dX6_shortenRuns_33 : decode cX6_shortenRuns 33 = .ok (.goto 4, 3) := by decide +kernel
theorem dX6_shortenRuns_36 : decode cX6_shortenRuns 36 = .ok (.iconst 5, 1) := by decide +kernel
theorem dX6_shortenRuns_37 : decode cX6_shortenRuns 37 = .ok (.istore 6, 2) := by decide +kernel
theorem dX6_shortenRuns_39 : decode cX6_shortenRuns 39 = .ok (.aload_n 0, 1) := by decide +kernel
theorem dX6_shortenRuns_40 : decode cX6_shortenRuns 40 = .ok (.getfield 125, 3) := by decide +kernel
theorem dX6_shortenRuns_43 : decode cX6_shortenRuns 43 = .ok (.iload 6, 2) := by decide +kernel
theorem dX6_shortenRuns_45 : decode cX6_shortenRuns 45 = .ok (.iadd, 1) := by decide +kernel
theorem dX6_shortenRuns_46 : decode cX6_shortenRuns 46 = .ok (.iload_n 3, 1) := by decide +kernel
theorem dX6_shortenRuns_47 : decode cX6_shortenRuns 47 = .ok (.if_icmp .gt 18, 3) := by decide +kernel
theorem dX6_shortenRuns_50 : decode cX6_shortenRuns 50 = .ok (.aload_n 0, 1) := by decide +kernel
theorem dX6_shortenRuns_51 : decode cX6_shortenRuns 51 = .ok (.getfield 125, 3) := by decide +kernel
theorem dX6_shortenRuns_54 : decode cX6_shortenRuns 54 = .ok (.iload 6, 2) := by decide +kernel
theorem dX6_shortenRuns_56 : decode cX6_shortenRuns 56 = .ok (.iadd, 1) := by decide +kernel
theorem dX6_shortenRuns_57 : decode cX6_shortenRuns 57 = .ok (.aload_n 0, 1) := by decide +kernel
theorem dX6_shortenRuns_58 : decode cX6_shortenRuns 58 = .ok (.getfield 40, 3) := by decide +kernel
theorem dX6_shortenRuns_61 : decode cX6_shortenRuns 61 = .ok (.arraylength, 1) := by decide +kernel
theorem dX6_shortenRuns_62 : decode cX6_shortenRuns 62 = .ok (.if_icmp .le 6, 3) := by decide +kernel
theorem dX6_shortenRuns_65 : decode cX6_shortenRuns 65 = .ok (.iload 4, 2) := by decide +kernel
theorem dX6_shortenRuns_67 : decode cX6_shortenRuns 67 = .ok (.ireturn, 1) := by decide +kernel
theorem dX6_shortenRuns_68 : decode cX6_shortenRuns 68 = .ok (.iconst 0, 1) := by decide +kernel
theorem dX6_shortenRuns_69 : decode cX6_shortenRuns 69 = .ok (.istore 7, 2) := by decide +kernel
theorem dX6_shortenRuns_71 : decode cX6_shortenRuns 71 = .ok (.iload 7, 2) := by decide +kernel
theorem dX6_shortenRuns_73 : decode cX6_shortenRuns 73 = .ok (.iload 5, 2) := by decide +kernel
theorem dX6_shortenRuns_75 : decode cX6_shortenRuns 75 = .ok (.if_icmp .ge 41, 3) := by decide +kernel
theorem dX6_shortenRuns_78 : decode cX6_shortenRuns 78 = .ok (.iload 7, 2) := by decide +kernel
theorem dX6_shortenRuns_80 : decode cX6_shortenRuns 80 = .ok (.iconst 4, 1) := by decide +kernel
theorem dX6_shortenRuns_81 : decode cX6_shortenRuns 81 = .ok (.if_icmp .ge 35, 3) := by decide +kernel
theorem dX6_shortenRuns_84 : decode cX6_shortenRuns 84 = .ok (.aload_n 0, 1) := by decide +kernel
theorem dX6_shortenRuns_85 : decode cX6_shortenRuns 85 = .ok (.getfield 40, 3) := by decide +kernel
theorem dX6_shortenRuns_88 : decode cX6_shortenRuns 88 = .ok (.aload_n 0, 1) := by decide +kernel
theorem dX6_shortenRuns_89 : decode cX6_shortenRuns 89 = .ok (.getfield 125, 3) := by decide +kernel
theorem dX6_shortenRuns_92 : decode cX6_shortenRuns 92 = .ok (.aload_n 1, 1) := by decide +kernel
theorem dX6_shortenRuns_93 : decode cX6_shortenRuns 93 = .ok (.iload 4, 2) := by decide +kernel
theorem dX6_shortenRuns_95 : decode cX6_shortenRuns 95 = .ok (.invokevirtual 118, 3) := by decide +kernel
theorem dX6_shortenRuns_98 : decode cX6_shortenRuns 98 = .ok (.i2b, 1) := by decide +kernel
theorem dX6_shortenRuns_99 : decode cX6_shortenRuns 99 = .ok (.bastore, 1) := by decide +kernel
theorem dX6_shortenRuns_100 : decode cX6_shortenRuns 100 = .ok (.aload_n 0, 1) := by decide +kernel
theorem dX6_shortenRuns_101 : decode cX6_shortenRuns 101 = .ok (.dup, 1) := by decide +kernel
theorem dX6_shortenRuns_102 : decode cX6_shortenRuns 102 = .ok (.getfield 125, 3) := by decide +kernel
theorem dX6_shortenRuns_105 : decode cX6_shortenRuns 105 = .ok (.iconst 1, 1) := by decide +kernel
theorem dX6_shortenRuns_106 : decode cX6_shortenRuns 106 = .ok (.iadd, 1) := by decide +kernel
theorem dX6_shortenRuns_107 : decode cX6_shortenRuns 107 = .ok (.putfield 125, 3) := by decide +kernel
theorem dX6_shortenRuns_110 : decode cX6_shortenRuns 110 = .ok (.iinc 7 1, 3) := by decide +kernel
theorem dX6_shortenRuns_113 : decode cX6_shortenRuns 113 = .ok (.goto (-42), 3) := by decide +kernel
theorem dX6_shortenRuns_116 : decode cX6_shortenRuns 116 = .ok (.iload 5, 2) := by decide +kernel
theorem dX6_shortenRuns_118 : decode cX6_shortenRuns 118 = .ok (.iconst 4, 1) := by decide +kernel
theorem dX6_shortenRuns_119 : decode cX6_shortenRuns 119 = .ok (.if_icmp .lt 27, 3) := by decide +kernel
theorem dX6_shortenRuns_122 : decode cX6_shortenRuns 122 = .ok (.aload_n 0, 1) := by decide +kernel
theorem dX6_shortenRuns_123 : decode cX6_shortenRuns 123 = .ok (.getfield 40, 3) := by decide +kernel
theorem dX6_shortenRuns_126 : decode cX6_shortenRuns 126 = .ok (.aload_n 0, 1) := by decide +kernel
theorem dX6_shortenRuns_127 : decode cX6_shortenRuns 127 = .ok (.getfield 125, 3) := by decide +kernel
theorem dX6_shortenRuns_130 : decode cX6_shortenRuns 130 = .ok (.iload 5, 2) := by decide +kernel
theorem dX6_shortenRuns_132 : decode cX6_shortenRuns 132 = .ok (.iconst 4, 1) := by decide +kernel
theorem dX6_shortenRuns_133 : decode cX6_shortenRuns 133 = .ok (.isub, 1) := by decide +kernel
theorem dX6_shortenRuns_134 : decode cX6_shortenRuns 134 = .ok (.i2b, 1) := by decide +kernel
theorem dX6_shortenRuns_135 : decode cX6_shortenRuns 135 = .ok (.bastore, 1) := by decide +kernel
theorem dX6_shortenRuns_136 : decode cX6_shortenRuns 136 = .ok (.aload_n 0, 1) := by decide +kernel
theorem dX6_shortenRuns_137 : decode cX6_shortenRuns 137 = .ok (.dup, 1) := by decide +kernel
theorem dX6_shortenRuns_138 : decode cX6_shortenRuns 138 = .ok (.getfield 125, 3) := by decide +kernel
theorem dX6_shortenRuns_141 : decode cX6_shortenRuns 141 = .ok (.iconst 1, 1) := by decide +kernel
theorem dX6_shortenRuns_142 : decode cX6_shortenRuns 142 = .ok (.iadd, 1) := by decide +kernel
theorem dX6_shortenRuns_143 : decode cX6_shortenRuns 143 = .ok (.putfield 125, 3) := by decide +kernel
theorem dX6_shortenRuns_146 : decode cX6_shortenRuns 146 = .ok (.iload 4, 2) := by decide +kernel
theorem dX6_shortenRuns_148 : decode cX6_shortenRuns 148 = .ok (.iload 5, 2) := by decide +kernel
theorem dX6_shortenRuns_150 : decode cX6_shortenRuns 150 = .ok (.iadd, 1) := by decide +kernel
theorem dX6_shortenRuns_151 : decode cX6_shortenRuns 151 = .ok (.istore 4, 2) := by decide +kernel
theorem dX6_shortenRuns_153 : decode cX6_shortenRuns 153 = .ok (.goto (-145), 3) := by decide +kernel
theorem dX6_shortenRuns_156 : decode cX6_shortenRuns 156 = .ok (.iload 4, 2) := by decide +kernel
theorem dX6_shortenRuns_158 : decode cX6_shortenRuns 158 = .ok (.ireturn, 1) := by decide +kernel
theorem dX6_runFrom_0 : decode cX6_runFrom 0 = .ok (.iconst 1, 1) := by decide +kernel
theorem dX6_runFrom_1 : decode cX6_runFrom 1 = .ok (.istore_n 2, 1) := by decide +kernel
theorem dX6_runFrom_2 : decode cX6_runFrom 2 = .ok (.iload_n 2, 1) := by decide +kernel
theorem dX6_runFrom_3 : decode cX6_runFrom 3 = .ok (.sipush 255, 3) := by decide +kernel
theorem dX6_runFrom_6 : decode cX6_runFrom 6 = .ok (.if_icmp .ge 34, 3) := by decide +kernel
theorem dX6_runFrom_9 : decode cX6_runFrom 9 = .ok (.iload_n 1, 1) := by decide +kernel
theorem dX6_runFrom_10 : decode cX6_runFrom 10 = .ok (.iload_n 2, 1) := by decide +kernel
theorem dX6_runFrom_11 : decode cX6_runFrom 11 = .ok (.iadd, 1) := by decide +kernel
theorem dX6_runFrom_12 : decode cX6_runFrom 12 = .ok (.aload_n 0, 1) := by decide +kernel
theorem dX6_runFrom_13 : decode cX6_runFrom 13 = .ok (.getfield 83, 3) := by decide +kernel
theorem dX6_runFrom_16 : decode cX6_runFrom 16 = .ok (.if_icmp .ge 24, 3) := by decide +kernel
theorem dX6_runFrom_19 : decode cX6_runFrom 19 = .ok (.aload_n 0, 1) := by decide +kernel
theorem dX6_runFrom_20 : decode cX6_runFrom 20 = .ok (.iload_n 1, 1) := by decide +kernel
theorem dX6_runFrom_21 : decode cX6_runFrom 21 = .ok (.iload_n 2, 1) := by decide +kernel
theorem dX6_runFrom_22 : decode cX6_runFrom 22 = .ok (.iadd, 1) := by decide +kernel
theorem dX6_runFrom_23 : decode cX6_runFrom 23 = .ok (.invokevirtual 118, 3) := by decide +kernel
theorem dX6_runFrom_26 : decode cX6_runFrom 26 = .ok (.aload_n 0, 1) := by decide +kernel
theorem dX6_runFrom_27 : decode cX6_runFrom 27 = .ok (.iload_n 1, 1) := by decide +kernel
theorem dX6_runFrom_28 : decode cX6_runFrom 28 = .ok (.invokevirtual 118, 3) := by decide +kernel
theorem dX6_runFrom_31 : decode cX6_runFrom 31 = .ok (.if_icmp .ne 9, 3) := by decide +kernel
theorem dX6_runFrom_34 : decode cX6_runFrom 34 = .ok (.iinc 2 1, 3) := by decide +kernel
theorem dX6_runFrom_37 : decode cX6_runFrom 37 = .ok (.goto (-35), 3) := by decide +kernel
theorem dX6_runFrom_40 : decode cX6_runFrom 40 = .ok (.iload_n 2, 1) := by decide +kernel
theorem dX6_runFrom_41 : decode cX6_runFrom 41 = .ok (.ireturn, 1) := by decide +kernel
theorem dX6_packBlock_0 : decode cX6_packBlock 0 = .ok (.aload_n 0, 1) := by decide +kernel
theorem dX6_packBlock_1 : decode cX6_packBlock 1 = .ok (.getfield 51, 3) := by decide +kernel
theorem dX6_packBlock_4 : decode cX6_packBlock 4 = .ok (.aload_n 0, 1) := by decide +kernel
theorem dX6_packBlock_5 : decode cX6_packBlock 5 = .ok (.getfield 40, 3) := by decide +kernel
theorem dX6_packBlock_8 : decode cX6_packBlock 8 = .ok (.aload_n 0, 1) := by decide +kernel
theorem dX6_packBlock_9 : decode cX6_packBlock 9 = .ok (.getfield 125, 3) := by decide +kernel
theorem dX6_packBlock_12 : decode cX6_packBlock 12 = .ok (.invokevirtual 130, 3) := by decide +kernel
theorem dX6_packBlock_15 : decode cX6_packBlock 15 = .ok (.aload_n 0, 1) := by decide +kernel
theorem dX6_packBlock_16 : decode cX6_packBlock 16 = .ok (.invokevirtual 136, 3) := by decide +kernel
theorem dX6_packBlock_19 : decode cX6_packBlock 19 = .ok (.aload_n 0, 1) := by decide +kernel
theorem dX6_packBlock_20 : decode cX6_packBlock 20 = .ok (.invokevirtual 139, 3) := by decide +kernel
theorem dX6_packBlock_23 : decode cX6_packBlock 23 = .ok (.aload_n 0, 1) := by decide +kernel
theorem dX6_packBlock_24 : decode cX6_packBlock 24 = .ok (.getfield 47, 3) := by decide +kernel
theorem dX6_packBlock_27 : decode cX6_packBlock 27 = .ok (.getfield 142, 3) := by decide +kernel
theorem dX6_packBlock_30 : decode cX6_packBlock 30 = .ok (.astore_n 3, 1) := by decide +kernel
theorem dX6_packBlock_31 : decode cX6_packBlock 31 = .ok (.aload_n 3, 1) := by decide +kernel
theorem dX6_packBlock_32 : decode cX6_packBlock 32 = .ok (.aload_n 0, 1) := by decide +kernel
theorem dX6_packBlock_33 : decode cX6_packBlock 33 = .ok (.getfield 14, 3) := by decide +kernel
theorem dX6_packBlock_36 : decode cX6_packBlock 36 = .ok (.getfield 146, 3) := by decide +kernel
theorem dX6_packBlock_39 : decode cX6_packBlock 39 = .ok (.iconst 2, 1) := by decide +kernel
theorem dX6_packBlock_40 : decode cX6_packBlock 40 = .ok (.iadd, 1) := by decide +kernel
theorem dX6_packBlock_41 : decode cX6_packBlock 41 = .ok (.putfield 147, 3) := by decide +kernel
theorem dX6_packBlock_44 : decode cX6_packBlock 44 = .ok (.aload_n 0, 1) := by decide +kernel
theorem dX6_packBlock_45 : decode cX6_packBlock 45 = .ok (.getfield 26, 3) := by decide +kernel
theorem dX6_packBlock_48 : decode cX6_packBlock 48 = .ok (.aload_n 0, 1) := by decide +kernel
theorem dX6_packBlock_49 : decode cX6_packBlock 49 = .ok (.getfield 44, 3) := by decide +kernel
theorem dX6_packBlock_52 : decode cX6_packBlock 52 = .ok (.aload_n 0, 1) := by decide +kernel
theorem dX6_packBlock_53 : decode cX6_packBlock 53 = .ok (.getfield 152, 3) := by decide +kernel
theorem dX6_packBlock_56 : decode cX6_packBlock 56 = .ok (.aload_n 3, 1) := by decide +kernel
theorem dX6_packBlock_57 : decode cX6_packBlock 57 = .ok (.invokevirtual 155, 3) := by decide +kernel
theorem dX6_packBlock_60 : decode cX6_packBlock 60 = .ok (.aload_n 0, 1) := by decide +kernel
theorem dX6_packBlock_61 : decode cX6_packBlock 61 = .ok (.iload_n 1, 1) := by decide +kernel
theorem dX6_packBlock_62 : decode cX6_packBlock 62 = .ok (.iload_n 2, 1) := by decide +kernel
theorem dX6_packBlock_63 : decode cX6_packBlock 63 = .ok (.aload_n 3, 1) := by decide +kernel
theorem dX6_packBlock_64 : decode cX6_packBlock 64 = .ok (.invokevirtual 159, 3) := by decide +kernel
theorem dX6_packBlock_67 : decode cX6_packBlock 67 = .ok (.aload_n 0, 1) := by decide +kernel
theorem dX6_packBlock_68 : decode cX6_packBlock 68 = .ok (.iload_n 1, 1) := by decide +kernel
theorem dX6_packBlock_69 : decode cX6_packBlock 69 = .ok (.invokevirtual 163, 3) := by decide +kernel
theorem dX6_packBlock_72 : decode cX6_packBlock 72 = .ok (.aload_n 0, 1) := by decide +kernel
theorem dX6_packBlock_73 : decode cX6_packBlock 73 = .ok (.invokevirtual 166, 3) := by decide +kernel
theorem dX6_packBlock_76 : decode cX6_packBlock 76 = .ok (.aload_n 0, 1) := by decide +kernel
theorem dX6_packBlock_77 : decode cX6_packBlock 77 = .ok (.aload_n 3, 1) := by decide +kernel
theorem dX6_packBlock_78 : decode cX6_packBlock 78 = .ok (.invokevirtual 169, 3) := by decide +kernel
theorem dX6_packBlock_81 : decode cX6_packBlock 81 = .ok (.aload_n 0, 1) := by decide +kernel
theorem dX6_packBlock_82 : decode cX6_packBlock 82 = .ok (.aload_n 3, 1) := by decide +kernel
theorem dX6_packBlock_83 : decode cX6_packBlock 83 = .ok (.invokevirtual 173, 3) := by decide +kernel
theorem dX6_packBlock_86 : decode cX6_packBlock 86 = .ok (.aload_n 0, 1) := by decide +kernel
theorem dX6_packBlock_87 : decode cX6_packBlock 87 = .ok (.aload_n 3, 1) := by decide +kernel
theorem dX6_packBlock_88 : decode cX6_packBlock 88 = .ok (.invokevirtual 176, 3) := by decide +kernel
theorem dX6_packBlock_91 : decode cX6_packBlock 91 = .ok (.aload_n 0, 1) := by decide +kernel
theorem dX6_packBlock_92 : decode cX6_packBlock 92 = .ok (.getfield 47, 3) := by decide +kernel
theorem dX6_packBlock_95 : decode cX6_packBlock 95 = .ok (.invokevirtual 179, 3) := by decide +kernel
theorem dX6_packBlock_98 : decode cX6_packBlock 98 = .ok (.aload_n 0, 1) := by decide +kernel
theorem dX6_packBlock_99 : decode cX6_packBlock 99 = .ok (.getfield 47, 3) := by decide +kernel
theorem dX6_packBlock_102 : decode cX6_packBlock 102 = .ok (.invokevirtual 182, 3) := by decide +kernel
theorem dX6_packBlock_105 : decode cX6_packBlock 105 = .ok (.return_, 1) := by decide +kernel
theorem dX6_noteFacts_0 : decode cX6_noteFacts 0 = .ok (.aload_n 0, 1) := by decide +kernel
theorem dX6_noteFacts_1 : decode cX6_noteFacts 1 = .ok (.getfield 47, 3) := by decide +kernel
theorem dX6_noteFacts_4 : decode cX6_noteFacts 4 = .ok (.iload_n 1, 1) := by decide +kernel
theorem dX6_noteFacts_5 : decode cX6_noteFacts 5 = .ok (.putfield 100, 3) := by decide +kernel
theorem dX6_noteFacts_8 : decode cX6_noteFacts 8 = .ok (.aload_n 0, 1) := by decide +kernel
theorem dX6_noteFacts_9 : decode cX6_noteFacts 9 = .ok (.getfield 47, 3) := by decide +kernel
theorem dX6_noteFacts_12 : decode cX6_noteFacts 12 = .ok (.iconst 0, 1) := by decide +kernel
theorem dX6_noteFacts_13 : decode cX6_noteFacts 13 = .ok (.aload_n 0, 1) := by decide +kernel
theorem dX6_noteFacts_14 : decode cX6_noteFacts 14 = .ok (.getfield 60, 3) := by decide +kernel
theorem dX6_noteFacts_17 : decode cX6_noteFacts 17 = .ok (.getfield 185, 3) := by decide +kernel
theorem dX6_noteFacts_20 : decode cX6_noteFacts 20 = .ok (.invokevirtual 188, 3) := by decide +kernel
theorem dX6_noteFacts_23 : decode cX6_noteFacts 23 = .ok (.aload_n 0, 1) := by decide +kernel
theorem dX6_noteFacts_24 : decode cX6_noteFacts 24 = .ok (.getfield 47, 3) := by decide +kernel
theorem dX6_noteFacts_27 : decode cX6_noteFacts 27 = .ok (.iconst 1, 1) := by decide +kernel
theorem dX6_noteFacts_28 : decode cX6_noteFacts 28 = .ok (.iload_n 2, 1) := by decide +kernel
theorem dX6_noteFacts_29 : decode cX6_noteFacts 29 = .ok (.invokevirtual 188, 3) := by decide +kernel
theorem dX6_noteFacts_32 : decode cX6_noteFacts 32 = .ok (.aload_n 0, 1) := by decide +kernel
theorem dX6_noteFacts_33 : decode cX6_noteFacts 33 = .ok (.getfield 47, 3) := by decide +kernel
theorem dX6_noteFacts_36 : decode cX6_noteFacts 36 = .ok (.iconst 2, 1) := by decide +kernel
theorem dX6_noteFacts_37 : decode cX6_noteFacts 37 = .ok (.aload_n 0, 1) := by decide +kernel
theorem dX6_noteFacts_38 : decode cX6_noteFacts 38 = .ok (.getfield 125, 3) := by decide +kernel
theorem dX6_noteFacts_41 : decode cX6_noteFacts 41 = .ok (.invokevirtual 188, 3) := by decide +kernel
theorem dX6_noteFacts_44 : decode cX6_noteFacts 44 = .ok (.aload_n 0, 1) := by decide +kernel
theorem dX6_noteFacts_45 : decode cX6_noteFacts 45 = .ok (.getfield 47, 3) := by decide +kernel
theorem dX6_noteFacts_48 : decode cX6_noteFacts 48 = .ok (.iconst 3, 1) := by decide +kernel
theorem dX6_noteFacts_49 : decode cX6_noteFacts 49 = .ok (.aload_n 0, 1) := by decide +kernel
theorem dX6_noteFacts_50 : decode cX6_noteFacts 50 = .ok (.getfield 51, 3) := by decide +kernel
theorem dX6_noteFacts_53 : decode cX6_noteFacts 53 = .ok (.aload_n 0, 1) := by decide +kernel
theorem dX6_noteFacts_54 : decode cX6_noteFacts 54 = .ok (.getfield 125, 3) := by decide +kernel
theorem dX6_noteFacts_57 : decode cX6_noteFacts 57 = .ok (.invokevirtual 191, 3) := by decide +kernel
theorem dX6_noteFacts_60 : decode cX6_noteFacts 60 = .ok (.invokevirtual 188, 3) := by decide +kernel
theorem dX6_noteFacts_63 : decode cX6_noteFacts 63 = .ok (.aload_n 0, 1) := by decide +kernel
theorem dX6_noteFacts_64 : decode cX6_noteFacts 64 = .ok (.getfield 47, 3) := by decide +kernel
theorem dX6_noteFacts_67 : decode cX6_noteFacts 67 = .ok (.iconst 4, 1) := by decide +kernel
theorem dX6_noteFacts_68 : decode cX6_noteFacts 68 = .ok (.aload_n 0, 1) := by decide +kernel
theorem dX6_noteFacts_69 : decode cX6_noteFacts 69 = .ok (.getfield 14, 3) := by decide +kernel
theorem dX6_noteFacts_72 : decode cX6_noteFacts 72 = .ok (.getfield 146, 3) := by decide +kernel
theorem dX6_noteFacts_75 : decode cX6_noteFacts 75 = .ok (.invokevirtual 188, 3) := by decide +kernel
theorem dX6_noteFacts_78 : decode cX6_noteFacts 78 = .ok (.aload_n 0, 1) := by decide +kernel
theorem dX6_noteFacts_79 : decode cX6_noteFacts 79 = .ok (.getfield 47, 3) := by decide +kernel
theorem dX6_noteFacts_82 : decode cX6_noteFacts 82 = .ok (.iconst 5, 1) := by decide +kernel
theorem dX6_noteFacts_83 : decode cX6_noteFacts 83 = .ok (.aload_n 3, 1) := by decide +kernel
theorem dX6_noteFacts_84 : decode cX6_noteFacts 84 = .ok (.getfield 194, 3) := by decide +kernel
theorem dX6_noteFacts_87 : decode cX6_noteFacts 87 = .ok (.invokevirtual 188, 3) := by decide +kernel
theorem dX6_noteFacts_90 : decode cX6_noteFacts 90 = .ok (.aload_n 0, 1) := by decide +kernel
theorem dX6_noteFacts_91 : decode cX6_noteFacts 91 = .ok (.getfield 47, 3) := by decide +kernel
theorem dX6_noteFacts_94 : decode cX6_noteFacts 94 = .ok (.bipush 6, 2) := by decide +kernel
theorem dX6_noteFacts_96 : decode cX6_noteFacts 96 = .ok (.aload_n 3, 1) := by decide +kernel
theorem dX6_noteFacts_97 : decode cX6_noteFacts 97 = .ok (.getfield 197, 3) := by decide +kernel
theorem dX6_noteFacts_100 : decode cX6_noteFacts 100 = .ok (.invokevirtual 188, 3) := by decide +kernel
theorem dX6_noteFacts_103 : decode cX6_noteFacts 103 = .ok (.aload_n 0, 1) := by decide +kernel
theorem dX6_noteFacts_104 : decode cX6_noteFacts 104 = .ok (.getfield 47, 3) := by decide +kernel
theorem dX6_noteFacts_107 : decode cX6_noteFacts 107 = .ok (.bipush 7, 2) := by decide +kernel
theorem dX6_noteFacts_109 : decode cX6_noteFacts 109 = .ok (.iconst 0, 1) := by decide +kernel
theorem dX6_noteFacts_110 : decode cX6_noteFacts 110 = .ok (.invokevirtual 188, 3) := by decide +kernel
theorem dX6_noteFacts_113 : decode cX6_noteFacts 113 = .ok (.aload_n 0, 1) := by decide +kernel
theorem dX6_noteFacts_114 : decode cX6_noteFacts 114 = .ok (.getfield 47, 3) := by decide +kernel
theorem dX6_noteFacts_117 : decode cX6_noteFacts 117 = .ok (.bipush 8, 2) := by decide +kernel
theorem dX6_noteFacts_119 : decode cX6_noteFacts 119 = .ok (.aload_n 0, 1) := by decide +kernel
theorem dX6_noteFacts_120 : decode cX6_noteFacts 120 = .ok (.getfield 152, 3) := by decide +kernel
theorem dX6_noteFacts_123 : decode cX6_noteFacts 123 = .ok (.invokevirtual 188, 3) := by decide +kernel
theorem dX6_noteFacts_126 : decode cX6_noteFacts 126 = .ok (.return_, 1) := by decide +kernel
theorem dX6_findSigns_0 : decode cX6_findSigns 0 = .ok (.aload_n 0, 1) := by decide +kernel
theorem dX6_findSigns_1 : decode cX6_findSigns 1 = .ok (.getfield 36, 3) := by decide +kernel
theorem dX6_findSigns_4 : decode cX6_findSigns 4 = .ok (.iconst 0, 1) := by decide +kernel
theorem dX6_findSigns_5 : decode cX6_findSigns 5 = .ok (.invokestatic 200, 3) := by decide +kernel
theorem dX6_findSigns_8 : decode cX6_findSigns 8 = .ok (.iconst 0, 1) := by decide +kernel
theorem dX6_findSigns_9 : decode cX6_findSigns 9 = .ok (.istore_n 1, 1) := by decide +kernel
theorem dX6_findSigns_10 : decode cX6_findSigns 10 = .ok (.iload_n 1, 1) := by decide +kernel
theorem dX6_findSigns_11 : decode cX6_findSigns 11 = .ok (.aload_n 0, 1) := by decide +kernel
theorem dX6_findSigns_12 : decode cX6_findSigns 12 = .ok (.getfield 125, 3) := by decide +kernel
theorem dX6_findSigns_15 : decode cX6_findSigns 15 = .ok (.if_icmp .ge 25, 3) := by decide +kernel
theorem dX6_findSigns_18 : decode cX6_findSigns 18 = .ok (.aload_n 0, 1) := by decide +kernel
theorem dX6_findSigns_19 : decode cX6_findSigns 19 = .ok (.getfield 36, 3) := by decide +kernel
theorem dX6_findSigns_22 : decode cX6_findSigns 22 = .ok (.aload_n 0, 1) := by decide +kernel
theorem dX6_findSigns_23 : decode cX6_findSigns 23 = .ok (.getfield 40, 3) := by decide +kernel
theorem dX6_findSigns_26 : decode cX6_findSigns 26 = .ok (.iload_n 1, 1) := by decide +kernel
theorem dX6_findSigns_27 : decode cX6_findSigns 27 = .ok (.baload, 1) := by decide +kernel
theorem dX6_findSigns_28 : decode cX6_findSigns 28 = .ok (.sipush 255, 3) := by decide +kernel
theorem dX6_findSigns_31 : decode cX6_findSigns 31 = .ok (.iand, 1) := by decide +kernel
theorem dX6_findSigns_32 : decode cX6_findSigns 32 = .ok (.iconst 1, 1) := by decide +kernel
theorem dX6_findSigns_33 : decode cX6_findSigns 33 = .ok (.iastore, 1) := by decide +kernel
theorem dX6_findSigns_34 : decode cX6_findSigns 34 = .ok (.iinc 1 1, 3) := by decide +kernel
theorem dX6_findSigns_37 : decode cX6_findSigns 37 = .ok (.goto (-27), 3) := by decide +kernel
theorem dX6_findSigns_40 : decode cX6_findSigns 40 = .ok (.aload_n 0, 1) := by decide +kernel
theorem dX6_findSigns_41 : decode cX6_findSigns 41 = .ok (.getfield 14, 3) := by decide +kernel
theorem dX6_findSigns_44 : decode cX6_findSigns 44 = .ok (.invokevirtual 206, 3) := by decide +kernel
theorem dX6_findSigns_47 : decode cX6_findSigns 47 = .ok (.iconst 0, 1) := by decide +kernel
theorem dX6_findSigns_48 : decode cX6_findSigns 48 = .ok (.istore_n 1, 1) := by decide +kernel
theorem dX6_findSigns_49 : decode cX6_findSigns 49 = .ok (.iload_n 1, 1) := by decide +kernel
theorem dX6_findSigns_50 : decode cX6_findSigns 50 = .ok (.sipush 256, 3) := by decide +kernel
theorem dX6_findSigns_53 : decode cX6_findSigns 53 = .ok (.if_icmp .ge 27, 3) := by decide +kernel
theorem dX6_findSigns_56 : decode cX6_findSigns 56 = .ok (.aload_n 0, 1) := by decide +kernel
theorem dX6_findSigns_57 : decode cX6_findSigns 57 = .ok (.getfield 36, 3) := by decide +kernel
theorem dX6_findSigns_60 : decode cX6_findSigns 60 = .ok (.iload_n 1, 1) := by decide +kernel
theorem dX6_findSigns_61 : decode cX6_findSigns 61 = .ok (.iaload, 1) := by decide +kernel
theorem dX6_findSigns_62 : decode cX6_findSigns 62 = .ok (.iconst 1, 1) := by decide +kernel
theorem dX6_findSigns_63 : decode cX6_findSigns 63 = .ok (.if_icmp .ne 11, 3) := by decide +kernel
theorem dX6_findSigns_66 : decode cX6_findSigns 66 = .ok (.aload_n 0, 1) := by decide +kernel
theorem dX6_findSigns_67 : decode cX6_findSigns 67 = .ok (.getfield 14, 3) := by decide +kernel
theorem dX6_findSigns_70 : decode cX6_findSigns 70 = .ok (.iload_n 1, 1) := by decide +kernel
theorem dX6_findSigns_71 : decode cX6_findSigns 71 = .ok (.invokevirtual 209, 3) := by decide +kernel
theorem dX6_findSigns_74 : decode cX6_findSigns 74 = .ok (.iinc 1 1, 3) := by decide +kernel
theorem dX6_findSigns_77 : decode cX6_findSigns 77 = .ok (.goto (-28), 3) := by decide +kernel
theorem dX6_findSigns_80 : decode cX6_findSigns 80 = .ok (.return_, 1) := by decide +kernel
theorem dX6_makeNumbers_0 : decode cX6_makeNumbers 0 = .ok (.aload_n 0, 1) := by decide +kernel
theorem dX6_makeNumbers_1 : decode cX6_makeNumbers 1 = .ok (.iconst 0, 1) := by decide +kernel
theorem dX6_makeNumbers_2 : decode cX6_makeNumbers 2 = .ok (.putfield 152, 3) := by decide +kernel
theorem dX6_makeNumbers_5 : decode cX6_makeNumbers 5 = .ok (.iconst 0, 1) := by decide +kernel
theorem dX6_makeNumbers_6 : decode cX6_makeNumbers 6 = .ok (.istore_n 1, 1) := by decide +kernel
theorem dX6_makeNumbers_7 : decode cX6_makeNumbers 7 = .ok (.iconst 0, 1) := by decide +kernel
theorem dX6_makeNumbers_8 : decode cX6_makeNumbers 8 = .ok (.istore_n 2, 1) := by decide +kernel
theorem dX6_makeNumbers_9 : decode cX6_makeNumbers 9 = .ok (.iload_n 2, 1) := by decide +kernel
theorem dX6_makeNumbers_10 : decode cX6_makeNumbers 10 = .ok (.aload_n 0, 1) := by decide +kernel
theorem dX6_makeNumbers_11 : decode cX6_makeNumbers 11 = .ok (.getfield 125, 3) := by decide +kernel
theorem dX6_makeNumbers_14 : decode cX6_makeNumbers 14 = .ok (.if_icmp .ge 57, 3) := by decide +kernel
theorem dX6_makeNumbers_17 : decode cX6_makeNumbers 17 = .ok (.aload_n 0, 1) := by decide +kernel
theorem dX6_makeNumbers_18 : decode cX6_makeNumbers 18 = .ok (.getfield 14, 3) := by decide +kernel
theorem dX6_makeNumbers_21 : decode cX6_makeNumbers 21 = .ok (.aload_n 0, 1) := by decide +kernel
theorem dX6_makeNumbers_22 : decode cX6_makeNumbers 22 = .ok (.getfield 51, 3) := by decide +kernel
theorem dX6_makeNumbers_25 : decode cX6_makeNumbers 25 = .ok (.aload_n 0, 1) := by decide +kernel
theorem dX6_makeNumbers_26 : decode cX6_makeNumbers 26 = .ok (.getfield 40, 3) := by decide +kernel
theorem dX6_makeNumbers_29 : decode cX6_makeNumbers 29 = .ok (.aload_n 0, 1) := by decide +kernel
theorem dX6_makeNumbers_30 : decode cX6_makeNumbers 30 = .ok (.getfield 125, 3) := by decide +kernel
theorem dX6_makeNumbers_33 : decode cX6_makeNumbers 33 = .ok (.iload_n 2, 1) := by decide +kernel
theorem dX6_makeNumbers_34 : decode cX6_makeNumbers 34 = .ok (.invokevirtual 212, 3) := by decide +kernel
theorem dX6_makeNumbers_37 : decode cX6_makeNumbers 37 = .ok (.invokevirtual 216, 3) := by decide +kernel
