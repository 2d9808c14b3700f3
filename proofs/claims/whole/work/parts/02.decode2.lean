theorem dX6_makeNumbers_40 : decode cX6_makeNumbers 40 = .ok (.istore_n 3, 1) := by decide +kernel
theorem dX6_makeNumbers_41 : decode cX6_makeNumbers 41 = .ok (.iload_n 3, 1) := by decide +kernel
theorem dX6_makeNumbers_42 : decode cX6_makeNumbers 42 = .ok (.ifCond .ne 9, 3) := by decide +kernel
theorem dX6_makeNumbers_45 : decode cX6_makeNumbers 45 = .ok (.iinc 1 1, 3) := by decide +kernel
theorem dX6_makeNumbers_48 : decode cX6_makeNumbers 48 = .ok (.goto 17, 3) := by decide +kernel
theorem dX6_makeNumbers_51 : decode cX6_makeNumbers 51 = .ok (.aload_n 0, 1) := by decide +kernel
theorem dX6_makeNumbers_52 : decode cX6_makeNumbers 52 = .ok (.iload_n 1, 1) := by decide +kernel
theorem dX6_makeNumbers_53 : decode cX6_makeNumbers 53 = .ok (.invokevirtual 219, 3) := by decide +kernel
theorem dX6_makeNumbers_56 : decode cX6_makeNumbers 56 = .ok (.iconst 0, 1) := by decide +kernel
theorem dX6_makeNumbers_57 : decode cX6_makeNumbers 57 = .ok (.istore_n 1, 1) := by decide +kernel
theorem dX6_makeNumbers_58 : decode cX6_makeNumbers 58 = .ok (.aload_n 0, 1) := by decide +kernel
theorem dX6_makeNumbers_59 : decode cX6_makeNumbers 59 = .ok (.iload_n 3, 1) := by decide +kernel
theorem dX6_makeNumbers_60 : decode cX6_makeNumbers 60 = .ok (.iconst 1, 1) := by decide +kernel
theorem dX6_makeNumbers_61 : decode cX6_makeNumbers 61 = .ok (.iadd, 1) := by decide +kernel
theorem dX6_makeNumbers_62 : decode cX6_makeNumbers 62 = .ok (.invokevirtual 222, 3) := by decide +kernel
theorem dX6_makeNumbers_65 : decode cX6_makeNumbers 65 = .ok (.iinc 2 1, 3) := by decide +kernel
theorem dX6_makeNumbers_68 : decode cX6_makeNumbers 68 = .ok (.goto (-59), 3) := by decide +kernel
theorem dX6_makeNumbers_71 : decode cX6_makeNumbers 71 = .ok (.aload_n 0, 1) := by decide +kernel
theorem dX6_makeNumbers_72 : decode cX6_makeNumbers 72 = .ok (.iload_n 1, 1) := by decide +kernel
theorem dX6_makeNumbers_73 : decode cX6_makeNumbers 73 = .ok (.invokevirtual 219, 3) := by decide +kernel
theorem dX6_makeNumbers_76 : decode cX6_makeNumbers 76 = .ok (.aload_n 0, 1) := by decide +kernel
theorem dX6_makeNumbers_77 : decode cX6_makeNumbers 77 = .ok (.aload_n 0, 1) := by decide +kernel
theorem dX6_makeNumbers_78 : decode cX6_makeNumbers 78 = .ok (.getfield 14, 3) := by decide +kernel
theorem dX6_makeNumbers_81 : decode cX6_makeNumbers 81 = .ok (.getfield 146, 3) := by decide +kernel
theorem dX6_makeNumbers_84 : decode cX6_makeNumbers 84 = .ok (.iconst 1, 1) := by decide +kernel
theorem dX6_makeNumbers_85 : decode cX6_makeNumbers 85 = .ok (.iadd, 1) := by decide +kernel
theorem dX6_makeNumbers_86 : decode cX6_makeNumbers 86 = .ok (.invokevirtual 222, 3) := by decide +kernel
theorem dX6_makeNumbers_89 : decode cX6_makeNumbers 89 = .ok (.return_, 1) := by decide +kernel
theorem dX6_addDigits_0 : decode cX6_addDigits 0 = .ok (.iload_n 1, 1) := by decide +kernel
theorem dX6_addDigits_1 : decode cX6_addDigits 1 = .ok (.istore_n 2, 1) := by decide +kernel
theorem dX6_addDigits_2 : decode cX6_addDigits 2 = .ok (.iload_n 2, 1) := by decide +kernel
theorem dX6_addDigits_3 : decode cX6_addDigits 3 = .ok (.ifCond .le 21, 3) := by decide +kernel
theorem dX6_addDigits_6 : decode cX6_addDigits 6 = .ok (.aload_n 0, 1) := by decide +kernel
theorem dX6_addDigits_7 : decode cX6_addDigits 7 = .ok (.iload_n 2, 1) := by decide +kernel
theorem dX6_addDigits_8 : decode cX6_addDigits 8 = .ok (.iconst 1, 1) := by decide +kernel
theorem dX6_addDigits_9 : decode cX6_addDigits 9 = .ok (.isub, 1) := by decide +kernel
theorem dX6_addDigits_10 : decode cX6_addDigits 10 = .ok (.iconst 2, 1) := by decide +kernel
theorem dX6_addDigits_11 : decode cX6_addDigits 11 = .ok (.irem, 1) := by decide +kernel
theorem dX6_addDigits_12 : decode cX6_addDigits 12 = .ok (.invokevirtual 222, 3) := by decide +kernel
theorem dX6_addDigits_15 : decode cX6_addDigits 15 = .ok (.iload_n 2, 1) := by decide +kernel
theorem dX6_addDigits_16 : decode cX6_addDigits 16 = .ok (.iconst 1, 1) := by decide +kernel
theorem dX6_addDigits_17 : decode cX6_addDigits 17 = .ok (.isub, 1) := by decide +kernel
theorem dX6_addDigits_18 : decode cX6_addDigits 18 = .ok (.iconst 2, 1) := by decide +kernel
theorem dX6_addDigits_19 : decode cX6_addDigits 19 = .ok (.idiv, 1) := by decide +kernel
theorem dX6_addDigits_20 : decode cX6_addDigits 20 = .ok (.istore_n 2, 1) := by decide +kernel
theorem dX6_addDigits_21 : decode cX6_addDigits 21 = .ok (.goto (-19), 3) := by decide +kernel
theorem dX6_addDigits_24 : decode cX6_addDigits 24 = .ok (.return_, 1) := by decide +kernel
theorem dX6_addNumber_0 : decode cX6_addNumber 0 = .ok (.aload_n 0, 1) := by decide +kernel
theorem dX6_addNumber_1 : decode cX6_addNumber 1 = .ok (.getfield 152, 3) := by decide +kernel
theorem dX6_addNumber_4 : decode cX6_addNumber 4 = .ok (.aload_n 0, 1) := by decide +kernel
theorem dX6_addNumber_5 : decode cX6_addNumber 5 = .ok (.getfield 44, 3) := by decide +kernel
theorem dX6_addNumber_8 : decode cX6_addNumber 8 = .ok (.arraylength, 1) := by decide +kernel
theorem dX6_addNumber_9 : decode cX6_addNumber 9 = .ok (.if_icmp .ge 23, 3) := by decide +kernel
theorem dX6_addNumber_12 : decode cX6_addNumber 12 = .ok (.aload_n 0, 1) := by decide +kernel
theorem dX6_addNumber_13 : decode cX6_addNumber 13 = .ok (.getfield 44, 3) := by decide +kernel
theorem dX6_addNumber_16 : decode cX6_addNumber 16 = .ok (.aload_n 0, 1) := by decide +kernel
theorem dX6_addNumber_17 : decode cX6_addNumber 17 = .ok (.getfield 152, 3) := by decide +kernel
theorem dX6_addNumber_20 : decode cX6_addNumber 20 = .ok (.iload_n 1, 1) := by decide +kernel
theorem dX6_addNumber_21 : decode cX6_addNumber 21 = .ok (.iastore, 1) := by decide +kernel
theorem dX6_addNumber_22 : decode cX6_addNumber 22 = .ok (.aload_n 0, 1) := by decide +kernel
theorem dX6_addNumber_23 : decode cX6_addNumber 23 = .ok (.dup, 1) := by decide +kernel
theorem dX6_addNumber_24 : decode cX6_addNumber 24 = .ok (.getfield 152, 3) := by decide +kernel
theorem dX6_addNumber_27 : decode cX6_addNumber 27 = .ok (.iconst 1, 1) := by decide +kernel
theorem dX6_addNumber_28 : decode cX6_addNumber 28 = .ok (.iadd, 1) := by decide +kernel
theorem dX6_addNumber_29 : decode cX6_addNumber 29 = .ok (.putfield 152, 3) := by decide +kernel
theorem dX6_addNumber_32 : decode cX6_addNumber 32 = .ok (.return_, 1) := by decide +kernel
theorem dX6_writeHead_0 : decode cX6_writeHead 0 = .ok (.aload_n 0, 1) := by decide +kernel
theorem dX6_writeHead_1 : decode cX6_writeHead 1 = .ok (.getfield 60, 3) := by decide +kernel
theorem dX6_writeHead_4 : decode cX6_writeHead 4 = .ok (.bipush 48, 2) := by decide +kernel
theorem dX6_writeHead_6 : decode cX6_writeHead 6 = .ok (.ldc2_w 225, 3) := by decide +kernel
theorem dX6_writeHead_9 : decode cX6_writeHead 9 = .ok (.invokevirtual 75, 3) := by decide +kernel
theorem dX6_writeHead_12 : decode cX6_writeHead 12 = .ok (.aload_n 0, 1) := by decide +kernel
theorem dX6_writeHead_13 : decode cX6_writeHead 13 = .ok (.getfield 60, 3) := by decide +kernel
theorem dX6_writeHead_16 : decode cX6_writeHead 16 = .ok (.bipush 32, 2) := by decide +kernel
theorem dX6_writeHead_18 : decode cX6_writeHead 18 = .ok (.iload_n 1, 1) := by decide +kernel
theorem dX6_writeHead_19 : decode cX6_writeHead 19 = .ok (.i2l, 1) := by decide +kernel
theorem dX6_writeHead_20 : decode cX6_writeHead 20 = .ok (.ldc2_w 109, 3) := by decide +kernel
theorem dX6_writeHead_23 : decode cX6_writeHead 23 = .ok (.land, 1) := by decide +kernel
theorem dX6_writeHead_24 : decode cX6_writeHead 24 = .ok (.invokevirtual 75, 3) := by decide +kernel
theorem dX6_writeHead_27 : decode cX6_writeHead 27 = .ok (.aload_n 0, 1) := by decide +kernel
theorem dX6_writeHead_28 : decode cX6_writeHead 28 = .ok (.getfield 60, 3) := by decide +kernel
theorem dX6_writeHead_31 : decode cX6_writeHead 31 = .ok (.iconst 0, 1) := by decide +kernel
theorem dX6_writeHead_32 : decode cX6_writeHead 32 = .ok (.invokevirtual 227, 3) := by decide +kernel
theorem dX6_writeHead_35 : decode cX6_writeHead 35 = .ok (.aload_n 0, 1) := by decide +kernel
theorem dX6_writeHead_36 : decode cX6_writeHead 36 = .ok (.getfield 60, 3) := by decide +kernel
theorem dX6_writeHead_39 : decode cX6_writeHead 39 = .ok (.bipush 24, 2) := by decide +kernel
theorem dX6_writeHead_41 : decode cX6_writeHead 41 = .ok (.aload_n 0, 1) := by decide +kernel
theorem dX6_writeHead_42 : decode cX6_writeHead 42 = .ok (.getfield 51, 3) := by decide +kernel
theorem dX6_writeHead_45 : decode cX6_writeHead 45 = .ok (.aload_n 0, 1) := by decide +kernel
theorem dX6_writeHead_46 : decode cX6_writeHead 46 = .ok (.getfield 125, 3) := by decide +kernel
theorem dX6_writeHead_49 : decode cX6_writeHead 49 = .ok (.invokevirtual 191, 3) := by decide +kernel
theorem dX6_writeHead_52 : decode cX6_writeHead 52 = .ok (.i2l, 1) := by decide +kernel
theorem dX6_writeHead_53 : decode cX6_writeHead 53 = .ok (.invokevirtual 75, 3) := by decide +kernel
theorem dX6_writeHead_56 : decode cX6_writeHead 56 = .ok (.return_, 1) := by decide +kernel
theorem dX6_writeMap_0 : decode cX6_writeMap 0 = .ok (.iconst 0, 1) := by decide +kernel
theorem dX6_writeMap_1 : decode cX6_writeMap 1 = .ok (.istore_n 1, 1) := by decide +kernel
theorem dX6_writeMap_2 : decode cX6_writeMap 2 = .ok (.iload_n 1, 1) := by decide +kernel
theorem dX6_writeMap_3 : decode cX6_writeMap 3 = .ok (.sipush 256, 3) := by decide +kernel
theorem dX6_writeMap_6 : decode cX6_writeMap 6 = .ok (.if_icmp .ge 29, 3) := by decide +kernel
theorem dX6_writeMap_9 : decode cX6_writeMap 9 = .ok (.aload_n 0, 1) := by decide +kernel
theorem dX6_writeMap_10 : decode cX6_writeMap 10 = .ok (.getfield 60, 3) := by decide +kernel
theorem dX6_writeMap_13 : decode cX6_writeMap 13 = .ok (.aload_n 0, 1) := by decide +kernel
theorem dX6_writeMap_14 : decode cX6_writeMap 14 = .ok (.iload_n 1, 1) := by decide +kernel
theorem dX6_writeMap_15 : decode cX6_writeMap 15 = .ok (.invokevirtual 230, 3) := by decide +kernel
theorem dX6_writeMap_18 : decode cX6_writeMap 18 = .ok (.ifCond .ne 7, 3) := by decide +kernel
theorem dX6_writeMap_21 : decode cX6_writeMap 21 = .ok (.iconst 0, 1) := by decide +kernel
theorem dX6_writeMap_22 : decode cX6_writeMap 22 = .ok (.goto 4, 3) := by decide +kernel
theorem dX6_writeMap_25 : decode cX6_writeMap 25 = .ok (.iconst 1, 1) := by decide +kernel
theorem dX6_writeMap_26 : decode cX6_writeMap 26 = .ok (.invokevirtual 227, 3) := by decide +kernel
theorem dX6_writeMap_29 : decode cX6_writeMap 29 = .ok (.iinc 1 16, 3) := by decide +kernel
theorem dX6_writeMap_32 : decode cX6_writeMap 32 = .ok (.goto (-30), 3) := by decide +kernel
theorem dX6_writeMap_35 : decode cX6_writeMap 35 = .ok (.iconst 0, 1) := by decide +kernel
theorem dX6_writeMap_36 : decode cX6_writeMap 36 = .ok (.istore_n 1, 1) := by decide +kernel
theorem dX6_writeMap_37 : decode cX6_writeMap 37 = .ok (.iload_n 1, 1) := by decide +kernel
theorem dX6_writeMap_38 : decode cX6_writeMap 38 = .ok (.sipush 256, 3) := by decide +kernel
theorem dX6_writeMap_41 : decode cX6_writeMap 41 = .ok (.if_icmp .ge 30, 3) := by decide +kernel
theorem dX6_writeMap_44 : decode cX6_writeMap 44 = .ok (.aload_n 0, 1) := by decide +kernel
theorem dX6_writeMap_45 : decode cX6_writeMap 45 = .ok (.iload_n 1, 1) := by decide +kernel
theorem dX6_writeMap_46 : decode cX6_writeMap 46 = .ok (.invokevirtual 230, 3) := by decide +kernel
theorem dX6_writeMap_49 : decode cX6_writeMap 49 = .ok (.istore_n 2, 1) := by decide +kernel
theorem dX6_writeMap_50 : decode cX6_writeMap 50 = .ok (.iload_n 2, 1) := by decide +kernel
theorem dX6_writeMap_51 : decode cX6_writeMap 51 = .ok (.ifCond .eq 14, 3) := by decide +kernel
theorem dX6_writeMap_54 : decode cX6_writeMap 54 = .ok (.aload_n 0, 1) := by decide +kernel
theorem dX6_writeMap_55 : decode cX6_writeMap 55 = .ok (.getfield 60, 3) := by decide +kernel
theorem dX6_writeMap_58 : decode cX6_writeMap 58 = .ok (.bipush 16, 2) := by decide +kernel
theorem dX6_writeMap_60 : decode cX6_writeMap 60 = .ok (.iload_n 2, 1) := by decide +kernel
theorem dX6_writeMap_61 : decode cX6_writeMap 61 = .ok (.i2l, 1) := by decide +kernel
theorem dX6_writeMap_62 : decode cX6_writeMap 62 = .ok (.invokevirtual 75, 3) := by decide +kernel
theorem dX6_writeMap_65 : decode cX6_writeMap 65 = .ok (.iinc 1 16, 3) := by decide +kernel
theorem dX6_writeMap_68 : decode cX6_writeMap 68 = .ok (.goto (-31), 3) := by decide +kernel
theorem dX6_writeMap_71 : decode cX6_writeMap 71 = .ok (.return_, 1) := by decide +kernel
theorem dX6_sixteenFrom_0 : decode cX6_sixteenFrom 0 = .ok (.iconst 0, 1) := by decide +kernel
theorem dX6_sixteenFrom_1 : decode cX6_sixteenFrom 1 = .ok (.istore_n 2, 1) := by decide +kernel
theorem dX6_sixteenFrom_2 : decode cX6_sixteenFrom 2 = .ok (.iload_n 1, 1) := by decide +kernel
theorem dX6_sixteenFrom_3 : decode cX6_sixteenFrom 3 = .ok (.istore_n 3, 1) := by decide +kernel
theorem dX6_sixteenFrom_4 : decode cX6_sixteenFrom 4 = .ok (.iload_n 3, 1) := by decide +kernel
theorem dX6_sixteenFrom_5 : decode cX6_sixteenFrom 5 = .ok (.iload_n 1, 1) := by decide +kernel
theorem dX6_sixteenFrom_6 : decode cX6_sixteenFrom 6 = .ok (.bipush 16, 2) := by decide +kernel
theorem dX6_sixteenFrom_8 : decode cX6_sixteenFrom 8 = .ok (.iadd, 1) := by decide +kernel
theorem dX6_sixteenFrom_9 : decode cX6_sixteenFrom 9 = .ok (.if_icmp .ge 27, 3) := by decide +kernel
theorem dX6_sixteenFrom_12 : decode cX6_sixteenFrom 12 = .ok (.iload_n 3, 1) := by decide +kernel
theorem dX6_sixteenFrom_13 : decode cX6_sixteenFrom 13 = .ok (.sipush 256, 3) := by decide +kernel
theorem dX6_sixteenFrom_16 : decode cX6_sixteenFrom 16 = .ok (.if_icmp .ge 20, 3) := by decide +kernel
theorem dX6_sixteenFrom_19 : decode cX6_sixteenFrom 19 = .ok (.iload_n 2, 1) := by decide +kernel
theorem dX6_sixteenFrom_20 : decode cX6_sixteenFrom 20 = .ok (.iconst 1, 1) := by decide +kernel
theorem dX6_sixteenFrom_21 : decode cX6_sixteenFrom 21 = .ok (.ishl, 1) := by decide +kernel
theorem dX6_sixteenFrom_22 : decode cX6_sixteenFrom 22 = .ok (.aload_n 0, 1) := by decide +kernel
theorem dX6_sixteenFrom_23 : decode cX6_sixteenFrom 23 = .ok (.getfield 36, 3) := by decide +kernel
theorem dX6_sixteenFrom_26 : decode cX6_sixteenFrom 26 = .ok (.iload_n 3, 1) := by decide +kernel
theorem dX6_sixteenFrom_27 : decode cX6_sixteenFrom 27 = .ok (.iaload, 1) := by decide +kernel
theorem dX6_sixteenFrom_28 : decode cX6_sixteenFrom 28 = .ok (.ior, 1) := by decide +kernel
theorem dX6_sixteenFrom_29 : decode cX6_sixteenFrom 29 = .ok (.istore_n 2, 1) := by decide +kernel
theorem dX6_sixteenFrom_30 : decode cX6_sixteenFrom 30 = .ok (.iinc 3 1, 3) := by decide +kernel
theorem dX6_sixteenFrom_33 : decode cX6_sixteenFrom 33 = .ok (.goto (-29), 3) := by decide +kernel
theorem dX6_sixteenFrom_36 : decode cX6_sixteenFrom 36 = .ok (.iload_n 2, 1) := by decide +kernel
theorem dX6_sixteenFrom_37 : decode cX6_sixteenFrom 37 = .ok (.ireturn, 1) := by decide +kernel
theorem dX6_writeChoices_0 : decode cX6_writeChoices 0 = .ok (.aload_n 0, 1) := by decide +kernel
theorem dX6_writeChoices_1 : decode cX6_writeChoices 1 = .ok (.getfield 60, 3) := by decide +kernel
theorem dX6_writeChoices_4 : decode cX6_writeChoices 4 = .ok (.iconst 3, 1) := by decide +kernel
theorem dX6_writeChoices_5 : decode cX6_writeChoices 5 = .ok (.aload_n 1, 1) := by decide +kernel
theorem dX6_writeChoices_6 : decode cX6_writeChoices 6 = .ok (.getfield 194, 3) := by decide +kernel
theorem dX6_writeChoices_9 : decode cX6_writeChoices 9 = .ok (.i2l, 1) := by decide +kernel
theorem dX6_writeChoices_10 : decode cX6_writeChoices 10 = .ok (.invokevirtual 75, 3) := by decide +kernel
theorem dX6_writeChoices_13 : decode cX6_writeChoices 13 = .ok (.aload_n 0, 1) := by decide +kernel
theorem dX6_writeChoices_14 : decode cX6_writeChoices 14 = .ok (.getfield 60, 3) := by decide +kernel
theorem dX6_writeChoices_17 : decode cX6_writeChoices 17 = .ok (.bipush 15, 2) := by decide +kernel
theorem dX6_writeChoices_19 : decode cX6_writeChoices 19 = .ok (.aload_n 1, 1) := by decide +kernel
theorem dX6_writeChoices_20 : decode cX6_writeChoices 20 = .ok (.getfield 197, 3) := by decide +kernel
theorem dX6_writeChoices_23 : decode cX6_writeChoices 23 = .ok (.i2l, 1) := by decide +kernel
theorem dX6_writeChoices_24 : decode cX6_writeChoices 24 = .ok (.invokevirtual 75, 3) := by decide +kernel
theorem dX6_writeChoices_27 : decode cX6_writeChoices 27 = .ok (.aload_n 0, 1) := by decide +kernel
theorem dX6_writeChoices_28 : decode cX6_writeChoices 28 = .ok (.getfield 20, 3) := by decide +kernel
theorem dX6_writeChoices_31 : decode cX6_writeChoices 31 = .ok (.aload_n 1, 1) := by decide +kernel
theorem dX6_writeChoices_32 : decode cX6_writeChoices 32 = .ok (.getfield 194, 3) := by decide +kernel
theorem dX6_writeChoices_35 : decode cX6_writeChoices 35 = .ok (.invokevirtual 233, 3) := by decide +kernel
theorem dX6_writeChoices_38 : decode cX6_writeChoices 38 = .ok (.iconst 0, 1) := by decide +kernel
theorem dX6_writeChoices_39 : decode cX6_writeChoices 39 = .ok (.istore_n 2, 1) := by decide +kernel
theorem dX6_writeChoices_40 : decode cX6_writeChoices 40 = .ok (.iload_n 2, 1) := by decide +kernel
theorem dX6_writeChoices_41 : decode cX6_writeChoices 41 = .ok (.aload_n 1, 1) := by decide +kernel
theorem dX6_writeChoices_42 : decode cX6_writeChoices 42 = .ok (.getfield 197, 3) := by decide +kernel
theorem dX6_writeChoices_45 : decode cX6_writeChoices 45 = .ok (.if_icmp .ge 36, 3) := by decide +kernel
theorem dX6_writeChoices_48 : decode cX6_writeChoices 48 = .ok (.aload_n 0, 1) := by decide +kernel
theorem dX6_writeChoices_49 : decode cX6_writeChoices 49 = .ok (.getfield 60, 3) := by decide +kernel
theorem dX6_writeChoices_52 : decode cX6_writeChoices 52 = .ok (.aload_n 0, 1) := by decide +kernel
theorem dX6_writeChoices_53 : decode cX6_writeChoices 53 = .ok (.getfield 20, 3) := by decide +kernel
theorem dX6_writeChoices_56 : decode cX6_writeChoices 56 = .ok (.aload_n 1, 1) := by decide +kernel
theorem dX6_writeChoices_57 : decode cX6_writeChoices 57 = .ok (.iload_n 2, 1) := by decide +kernel
theorem dX6_writeChoices_58 : decode cX6_writeChoices 58 = .ok (.invokevirtual 235, 3) := by decide +kernel
theorem dX6_writeChoices_61 : decode cX6_writeChoices 61 = .ok (.invokevirtual 216, 3) := by decide +kernel
theorem dX6_writeChoices_64 : decode cX6_writeChoices 64 = .ok (.invokevirtual 238, 3) := by decide +kernel
theorem dX6_writeChoices_67 : decode cX6_writeChoices 67 = .ok (.aload_n 0, 1) := by decide +kernel
theorem dX6_writeChoices_68 : decode cX6_writeChoices 68 = .ok (.getfield 60, 3) := by decide +kernel
theorem dX6_writeChoices_71 : decode cX6_writeChoices 71 = .ok (.iconst 0, 1) := by decide +kernel
theorem dX6_writeChoices_72 : decode cX6_writeChoices 72 = .ok (.invokevirtual 227, 3) := by decide +kernel
theorem dX6_writeChoices_75 : decode cX6_writeChoices 75 = .ok (.iinc 2 1, 3) := by decide +kernel
theorem dX6_writeChoices_78 : decode cX6_writeChoices 78 = .ok (.goto (-38), 3) := by decide +kernel
theorem dX6_writeChoices_81 : decode cX6_writeChoices 81 = .ok (.return_, 1) := by decide +kernel
theorem dX6_writeLengths_0 : decode cX6_writeLengths 0 = .ok (.iconst 0, 1) := by decide +kernel
theorem dX6_writeLengths_1 : decode cX6_writeLengths 1 = .ok (.istore_n 2, 1) := by decide +kernel
theorem dX6_writeLengths_2 : decode cX6_writeLengths 2 = .ok (.iload_n 2, 1) := by decide +kernel
theorem dX6_writeLengths_3 : decode cX6_writeLengths 3 = .ok (.aload_n 1, 1) := by decide +kernel
theorem dX6_writeLengths_4 : decode cX6_writeLengths 4 = .ok (.getfield 194, 3) := by decide +kernel
theorem dX6_writeLengths_7 : decode cX6_writeLengths 7 = .ok (.if_icmp .ge 122, 3) := by decide +kernel
theorem dX6_writeLengths_10 : decode cX6_writeLengths 10 = .ok (.aload_n 1, 1) := by decide +kernel
theorem dX6_writeLengths_11 : decode cX6_writeLengths 11 = .ok (.getfield 241, 3) := by decide +kernel
theorem dX6_writeLengths_14 : decode cX6_writeLengths 14 = .ok (.iload_n 2, 1) := by decide +kernel
theorem dX6_writeLengths_15 : decode cX6_writeLengths 15 = .ok (.aaload, 1) := by decide +kernel
theorem dX6_writeLengths_16 : decode cX6_writeLengths 16 = .ok (.iconst 0, 1) := by decide +kernel
theorem dX6_writeLengths_17 : decode cX6_writeLengths 17 = .ok (.iaload, 1) := by decide +kernel
theorem dX6_writeLengths_18 : decode cX6_writeLengths 18 = .ok (.istore_n 3, 1) := by decide +kernel
theorem dX6_writeLengths_19 : decode cX6_writeLengths 19 = .ok (.aload_n 0, 1) := by decide +kernel
theorem dX6_writeLengths_20 : decode cX6_writeLengths 20 = .ok (.getfield 60, 3) := by decide +kernel
theorem dX6_writeLengths_23 : decode cX6_writeLengths 23 = .ok (.iconst 5, 1) := by decide +kernel
theorem dX6_writeLengths_24 : decode cX6_writeLengths 24 = .ok (.iload_n 3, 1) := by decide +kernel
theorem dX6_writeLengths_25 : decode cX6_writeLengths 25 = .ok (.i2l, 1) := by decide +kernel
theorem dX6_writeLengths_26 : decode cX6_writeLengths 26 = .ok (.invokevirtual 75, 3) := by decide +kernel
theorem dX6_writeLengths_29 : decode cX6_writeLengths 29 = .ok (.iconst 0, 1) := by decide +kernel
theorem dX6_writeLengths_30 : decode cX6_writeLengths 30 = .ok (.istore 4, 2) := by decide +kernel
theorem dX6_writeLengths_32 : decode cX6_writeLengths 32 = .ok (.iload 4, 2) := by decide +kernel
theorem dX6_writeLengths_34 : decode cX6_writeLengths 34 = .ok (.aload_n 1, 1) := by decide +kernel
theorem dX6_writeLengths_35 : decode cX6_writeLengths 35 = .ok (.getfield 147, 3) := by decide +kernel
theorem dX6_writeLengths_38 : decode cX6_writeLengths 38 = .ok (.if_icmp .ge 85, 3) := by decide +kernel
theorem dX6_writeLengths_41 : decode cX6_writeLengths 41 = .ok (.aload_n 1, 1) := by decide +kernel
theorem dX6_writeLengths_42 : decode cX6_writeLengths 42 = .ok (.getfield 241, 3) := by decide +kernel
theorem dX6_writeLengths_45 : decode cX6_writeLengths 45 = .ok (.iload_n 2, 1) := by decide +kernel
theorem dX6_writeLengths_46 : decode cX6_writeLengths 46 = .ok (.aaload, 1) := by decide +kernel
theorem dX6_writeLengths_47 : decode cX6_writeLengths 47 = .ok (.iload 4, 2) := by decide +kernel
theorem dX6_writeLengths_49 : decode cX6_writeLengths 49 = .ok (.iaload, 1) := by decide +kernel
theorem dX6_writeLengths_50 : decode cX6_writeLengths 50 = .ok (.istore 5, 2) := by decide +kernel
theorem dX6_writeLengths_52 : decode cX6_writeLengths 52 = .ok (.iload_n 3, 1) := by decide +kernel
theorem dX6_writeLengths_53 : decode cX6_writeLengths 53 = .ok (.istore 6, 2) := by decide +kernel
theorem dX6_writeLengths_55 : decode cX6_writeLengths 55 = .ok (.iload 6, 2) := by decide +kernel
theorem dX6_writeLengths_57 : decode cX6_writeLengths 57 = .ok (.iload 5, 2) := by decide +kernel
theorem dX6_writeLengths_59 : decode cX6_writeLengths 59 = .ok (.if_icmp .ge 20, 3) := by decide +kernel
theorem dX6_writeLengths_62 : decode cX6_writeLengths 62 = .ok (.aload_n 0, 1) := by decide +kernel
theorem dX6_writeLengths_63 : decode cX6_writeLengths 63 = .ok (.getfield 60, 3) := by decide +kernel
theorem dX6_writeLengths_66 : decode cX6_writeLengths 66 = .ok (.iconst 2, 1) := by decide +kernel
theorem dX6_writeLengths_67 : decode cX6_writeLengths 67 = .ok (.ldc2_w 245, 3) := by decide +kernel
theorem dX6_writeLengths_70 : decode cX6_writeLengths 70 = .ok (.invokevirtual 75, 3) := by decide +kernel
theorem dX6_writeLengths_73 : decode cX6_writeLengths 73 = .ok (.iinc 6 1, 3) := by decide +kernel
theorem dX6_writeLengths_76 : decode cX6_writeLengths 76 = .ok (.goto (-21), 3) := by decide +kernel
theorem dX6_writeLengths_79 : decode cX6_writeLengths 79 = .ok (.iload_n 3, 1) := by decide +kernel
theorem dX6_writeLengths_80 : decode cX6_writeLengths 80 = .ok (.istore 6, 2) := by decide +kernel
theorem dX6_writeLengths_82 : decode cX6_writeLengths 82 = .ok (.iload 6, 2) := by decide +kernel
theorem dX6_writeLengths_84 : decode cX6_writeLengths 84 = .ok (.iload 5, 2) := by decide +kernel
theorem dX6_writeLengths_86 : decode cX6_writeLengths 86 = .ok (.if_icmp .le 20, 3) := by decide +kernel
theorem dX6_writeLengths_89 : decode cX6_writeLengths 89 = .ok (.aload_n 0, 1) := by decide +kernel
theorem dX6_writeLengths_90 : decode cX6_writeLengths 90 = .ok (.getfield 60, 3) := by decide +kernel
theorem dX6_writeLengths_93 : decode cX6_writeLengths 93 = .ok (.iconst 2, 1) := by decide +kernel
theorem dX6_writeLengths_94 : decode cX6_writeLengths 94 = .ok (.ldc2_w 247, 3) := by decide +kernel
theorem dX6_writeLengths_97 : decode cX6_writeLengths 97 = .ok (.invokevirtual 75, 3) := by decide +kernel
theorem dX6_writeLengths_100 : decode cX6_writeLengths 100 = .ok (.iinc 6 (-1), 3) := by decide +kernel
theorem dX6_writeLengths_103 : decode cX6_writeLengths 103 = .ok (.goto (-21), 3) := by decide +kernel
theorem dX6_writeLengths_106 : decode cX6_writeLengths 106 = .ok (.aload_n 0, 1) := by decide +kernel
theorem dX6_writeLengths_107 : decode cX6_writeLengths 107 = .ok (.getfield 60, 3) := by decide +kernel
theorem dX6_writeLengths_110 : decode cX6_writeLengths 110 = .ok (.iconst 0, 1) := by decide +kernel
theorem dX6_writeLengths_111 : decode cX6_writeLengths 111 = .ok (.invokevirtual 227, 3) := by decide +kernel
theorem dX6_writeLengths_114 : decode cX6_writeLengths 114 = .ok (.iload 5, 2) := by decide +kernel
theorem dX6_writeLengths_116 : decode cX6_writeLengths 116 = .ok (.istore_n 3, 1) := by decide +kernel
theorem dX6_writeLengths_117 : decode cX6_writeLengths 117 = .ok (.iinc 4 1, 3) := by decide +kernel
theorem dX6_writeLengths_120 : decode cX6_writeLengths 120 = .ok (.goto (-88), 3) := by decide +kernel
theorem dX6_writeLengths_123 : decode cX6_writeLengths 123 = .ok (.iinc 2 1, 3) := by decide +kernel
theorem dX6_writeLengths_126 : decode cX6_writeLengths 126 = .ok (.goto (-124), 3) := by decide +kernel
theorem dX6_writeLengths_129 : decode cX6_writeLengths 129 = .ok (.return_, 1) := by decide +kernel
theorem dX6_writeCodes_0 : decode cX6_writeCodes 0 = .ok (.iconst 0, 1) := by decide +kernel
theorem dX6_writeCodes_1 : decode cX6_writeCodes 1 = .ok (.istore_n 2, 1) := by decide +kernel
theorem dX6_writeCodes_2 : decode cX6_writeCodes 2 = .ok (.iload_n 2, 1) := by decide +kernel
theorem dX6_writeCodes_3 : decode cX6_writeCodes 3 = .ok (.aload_n 1, 1) := by decide +kernel
theorem dX6_writeCodes_4 : decode cX6_writeCodes 4 = .ok (.getfield 194, 3) := by decide +kernel
theorem dX6_writeCodes_7 : decode cX6_writeCodes 7 = .ok (.if_icmp .ge 28, 3) := by decide +kernel
theorem dX6_writeCodes_10 : decode cX6_writeCodes 10 = .ok (.aload_n 0, 1) := by decide +kernel
theorem dX6_writeCodes_11 : decode cX6_writeCodes 11 = .ok (.getfield 32, 3) := by decide +kernel
theorem dX6_writeCodes_14 : decode cX6_writeCodes 14 = .ok (.iload_n 2, 1) := by decide +kernel
theorem dX6_writeCodes_15 : decode cX6_writeCodes 15 = .ok (.aaload, 1) := by decide +kernel
theorem dX6_writeCodes_16 : decode cX6_writeCodes 16 = .ok (.aload_n 1, 1) := by decide +kernel
theorem dX6_writeCodes_17 : decode cX6_writeCodes 17 = .ok (.getfield 241, 3) := by decide +kernel
theorem dX6_writeCodes_20 : decode cX6_writeCodes 20 = .ok (.iload_n 2, 1) := by decide +kernel
theorem dX6_writeCodes_21 : decode cX6_writeCodes 21 = .ok (.aaload, 1) := by decide +kernel
theorem dX6_writeCodes_22 : decode cX6_writeCodes 22 = .ok (.aload_n 1, 1) := by decide +kernel
theorem dX6_writeCodes_23 : decode cX6_writeCodes 23 = .ok (.getfield 147, 3) := by decide +kernel
theorem dX6_writeCodes_26 : decode cX6_writeCodes 26 = .ok (.invokevirtual 249, 3) := by decide +kernel
theorem dX6_writeCodes_29 : decode cX6_writeCodes 29 = .ok (.iinc 2 1, 3) := by decide +kernel
theorem dX6_writeCodes_32 : decode cX6_writeCodes 32 = .ok (.goto (-30), 3) := by decide +kernel
theorem dX6_writeCodes_35 : decode cX6_writeCodes 35 = .ok (.iconst 0, 1) := by decide +kernel
theorem dX6_writeCodes_36 : decode cX6_writeCodes 36 = .ok (.istore_n 2, 1) := by decide +kernel
theorem dX6_writeCodes_37 : decode cX6_writeCodes 37 = .ok (.iload_n 2, 1) := by decide +kernel
theorem dX6_writeCodes_38 : decode cX6_writeCodes 38 = .ok (.aload_n 0, 1) := by decide +kernel
theorem dX6_writeCodes_39 : decode cX6_writeCodes 39 = .ok (.getfield 152, 3) := by decide +kernel
theorem dX6_writeCodes_42 : decode cX6_writeCodes 42 = .ok (.if_icmp .ge 55, 3) := by decide +kernel
theorem dX6_writeCodes_45 : decode cX6_writeCodes 45 = .ok (.aload_n 1, 1) := by decide +kernel
theorem dX6_writeCodes_46 : decode cX6_writeCodes 46 = .ok (.iload_n 2, 1) := by decide +kernel
theorem dX6_writeCodes_47 : decode cX6_writeCodes 47 = .ok (.bipush 50, 2) := by decide +kernel
theorem dX6_writeCodes_49 : decode cX6_writeCodes 49 = .ok (.idiv, 1) := by decide +kernel
theorem dX6_writeCodes_50 : decode cX6_writeCodes 50 = .ok (.invokevirtual 235, 3) := by decide +kernel
theorem dX6_writeCodes_53 : decode cX6_writeCodes 53 = .ok (.istore_n 3, 1) := by decide +kernel
theorem dX6_writeCodes_54 : decode cX6_writeCodes 54 = .ok (.aload_n 0, 1) := by decide +kernel
theorem dX6_writeCodes_55 : decode cX6_writeCodes 55 = .ok (.getfield 60, 3) := by decide +kernel
theorem dX6_writeCodes_58 : decode cX6_writeCodes 58 = .ok (.aload_n 1, 1) := by decide +kernel
theorem dX6_writeCodes_59 : decode cX6_writeCodes 59 = .ok (.getfield 241, 3) := by decide +kernel
theorem dX6_writeCodes_62 : decode cX6_writeCodes 62 = .ok (.iload_n 3, 1) := by decide +kernel
theorem dX6_writeCodes_63 : decode cX6_writeCodes 63 = .ok (.aaload, 1) := by decide +kernel
theorem dX6_writeCodes_64 : decode cX6_writeCodes 64 = .ok (.aload_n 0, 1) := by decide +kernel
theorem dX6_writeCodes_65 : decode cX6_writeCodes 65 = .ok (.getfield 44, 3) := by decide +kernel
theorem dX6_writeCodes_68 : decode cX6_writeCodes 68 = .ok (.iload_n 2, 1) := by decide +kernel
theorem dX6_writeCodes_69 : decode cX6_writeCodes 69 = .ok (.iaload, 1) := by decide +kernel
theorem dX6_writeCodes_70 : decode cX6_writeCodes 70 = .ok (.iaload, 1) := by decide +kernel
theorem dX6_writeCodes_71 : decode cX6_writeCodes 71 = .ok (.aload_n 0, 1) := by decide +kernel
theorem dX6_writeCodes_72 : decode cX6_writeCodes 72 = .ok (.getfield 32, 3) := by decide +kernel
theorem dX6_writeCodes_75 : decode cX6_writeCodes 75 = .ok (.iload_n 3, 1) := by decide +kernel
theorem dX6_writeCodes_76 : decode cX6_writeCodes 76 = .ok (.aaload, 1) := by decide +kernel
theorem dX6_writeCodes_77 : decode cX6_writeCodes 77 = .ok (.getfield 252, 3) := by decide +kernel
theorem dX6_writeCodes_80 : decode cX6_writeCodes 80 = .ok (.aload_n 0, 1) := by decide +kernel
theorem dX6_writeCodes_81 : decode cX6_writeCodes 81 = .ok (.getfield 44, 3) := by decide +kernel
theorem dX6_writeCodes_84 : decode cX6_writeCodes 84 = .ok (.iload_n 2, 1) := by decide +kernel
theorem dX6_writeCodes_85 : decode cX6_writeCodes 85 = .ok (.iaload, 1) := by decide +kernel
theorem dX6_writeCodes_86 : decode cX6_writeCodes 86 = .ok (.iaload, 1) := by decide +kernel
theorem dX6_writeCodes_87 : decode cX6_writeCodes 87 = .ok (.i2l, 1) := by decide +kernel
theorem dX6_writeCodes_88 : decode cX6_writeCodes 88 = .ok (.invokevirtual 75, 3) := by decide +kernel
theorem dX6_writeCodes_91 : decode cX6_writeCodes 91 = .ok (.iinc 2 1, 3) := by decide +kernel
theorem dX6_writeCodes_94 : decode cX6_writeCodes 94 = .ok (.goto (-57), 3) := by decide +kernel
theorem dX6_writeCodes_97 : decode cX6_writeCodes 97 = .ok (.return_, 1) := by decide +kernel
theorem dX7_init_0 : decode cX7_init 0 = .ok (.aload_n 0, 1) := by decide +kernel
theorem dX7_init_1 : decode cX7_init 1 = .ok (.invokespecial 1, 3) := by decide +kernel
theorem dX7_init_4 : decode cX7_init 4 = .ok (.aload_n 0, 1) := by decide +kernel
theorem dX7_init_5 : decode cX7_init 5 = .ok (.iconst 0, 1) := by decide +kernel
theorem dX7_init_6 : decode cX7_init 6 = .ok (.iload_n 1, 1) := by decide +kernel
theorem dX7_init_7 : decode cX7_init 7 = .ok (.invokestatic 7, 3) := by decide +kernel
theorem dX7_init_10 : decode cX7_init 10 = .ok (.newarray .byte, 2) := by decide +kernel
theorem dX7_init_12 : decode cX7_init 12 = .ok (.putfield 13, 3) := by decide +kernel
theorem dX7_init_15 : decode cX7_init 15 = .ok (.return_, 1) := by decide +kernel
theorem dX7_hasRoom_0 : decode cX7_hasRoom 0 = .ok (.iload_n 1, 1) := by decide +kernel
theorem dX7_hasRoom_1 : decode cX7_hasRoom 1 = .ok (.aload_n 0, 1) := by decide +kernel
theorem dX7_hasRoom_2 : decode cX7_hasRoom 2 = .ok (.getfield 13, 3) := by decide +kernel
theorem dX7_hasRoom_5 : decode cX7_hasRoom 5 = .ok (.arraylength, 1) := by decide +kernel
theorem dX7_hasRoom_6 : decode cX7_hasRoom 6 = .ok (.aload_n 0, 1) := by decide +kernel
theorem dX7_hasRoom_7 : decode cX7_hasRoom 7 = .ok (.getfield 19, 3) := by decide +kernel
theorem dX7_hasRoom_10 : decode cX7_hasRoom 10 = .ok (.isub, 1) := by decide +kernel
theorem dX7_hasRoom_11 : decode cX7_hasRoom 11 = .ok (.if_icmp .gt 7, 3) := by decide +kernel
theorem dX7_hasRoom_14 : decode cX7_hasRoom 14 = .ok (.iconst 1, 1) := by decide +kernel
theorem dX7_hasRoom_15 : decode cX7_hasRoom 15 = .ok (.goto 4, 3) := by decide +kernel
theorem dX7_hasRoom_18 : decode cX7_hasRoom 18 = .ok (.iconst 0, 1) := by decide +kernel
theorem dX7_hasRoom_19 : decode cX7_hasRoom 19 = .ok (.ireturn, 1) := by decide +kernel
theorem dX7_has_0 : decode cX7_has 0 = .ok (.iload_n 1, 1) := by decide +kernel
theorem dX7_has_1 : decode cX7_has 1 = .ok (.ifCond .lt 15, 3) := by decide +kernel
theorem dX7_has_4 : decode cX7_has 4 = .ok (.iload_n 1, 1) := by decide +kernel
theorem dX7_has_5 : decode cX7_has 5 = .ok (.aload_n 0, 1) := by decide +kernel
theorem dX7_has_6 : decode cX7_has 6 = .ok (.getfield 19, 3) := by decide +kernel
theorem dX7_has_9 : decode cX7_has 9 = .ok (.if_icmp .ge 7, 3) := by decide +kernel
theorem dX7_has_12 : decode cX7_has 12 = .ok (.iconst 1, 1) := by decide +kernel
theorem dX7_has_13 : decode cX7_has 13 = .ok (.goto 4, 3) := by decide +kernel
theorem dX7_has_16 : decode cX7_has 16 = .ok (.iconst 0, 1) := by decide +kernel
theorem dX7_has_17 : decode cX7_has 17 = .ok (.ireturn, 1) := by decide +kernel
theorem dX7_at_0 : decode cX7_at 0 = .ok (.aload_n 0, 1) := by decide +kernel
theorem dX7_at_1 : decode cX7_at 1 = .ok (.iload_n 1, 1) := by decide +kernel
theorem dX7_at_2 : decode cX7_at 2 = .ok (.invokevirtual 23, 3) := by decide +kernel
theorem dX7_at_5 : decode cX7_at 5 = .ok (.ifCond .eq 16, 3) := by decide +kernel
theorem dX7_at_8 : decode cX7_at 8 = .ok (.aload_n 0, 1) := by decide +kernel
theorem dX7_at_9 : decode cX7_at 9 = .ok (.getfield 13, 3) := by decide +kernel
theorem dX7_at_12 : decode cX7_at 12 = .ok (.iload_n 1, 1) := by decide +kernel
theorem dX7_at_13 : decode cX7_at 13 = .ok (.baload, 1) := by decide +kernel
theorem dX7_at_14 : decode cX7_at 14 = .ok (.sipush 255, 3) := by decide +kernel
theorem dX7_at_17 : decode cX7_at 17 = .ok (.iand, 1) := by decide +kernel
theorem dX7_at_18 : decode cX7_at 18 = .ok (.goto 4, 3) := by decide +kernel
theorem dX7_at_21 : decode cX7_at 21 = .ok (.iconst 0, 1) := by decide +kernel
theorem dX7_at_22 : decode cX7_at 22 = .ok (.ireturn, 1) := by decide +kernel
theorem dX7_set_0 : decode cX7_set 0 = .ok (.aload_n 0, 1) := by decide +kernel
theorem dX7_set_1 : decode cX7_set 1 = .ok (.iload_n 1, 1) := by decide +kernel
theorem dX7_set_2 : decode cX7_set 2 = .ok (.invokevirtual 23, 3) := by decide +kernel
theorem dX7_set_5 : decode cX7_set 5 = .ok (.ifCond .eq 11, 3) := by decide +kernel
theorem dX7_set_8 : decode cX7_set 8 = .ok (.aload_n 0, 1) := by decide +kernel
theorem dX7_set_9 : decode cX7_set 9 = .ok (.getfield 13, 3) := by decide +kernel
theorem dX7_set_12 : decode cX7_set 12 = .ok (.iload_n 1, 1) := by decide +kernel
theorem dX7_set_13 : decode cX7_set 13 = .ok (.iload_n 2, 1) := by decide +kernel
theorem dX7_set_14 : decode cX7_set 14 = .ok (.i2b, 1) := by decide +kernel
theorem dX7_set_15 : decode cX7_set 15 = .ok (.bastore, 1) := by decide +kernel
theorem dX7_set_16 : decode cX7_set 16 = .ok (.return_, 1) := by decide +kernel
theorem dX7_add_0 : decode cX7_add 0 = .ok (.aload_n 0, 1) := by decide +kernel
theorem dX7_add_1 : decode cX7_add 1 = .ok (.getfield 19, 3) := by decide +kernel
theorem dX7_add_4 : decode cX7_add 4 = .ok (.aload_n 0, 1) := by decide +kernel
theorem dX7_add_5 : decode cX7_add 5 = .ok (.getfield 13, 3) := by decide +kernel
theorem dX7_add_8 : decode cX7_add 8 = .ok (.arraylength, 1) := by decide +kernel
theorem dX7_add_9 : decode cX7_add 9 = .ok (.if_icmp .ge 24, 3) := by decide +kernel
theorem dX7_add_12 : decode cX7_add 12 = .ok (.aload_n 0, 1) := by decide +kernel
theorem dX7_add_13 : decode cX7_add 13 = .ok (.getfield 13, 3) := by decide +kernel
theorem dX7_add_16 : decode cX7_add 16 = .ok (.aload_n 0, 1) := by decide +kernel
theorem dX7_add_17 : decode cX7_add 17 = .ok (.getfield 19, 3) := by decide +kernel
theorem dX7_add_20 : decode cX7_add 20 = .ok (.iload_n 1, 1) := by decide +kernel
theorem dX7_add_21 : decode cX7_add 21 = .ok (.i2b, 1) := by decide +kernel
theorem dX7_add_22 : decode cX7_add 22 = .ok (.bastore, 1) := by decide +kernel
theorem dX7_add_23 : decode cX7_add 23 = .ok (.aload_n 0, 1) := by decide +kernel
theorem dX7_add_24 : decode cX7_add 24 = .ok (.dup, 1) := by decide +kernel
theorem dX7_add_25 : decode cX7_add 25 = .ok (.getfield 19, 3) := by decide +kernel
theorem dX7_add_28 : decode cX7_add 28 = .ok (.iconst 1, 1) := by decide +kernel
theorem dX7_add_29 : decode cX7_add 29 = .ok (.iadd, 1) := by decide +kernel
theorem dX7_add_30 : decode cX7_add 30 = .ok (.putfield 19, 3) := by decide +kernel
theorem dX7_add_33 : decode cX7_add 33 = .ok (.return_, 1) := by decide +kernel
theorem dX7_addNumber_0 : decode cX7_addNumber 0 = .ok (.bipush 24, 2) := by decide +kernel
theorem dX7_addNumber_2 : decode cX7_addNumber 2 = .ok (.istore_n 2, 1) := by decide +kernel
theorem dX7_addNumber_3 : decode cX7_addNumber 3 = .ok (.iload_n 2, 1) := by decide +kernel
theorem dX7_addNumber_4 : decode cX7_addNumber 4 = .ok (.ifCond .lt 16, 3) := by decide +kernel
theorem dX7_addNumber_7 : decode cX7_addNumber 7 = .ok (.aload_n 0, 1) := by decide +kernel
theorem dX7_addNumber_8 : decode cX7_addNumber 8 = .ok (.iload_n 1, 1) := by decide +kernel
theorem dX7_addNumber_9 : decode cX7_addNumber 9 = .ok (.iload_n 2, 1) := by decide +kernel
theorem dX7_addNumber_10 : decode cX7_addNumber 10 = .ok (.ishr, 1) := by decide +kernel
theorem dX7_addNumber_11 : decode cX7_addNumber 11 = .ok (.invokevirtual 27, 3) := by decide +kernel
theorem dX7_addNumber_14 : decode cX7_addNumber 14 = .ok (.iinc 2 (-8), 3) := by decide +kernel
theorem dX7_addNumber_17 : decode cX7_addNumber 17 = .ok (.goto (-14), 3) := by decide +kernel
theorem dX7_addNumber_20 : decode cX7_addNumber 20 = .ok (.return_, 1) := by decide +kernel
theorem dX7_addAll_0 : decode cX7_addAll 0 = .ok (.aload_n 1, 1) := by decide +kernel
theorem dX7_addAll_1 : decode cX7_addAll 1 = .ok (.getfield 19, 3) := by decide +kernel
theorem dX7_addAll_4 : decode cX7_addAll 4 = .ok (.aload_n 0, 1) := by decide +kernel
theorem dX7_addAll_5 : decode cX7_addAll 5 = .ok (.getfield 13, 3) := by decide +kernel
theorem dX7_addAll_8 : decode cX7_addAll 8 = .ok (.arraylength, 1) := by decide +kernel
theorem dX7_addAll_9 : decode cX7_addAll 9 = .ok (.aload_n 0, 1) := by decide +kernel
theorem dX7_addAll_10 : decode cX7_addAll 10 = .ok (.getfield 19, 3) := by decide +kernel
theorem dX7_addAll_13 : decode cX7_addAll 13 = .ok (.isub, 1) := by decide +kernel
theorem dX7_addAll_14 : decode cX7_addAll 14 = .ok (.invokestatic 31, 3) := by decide +kernel
theorem dX7_addAll_17 : decode cX7_addAll 17 = .ok (.istore_n 2, 1) := by decide +kernel
theorem dX7_addAll_18 : decode cX7_addAll 18 = .ok (.aload_n 1, 1) := by decide +kernel
theorem dX7_addAll_19 : decode cX7_addAll 19 = .ok (.getfield 13, 3) := by decide +kernel
theorem dX7_addAll_22 : decode cX7_addAll 22 = .ok (.iconst 0, 1) := by decide +kernel
theorem dX7_addAll_23 : decode cX7_addAll 23 = .ok (.aload_n 0, 1) := by decide +kernel
theorem dX7_addAll_24 : decode cX7_addAll 24 = .ok (.getfield 13, 3) := by decide +kernel
theorem dX7_addAll_27 : decode cX7_addAll 27 = .ok (.aload_n 0, 1) := by decide +kernel
theorem dX7_addAll_28 : decode cX7_addAll 28 = .ok (.getfield 19, 3) := by decide +kernel
theorem dX7_addAll_31 : decode cX7_addAll 31 = .ok (.iload_n 2, 1) := by decide +kernel
theorem dX7_addAll_32 : decode cX7_addAll 32 = .ok (.invokestatic 34, 3) := by decide +kernel
theorem dX7_addAll_35 : decode cX7_addAll 35 = .ok (.aload_n 0, 1) := by decide +kernel
theorem dX7_addAll_36 : decode cX7_addAll 36 = .ok (.dup, 1) := by decide +kernel
theorem dX7_addAll_37 : decode cX7_addAll 37 = .ok (.getfield 19, 3) := by decide +kernel
theorem dX7_addAll_40 : decode cX7_addAll 40 = .ok (.iload_n 2, 1) := by decide +kernel
theorem dX7_addAll_41 : decode cX7_addAll 41 = .ok (.iadd, 1) := by decide +kernel
theorem dX7_addAll_42 : decode cX7_addAll 42 = .ok (.putfield 19, 3) := by decide +kernel
theorem dX7_addAll_45 : decode cX7_addAll 45 = .ok (.return_, 1) := by decide +kernel
theorem dX7_cutTo_0 : decode cX7_cutTo 0 = .ok (.aload_n 0, 1) := by decide +kernel
theorem dX7_cutTo_1 : decode cX7_cutTo 1 = .ok (.iconst 0, 1) := by decide +kernel
theorem dX7_cutTo_2 : decode cX7_cutTo 2 = .ok (.aload_n 0, 1) := by decide +kernel
theorem dX7_cutTo_3 : decode cX7_cutTo 3 = .ok (.getfield 19, 3) := by decide +kernel
theorem dX7_cutTo_6 : decode cX7_cutTo 6 = .ok (.iload_n 1, 1) := by decide +kernel
theorem dX7_cutTo_7 : decode cX7_cutTo 7 = .ok (.invokestatic 31, 3) := by decide +kernel
theorem dX7_cutTo_10 : decode cX7_cutTo 10 = .ok (.invokestatic 7, 3) := by decide +kernel
theorem dX7_cutTo_13 : decode cX7_cutTo 13 = .ok (.putfield 19, 3) := by decide +kernel
theorem dX7_cutTo_16 : decode cX7_cutTo 16 = .ok (.return_, 1) := by decide +kernel
theorem dX7_dropFirst_0 : decode cX7_dropFirst 0 = .ok (.iconst 0, 1) := by decide +kernel
theorem dX7_dropFirst_1 : decode cX7_dropFirst 1 = .ok (.aload_n 0, 1) := by decide +kernel
theorem dX7_dropFirst_2 : decode cX7_dropFirst 2 = .ok (.getfield 19, 3) := by decide +kernel
theorem dX7_dropFirst_5 : decode cX7_dropFirst 5 = .ok (.iload_n 1, 1) := by decide +kernel
theorem dX7_dropFirst_6 : decode cX7_dropFirst 6 = .ok (.invokestatic 31, 3) := by decide +kernel
theorem dX7_dropFirst_9 : decode cX7_dropFirst 9 = .ok (.invokestatic 7, 3) := by decide +kernel
theorem dX7_dropFirst_12 : decode cX7_dropFirst 12 = .ok (.istore_n 2, 1) := by decide +kernel
theorem dX7_dropFirst_13 : decode cX7_dropFirst 13 = .ok (.aload_n 0, 1) := by decide +kernel
theorem dX7_dropFirst_14 : decode cX7_dropFirst 14 = .ok (.getfield 13, 3) := by decide +kernel
theorem dX7_dropFirst_17 : decode cX7_dropFirst 17 = .ok (.iload_n 2, 1) := by decide +kernel
theorem dX7_dropFirst_18 : decode cX7_dropFirst 18 = .ok (.aload_n 0, 1) := by decide +kernel
theorem dX7_dropFirst_19 : decode cX7_dropFirst 19 = .ok (.getfield 13, 3) := by decide +kernel
theorem dX7_dropFirst_22 : decode cX7_dropFirst 22 = .ok (.iconst 0, 1) := by decide +kernel
theorem dX7_dropFirst_23 : decode cX7_dropFirst 23 = .ok (.aload_n 0, 1) := by decide +kernel
theorem dX7_dropFirst_24 : decode cX7_dropFirst 24 = .ok (.getfield 19, 3) := by decide +kernel
theorem dX7_dropFirst_27 : decode cX7_dropFirst 27 = .ok (.iload_n 2, 1) := by decide +kernel
theorem dX7_dropFirst_28 : decode cX7_dropFirst 28 = .ok (.isub, 1) := by decide +kernel
theorem dX7_dropFirst_29 : decode cX7_dropFirst 29 = .ok (.invokestatic 34, 3) := by decide +kernel
theorem dX7_dropFirst_32 : decode cX7_dropFirst 32 = .ok (.aload_n 0, 1) := by decide +kernel
theorem dX7_dropFirst_33 : decode cX7_dropFirst 33 = .ok (.dup, 1) := by decide +kernel
theorem dX7_dropFirst_34 : decode cX7_dropFirst 34 = .ok (.getfield 19, 3) := by decide +kernel
theorem dX7_dropFirst_37 : decode cX7_dropFirst 37 = .ok (.iload_n 2, 1) := by decide +kernel
theorem dX7_dropFirst_38 : decode cX7_dropFirst 38 = .ok (.isub, 1) := by decide +kernel
theorem dX7_dropFirst_39 : decode cX7_dropFirst 39 = .ok (.putfield 19, 3) := by decide +kernel
theorem dX7_dropFirst_42 : decode cX7_dropFirst 42 = .ok (.return_, 1) := by decide +kernel
theorem dX8_init_0 : decode cX8_init 0 = .ok (.aload_n 0, 1) := by decide +kernel
theorem dX8_init_1 : decode cX8_init 1 = .ok (.invokespecial 3, 3) := by decide +kernel
theorem dX8_init_4 : decode cX8_init 4 = .ok (.aload_n 0, 1) := by decide +kernel
theorem dX8_init_5 : decode cX8_init 5 = .ok (.bipush 6, 2) := by decide +kernel
theorem dX8_init_7 : decode cX8_init 7 = .ok (.sipush 258, 3) := by decide +kernel
theorem dX8_init_10 : decode cX8_init 10 = .ok (.multianewarray 9 2, 4) := by decide +kernel
theorem dX8_init_14 : decode cX8_init 14 = .ok (.putfield 11, 3) := by decide +kernel
theorem dX8_init_17 : decode cX8_init 17 = .ok (.aload_n 0, 1) := by decide +kernel
theorem dX8_init_18 : decode cX8_init 18 = .ok (.sipush 258, 3) := by decide +kernel
theorem dX8_init_21 : decode cX8_init 21 = .ok (.newarray .int, 2) := by decide +kernel
theorem dX8_init_23 : decode cX8_init 23 = .ok (.putfield 16, 3) := by decide +kernel
theorem dX8_init_26 : decode cX8_init 26 = .ok (.aload_n 0, 1) := by decide +kernel
theorem dX8_init_27 : decode cX8_init 27 = .ok (.sipush 258, 3) := by decide +kernel
theorem dX8_init_30 : decode cX8_init 30 = .ok (.newarray .int, 2) := by decide +kernel
theorem dX8_init_32 : decode cX8_init 32 = .ok (.putfield 20, 3) := by decide +kernel
theorem dX8_init_35 : decode cX8_init 35 = .ok (.aload_n 0, 1) := by decide +kernel
theorem dX8_init_36 : decode cX8_init 36 = .ok (.sipush 516, 3) := by decide +kernel
theorem dX8_init_39 : decode cX8_init 39 = .ok (.newarray .int, 2) := by decide +kernel
theorem dX8_init_41 : decode cX8_init 41 = .ok (.putfield 23, 3) := by decide +kernel
theorem dX8_init_44 : decode cX8_init 44 = .ok (.aload_n 0, 1) := by decide +kernel
theorem dX8_init_45 : decode cX8_init 45 = .ok (.sipush 516, 3) := by decide +kernel
theorem dX8_init_48 : decode cX8_init 48 = .ok (.newarray .int, 2) := by decide +kernel
theorem dX8_init_50 : decode cX8_init 50 = .ok (.putfield 26, 3) := by decide +kernel
theorem dX8_init_53 : decode cX8_init 53 = .ok (.aload_n 0, 1) := by decide +kernel
theorem dX8_init_54 : decode cX8_init 54 = .ok (.sipush 516, 3) := by decide +kernel
theorem dX8_init_57 : decode cX8_init 57 = .ok (.newarray .int, 2) := by decide +kernel
theorem dX8_init_59 : decode cX8_init 59 = .ok (.putfield 29, 3) := by decide +kernel
theorem dX8_init_62 : decode cX8_init 62 = .ok (.return_, 1) := by decide +kernel
theorem dX8_makeTables_0 : decode cX8_makeTables 0 = .ok (.aload_n 3, 1) := by decide +kernel
theorem dX8_makeTables_1 : decode cX8_makeTables 1 = .ok (.iload_n 2, 1) := by decide +kernel
theorem dX8_makeTables_2 : decode cX8_makeTables 2 = .ok (.invokestatic 32, 3) := by decide +kernel
theorem dX8_makeTables_5 : decode cX8_makeTables 5 = .ok (.putfield 36, 3) := by decide +kernel
theorem dX8_makeTables_8 : decode cX8_makeTables 8 = .ok (.aload_n 3, 1) := by decide +kernel
theorem dX8_makeTables_9 : decode cX8_makeTables 9 = .ok (.iload_n 2, 1) := by decide +kernel
theorem dX8_makeTables_10 : decode cX8_makeTables 10 = .ok (.bipush 50, 2) := by decide +kernel
theorem dX8_makeTables_12 : decode cX8_makeTables 12 = .ok (.iadd, 1) := by decide +kernel
theorem dX8_makeTables_13 : decode cX8_makeTables 13 = .ok (.iconst 1, 1) := by decide +kernel
theorem dX8_makeTables_14 : decode cX8_makeTables 14 = .ok (.isub, 1) := by decide +kernel
theorem dX8_makeTables_15 : decode cX8_makeTables 15 = .ok (.bipush 50, 2) := by decide +kernel
theorem dX8_makeTables_17 : decode cX8_makeTables 17 = .ok (.idiv, 1) := by decide +kernel
theorem dX8_makeTables_18 : decode cX8_makeTables 18 = .ok (.putfield 42, 3) := by decide +kernel
theorem dX8_makeTables_21 : decode cX8_makeTables 21 = .ok (.aload_n 0, 1) := by decide +kernel
theorem dX8_makeTables_22 : decode cX8_makeTables 22 = .ok (.aload_n 1, 1) := by decide +kernel
theorem dX8_makeTables_23 : decode cX8_makeTables 23 = .ok (.iload_n 2, 1) := by decide +kernel
theorem dX8_makeTables_24 : decode cX8_makeTables 24 = .ok (.aload_n 3, 1) := by decide +kernel
theorem dX8_makeTables_25 : decode cX8_makeTables 25 = .ok (.invokevirtual 45, 3) := by decide +kernel
theorem dX8_makeTables_28 : decode cX8_makeTables 28 = .ok (.iconst 0, 1) := by decide +kernel
theorem dX8_makeTables_29 : decode cX8_makeTables 29 = .ok (.istore 4, 2) := by decide +kernel
theorem dX8_makeTables_31 : decode cX8_makeTables 31 = .ok (.iload 4, 2) := by decide +kernel
theorem dX8_makeTables_33 : decode cX8_makeTables 33 = .ok (.iconst 4, 1) := by decide +kernel
theorem dX8_makeTables_34 : decode cX8_makeTables 34 = .ok (.if_icmp .ge 56, 3) := by decide +kernel
theorem dX8_makeTables_37 : decode cX8_makeTables 37 = .ok (.aload_n 0, 1) := by decide +kernel
theorem dX8_makeTables_38 : decode cX8_makeTables 38 = .ok (.aload_n 1, 1) := by decide +kernel
theorem dX8_makeTables_39 : decode cX8_makeTables 39 = .ok (.iload_n 2, 1) := by decide +kernel
theorem dX8_makeTables_40 : decode cX8_makeTables 40 = .ok (.aload_n 3, 1) := by decide +kernel
theorem dX8_makeTables_41 : decode cX8_makeTables 41 = .ok (.invokevirtual 49, 3) := by decide +kernel
theorem dX8_makeTables_44 : decode cX8_makeTables 44 = .ok (.iconst 0, 1) := by decide +kernel
theorem dX8_makeTables_45 : decode cX8_makeTables 45 = .ok (.istore 5, 2) := by decide +kernel
theorem dX8_makeTables_47 : decode cX8_makeTables 47 = .ok (.iload 5, 2) := by decide +kernel
theorem dX8_makeTables_49 : decode cX8_makeTables 49 = .ok (.aload_n 3, 1) := by decide +kernel
theorem dX8_makeTables_50 : decode cX8_makeTables 50 = .ok (.getfield 36, 3) := by decide +kernel
theorem dX8_makeTables_53 : decode cX8_makeTables 53 = .ok (.if_icmp .ge 31, 3) := by decide +kernel
theorem dX8_makeTables_56 : decode cX8_makeTables 56 = .ok (.aload_n 0, 1) := by decide +kernel
theorem dX8_makeTables_57 : decode cX8_makeTables 57 = .ok (.aload_n 0, 1) := by decide +kernel
theorem dX8_makeTables_58 : decode cX8_makeTables 58 = .ok (.getfield 11, 3) := by decide +kernel
theorem dX8_makeTables_61 : decode cX8_makeTables 61 = .ok (.iload 5, 2) := by decide +kernel
theorem dX8_makeTables_63 : decode cX8_makeTables 63 = .ok (.aaload, 1) := by decide +kernel
theorem dX8_makeTables_64 : decode cX8_makeTables 64 = .ok (.aload_n 3, 1) := by decide +kernel
theorem dX8_makeTables_65 : decode cX8_makeTables 65 = .ok (.getfield 52, 3) := by decide +kernel
theorem dX8_makeTables_68 : decode cX8_makeTables 68 = .ok (.aload_n 3, 1) := by decide +kernel
theorem dX8_makeTables_69 : decode cX8_makeTables 69 = .ok (.getfield 55, 3) := by decide +kernel
theorem dX8_makeTables_72 : decode cX8_makeTables 72 = .ok (.iload 5, 2) := by decide +kernel
theorem dX8_makeTables_74 : decode cX8_makeTables 74 = .ok (.aaload, 1) := by decide +kernel
theorem dX8_makeTables_75 : decode cX8_makeTables 75 = .ok (.invokevirtual 58, 3) := by decide +kernel
theorem dX8_makeTables_78 : decode cX8_makeTables 78 = .ok (.iinc 5 1, 3) := by decide +kernel
theorem dX8_makeTables_81 : decode cX8_makeTables 81 = .ok (.goto (-34), 3) := by decide +kernel
theorem dX8_makeTables_84 : decode cX8_makeTables 84 = .ok (.iinc 4 1, 3) := by decide +kernel
theorem dX8_makeTables_87 : decode cX8_makeTables 87 = .ok (.goto (-56), 3) := by decide +kernel
theorem dX8_makeTables_90 : decode cX8_makeTables 90 = .ok (.return_, 1) := by decide +kernel
theorem dX8_tablesFor_0 : decode cX8_tablesFor 0 = .ok (.iload_n 0, 1) := by decide +kernel
theorem dX8_tablesFor_1 : decode cX8_tablesFor 1 = .ok (.sipush 200, 3) := by decide +kernel
theorem dX8_tablesFor_4 : decode cX8_tablesFor 4 = .ok (.if_icmp .ge 5, 3) := by decide +kernel
theorem dX8_tablesFor_7 : decode cX8_tablesFor 7 = .ok (.iconst 2, 1) := by decide +kernel
theorem dX8_tablesFor_8 : decode cX8_tablesFor 8 = .ok (.ireturn, 1) := by decide +kernel
theorem dX8_tablesFor_9 : decode cX8_tablesFor 9 = .ok (.iload_n 0, 1) := by decide +kernel
theorem dX8_tablesFor_10 : decode cX8_tablesFor 10 = .ok (.sipush 600, 3) := by decide +kernel
theorem dX8_tablesFor_13 : decode cX8_tablesFor 13 = .ok (.if_icmp .ge 5, 3) := by decide +kernel
theorem dX8_tablesFor_16 : decode cX8_tablesFor 16 = .ok (.iconst 3, 1) := by decide +kernel
theorem dX8_tablesFor_17 : decode cX8_tablesFor 17 = .ok (.ireturn, 1) := by decide +kernel
theorem dX8_tablesFor_18 : decode cX8_tablesFor 18 = .ok (.iload_n 0, 1) := by decide +kernel
theorem dX8_tablesFor_19 : decode cX8_tablesFor 19 = .ok (.sipush 1200, 3) := by decide +kernel
theorem dX8_tablesFor_22 : decode cX8_tablesFor 22 = .ok (.if_icmp .ge 7, 3) := by decide +kernel
theorem dX8_tablesFor_25 : decode cX8_tablesFor 25 = .ok (.iconst 4, 1) := by decide +kernel
theorem dX8_tablesFor_26 : decode cX8_tablesFor 26 = .ok (.goto 4, 3) := by decide +kernel
theorem dX8_tablesFor_29 : decode cX8_tablesFor 29 = .ok (.iconst 5, 1) := by decide +kernel
theorem dX8_tablesFor_30 : decode cX8_tablesFor 30 = .ok (.ireturn, 1) := by decide +kernel
theorem dX8_setFirstCosts_0 : decode cX8_setFirstCosts 0 = .ok (.aload_n 0, 1) := by decide +kernel
theorem dX8_setFirstCosts_1 : decode cX8_setFirstCosts 1 = .ok (.getfield 16, 3) := by decide +kernel
theorem dX8_setFirstCosts_4 : decode cX8_setFirstCosts 4 = .ok (.iconst 0, 1) := by decide +kernel
theorem dX8_setFirstCosts_5 : decode cX8_setFirstCosts 5 = .ok (.invokestatic 62, 3) := by decide +kernel
theorem dX8_setFirstCosts_8 : decode cX8_setFirstCosts 8 = .ok (.iconst 0, 1) := by decide +kernel
theorem dX8_setFirstCosts_9 : decode cX8_setFirstCosts 9 = .ok (.istore 4, 2) := by decide +kernel
theorem dX8_setFirstCosts_11 : decode cX8_setFirstCosts 11 = .ok (.iload 4, 2) := by decide +kernel
theorem dX8_setFirstCosts_13 : decode cX8_setFirstCosts 13 = .ok (.iload_n 2, 1) := by decide +kernel
theorem dX8_setFirstCosts_14 : decode cX8_setFirstCosts 14 = .ok (.if_icmp .ge 22, 3) := by decide +kernel
theorem dX8_setFirstCosts_17 : decode cX8_setFirstCosts 17 = .ok (.aload_n 0, 1) := by decide +kernel
theorem dX8_setFirstCosts_18 : decode cX8_setFirstCosts 18 = .ok (.getfield 16, 3) := by decide +kernel
theorem dX8_setFirstCosts_21 : decode cX8_setFirstCosts 21 = .ok (.aload_n 1, 1) := by decide +kernel
theorem dX8_setFirstCosts_22 : decode cX8_setFirstCosts 22 = .ok (.iload 4, 2) := by decide +kernel
theorem dX8_setFirstCosts_24 : decode cX8_setFirstCosts 24 = .ok (.iaload, 1) := by decide +kernel
theorem dX8_setFirstCosts_25 : decode cX8_setFirstCosts 25 = .ok (.dup2, 1) := by decide +kernel
theorem dX8_setFirstCosts_26 : decode cX8_setFirstCosts 26 = .ok (.iaload, 1) := by decide +kernel
theorem dX8_setFirstCosts_27 : decode cX8_setFirstCosts 27 = .ok (.iconst 1, 1) := by decide +kernel
theorem dX8_setFirstCosts_28 : decode cX8_setFirstCosts 28 = .ok (.iadd, 1) := by decide +kernel
theorem dX8_setFirstCosts_29 : decode cX8_setFirstCosts 29 = .ok (.iastore, 1) := by decide +kernel
theorem dX8_setFirstCosts_30 : decode cX8_setFirstCosts 30 = .ok (.iinc 4 1, 3) := by decide +kernel
theorem dX8_setFirstCosts_33 : decode cX8_setFirstCosts 33 = .ok (.goto (-22), 3) := by decide +kernel
theorem dX8_setFirstCosts_36 : decode cX8_setFirstCosts 36 = .ok (.aload_n 3, 1) := by decide +kernel
theorem dX8_setFirstCosts_37 : decode cX8_setFirstCosts 37 = .ok (.getfield 36, 3) := by decide +kernel
theorem dX8_setFirstCosts_40 : decode cX8_setFirstCosts 40 = .ok (.iconst 1, 1) := by decide +kernel
theorem dX8_setFirstCosts_41 : decode cX8_setFirstCosts 41 = .ok (.isub, 1) := by decide +kernel
theorem dX8_setFirstCosts_42 : decode cX8_setFirstCosts 42 = .ok (.istore 4, 2) := by decide +kernel
theorem dX8_setFirstCosts_44 : decode cX8_setFirstCosts 44 = .ok (.iload_n 2, 1) := by decide +kernel
theorem dX8_setFirstCosts_45 : decode cX8_setFirstCosts 45 = .ok (.istore 5, 2) := by decide +kernel
theorem dX8_setFirstCosts_47 : decode cX8_setFirstCosts 47 = .ok (.iconst 0, 1) := by decide +kernel
theorem dX8_setFirstCosts_48 : decode cX8_setFirstCosts 48 = .ok (.istore 6, 2) := by decide +kernel
theorem dX8_setFirstCosts_50 : decode cX8_setFirstCosts 50 = .ok (.iload 4, 2) := by decide +kernel
theorem dX8_setFirstCosts_52 : decode cX8_setFirstCosts 52 = .ok (.istore 7, 2) := by decide +kernel
theorem dX8_setFirstCosts_54 : decode cX8_setFirstCosts 54 = .ok (.iload 7, 2) := by decide +kernel
theorem dX8_setFirstCosts_56 : decode cX8_setFirstCosts 56 = .ok (.ifCond .lt 165, 3) := by decide +kernel
theorem dX8_setFirstCosts_59 : decode cX8_setFirstCosts 59 = .ok (.iload 5, 2) := by decide +kernel
theorem dX8_setFirstCosts_61 : decode cX8_setFirstCosts 61 = .ok (.iload 7, 2) := by decide +kernel
theorem dX8_setFirstCosts_63 : decode cX8_setFirstCosts 63 = .ok (.iconst 1, 1) := by decide +kernel
theorem dX8_setFirstCosts_64 : decode cX8_setFirstCosts 64 = .ok (.iadd, 1) := by decide +kernel
theorem dX8_setFirstCosts_65 : decode cX8_setFirstCosts 65 = .ok (.idiv, 1) := by decide +kernel
theorem dX8_setFirstCosts_66 : decode cX8_setFirstCosts 66 = .ok (.istore 8, 2) := by decide +kernel
theorem dX8_setFirstCosts_68 : decode cX8_setFirstCosts 68 = .ok (.iconst 0, 1) := by decide +kernel
theorem dX8_setFirstCosts_69 : decode cX8_setFirstCosts 69 = .ok (.istore 9, 2) := by decide +kernel
theorem dX8_setFirstCosts_71 : decode cX8_setFirstCosts 71 = .ok (.iload 6, 2) := by decide +kernel
theorem dX8_setFirstCosts_73 : decode cX8_setFirstCosts 73 = .ok (.istore 10, 2) := by decide +kernel
theorem dX8_setFirstCosts_75 : decode cX8_setFirstCosts 75 = .ok (.iload 10, 2) := by decide +kernel
theorem dX8_setFirstCosts_77 : decode cX8_setFirstCosts 77 = .ok (.aload_n 3, 1) := by decide +kernel
theorem dX8_setFirstCosts_78 : decode cX8_setFirstCosts 78 = .ok (.getfield 52, 3) := by decide +kernel
theorem dX8_setFirstCosts_81 : decode cX8_setFirstCosts 81 = .ok (.if_icmp .ge 28, 3) := by decide +kernel
theorem dX8_setFirstCosts_84 : decode cX8_setFirstCosts 84 = .ok (.iload 9, 2) := by decide +kernel
theorem dX8_setFirstCosts_86 : decode cX8_setFirstCosts 86 = .ok (.iload 8, 2) := by decide +kernel
theorem dX8_setFirstCosts_88 : decode cX8_setFirstCosts 88 = .ok (.if_icmp .ge 21, 3) := by decide +kernel
theorem dX8_setFirstCosts_91 : decode cX8_setFirstCosts 91 = .ok (.iload 9, 2) := by decide +kernel
theorem dX8_setFirstCosts_93 : decode cX8_setFirstCosts 93 = .ok (.aload_n 0, 1) := by decide +kernel
theorem dX8_setFirstCosts_94 : decode cX8_setFirstCosts 94 = .ok (.getfield 16, 3) := by decide +kernel
theorem dX8_setFirstCosts_97 : decode cX8_setFirstCosts 97 = .ok (.iload 10, 2) := by decide +kernel
theorem dX8_setFirstCosts_99 : decode cX8_setFirstCosts 99 = .ok (.iaload, 1) := by decide +kernel
theorem dX8_setFirstCosts_100 : decode cX8_setFirstCosts 100 = .ok (.iadd, 1) := by decide +kernel
theorem dX8_setFirstCosts_101 : decode cX8_setFirstCosts 101 = .ok (.istore 9, 2) := by decide +kernel
theorem dX8_setFirstCosts_103 : decode cX8_setFirstCosts 103 = .ok (.iinc 10 1, 3) := by decide +kernel
theorem dX8_setFirstCosts_106 : decode cX8_setFirstCosts 106 = .ok (.goto (-31), 3) := by decide +kernel
theorem dX8_setFirstCosts_109 : decode cX8_setFirstCosts 109 = .ok (.iload 10, 2) := by decide +kernel
theorem dX8_setFirstCosts_111 : decode cX8_setFirstCosts 111 = .ok (.iload 6, 2) := by decide +kernel
theorem dX8_setFirstCosts_113 : decode cX8_setFirstCosts 113 = .ok (.isub, 1) := by decide +kernel
theorem dX8_setFirstCosts_114 : decode cX8_setFirstCosts 114 = .ok (.iconst 1, 1) := by decide +kernel
theorem dX8_setFirstCosts_115 : decode cX8_setFirstCosts 115 = .ok (.if_icmp .le 41, 3) := by decide +kernel
theorem dX8_setFirstCosts_118 : decode cX8_setFirstCosts 118 = .ok (.iload 7, 2) := by decide +kernel
theorem dX8_setFirstCosts_120 : decode cX8_setFirstCosts 120 = .ok (.iload 4, 2) := by decide +kernel
theorem dX8_setFirstCosts_122 : decode cX8_setFirstCosts 122 = .ok (.if_icmp .eq 34, 3) := by decide +kernel
theorem dX8_setFirstCosts_125 : decode cX8_setFirstCosts 125 = .ok (.iload 7, 2) := by decide +kernel
theorem dX8_setFirstCosts_127 : decode cX8_setFirstCosts 127 = .ok (.ifCond .eq 29, 3) := by decide +kernel
theorem dX8_setFirstCosts_130 : decode cX8_setFirstCosts 130 = .ok (.iload 4, 2) := by decide +kernel
theorem dX8_setFirstCosts_132 : decode cX8_setFirstCosts 132 = .ok (.iload 7, 2) := by decide +kernel
theorem dX8_setFirstCosts_134 : decode cX8_setFirstCosts 134 = .ok (.isub, 1) := by decide +kernel
theorem dX8_setFirstCosts_135 : decode cX8_setFirstCosts 135 = .ok (.iconst 2, 1) := by decide +kernel
theorem dX8_setFirstCosts_136 : decode cX8_setFirstCosts 136 = .ok (.irem, 1) := by decide +kernel
theorem dX8_setFirstCosts_137 : decode cX8_setFirstCosts 137 = .ok (.iconst 1, 1) := by decide +kernel
theorem dX8_setFirstCosts_138 : decode cX8_setFirstCosts 138 = .ok (.if_icmp .ne 18, 3) := by decide +kernel
theorem dX8_setFirstCosts_141 : decode cX8_setFirstCosts 141 = .ok (.iinc 10 (-1), 3) := by decide +kernel
theorem dX8_setFirstCosts_144 : decode cX8_setFirstCosts 144 = .ok (.iload 9, 2) := by decide +kernel
theorem dX8_setFirstCosts_146 : decode cX8_setFirstCosts 146 = .ok (.aload_n 0, 1) := by decide +kernel
theorem dX8_setFirstCosts_147 : decode cX8_setFirstCosts 147 = .ok (.getfield 16, 3) := by decide +kernel
theorem dX8_setFirstCosts_150 : decode cX8_setFirstCosts 150 = .ok (.iload 10, 2) := by decide +kernel
theorem dX8_setFirstCosts_152 : decode cX8_setFirstCosts 152 = .ok (.iaload, 1) := by decide +kernel
theorem dX8_setFirstCosts_153 : decode cX8_setFirstCosts 153 = .ok (.isub, 1) := by decide +kernel
theorem dX8_setFirstCosts_154 : decode cX8_setFirstCosts 154 = .ok (.istore 9, 2) := by decide +kernel
theorem dX8_setFirstCosts_156 : decode cX8_setFirstCosts 156 = .ok (.iconst 0, 1) := by decide +kernel
theorem dX8_setFirstCosts_157 : decode cX8_setFirstCosts 157 = .ok (.istore 11, 2) := by decide +kernel
theorem dX8_setFirstCosts_159 : decode cX8_setFirstCosts 159 = .ok (.iload 11, 2) := by decide +kernel
theorem dX8_setFirstCosts_161 : decode cX8_setFirstCosts 161 = .ok (.aload_n 3, 1) := by decide +kernel
theorem dX8_setFirstCosts_162 : decode cX8_setFirstCosts 162 = .ok (.getfield 52, 3) := by decide +kernel
theorem dX8_setFirstCosts_165 : decode cX8_setFirstCosts 165 = .ok (.if_icmp .ge 39, 3) := by decide +kernel
theorem dX8_setFirstCosts_168 : decode cX8_setFirstCosts 168 = .ok (.aload_n 3, 1) := by decide +kernel
theorem dX8_setFirstCosts_169 : decode cX8_setFirstCosts 169 = .ok (.getfield 55, 3) := by decide +kernel
theorem dX8_setFirstCosts_172 : decode cX8_setFirstCosts 172 = .ok (.iload 7, 2) := by decide +kernel
theorem dX8_setFirstCosts_174 : decode cX8_setFirstCosts 174 = .ok (.aaload, 1) := by decide +kernel
theorem dX8_setFirstCosts_175 : decode cX8_setFirstCosts 175 = .ok (.iload 11, 2) := by decide +kernel
theorem dX8_setFirstCosts_177 : decode cX8_setFirstCosts 177 = .ok (.iload 11, 2) := by decide +kernel
theorem dX8_setFirstCosts_179 : decode cX8_setFirstCosts 179 = .ok (.iload 6, 2) := by decide +kernel
theorem dX8_setFirstCosts_181 : decode cX8_setFirstCosts 181 = .ok (.if_icmp .lt 14, 3) := by decide +kernel
theorem dX8_setFirstCosts_184 : decode cX8_setFirstCosts 184 = .ok (.iload 11, 2) := by decide +kernel
theorem dX8_setFirstCosts_186 : decode cX8_setFirstCosts 186 = .ok (.iload 10, 2) := by decide +kernel
theorem dX8_setFirstCosts_188 : decode cX8_setFirstCosts 188 = .ok (.if_icmp .ge 7, 3) := by decide +kernel
theorem dX8_setFirstCosts_191 : decode cX8_setFirstCosts 191 = .ok (.iconst 0, 1) := by decide +kernel
theorem dX8_setFirstCosts_192 : decode cX8_setFirstCosts 192 = .ok (.goto 5, 3) := by decide +kernel
theorem dX8_setFirstCosts_195 : decode cX8_setFirstCosts 195 = .ok (.bipush 15, 2) := by decide +kernel
theorem dX8_setFirstCosts_197 : decode cX8_setFirstCosts 197 = .ok (.iastore, 1) := by decide +kernel
theorem dX8_setFirstCosts_198 : decode cX8_setFirstCosts 198 = .ok (.iinc 11 1, 3) := by decide +kernel
theorem dX8_setFirstCosts_201 : decode cX8_setFirstCosts 201 = .ok (.goto (-42), 3) := by decide +kernel
theorem dX8_setFirstCosts_204 : decode cX8_setFirstCosts 204 = .ok (.iload 5, 2) := by decide +kernel
theorem dX8_setFirstCosts_206 : decode cX8_setFirstCosts 206 = .ok (.iload 9, 2) := by decide +kernel
theorem dX8_setFirstCosts_208 : decode cX8_setFirstCosts 208 = .ok (.isub, 1) := by decide +kernel
theorem dX8_setFirstCosts_209 : decode cX8_setFirstCosts 209 = .ok (.istore 5, 2) := by decide +kernel
theorem dX8_setFirstCosts_211 : decode cX8_setFirstCosts 211 = .ok (.iload 10, 2) := by decide +kernel
theorem dX8_setFirstCosts_213 : decode cX8_setFirstCosts 213 = .ok (.istore 6, 2) := by decide +kernel
theorem dX8_setFirstCosts_215 : decode cX8_setFirstCosts 215 = .ok (.iinc 7 (-1), 3) := by decide +kernel
theorem dX8_setFirstCosts_218 : decode cX8_setFirstCosts 218 = .ok (.goto (-164), 3) := by decide +kernel
theorem dX8_setFirstCosts_221 : decode cX8_setFirstCosts 221 = .ok (.return_, 1) := by decide +kernel
theorem dX8_chooseAll_0 : decode cX8_chooseAll 0 = .ok (.iconst 0, 1) := by decide +kernel
theorem dX8_chooseAll_1 : decode cX8_chooseAll 1 = .ok (.istore 4, 2) := by decide +kernel
theorem dX8_chooseAll_3 : decode cX8_chooseAll 3 = .ok (.iload 4, 2) := by decide +kernel
theorem dX8_chooseAll_5 : decode cX8_chooseAll 5 = .ok (.aload_n 3, 1) := by decide +kernel
theorem dX8_chooseAll_6 : decode cX8_chooseAll 6 = .ok (.getfield 36, 3) := by decide +kernel
theorem dX8_chooseAll_9 : decode cX8_chooseAll 9 = .ok (.if_icmp .ge 20, 3) := by decide +kernel
theorem dX8_chooseAll_12 : decode cX8_chooseAll 12 = .ok (.aload_n 0, 1) := by decide +kernel
theorem dX8_chooseAll_13 : decode cX8_chooseAll 13 = .ok (.getfield 11, 3) := by decide +kernel
theorem dX8_chooseAll_16 : decode cX8_chooseAll 16 = .ok (.iload 4, 2) := by decide +kernel
theorem dX8_chooseAll_18 : decode cX8_chooseAll 18 = .ok (.aaload, 1) := by decide +kernel
theorem dX8_chooseAll_19 : decode cX8_chooseAll 19 = .ok (.iconst 0, 1) := by decide +kernel
theorem dX8_chooseAll_20 : decode cX8_chooseAll 20 = .ok (.invokestatic 62, 3) := by decide +kernel
theorem dX8_chooseAll_23 : decode cX8_chooseAll 23 = .ok (.iinc 4 1, 3) := by decide +kernel
theorem dX8_chooseAll_26 : decode cX8_chooseAll 26 = .ok (.goto (-23), 3) := by decide +kernel
theorem dX8_chooseAll_29 : decode cX8_chooseAll 29 = .ok (.iconst 0, 1) := by decide +kernel
theorem dX8_chooseAll_30 : decode cX8_chooseAll 30 = .ok (.istore 4, 2) := by decide +kernel
theorem dX8_chooseAll_32 : decode cX8_chooseAll 32 = .ok (.iload 4, 2) := by decide +kernel
theorem dX8_chooseAll_34 : decode cX8_chooseAll 34 = .ok (.aload_n 3, 1) := by decide +kernel
theorem dX8_chooseAll_35 : decode cX8_chooseAll 35 = .ok (.getfield 42, 3) := by decide +kernel
theorem dX8_chooseAll_38 : decode cX8_chooseAll 38 = .ok (.if_icmp .ge 79, 3) := by decide +kernel
theorem dX8_chooseAll_41 : decode cX8_chooseAll 41 = .ok (.iload 4, 2) := by decide +kernel
theorem dX8_chooseAll_43 : decode cX8_chooseAll 43 = .ok (.bipush 50, 2) := by decide +kernel
theorem dX8_chooseAll_45 : decode cX8_chooseAll 45 = .ok (.imul, 1) := by decide +kernel
theorem dX8_chooseAll_46 : decode cX8_chooseAll 46 = .ok (.istore 5, 2) := by decide +kernel
theorem dX8_chooseAll_48 : decode cX8_chooseAll 48 = .ok (.iload_n 2, 1) := by decide +kernel
theorem dX8_chooseAll_49 : decode cX8_chooseAll 49 = .ok (.iload 5, 2) := by decide +kernel
theorem dX8_chooseAll_51 : decode cX8_chooseAll 51 = .ok (.bipush 50, 2) := by decide +kernel
theorem dX8_chooseAll_53 : decode cX8_chooseAll 53 = .ok (.iadd, 1) := by decide +kernel
theorem dX8_chooseAll_54 : decode cX8_chooseAll 54 = .ok (.invokestatic 68, 3) := by decide +kernel
theorem dX8_chooseAll_57 : decode cX8_chooseAll 57 = .ok (.istore 6, 2) := by decide +kernel
theorem dX8_chooseAll_59 : decode cX8_chooseAll 59 = .ok (.aload_n 1, 1) := by decide +kernel
theorem dX8_chooseAll_60 : decode cX8_chooseAll 60 = .ok (.iload 5, 2) := by decide +kernel
theorem dX8_chooseAll_62 : decode cX8_chooseAll 62 = .ok (.iload 6, 2) := by decide +kernel
theorem dX8_chooseAll_64 : decode cX8_chooseAll 64 = .ok (.aload_n 3, 1) := by decide +kernel
theorem dX8_chooseAll_65 : decode cX8_chooseAll 65 = .ok (.invokestatic 74, 3) := by decide +kernel
theorem dX8_chooseAll_68 : decode cX8_chooseAll 68 = .ok (.istore 7, 2) := by decide +kernel
theorem dX8_chooseAll_70 : decode cX8_chooseAll 70 = .ok (.aload_n 3, 1) := by decide +kernel
theorem dX8_chooseAll_71 : decode cX8_chooseAll 71 = .ok (.iload 4, 2) := by decide +kernel
theorem dX8_chooseAll_73 : decode cX8_chooseAll 73 = .ok (.iload 7, 2) := by decide +kernel
theorem dX8_chooseAll_75 : decode cX8_chooseAll 75 = .ok (.invokevirtual 78, 3) := by decide +kernel
theorem dX8_chooseAll_78 : decode cX8_chooseAll 78 = .ok (.iload 5, 2) := by decide +kernel
theorem dX8_chooseAll_80 : decode cX8_chooseAll 80 = .ok (.istore 8, 2) := by decide +kernel
theorem dX8_chooseAll_82 : decode cX8_chooseAll 82 = .ok (.iload 8, 2) := by decide +kernel
theorem dX8_chooseAll_84 : decode cX8_chooseAll 84 = .ok (.iload 6, 2) := by decide +kernel
theorem dX8_chooseAll_86 : decode cX8_chooseAll 86 = .ok (.if_icmp .ge 25, 3) := by decide +kernel
theorem dX8_chooseAll_89 : decode cX8_chooseAll 89 = .ok (.aload_n 0, 1) := by decide +kernel
theorem dX8_chooseAll_90 : decode cX8_chooseAll 90 = .ok (.getfield 11, 3) := by decide +kernel
theorem dX8_chooseAll_93 : decode cX8_chooseAll 93 = .ok (.iload 7, 2) := by decide +kernel
theorem dX8_chooseAll_95 : decode cX8_chooseAll 95 = .ok (.aaload, 1) := by decide +kernel
theorem dX8_chooseAll_96 : decode cX8_chooseAll 96 = .ok (.aload_n 1, 1) := by decide +kernel
theorem dX8_chooseAll_97 : decode cX8_chooseAll 97 = .ok (.iload 8, 2) := by decide +kernel
theorem dX8_chooseAll_99 : decode cX8_chooseAll 99 = .ok (.iaload, 1) := by decide +kernel
theorem dX8_chooseAll_100 : decode cX8_chooseAll 100 = .ok (.dup2, 1) := by decide +kernel
theorem dX8_chooseAll_101 : decode cX8_chooseAll 101 = .ok (.iaload, 1) := by decide +kernel
theorem dX8_chooseAll_102 : decode cX8_chooseAll 102 = .ok (.iconst 1, 1) := by decide +kernel
theorem dX8_chooseAll_103 : decode cX8_chooseAll 103 = .ok (.iadd, 1) := by decide +kernel
theorem dX8_chooseAll_104 : decode cX8_chooseAll 104 = .ok (.iastore, 1) := by decide +kernel
theorem dX8_chooseAll_105 : decode cX8_chooseAll 105 = .ok (.iinc 8 1, 3) := by decide +kernel
theorem dX8_chooseAll_108 : decode cX8_chooseAll 108 = .ok (.goto (-26), 3) := by decide +kernel
theorem dX8_chooseAll_111 : decode cX8_chooseAll 111 = .ok (.iinc 4 1, 3) := by decide +kernel
theorem dX8_chooseAll_114 : decode cX8_chooseAll 114 = .ok (.goto (-82), 3) := by decide +kernel
theorem dX8_chooseAll_117 : decode cX8_chooseAll 117 = .ok (.return_, 1) := by decide +kernel
theorem dX8_cheapest_0 : decode cX8_cheapest 0 = .ok (.iconst 0, 1) := by decide +kernel
theorem dX8_cheapest_1 : decode cX8_cheapest 1 = .ok (.istore 4, 2) := by decide +kernel
theorem dX8_cheapest_3 : decode cX8_cheapest 3 = .ok (.iconst 0, 1) := by decide +kernel
theorem dX8_cheapest_4 : decode cX8_cheapest 4 = .ok (.istore 5, 2) := by decide +kernel
theorem dX8_cheapest_6 : decode cX8_cheapest 6 = .ok (.iconst 0, 1) := by decide +kernel
theorem dX8_cheapest_7 : decode cX8_cheapest 7 = .ok (.istore 6, 2) := by decide +kernel
theorem dX8_cheapest_9 : decode cX8_cheapest 9 = .ok (.iload 6, 2) := by decide +kernel
theorem dX8_cheapest_11 : decode cX8_cheapest 11 = .ok (.aload_n 3, 1) := by decide +kernel
theorem dX8_cheapest_12 : decode cX8_cheapest 12 = .ok (.getfield 36, 3) := by decide +kernel
theorem dX8_cheapest_15 : decode cX8_cheapest 15 = .ok (.if_icmp .ge 64, 3) := by decide +kernel
theorem dX8_cheapest_18 : decode cX8_cheapest 18 = .ok (.iconst 0, 1) := by decide +kernel
theorem dX8_cheapest_19 : decode cX8_cheapest 19 = .ok (.istore 7, 2) := by decide +kernel
theorem dX8_cheapest_21 : decode cX8_cheapest 21 = .ok (.iload_n 1, 1) := by decide +kernel
theorem dX8_cheapest_22 : decode cX8_cheapest 22 = .ok (.istore 8, 2) := by decide +kernel
theorem dX8_cheapest_24 : decode cX8_cheapest 24 = .ok (.iload 8, 2) := by decide +kernel
theorem dX8_cheapest_26 : decode cX8_cheapest 26 = .ok (.iload_n 2, 1) := by decide +kernel
theorem dX8_cheapest_27 : decode cX8_cheapest 27 = .ok (.if_icmp .ge 26, 3) := by decide +kernel
theorem dX8_cheapest_30 : decode cX8_cheapest 30 = .ok (.iload 7, 2) := by decide +kernel
theorem dX8_cheapest_32 : decode cX8_cheapest 32 = .ok (.aload_n 3, 1) := by decide +kernel
theorem dX8_cheapest_33 : decode cX8_cheapest 33 = .ok (.getfield 55, 3) := by decide +kernel
theorem dX8_cheapest_36 : decode cX8_cheapest 36 = .ok (.iload 6, 2) := by decide +kernel
theorem dX8_cheapest_38 : decode cX8_cheapest 38 = .ok (.aaload, 1) := by decide +kernel
theorem dX8_cheapest_39 : decode cX8_cheapest 39 = .ok (.aload_n 0, 1) := by decide +kernel
theorem dX8_cheapest_40 : decode cX8_cheapest 40 = .ok (.iload 8, 2) := by decide +kernel
theorem dX8_cheapest_42 : decode cX8_cheapest 42 = .ok (.iaload, 1) := by decide +kernel
theorem dX8_cheapest_43 : decode cX8_cheapest 43 = .ok (.iaload, 1) := by decide +kernel
theorem dX8_cheapest_44 : decode cX8_cheapest 44 = .ok (.iadd, 1) := by decide +kernel
theorem dX8_cheapest_45 : decode cX8_cheapest 45 = .ok (.istore 7, 2) := by decide +kernel
theorem dX8_cheapest_47 : decode cX8_cheapest 47 = .ok (.iinc 8 1, 3) := by decide +kernel
theorem dX8_cheapest_50 : decode cX8_cheapest 50 = .ok (.goto (-26), 3) := by decide +kernel
theorem dX8_cheapest_53 : decode cX8_cheapest 53 = .ok (.iload 6, 2) := by decide +kernel
theorem dX8_cheapest_55 : decode cX8_cheapest 55 = .ok (.ifCond .eq 10, 3) := by decide +kernel
theorem dX8_cheapest_58 : decode cX8_cheapest 58 = .ok (.iload 7, 2) := by decide +kernel
theorem dX8_cheapest_60 : decode cX8_cheapest 60 = .ok (.iload 5, 2) := by decide +kernel
theorem dX8_cheapest_62 : decode cX8_cheapest 62 = .ok (.if_icmp .ge 11, 3) := by decide +kernel
theorem dX8_cheapest_65 : decode cX8_cheapest 65 = .ok (.iload 7, 2) := by decide +kernel
theorem dX8_cheapest_67 : decode cX8_cheapest 67 = .ok (.istore 5, 2) := by decide +kernel
theorem dX8_cheapest_69 : decode cX8_cheapest 69 = .ok (.iload 6, 2) := by decide +kernel
theorem dX8_cheapest_71 : decode cX8_cheapest 71 = .ok (.istore 4, 2) := by decide +kernel
theorem dX8_cheapest_73 : decode cX8_cheapest 73 = .ok (.iinc 6 1, 3) := by decide +kernel
theorem dX8_cheapest_76 : decode cX8_cheapest 76 = .ok (.goto (-67), 3) := by decide +kernel
theorem dX8_cheapest_79 : decode cX8_cheapest 79 = .ok (.iload 4, 2) := by decide +kernel
theorem dX8_cheapest_81 : decode cX8_cheapest 81 = .ok (.ireturn, 1) := by decide +kernel
theorem dX8_makeLengths_0 : decode cX8_makeLengths 0 = .ok (.iconst 0, 1) := by decide +kernel
theorem dX8_makeLengths_1 : decode cX8_makeLengths 1 = .ok (.istore 4, 2) := by decide +kernel
theorem dX8_makeLengths_3 : decode cX8_makeLengths 3 = .ok (.iload 4, 2) := by decide +kernel
theorem dX8_makeLengths_5 : decode cX8_makeLengths 5 = .ok (.iload_n 2, 1) := by decide +kernel
theorem dX8_makeLengths_6 : decode cX8_makeLengths 6 = .ok (.if_icmp .ge 24, 3) := by decide +kernel
theorem dX8_makeLengths_9 : decode cX8_makeLengths 9 = .ok (.aload_n 0, 1) := by decide +kernel
theorem dX8_makeLengths_10 : decode cX8_makeLengths 10 = .ok (.getfield 23, 3) := by decide +kernel
theorem dX8_makeLengths_13 : decode cX8_makeLengths 13 = .ok (.iload 4, 2) := by decide +kernel
theorem dX8_makeLengths_15 : decode cX8_makeLengths 15 = .ok (.iconst 1, 1) := by decide +kernel
theorem dX8_makeLengths_16 : decode cX8_makeLengths 16 = .ok (.aload_n 1, 1) := by decide +kernel
theorem dX8_makeLengths_17 : decode cX8_makeLengths 17 = .ok (.iload 4, 2) := by decide +kernel
theorem dX8_makeLengths_19 : decode cX8_makeLengths 19 = .ok (.iaload, 1) := by decide +kernel
theorem dX8_makeLengths_20 : decode cX8_makeLengths 20 = .ok (.invokestatic 82, 3) := by decide +kernel
theorem dX8_makeLengths_23 : decode cX8_makeLengths 23 = .ok (.iastore, 1) := by decide +kernel
theorem dX8_makeLengths_24 : decode cX8_makeLengths 24 = .ok (.iinc 4 1, 3) := by decide +kernel
theorem dX8_makeLengths_27 : decode cX8_makeLengths 27 = .ok (.goto (-24), 3) := by decide +kernel
theorem dX8_makeLengths_30 : decode cX8_makeLengths 30 = .ok (.iconst 0, 1) := by decide +kernel
theorem dX8_makeLengths_31 : decode cX8_makeLengths 31 = .ok (.istore 4, 2) := by decide +kernel
theorem dX8_makeLengths_33 : decode cX8_makeLengths 33 = .ok (.iload 4, 2) := by decide +kernel
theorem dX8_makeLengths_35 : decode cX8_makeLengths 35 = .ok (.bipush 31, 2) := by decide +kernel
theorem dX8_makeLengths_37 : decode cX8_makeLengths 37 = .ok (.if_icmp .ge 59, 3) := by decide +kernel
theorem dX8_makeLengths_40 : decode cX8_makeLengths 40 = .ok (.aload_n 0, 1) := by decide +kernel
theorem dX8_makeLengths_41 : decode cX8_makeLengths 41 = .ok (.iload_n 2, 1) := by decide +kernel
theorem dX8_makeLengths_42 : decode cX8_makeLengths 42 = .ok (.invokevirtual 85, 3) := by decide +kernel
theorem dX8_makeLengths_45 : decode cX8_makeLengths 45 = .ok (.aload_n 0, 1) := by decide +kernel
theorem dX8_makeLengths_46 : decode cX8_makeLengths 46 = .ok (.iload_n 2, 1) := by decide +kernel
theorem dX8_makeLengths_47 : decode cX8_makeLengths 47 = .ok (.aload_n 3, 1) := by decide +kernel
theorem dX8_makeLengths_48 : decode cX8_makeLengths 48 = .ok (.invokevirtual 89, 3) := by decide +kernel
theorem dX8_makeLengths_51 : decode cX8_makeLengths 51 = .ok (.bipush 17, 2) := by decide +kernel
theorem dX8_makeLengths_53 : decode cX8_makeLengths 53 = .ok (.if_icmp .gt 4, 3) := by decide +kernel
theorem dX8_makeLengths_56 : decode cX8_makeLengths 56 = .ok (.return_, 1) := by decide +kernel
theorem dX8_makeLengths_57 : decode cX8_makeLengths 57 = .ok (.iconst 0, 1) := by decide +kernel
theorem dX8_makeLengths_58 : decode cX8_makeLengths 58 = .ok (.istore 5, 2) := by decide +kernel
theorem dX8_makeLengths_60 : decode cX8_makeLengths 60 = .ok (.iload 5, 2) := by decide +kernel
theorem dX8_makeLengths_62 : decode cX8_makeLengths 62 = .ok (.iload_n 2, 1) := by decide +kernel
theorem dX8_makeLengths_63 : decode cX8_makeLengths 63 = .ok (.if_icmp .ge 27, 3) := by decide +kernel
theorem dX8_makeLengths_66 : decode cX8_makeLengths 66 = .ok (.aload_n 0, 1) := by decide +kernel
theorem dX8_makeLengths_67 : decode cX8_makeLengths 67 = .ok (.getfield 23, 3) := by decide +kernel
theorem dX8_makeLengths_70 : decode cX8_makeLengths 70 = .ok (.iload 5, 2) := by decide +kernel
theorem dX8_makeLengths_72 : decode cX8_makeLengths 72 = .ok (.aload_n 0, 1) := by decide +kernel
theorem dX8_makeLengths_73 : decode cX8_makeLengths 73 = .ok (.getfield 23, 3) := by decide +kernel
theorem dX8_makeLengths_76 : decode cX8_makeLengths 76 = .ok (.iload 5, 2) := by decide +kernel
theorem dX8_makeLengths_78 : decode cX8_makeLengths 78 = .ok (.iaload, 1) := by decide +kernel
theorem dX8_makeLengths_79 : decode cX8_makeLengths 79 = .ok (.iconst 2, 1) := by decide +kernel
theorem dX8_makeLengths_80 : decode cX8_makeLengths 80 = .ok (.idiv, 1) := by decide +kernel
theorem dX8_makeLengths_81 : decode cX8_makeLengths 81 = .ok (.iconst 1, 1) := by decide +kernel
theorem dX8_makeLengths_82 : decode cX8_makeLengths 82 = .ok (.iadd, 1) := by decide +kernel
theorem dX8_makeLengths_83 : decode cX8_makeLengths 83 = .ok (.iastore, 1) := by decide +kernel
theorem dX8_makeLengths_84 : decode cX8_makeLengths 84 = .ok (.iinc 5 1, 3) := by decide +kernel
theorem dX8_makeLengths_87 : decode cX8_makeLengths 87 = .ok (.goto (-27), 3) := by decide +kernel
theorem dX8_makeLengths_90 : decode cX8_makeLengths 90 = .ok (.iinc 4 1, 3) := by decide +kernel
theorem dX8_makeLengths_93 : decode cX8_makeLengths 93 = .ok (.goto (-60), 3) := by decide +kernel
theorem dX8_makeLengths_96 : decode cX8_makeLengths 96 = .ok (.return_, 1) := by decide +kernel
theorem dX8_joinAll_0 : decode cX8_joinAll 0 = .ok (.aload_n 0, 1) := by decide +kernel
theorem dX8_joinAll_1 : decode cX8_joinAll 1 = .ok (.iload_n 1, 1) := by decide +kernel
theorem dX8_joinAll_2 : decode cX8_joinAll 2 = .ok (.invokevirtual 93, 3) := by decide +kernel
theorem dX8_joinAll_5 : decode cX8_joinAll 5 = .ok (.aload_n 0, 1) := by decide +kernel
theorem dX8_joinAll_6 : decode cX8_joinAll 6 = .ok (.iconst 0, 1) := by decide +kernel
theorem dX8_joinAll_7 : decode cX8_joinAll 7 = .ok (.putfield 96, 3) := by decide +kernel
theorem dX8_joinAll_10 : decode cX8_joinAll 10 = .ok (.aload_n 0, 1) := by decide +kernel
theorem dX8_joinAll_11 : decode cX8_joinAll 11 = .ok (.iload_n 1, 1) := by decide +kernel
theorem dX8_joinAll_12 : decode cX8_joinAll 12 = .ok (.putfield 99, 3) := by decide +kernel
theorem dX8_joinAll_15 : decode cX8_joinAll 15 = .ok (.aload_n 0, 1) := by decide +kernel
theorem dX8_joinAll_16 : decode cX8_joinAll 16 = .ok (.iload_n 1, 1) := by decide +kernel
theorem dX8_joinAll_17 : decode cX8_joinAll 17 = .ok (.putfield 102, 3) := by decide +kernel
theorem dX8_joinAll_20 : decode cX8_joinAll 20 = .ok (.iconst 2, 1) := by decide +kernel
theorem dX8_joinAll_21 : decode cX8_joinAll 21 = .ok (.iload_n 1, 1) := by decide +kernel
theorem dX8_joinAll_22 : decode cX8_joinAll 22 = .ok (.imul, 1) := by decide +kernel
theorem dX8_joinAll_23 : decode cX8_joinAll 23 = .ok (.iconst 1, 1) := by decide +kernel
theorem dX8_joinAll_24 : decode cX8_joinAll 24 = .ok (.isub, 1) := by decide +kernel
theorem dX8_joinAll_25 : decode cX8_joinAll 25 = .ok (.istore_n 2, 1) := by decide +kernel
theorem dX8_joinAll_26 : decode cX8_joinAll 26 = .ok (.iload_n 1, 1) := by decide +kernel
theorem dX8_joinAll_27 : decode cX8_joinAll 27 = .ok (.istore_n 3, 1) := by decide +kernel
theorem dX8_joinAll_28 : decode cX8_joinAll 28 = .ok (.iload_n 3, 1) := by decide +kernel
theorem dX8_joinAll_29 : decode cX8_joinAll 29 = .ok (.iload_n 2, 1) := by decide +kernel
theorem dX8_joinAll_30 : decode cX8_joinAll 30 = .ok (.if_icmp .ge 67, 3) := by decide +kernel
theorem dX8_joinAll_33 : decode cX8_joinAll 33 = .ok (.aload_n 0, 1) := by decide +kernel
theorem dX8_joinAll_34 : decode cX8_joinAll 34 = .ok (.iload_n 1, 1) := by decide +kernel
theorem dX8_joinAll_35 : decode cX8_joinAll 35 = .ok (.invokevirtual 105, 3) := by decide +kernel
theorem dX8_joinAll_38 : decode cX8_joinAll 38 = .ok (.istore 4, 2) := by decide +kernel
theorem dX8_joinAll_40 : decode cX8_joinAll 40 = .ok (.aload_n 0, 1) := by decide +kernel
theorem dX8_joinAll_41 : decode cX8_joinAll 41 = .ok (.iload_n 1, 1) := by decide +kernel
theorem dX8_joinAll_42 : decode cX8_joinAll 42 = .ok (.invokevirtual 105, 3) := by decide +kernel
theorem dX8_joinAll_45 : decode cX8_joinAll 45 = .ok (.istore 5, 2) := by decide +kernel
theorem dX8_joinAll_47 : decode cX8_joinAll 47 = .ok (.aload_n 0, 1) := by decide +kernel
theorem dX8_joinAll_48 : decode cX8_joinAll 48 = .ok (.getfield 23, 3) := by decide +kernel
theorem dX8_joinAll_51 : decode cX8_joinAll 51 = .ok (.iload_n 3, 1) := by decide +kernel
theorem dX8_joinAll_52 : decode cX8_joinAll 52 = .ok (.aload_n 0, 1) := by decide +kernel
theorem dX8_joinAll_53 : decode cX8_joinAll 53 = .ok (.getfield 23, 3) := by decide +kernel
theorem dX8_joinAll_56 : decode cX8_joinAll 56 = .ok (.iload 4, 2) := by decide +kernel
theorem dX8_joinAll_58 : decode cX8_joinAll 58 = .ok (.iaload, 1) := by decide +kernel
theorem dX8_joinAll_59 : decode cX8_joinAll 59 = .ok (.aload_n 0, 1) := by decide +kernel
theorem dX8_joinAll_60 : decode cX8_joinAll 60 = .ok (.getfield 23, 3) := by decide +kernel
theorem dX8_joinAll_63 : decode cX8_joinAll 63 = .ok (.iload 5, 2) := by decide +kernel
theorem dX8_joinAll_65 : decode cX8_joinAll 65 = .ok (.iaload, 1) := by decide +kernel
theorem dX8_joinAll_66 : decode cX8_joinAll 66 = .ok (.iadd, 1) := by decide +kernel
theorem dX8_joinAll_67 : decode cX8_joinAll 67 = .ok (.iastore, 1) := by decide +kernel
theorem dX8_joinAll_68 : decode cX8_joinAll 68 = .ok (.aload_n 0, 1) := by decide +kernel
theorem dX8_joinAll_69 : decode cX8_joinAll 69 = .ok (.getfield 26, 3) := by decide +kernel
theorem dX8_joinAll_72 : decode cX8_joinAll 72 = .ok (.iload 4, 2) := by decide +kernel
theorem dX8_joinAll_74 : decode cX8_joinAll 74 = .ok (.iload_n 3, 1) := by decide +kernel
theorem dX8_joinAll_75 : decode cX8_joinAll 75 = .ok (.iastore, 1) := by decide +kernel
theorem dX8_joinAll_76 : decode cX8_joinAll 76 = .ok (.aload_n 0, 1) := by decide +kernel
theorem dX8_joinAll_77 : decode cX8_joinAll 77 = .ok (.getfield 26, 3) := by decide +kernel
theorem dX8_joinAll_80 : decode cX8_joinAll 80 = .ok (.iload 5, 2) := by decide +kernel
theorem dX8_joinAll_82 : decode cX8_joinAll 82 = .ok (.iload_n 3, 1) := by decide +kernel
theorem dX8_joinAll_83 : decode cX8_joinAll 83 = .ok (.iastore, 1) := by decide +kernel
theorem dX8_joinAll_84 : decode cX8_joinAll 84 = .ok (.aload_n 0, 1) := by decide +kernel
theorem dX8_joinAll_85 : decode cX8_joinAll 85 = .ok (.iload_n 3, 1) := by decide +kernel
theorem dX8_joinAll_86 : decode cX8_joinAll 86 = .ok (.iconst 1, 1) := by decide +kernel
theorem dX8_joinAll_87 : decode cX8_joinAll 87 = .ok (.iadd, 1) := by decide +kernel
theorem dX8_joinAll_88 : decode cX8_joinAll 88 = .ok (.putfield 102, 3) := by decide +kernel
theorem dX8_joinAll_91 : decode cX8_joinAll 91 = .ok (.iinc 3 1, 3) := by decide +kernel
theorem dX8_joinAll_94 : decode cX8_joinAll 94 = .ok (.goto (-66), 3) := by decide +kernel
theorem dX8_joinAll_97 : decode cX8_joinAll 97 = .ok (.return_, 1) := by decide +kernel
theorem dX8_sortByWeight_0 : decode cX8_sortByWeight 0 = .ok (.iconst 0, 1) := by decide +kernel
theorem dX8_sortByWeight_1 : decode cX8_sortByWeight 1 = .ok (.istore_n 2, 1) := by decide +kernel
theorem dX8_sortByWeight_2 : decode cX8_sortByWeight 2 = .ok (.iload_n 2, 1) := by decide +kernel
theorem dX8_sortByWeight_3 : decode cX8_sortByWeight 3 = .ok (.iload_n 1, 1) := by decide +kernel
theorem dX8_sortByWeight_4 : decode cX8_sortByWeight 4 = .ok (.if_icmp .ge 64, 3) := by decide +kernel
theorem dX8_sortByWeight_7 : decode cX8_sortByWeight 7 = .ok (.iload_n 2, 1) := by decide +kernel
theorem dX8_sortByWeight_8 : decode cX8_sortByWeight 8 = .ok (.istore_n 3, 1) := by decide +kernel
theorem dX8_sortByWeight_9 : decode cX8_sortByWeight 9 = .ok (.iload_n 3, 1) := by decide +kernel
theorem dX8_sortByWeight_10 : decode cX8_sortByWeight 10 = .ok (.ifCond .le 45, 3) := by decide +kernel
theorem dX8_sortByWeight_13 : decode cX8_sortByWeight 13 = .ok (.aload_n 0, 1) := by decide +kernel
theorem dX8_sortByWeight_14 : decode cX8_sortByWeight 14 = .ok (.getfield 23, 3) := by decide +kernel
theorem dX8_sortByWeight_17 : decode cX8_sortByWeight 17 = .ok (.aload_n 0, 1) := by decide +kernel
theorem dX8_sortByWeight_18 : decode cX8_sortByWeight 18 = .ok (.getfield 20, 3) := by decide +kernel
theorem dX8_sortByWeight_21 : decode cX8_sortByWeight 21 = .ok (.iload_n 3, 1) := by decide +kernel
theorem dX8_sortByWeight_22 : decode cX8_sortByWeight 22 = .ok (.iconst 1, 1) := by decide +kernel
theorem dX8_sortByWeight_23 : decode cX8_sortByWeight 23 = .ok (.isub, 1) := by decide +kernel
theorem dX8_sortByWeight_24 : decode cX8_sortByWeight 24 = .ok (.iaload, 1) := by decide +kernel
theorem dX8_sortByWeight_25 : decode cX8_sortByWeight 25 = .ok (.iaload, 1) := by decide +kernel
theorem dX8_sortByWeight_26 : decode cX8_sortByWeight 26 = .ok (.aload_n 0, 1) := by decide +kernel
theorem dX8_sortByWeight_27 : decode cX8_sortByWeight 27 = .ok (.getfield 23, 3) := by decide +kernel
theorem dX8_sortByWeight_30 : decode cX8_sortByWeight 30 = .ok (.iload_n 2, 1) := by decide +kernel
theorem dX8_sortByWeight_31 : decode cX8_sortByWeight 31 = .ok (.iaload, 1) := by decide +kernel
theorem dX8_sortByWeight_32 : decode cX8_sortByWeight 32 = .ok (.if_icmp .le 23, 3) := by decide +kernel
theorem dX8_sortByWeight_35 : decode cX8_sortByWeight 35 = .ok (.aload_n 0, 1) := by decide +kernel
theorem dX8_sortByWeight_36 : decode cX8_sortByWeight 36 = .ok (.getfield 20, 3) := by decide +kernel
theorem dX8_sortByWeight_39 : decode cX8_sortByWeight 39 = .ok (.iload_n 3, 1) := by decide +kernel
theorem dX8_sortByWeight_40 : decode cX8_sortByWeight 40 = .ok (.aload_n 0, 1) := by decide +kernel
theorem dX8_sortByWeight_41 : decode cX8_sortByWeight 41 = .ok (.getfield 20, 3) := by decide +kernel
theorem dX8_sortByWeight_44 : decode cX8_sortByWeight 44 = .ok (.iload_n 3, 1) := by decide +kernel
theorem dX8_sortByWeight_45 : decode cX8_sortByWeight 45 = .ok (.iconst 1, 1) := by decide +kernel
theorem dX8_sortByWeight_46 : decode cX8_sortByWeight 46 = .ok (.isub, 1) := by decide +kernel
theorem dX8_sortByWeight_47 : decode cX8_sortByWeight 47 = .ok (.iaload, 1) := by decide +kernel
theorem dX8_sortByWeight_48 : decode cX8_sortByWeight 48 = .ok (.iastore, 1) := by decide +kernel
theorem dX8_sortByWeight_49 : decode cX8_sortByWeight 49 = .ok (.iinc 3 (-1), 3) := by decide +kernel
theorem dX8_sortByWeight_52 : decode cX8_sortByWeight 52 = .ok (.goto (-43), 3) := by decide +kernel
theorem dX8_sortByWeight_55 : decode cX8_sortByWeight 55 = .ok (.aload_n 0, 1) := by decide +kernel
theorem dX8_sortByWeight_56 : decode cX8_sortByWeight 56 = .ok (.getfield 20, 3) := by decide +kernel
theorem dX8_sortByWeight_59 : decode cX8_sortByWeight 59 = .ok (.iload_n 3, 1) := by decide +kernel
theorem dX8_sortByWeight_60 : decode cX8_sortByWeight 60 = .ok (.iload_n 2, 1) := by decide +kernel
theorem dX8_sortByWeight_61 : decode cX8_sortByWeight 61 = .ok (.iastore, 1) := by decide +kernel
theorem dX8_sortByWeight_62 : decode cX8_sortByWeight 62 = .ok (.iinc 2 1, 3) := by decide +kernel
theorem dX8_sortByWeight_65 : decode cX8_sortByWeight 65 = .ok (.goto (-63), 3) := by decide +kernel
theorem dX8_sortByWeight_68 : decode cX8_sortByWeight 68 = .ok (.return_, 1) := by decide +kernel
theorem dX8_takeLeast_0 : decode cX8_takeLeast 0 = .ok (.aload_n 0, 1) := by decide +kernel
theorem dX8_takeLeast_1 : decode cX8_takeLeast 1 = .ok (.getfield 96, 3) := by decide +kernel
theorem dX8_takeLeast_4 : decode cX8_takeLeast 4 = .ok (.iload_n 1, 1) := by decide +kernel
theorem dX8_takeLeast_5 : decode cX8_takeLeast 5 = .ok (.if_icmp .ge 7, 3) := by decide +kernel
theorem dX8_takeLeast_8 : decode cX8_takeLeast 8 = .ok (.iconst 1, 1) := by decide +kernel
theorem dX8_takeLeast_9 : decode cX8_takeLeast 9 = .ok (.goto 4, 3) := by decide +kernel
theorem dX8_takeLeast_12 : decode cX8_takeLeast 12 = .ok (.iconst 0, 1) := by decide +kernel
theorem dX8_takeLeast_13 : decode cX8_takeLeast 13 = .ok (.istore_n 2, 1) := by decide +kernel
theorem dX8_takeLeast_14 : decode cX8_takeLeast 14 = .ok (.aload_n 0, 1) := by decide +kernel
theorem dX8_takeLeast_15 : decode cX8_takeLeast 15 = .ok (.getfield 99, 3) := by decide +kernel
theorem dX8_takeLeast_18 : decode cX8_takeLeast 18 = .ok (.aload_n 0, 1) := by decide +kernel
theorem dX8_takeLeast_19 : decode cX8_takeLeast 19 = .ok (.getfield 102, 3) := by decide +kernel
theorem dX8_takeLeast_22 : decode cX8_takeLeast 22 = .ok (.if_icmp .ge 7, 3) := by decide +kernel
theorem dX8_takeLeast_25 : decode cX8_takeLeast 25 = .ok (.iconst 1, 1) := by decide +kernel
theorem dX8_takeLeast_26 : decode cX8_takeLeast 26 = .ok (.goto 4, 3) := by decide +kernel
theorem dX8_takeLeast_29 : decode cX8_takeLeast 29 = .ok (.iconst 0, 1) := by decide +kernel
theorem dX8_takeLeast_30 : decode cX8_takeLeast 30 = .ok (.istore_n 3, 1) := by decide +kernel
theorem dX8_takeLeast_31 : decode cX8_takeLeast 31 = .ok (.iload_n 2, 1) := by decide +kernel
theorem dX8_takeLeast_32 : decode cX8_takeLeast 32 = .ok (.ifCond .eq 55, 3) := by decide +kernel
theorem dX8_takeLeast_35 : decode cX8_takeLeast 35 = .ok (.iload_n 3, 1) := by decide +kernel
theorem dX8_takeLeast_36 : decode cX8_takeLeast 36 = .ok (.ifCond .eq 29, 3) := by decide +kernel
theorem dX8_takeLeast_39 : decode cX8_takeLeast 39 = .ok (.aload_n 0, 1) := by decide +kernel
theorem dX8_takeLeast_40 : decode cX8_takeLeast 40 = .ok (.getfield 23, 3) := by decide +kernel
theorem dX8_takeLeast_43 : decode cX8_takeLeast 43 = .ok (.aload_n 0, 1) := by decide +kernel
theorem dX8_takeLeast_44 : decode cX8_takeLeast 44 = .ok (.getfield 20, 3) := by decide +kernel
theorem dX8_takeLeast_47 : decode cX8_takeLeast 47 = .ok (.aload_n 0, 1) := by decide +kernel
theorem dX8_takeLeast_48 : decode cX8_takeLeast 48 = .ok (.getfield 96, 3) := by decide +kernel
theorem dX8_takeLeast_51 : decode cX8_takeLeast 51 = .ok (.iaload, 1) := by decide +kernel
theorem dX8_takeLeast_52 : decode cX8_takeLeast 52 = .ok (.iaload, 1) := by decide +kernel
theorem dX8_takeLeast_53 : decode cX8_takeLeast 53 = .ok (.aload_n 0, 1) := by decide +kernel
theorem dX8_takeLeast_54 : decode cX8_takeLeast 54 = .ok (.getfield 23, 3) := by decide +kernel
theorem dX8_takeLeast_57 : decode cX8_takeLeast 57 = .ok (.aload_n 0, 1) := by decide +kernel
theorem dX8_takeLeast_58 : decode cX8_takeLeast 58 = .ok (.getfield 99, 3) := by decide +kernel
theorem dX8_takeLeast_61 : decode cX8_takeLeast 61 = .ok (.iaload, 1) := by decide +kernel
theorem dX8_takeLeast_62 : decode cX8_takeLeast 62 = .ok (.if_icmp .gt 25, 3) := by decide +kernel
theorem dX8_takeLeast_65 : decode cX8_takeLeast 65 = .ok (.aload_n 0, 1) := by decide +kernel
theorem dX8_takeLeast_66 : decode cX8_takeLeast 66 = .ok (.dup, 1) := by decide +kernel
theorem dX8_takeLeast_67 : decode cX8_takeLeast 67 = .ok (.getfield 96, 3) := by decide +kernel
theorem dX8_takeLeast_70 : decode cX8_takeLeast 70 = .ok (.iconst 1, 1) := by decide +kernel
theorem dX8_takeLeast_71 : decode cX8_takeLeast 71 = .ok (.iadd, 1) := by decide +kernel
theorem dX8_takeLeast_72 : decode cX8_takeLeast 72 = .ok (.putfield 96, 3) := by decide +kernel
theorem dX8_takeLeast_75 : decode cX8_takeLeast 75 = .ok (.aload_n 0, 1) := by decide +kernel
theorem dX8_takeLeast_76 : decode cX8_takeLeast 76 = .ok (.getfield 20, 3) := by decide +kernel
theorem dX8_takeLeast_79 : decode cX8_takeLeast 79 = .ok (.aload_n 0, 1) := by decide +kernel
theorem dX8_takeLeast_80 : decode cX8_takeLeast 80 = .ok (.getfield 96, 3) := by decide +kernel
theorem dX8_takeLeast_83 : decode cX8_takeLeast 83 = .ok (.iconst 1, 1) := by decide +kernel
theorem dX8_takeLeast_84 : decode cX8_takeLeast 84 = .ok (.isub, 1) := by decide +kernel
theorem dX8_takeLeast_85 : decode cX8_takeLeast 85 = .ok (.iaload, 1) := by decide +kernel
theorem dX8_takeLeast_86 : decode cX8_takeLeast 86 = .ok (.ireturn, 1) := by decide +kernel
theorem dX8_takeLeast_87 : decode cX8_takeLeast 87 = .ok (.iload_n 3, 1) := by decide +kernel
theorem dX8_takeLeast_88 : decode cX8_takeLeast 88 = .ok (.ifCond .eq 20, 3) := by decide +kernel
theorem dX8_takeLeast_91 : decode cX8_takeLeast 91 = .ok (.aload_n 0, 1) := by decide +kernel
theorem dX8_takeLeast_92 : decode cX8_takeLeast 92 = .ok (.dup, 1) := by decide +kernel
theorem dX8_takeLeast_93 : decode cX8_takeLeast 93 = .ok (.getfield 99, 3) := by decide +kernel
theorem dX8_takeLeast_96 : decode cX8_takeLeast 96 = .ok (.iconst 1, 1) := by decide +kernel
theorem dX8_takeLeast_97 : decode cX8_takeLeast 97 = .ok (.iadd, 1) := by decide +kernel
theorem dX8_takeLeast_98 : decode cX8_takeLeast 98 = .ok (.putfield 99, 3) := by decide +kernel
theorem dX8_takeLeast_101 : decode cX8_takeLeast 101 = .ok (.aload_n 0, 1) := by decide +kernel
theorem dX8_takeLeast_102 : decode cX8_takeLeast 102 = .ok (.getfield 99, 3) := by decide +kernel
theorem dX8_takeLeast_105 : decode cX8_takeLeast 105 = .ok (.iconst 1, 1) := by decide +kernel
theorem dX8_takeLeast_106 : decode cX8_takeLeast 106 = .ok (.isub, 1) := by decide +kernel
theorem dX8_takeLeast_107 : decode cX8_takeLeast 107 = .ok (.ireturn, 1) := by decide +kernel
theorem dX8_takeLeast_108 : decode cX8_takeLeast 108 = .ok (.iconst 0, 1) := by decide +kernel
theorem dX8_takeLeast_109 : decode cX8_takeLeast 109 = .ok (.ireturn, 1) := by decide +kernel
theorem dX8_setLengths_0 : decode cX8_setLengths 0 = .ok (.iconst 2, 1) := by decide +kernel
theorem dX8_setLengths_1 : decode cX8_setLengths 1 = .ok (.iload_n 1, 1) := by decide +kernel
theorem dX8_setLengths_2 : decode cX8_setLengths 2 = .ok (.imul, 1) := by decide +kernel
theorem dX8_setLengths_3 : decode cX8_setLengths 3 = .ok (.iconst 2, 1) := by decide +kernel
theorem dX8_setLengths_4 : decode cX8_setLengths 4 = .ok (.isub, 1) := by decide +kernel
theorem dX8_setLengths_5 : decode cX8_setLengths 5 = .ok (.istore_n 3, 1) := by decide +kernel
theorem dX8_setLengths_6 : decode cX8_setLengths 6 = .ok (.iconst 0, 1) := by decide +kernel
theorem dX8_setLengths_7 : decode cX8_setLengths 7 = .ok (.istore 4, 2) := by decide +kernel
theorem dX8_setLengths_9 : decode cX8_setLengths 9 = .ok (.aload_n 0, 1) := by decide +kernel
theorem dX8_setLengths_10 : decode cX8_setLengths 10 = .ok (.getfield 29, 3) := by decide +kernel
theorem dX8_setLengths_13 : decode cX8_setLengths 13 = .ok (.iload_n 3, 1) := by decide +kernel
theorem dX8_setLengths_14 : decode cX8_setLengths 14 = .ok (.iconst 0, 1) := by decide +kernel
theorem dX8_setLengths_15 : decode cX8_setLengths 15 = .ok (.iastore, 1) := by decide +kernel
theorem dX8_setLengths_16 : decode cX8_setLengths 16 = .ok (.iload_n 3, 1) := by decide +kernel
theorem dX8_setLengths_17 : decode cX8_setLengths 17 = .ok (.iconst 1, 1) := by decide +kernel
theorem dX8_setLengths_18 : decode cX8_setLengths 18 = .ok (.isub, 1) := by decide +kernel
theorem dX8_setLengths_19 : decode cX8_setLengths 19 = .ok (.istore 5, 2) := by decide +kernel
theorem dX8_setLengths_21 : decode cX8_setLengths 21 = .ok (.iload 5, 2) := by decide +kernel
theorem dX8_setLengths_23 : decode cX8_setLengths 23 = .ok (.ifCond .lt 61, 3) := by decide +kernel
theorem dX8_setLengths_26 : decode cX8_setLengths 26 = .ok (.aload_n 0, 1) := by decide +kernel
theorem dX8_setLengths_27 : decode cX8_setLengths 27 = .ok (.getfield 29, 3) := by decide +kernel
theorem dX8_setLengths_30 : decode cX8_setLengths 30 = .ok (.iload 5, 2) := by decide +kernel
theorem dX8_setLengths_32 : decode cX8_setLengths 32 = .ok (.aload_n 0, 1) := by decide +kernel
theorem dX8_setLengths_33 : decode cX8_setLengths 33 = .ok (.getfield 29, 3) := by decide +kernel
theorem dX8_setLengths_36 : decode cX8_setLengths 36 = .ok (.aload_n 0, 1) := by decide +kernel
theorem dX8_setLengths_37 : decode cX8_setLengths 37 = .ok (.getfield 26, 3) := by decide +kernel
theorem dX8_setLengths_40 : decode cX8_setLengths 40 = .ok (.iload 5, 2) := by decide +kernel
theorem dX8_setLengths_42 : decode cX8_setLengths 42 = .ok (.iaload, 1) := by decide +kernel
theorem dX8_setLengths_43 : decode cX8_setLengths 43 = .ok (.iaload, 1) := by decide +kernel
theorem dX8_setLengths_44 : decode cX8_setLengths 44 = .ok (.iconst 1, 1) := by decide +kernel
theorem dX8_setLengths_45 : decode cX8_setLengths 45 = .ok (.iadd, 1) := by decide +kernel
theorem dX8_setLengths_46 : decode cX8_setLengths 46 = .ok (.iastore, 1) := by decide +kernel
theorem dX8_setLengths_47 : decode cX8_setLengths 47 = .ok (.iload 5, 2) := by decide +kernel
theorem dX8_setLengths_49 : decode cX8_setLengths 49 = .ok (.iload_n 1, 1) := by decide +kernel
theorem dX8_setLengths_50 : decode cX8_setLengths 50 = .ok (.if_icmp .ge 28, 3) := by decide +kernel
theorem dX8_setLengths_53 : decode cX8_setLengths 53 = .ok (.aload_n 2, 1) := by decide +kernel
theorem dX8_setLengths_54 : decode cX8_setLengths 54 = .ok (.iload 5, 2) := by decide +kernel
theorem dX8_setLengths_56 : decode cX8_setLengths 56 = .ok (.aload_n 0, 1) := by decide +kernel
theorem dX8_setLengths_57 : decode cX8_setLengths 57 = .ok (.getfield 29, 3) := by decide +kernel
theorem dX8_setLengths_60 : decode cX8_setLengths 60 = .ok (.iload 5, 2) := by decide +kernel
theorem dX8_setLengths_62 : decode cX8_setLengths 62 = .ok (.iaload, 1) := by decide +kernel
theorem dX8_setLengths_63 : decode cX8_setLengths 63 = .ok (.iastore, 1) := by decide +kernel
theorem dX8_setLengths_64 : decode cX8_setLengths 64 = .ok (.iload 4, 2) := by decide +kernel
theorem dX8_setLengths_66 : decode cX8_setLengths 66 = .ok (.aload_n 0, 1) := by decide +kernel
theorem dX8_setLengths_67 : decode cX8_setLengths 67 = .ok (.getfield 29, 3) := by decide +kernel
theorem dX8_setLengths_70 : decode cX8_setLengths 70 = .ok (.iload 5, 2) := by decide +kernel
theorem dX8_setLengths_72 : decode cX8_setLengths 72 = .ok (.iaload, 1) := by decide +kernel
theorem dX8_setLengths_73 : decode cX8_setLengths 73 = .ok (.invokestatic 82, 3) := by decide +kernel
theorem dX8_setLengths_76 : decode cX8_setLengths 76 = .ok (.istore 4, 2) := by decide +kernel
theorem dX8_setLengths_78 : decode cX8_setLengths 78 = .ok (.iinc 5 (-1), 3) := by decide +kernel
theorem dX8_setLengths_81 : decode cX8_setLengths 81 = .ok (.goto (-60), 3) := by decide +kernel
theorem dX8_setLengths_84 : decode cX8_setLengths 84 = .ok (.iload 4, 2) := by decide +kernel
theorem dX8_setLengths_86 : decode cX8_setLengths 86 = .ok (.ireturn, 1) := by decide +kernel
theorem dX9_init_0 : decode cX9_init 0 = .ok (.aload_n 0, 1) := by decide +kernel
theorem dX9_init_1 : decode cX9_init 1 = .ok (.invokespecial 3, 3) := by decide +kernel
theorem dX9_init_4 : decode cX9_init 4 = .ok (.aload_n 0, 1) := by decide +kernel
theorem dX9_init_5 : decode cX9_init 5 = .ok (.sipush 540, 3) := by decide +kernel
theorem dX9_init_8 : decode cX9_init 8 = .ok (.newarray .int, 2) := by decide +kernel
theorem dX9_init_10 : decode cX9_init 10 = .ok (.putfield 9, 3) := by decide +kernel
theorem dX9_init_13 : decode cX9_init 13 = .ok (.aload_n 0, 1) := by decide +kernel
theorem dX9_init_14 : decode cX9_init 14 = .ok (.bipush 60, 2) := by decide +kernel
theorem dX9_init_16 : decode cX9_init 16 = .ok (.newarray .int, 2) := by decide +kernel
theorem dX9_init_18 : decode cX9_init 18 = .ok (.putfield 15, 3) := by decide +kernel
theorem dX9_init_21 : decode cX9_init 21 = .ok (.aload_n 0, 1) := by decide +kernel
theorem dX9_init_22 : decode cX9_init 22 = .ok (.bipush 9, 2) := by decide +kernel
theorem dX9_init_24 : decode cX9_init 24 = .ok (.newarray .int, 2) := by decide +kernel
theorem dX9_init_26 : decode cX9_init 26 = .ok (.putfield 18, 3) := by decide +kernel
theorem dX9_init_29 : decode cX9_init 29 = .ok (.aload_n 0, 1) := by decide +kernel
theorem dX9_init_30 : decode cX9_init 30 = .ok (.new 21, 3) := by decide +kernel
theorem dX9_init_33 : decode cX9_init 33 = .ok (.dup, 1) := by decide +kernel
theorem dX9_init_34 : decode cX9_init 34 = .ok (.invokespecial 23, 3) := by decide +kernel
theorem dX9_init_37 : decode cX9_init 37 = .ok (.putfield 24, 3) := by decide +kernel
theorem dX9_init_40 : decode cX9_init 40 = .ok (.aload_n 0, 1) := by decide +kernel
theorem dX9_init_41 : decode cX9_init 41 = .ok (.new 21, 3) := by decide +kernel
theorem dX9_init_44 : decode cX9_init 44 = .ok (.dup, 1) := by decide +kernel
theorem dX9_init_45 : decode cX9_init 45 = .ok (.invokespecial 23, 3) := by decide +kernel
theorem dX9_init_48 : decode cX9_init 48 = .ok (.putfield 28, 3) := by decide +kernel
theorem dX9_init_51 : decode cX9_init 51 = .ok (.return_, 1) := by decide +kernel
theorem dX9_forget_0 : decode cX9_forget 0 = .ok (.aload_n 0, 1) := by decide +kernel
theorem dX9_forget_1 : decode cX9_forget 1 = .ok (.iconst 0, 1) := by decide +kernel
theorem dX9_forget_2 : decode cX9_forget 2 = .ok (.putfield 31, 3) := by decide +kernel
theorem dX9_forget_5 : decode cX9_forget 5 = .ok (.aload_n 0, 1) := by decide +kernel
theorem dX9_forget_6 : decode cX9_forget 6 = .ok (.getfield 24, 3) := by decide +kernel
theorem dX9_forget_9 : decode cX9_forget 9 = .ok (.invokevirtual 35, 3) := by decide +kernel
theorem dX9_forget_12 : decode cX9_forget 12 = .ok (.return_, 1) := by decide +kernel
theorem dX9_tells_0 : decode cX9_tells 0 = .ok (.iload_n 1, 1) := by decide +kernel
theorem dX9_tells_1 : decode cX9_tells 1 = .ok (.ifCond .lt 21, 3) := by decide +kernel
theorem dX9_tells_4 : decode cX9_tells 4 = .ok (.iload_n 1, 1) := by decide +kernel
theorem dX9_tells_5 : decode cX9_tells 5 = .ok (.aload_n 0, 1) := by decide +kernel
theorem dX9_tells_6 : decode cX9_tells 6 = .ok (.getfield 31, 3) := by decide +kernel
theorem dX9_tells_9 : decode cX9_tells 9 = .ok (.if_icmp .ge 13, 3) := by decide +kernel
theorem dX9_tells_12 : decode cX9_tells 12 = .ok (.iload_n 1, 1) := by decide +kernel
theorem dX9_tells_13 : decode cX9_tells 13 = .ok (.bipush 60, 2) := by decide +kernel
theorem dX9_tells_15 : decode cX9_tells 15 = .ok (.if_icmp .ge 7, 3) := by decide +kernel
theorem dX9_tells_18 : decode cX9_tells 18 = .ok (.iconst 1, 1) := by decide +kernel
theorem dX9_tells_19 : decode cX9_tells 19 = .ok (.goto 4, 3) := by decide +kernel
theorem dX9_tells_22 : decode cX9_tells 22 = .ok (.iconst 0, 1) := by decide +kernel
theorem dX9_tells_23 : decode cX9_tells 23 = .ok (.ireturn, 1) := by decide +kernel
theorem dX9_fact_0 : decode cX9_fact 0 = .ok (.aload_n 0, 1) := by decide +kernel
theorem dX9_fact_1 : decode cX9_fact 1 = .ok (.iload_n 1, 1) := by decide +kernel
theorem dX9_fact_2 : decode cX9_fact 2 = .ok (.invokevirtual 38, 3) := by decide +kernel
theorem dX9_fact_5 : decode cX9_fact 5 = .ok (.ifCond .eq 27, 3) := by decide +kernel
theorem dX9_fact_8 : decode cX9_fact 8 = .ok (.iload_n 2, 1) := by decide +kernel
theorem dX9_fact_9 : decode cX9_fact 9 = .ok (.ifCond .lt 23, 3) := by decide +kernel
theorem dX9_fact_12 : decode cX9_fact 12 = .ok (.iload_n 2, 1) := by decide +kernel
theorem dX9_fact_13 : decode cX9_fact 13 = .ok (.bipush 9, 2) := by decide +kernel
theorem dX9_fact_15 : decode cX9_fact 15 = .ok (.if_icmp .ge 17, 3) := by decide +kernel
theorem dX9_fact_18 : decode cX9_fact 18 = .ok (.aload_n 0, 1) := by decide +kernel
theorem dX9_fact_19 : decode cX9_fact 19 = .ok (.getfield 9, 3) := by decide +kernel
theorem dX9_fact_22 : decode cX9_fact 22 = .ok (.iload_n 1, 1) := by decide +kernel
theorem dX9_fact_23 : decode cX9_fact 23 = .ok (.bipush 9, 2) := by decide +kernel
theorem dX9_fact_25 : decode cX9_fact 25 = .ok (.imul, 1) := by decide +kernel
theorem dX9_fact_26 : decode cX9_fact 26 = .ok (.iload_n 2, 1) := by decide +kernel
theorem dX9_fact_27 : decode cX9_fact 27 = .ok (.iadd, 1) := by decide +kernel
theorem dX9_fact_28 : decode cX9_fact 28 = .ok (.iaload, 1) := by decide +kernel
theorem dX9_fact_29 : decode cX9_fact 29 = .ok (.goto 4, 3) := by decide +kernel
theorem dX9_fact_32 : decode cX9_fact 32 = .ok (.iconst (-1), 1) := by decide +kernel
theorem dX9_fact_33 : decode cX9_fact 33 = .ok (.ireturn, 1) := by decide +kernel
theorem dX9_sumOf_0 : decode cX9_sumOf 0 = .ok (.aload_n 0, 1) := by decide +kernel
theorem dX9_sumOf_1 : decode cX9_sumOf 1 = .ok (.iload_n 1, 1) := by decide +kernel
theorem dX9_sumOf_2 : decode cX9_sumOf 2 = .ok (.invokevirtual 38, 3) := by decide +kernel
theorem dX9_sumOf_5 : decode cX9_sumOf 5 = .ok (.ifCond .eq 12, 3) := by decide +kernel
theorem dX9_sumOf_8 : decode cX9_sumOf 8 = .ok (.aload_n 0, 1) := by decide +kernel
theorem dX9_sumOf_9 : decode cX9_sumOf 9 = .ok (.getfield 15, 3) := by decide +kernel
theorem dX9_sumOf_12 : decode cX9_sumOf 12 = .ok (.iload_n 1, 1) := by decide +kernel
theorem dX9_sumOf_13 : decode cX9_sumOf 13 = .ok (.iaload, 1) := by decide +kernel
theorem dX9_sumOf_14 : decode cX9_sumOf 14 = .ok (.goto 4, 3) := by decide +kernel
theorem dX9_sumOf_17 : decode cX9_sumOf 17 = .ok (.iconst 0, 1) := by decide +kernel
theorem dX9_sumOf_18 : decode cX9_sumOf 18 = .ok (.ireturn, 1) := by decide +kernel
theorem dX9_note_0 : decode cX9_note 0 = .ok (.iload_n 1, 1) := by decide +kernel
theorem dX9_note_1 : decode cX9_note 1 = .ok (.ifCond .lt 16, 3) := by decide +kernel
theorem dX9_note_4 : decode cX9_note 4 = .ok (.iload_n 1, 1) := by decide +kernel
theorem dX9_note_5 : decode cX9_note 5 = .ok (.bipush 9, 2) := by decide +kernel
theorem dX9_note_7 : decode cX9_note 7 = .ok (.if_icmp .ge 10, 3) := by decide +kernel
theorem dX9_note_10 : decode cX9_note 10 = .ok (.aload_n 0, 1) := by decide +kernel
theorem dX9_note_11 : decode cX9_note 11 = .ok (.getfield 18, 3) := by decide +kernel
theorem dX9_note_14 : decode cX9_note 14 = .ok (.iload_n 1, 1) := by decide +kernel
theorem dX9_note_15 : decode cX9_note 15 = .ok (.iload_n 2, 1) := by decide +kernel
theorem dX9_note_16 : decode cX9_note 16 = .ok (.iastore, 1) := by decide +kernel
theorem dX9_note_17 : decode cX9_note 17 = .ok (.return_, 1) := by decide +kernel
theorem dX9_keepBlock_0 : decode cX9_keepBlock 0 = .ok (.aload_n 0, 1) := by decide +kernel
theorem dX9_keepBlock_1 : decode cX9_keepBlock 1 = .ok (.getfield 31, 3) := by decide +kernel
theorem dX9_keepBlock_4 : decode cX9_keepBlock 4 = .ok (.bipush 60, 2) := by decide +kernel
theorem dX9_keepBlock_6 : decode cX9_keepBlock 6 = .ok (.if_icmp .ge 37, 3) := by decide +kernel
theorem dX9_keepBlock_9 : decode cX9_keepBlock 9 = .ok (.aload_n 0, 1) := by decide +kernel
theorem dX9_keepBlock_10 : decode cX9_keepBlock 10 = .ok (.getfield 18, 3) := by decide +kernel
theorem dX9_keepBlock_13 : decode cX9_keepBlock 13 = .ok (.iconst 0, 1) := by decide +kernel
theorem dX9_keepBlock_14 : decode cX9_keepBlock 14 = .ok (.aload_n 0, 1) := by decide +kernel
theorem dX9_keepBlock_15 : decode cX9_keepBlock 15 = .ok (.getfield 9, 3) := by decide +kernel
theorem dX9_keepBlock_18 : decode cX9_keepBlock 18 = .ok (.aload_n 0, 1) := by decide +kernel
theorem dX9_keepBlock_19 : decode cX9_keepBlock 19 = .ok (.getfield 31, 3) := by decide +kernel
theorem dX9_keepBlock_22 : decode cX9_keepBlock 22 = .ok (.bipush 9, 2) := by decide +kernel
theorem dX9_keepBlock_24 : decode cX9_keepBlock 24 = .ok (.imul, 1) := by decide +kernel
theorem dX9_keepBlock_25 : decode cX9_keepBlock 25 = .ok (.bipush 9, 2) := by decide +kernel
theorem dX9_keepBlock_27 : decode cX9_keepBlock 27 = .ok (.invokestatic 42, 3) := by decide +kernel
theorem dX9_keepBlock_30 : decode cX9_keepBlock 30 = .ok (.aload_n 0, 1) := by decide +kernel
theorem dX9_keepBlock_31 : decode cX9_keepBlock 31 = .ok (.getfield 15, 3) := by decide +kernel
theorem dX9_keepBlock_34 : decode cX9_keepBlock 34 = .ok (.aload_n 0, 1) := by decide +kernel
theorem dX9_keepBlock_35 : decode cX9_keepBlock 35 = .ok (.getfield 31, 3) := by decide +kernel
theorem dX9_keepBlock_38 : decode cX9_keepBlock 38 = .ok (.aload_n 0, 1) := by decide +kernel
theorem dX9_keepBlock_39 : decode cX9_keepBlock 39 = .ok (.getfield 48, 3) := by decide +kernel
theorem dX9_keepBlock_42 : decode cX9_keepBlock 42 = .ok (.iastore, 1) := by decide +kernel
theorem dX9_keepBlock_43 : decode cX9_keepBlock 43 = .ok (.aload_n 0, 1) := by decide +kernel
theorem dX9_keepBlock_44 : decode cX9_keepBlock 44 = .ok (.dup, 1) := by decide +kernel
theorem dX9_keepBlock_45 : decode cX9_keepBlock 45 = .ok (.getfield 31, 3) := by decide +kernel
theorem dX9_keepBlock_48 : decode cX9_keepBlock 48 = .ok (.iconst 1, 1) := by decide +kernel
theorem dX9_keepBlock_49 : decode cX9_keepBlock 49 = .ok (.iadd, 1) := by decide +kernel
theorem dX9_keepBlock_50 : decode cX9_keepBlock 50 = .ok (.putfield 31, 3) := by decide +kernel
theorem dX9_keepBlock_53 : decode cX9_keepBlock 53 = .ok (.return_, 1) := by decide +kernel
theorem dX9_keepCoding_0 : decode cX9_keepCoding 0 = .ok (.aload_n 0, 1) := by decide +kernel
theorem dX9_keepCoding_1 : decode cX9_keepCoding 1 = .ok (.getfield 24, 3) := by decide +kernel
theorem dX9_keepCoding_4 : decode cX9_keepCoding 4 = .ok (.astore_n 1, 1) := by decide +kernel
theorem dX9_keepCoding_5 : decode cX9_keepCoding 5 = .ok (.aload_n 0, 1) := by decide +kernel
theorem dX9_keepCoding_6 : decode cX9_keepCoding 6 = .ok (.aload_n 0, 1) := by decide +kernel
theorem dX9_keepCoding_7 : decode cX9_keepCoding 7 = .ok (.getfield 28, 3) := by decide +kernel
theorem dX9_keepCoding_10 : decode cX9_keepCoding 10 = .ok (.putfield 24, 3) := by decide +kernel
theorem dX9_keepCoding_13 : decode cX9_keepCoding 13 = .ok (.aload_n 0, 1) := by decide +kernel
theorem dX9_keepCoding_14 : decode cX9_keepCoding 14 = .ok (.aload_n 1, 1) := by decide +kernel
theorem dX9_keepCoding_15 : decode cX9_keepCoding 15 = .ok (.putfield 28, 3) := by decide +kernel
theorem dX9_keepCoding_18 : decode cX9_keepCoding 18 = .ok (.return_, 1) := by decide +kernel
theorem dX10_init_0 : decode cX10_init 0 = .ok (.aload_n 0, 1) := by decide +kernel
theorem dX10_init_1 : decode cX10_init 1 = .ok (.invokespecial 3, 3) := by decide +kernel
theorem dX10_init_4 : decode cX10_init 4 = .ok (.aload_n 0, 1) := by decide +kernel
theorem dX10_init_5 : decode cX10_init 5 = .ok (.sipush 1800, 3) := by decide +kernel
theorem dX10_init_8 : decode cX10_init 8 = .ok (.newarray .int, 2) := by decide +kernel
theorem dX10_init_10 : decode cX10_init 10 = .ok (.putfield 9, 3) := by decide +kernel
theorem dX10_init_13 : decode cX10_init 13 = .ok (.aload_n 0, 1) := by decide +kernel
theorem dX10_init_14 : decode cX10_init 14 = .ok (.sipush 1800, 3) := by decide +kernel
theorem dX10_init_17 : decode cX10_init 17 = .ok (.newarray .int, 2) := by decide +kernel
theorem dX10_init_19 : decode cX10_init 19 = .ok (.putfield 15, 3) := by decide +kernel
theorem dX10_init_22 : decode cX10_init 22 = .ok (.aload_n 0, 1) := by decide +kernel
theorem dX10_init_23 : decode cX10_init 23 = .ok (.sipush 1800, 3) := by decide +kernel
theorem dX10_init_26 : decode cX10_init 26 = .ok (.newarray .int, 2) := by decide +kernel
theorem dX10_init_28 : decode cX10_init 28 = .ok (.putfield 18, 3) := by decide +kernel
theorem dX10_init_31 : decode cX10_init 31 = .ok (.aload_n 0, 1) := by decide +kernel
theorem dX10_init_32 : decode cX10_init 32 = .ok (.sipush 1801, 3) := by decide +kernel
theorem dX10_init_35 : decode cX10_init 35 = .ok (.newarray .int, 2) := by decide +kernel
theorem dX10_init_37 : decode cX10_init 37 = .ok (.putfield 21, 3) := by decide +kernel
theorem dX10_init_40 : decode cX10_init 40 = .ok (.return_, 1) := by decide +kernel
theorem dX10_sortTurns_0 : decode cX10_sortTurns 0 = .ok (.iconst 0, 1) := by decide +kernel
theorem dX10_sortTurns_1 : decode cX10_sortTurns 1 = .ok (.istore_n 3, 1) := by decide +kernel
theorem dX10_sortTurns_2 : decode cX10_sortTurns 2 = .ok (.iload_n 3, 1) := by decide +kernel
theorem dX10_sortTurns_3 : decode cX10_sortTurns 3 = .ok (.iload_n 2, 1) := by decide +kernel
theorem dX10_sortTurns_4 : decode cX10_sortTurns 4 = .ok (.if_icmp .ge 22, 3) := by decide +kernel
theorem dX10_sortTurns_7 : decode cX10_sortTurns 7 = .ok (.aload_n 0, 1) := by decide +kernel
theorem dX10_sortTurns_8 : decode cX10_sortTurns 8 = .ok (.getfield 15, 3) := by decide +kernel
theorem dX10_sortTurns_11 : decode cX10_sortTurns 11 = .ok (.iload_n 3, 1) := by decide +kernel
theorem dX10_sortTurns_12 : decode cX10_sortTurns 12 = .ok (.aload_n 1, 1) := by decide +kernel
theorem dX10_sortTurns_13 : decode cX10_sortTurns 13 = .ok (.iload_n 3, 1) := by decide +kernel
theorem dX10_sortTurns_14 : decode cX10_sortTurns 14 = .ok (.baload, 1) := by decide +kernel
theorem dX10_sortTurns_15 : decode cX10_sortTurns 15 = .ok (.sipush 255, 3) := by decide +kernel
theorem dX10_sortTurns_18 : decode cX10_sortTurns 18 = .ok (.iand, 1) := by decide +kernel
theorem dX10_sortTurns_19 : decode cX10_sortTurns 19 = .ok (.iastore, 1) := by decide +kernel
theorem dX10_sortTurns_20 : decode cX10_sortTurns 20 = .ok (.iinc 3 1, 3) := by decide +kernel
theorem dX10_sortTurns_23 : decode cX10_sortTurns 23 = .ok (.goto (-21), 3) := by decide +kernel
theorem dX10_sortTurns_26 : decode cX10_sortTurns 26 = .ok (.aload_n 0, 1) := by decide +kernel
theorem dX10_sortTurns_27 : decode cX10_sortTurns 27 = .ok (.iload_n 2, 1) := by decide +kernel
theorem dX10_sortTurns_28 : decode cX10_sortTurns 28 = .ok (.invokevirtual 24, 3) := by decide +kernel
theorem dX10_sortTurns_31 : decode cX10_sortTurns 31 = .ok (.iconst 1, 1) := by decide +kernel
theorem dX10_sortTurns_32 : decode cX10_sortTurns 32 = .ok (.istore_n 3, 1) := by decide +kernel
theorem dX10_sortTurns_33 : decode cX10_sortTurns 33 = .ok (.iload_n 3, 1) := by decide +kernel
theorem dX10_sortTurns_34 : decode cX10_sortTurns 34 = .ok (.iload_n 2, 1) := by decide +kernel
theorem dX10_sortTurns_35 : decode cX10_sortTurns 35 = .ok (.if_icmp .ge 56, 3) := by decide +kernel
theorem dX10_sortTurns_38 : decode cX10_sortTurns 38 = .ok (.iconst 0, 1) := by decide +kernel
theorem dX10_sortTurns_39 : decode cX10_sortTurns 39 = .ok (.istore 4, 2) := by decide +kernel
theorem dX10_sortTurns_41 : decode cX10_sortTurns 41 = .ok (.iload 4, 2) := by decide +kernel
theorem dX10_sortTurns_43 : decode cX10_sortTurns 43 = .ok (.iload_n 2, 1) := by decide +kernel
theorem dX10_sortTurns_44 : decode cX10_sortTurns 44 = .ok (.if_icmp .ge 29, 3) := by decide +kernel
theorem dX10_sortTurns_47 : decode cX10_sortTurns 47 = .ok (.aload_n 0, 1) := by decide +kernel
theorem dX10_sortTurns_48 : decode cX10_sortTurns 48 = .ok (.getfield 18, 3) := by decide +kernel
theorem dX10_sortTurns_51 : decode cX10_sortTurns 51 = .ok (.iload 4, 2) := by decide +kernel
theorem dX10_sortTurns_53 : decode cX10_sortTurns 53 = .ok (.aload_n 0, 1) := by decide +kernel
theorem dX10_sortTurns_54 : decode cX10_sortTurns 54 = .ok (.getfield 9, 3) := by decide +kernel
theorem dX10_sortTurns_57 : decode cX10_sortTurns 57 = .ok (.iload 4, 2) := by decide +kernel
theorem dX10_sortTurns_59 : decode cX10_sortTurns 59 = .ok (.iaload, 1) := by decide +kernel
theorem dX10_sortTurns_60 : decode cX10_sortTurns 60 = .ok (.iload_n 3, 1) := by decide +kernel
theorem dX10_sortTurns_61 : decode cX10_sortTurns 61 = .ok (.isub, 1) := by decide +kernel
theorem dX10_sortTurns_62 : decode cX10_sortTurns 62 = .ok (.iload_n 2, 1) := by decide +kernel
theorem dX10_sortTurns_63 : decode cX10_sortTurns 63 = .ok (.iadd, 1) := by decide +kernel
theorem dX10_sortTurns_64 : decode cX10_sortTurns 64 = .ok (.iload_n 2, 1) := by decide +kernel
theorem dX10_sortTurns_65 : decode cX10_sortTurns 65 = .ok (.irem, 1) := by decide +kernel
theorem dX10_sortTurns_66 : decode cX10_sortTurns 66 = .ok (.iastore, 1) := by decide +kernel
theorem dX10_sortTurns_67 : decode cX10_sortTurns 67 = .ok (.iinc 4 1, 3) := by decide +kernel
theorem dX10_sortTurns_70 : decode cX10_sortTurns 70 = .ok (.goto (-29), 3) := by decide +kernel
theorem dX10_sortTurns_73 : decode cX10_sortTurns 73 = .ok (.aload_n 0, 1) := by decide +kernel
theorem dX10_sortTurns_74 : decode cX10_sortTurns 74 = .ok (.iload_n 2, 1) := by decide +kernel
theorem dX10_sortTurns_75 : decode cX10_sortTurns 75 = .ok (.invokevirtual 28, 3) := by decide +kernel
theorem dX10_sortTurns_78 : decode cX10_sortTurns 78 = .ok (.aload_n 0, 1) := by decide +kernel
theorem dX10_sortTurns_79 : decode cX10_sortTurns 79 = .ok (.iload_n 2, 1) := by decide +kernel
theorem dX10_sortTurns_80 : decode cX10_sortTurns 80 = .ok (.iload_n 3, 1) := by decide +kernel
theorem dX10_sortTurns_81 : decode cX10_sortTurns 81 = .ok (.invokevirtual 31, 3) := by decide +kernel
theorem dX10_sortTurns_84 : decode cX10_sortTurns 84 = .ok (.iload_n 3, 1) := by decide +kernel
theorem dX10_sortTurns_85 : decode cX10_sortTurns 85 = .ok (.iconst 2, 1) := by decide +kernel
theorem dX10_sortTurns_86 : decode cX10_sortTurns 86 = .ok (.imul, 1) := by decide +kernel
theorem dX10_sortTurns_87 : decode cX10_sortTurns 87 = .ok (.istore_n 3, 1) := by decide +kernel
theorem dX10_sortTurns_88 : decode cX10_sortTurns 88 = .ok (.goto (-55), 3) := by decide +kernel
theorem dX10_sortTurns_91 : decode cX10_sortTurns 91 = .ok (.aload_n 0, 1) := by decide +kernel
theorem dX10_sortTurns_92 : decode cX10_sortTurns 92 = .ok (.iload_n 2, 1) := by decide +kernel
theorem dX10_sortTurns_93 : decode cX10_sortTurns 93 = .ok (.invokevirtual 24, 3) := by decide +kernel
theorem dX10_sortTurns_96 : decode cX10_sortTurns 96 = .ok (.return_, 1) := by decide +kernel
theorem dX10_sortPlaces_0 : decode cX10_sortPlaces 0 = .ok (.iconst 0, 1) := by decide +kernel
theorem dX10_sortPlaces_1 : decode cX10_sortPlaces 1 = .ok (.istore_n 2, 1) := by decide +kernel
theorem dX10_sortPlaces_2 : decode cX10_sortPlaces 2 = .ok (.iload_n 2, 1) := by decide +kernel
theorem dX10_sortPlaces_3 : decode cX10_sortPlaces 3 = .ok (.iload_n 1, 1) := by decide +kernel
theorem dX10_sortPlaces_4 : decode cX10_sortPlaces 4 = .ok (.if_icmp .ge 16, 3) := by decide +kernel
theorem dX10_sortPlaces_7 : decode cX10_sortPlaces 7 = .ok (.aload_n 0, 1) := by decide +kernel
theorem dX10_sortPlaces_8 : decode cX10_sortPlaces 8 = .ok (.getfield 18, 3) := by decide +kernel
theorem dX10_sortPlaces_11 : decode cX10_sortPlaces 11 = .ok (.iload_n 2, 1) := by decide +kernel
theorem dX10_sortPlaces_12 : decode cX10_sortPlaces 12 = .ok (.iload_n 2, 1) := by decide +kernel
theorem dX10_sortPlaces_13 : decode cX10_sortPlaces 13 = .ok (.iastore, 1) := by decide +kernel
theorem dX10_sortPlaces_14 : decode cX10_sortPlaces 14 = .ok (.iinc 2 1, 3) := by decide +kernel
theorem dX10_sortPlaces_17 : decode cX10_sortPlaces 17 = .ok (.goto (-15), 3) := by decide +kernel
theorem dX10_sortPlaces_20 : decode cX10_sortPlaces 20 = .ok (.aload_n 0, 1) := by decide +kernel
theorem dX10_sortPlaces_21 : decode cX10_sortPlaces 21 = .ok (.iload_n 1, 1) := by decide +kernel
theorem dX10_sortPlaces_22 : decode cX10_sortPlaces 22 = .ok (.invokevirtual 28, 3) := by decide +kernel
theorem dX10_sortPlaces_25 : decode cX10_sortPlaces 25 = .ok (.return_, 1) := by decide +kernel
theorem dX10_sortWaiting_0 : decode cX10_sortWaiting 0 = .ok (.aload_n 0, 1) := by decide +kernel
theorem dX10_sortWaiting_1 : decode cX10_sortWaiting 1 = .ok (.getfield 21, 3) := by decide +kernel
theorem dX10_sortWaiting_4 : decode cX10_sortWaiting 4 = .ok (.iconst 0, 1) := by decide +kernel
theorem dX10_sortWaiting_5 : decode cX10_sortWaiting 5 = .ok (.invokestatic 35, 3) := by decide +kernel
theorem dX10_sortWaiting_8 : decode cX10_sortWaiting 8 = .ok (.iconst 0, 1) := by decide +kernel
theorem dX10_sortWaiting_9 : decode cX10_sortWaiting 9 = .ok (.istore_n 2, 1) := by decide +kernel
theorem dX10_sortWaiting_10 : decode cX10_sortWaiting 10 = .ok (.iload_n 2, 1) := by decide +kernel
theorem dX10_sortWaiting_11 : decode cX10_sortWaiting 11 = .ok (.iload_n 1, 1) := by decide +kernel
theorem dX10_sortWaiting_12 : decode cX10_sortWaiting 12 = .ok (.if_icmp .ge 26, 3) := by decide +kernel
theorem dX10_sortWaiting_15 : decode cX10_sortWaiting 15 = .ok (.aload_n 0, 1) := by decide +kernel
theorem dX10_sortWaiting_16 : decode cX10_sortWaiting 16 = .ok (.getfield 21, 3) := by decide +kernel
theorem dX10_sortWaiting_19 : decode cX10_sortWaiting 19 = .ok (.aload_n 0, 1) := by decide +kernel
theorem dX10_sortWaiting_20 : decode cX10_sortWaiting 20 = .ok (.getfield 15, 3) := by decide +kernel
theorem dX10_sortWaiting_23 : decode cX10_sortWaiting 23 = .ok (.iload_n 2, 1) := by decide +kernel
theorem dX10_sortWaiting_24 : decode cX10_sortWaiting 24 = .ok (.iaload, 1) := by decide +kernel
theorem dX10_sortWaiting_25 : decode cX10_sortWaiting 25 = .ok (.iconst 1, 1) := by decide +kernel
theorem dX10_sortWaiting_26 : decode cX10_sortWaiting 26 = .ok (.iadd, 1) := by decide +kernel
theorem dX10_sortWaiting_27 : decode cX10_sortWaiting 27 = .ok (.dup2, 1) := by decide +kernel
theorem dX10_sortWaiting_28 : decode cX10_sortWaiting 28 = .ok (.iaload, 1) := by decide +kernel
theorem dX10_sortWaiting_29 : decode cX10_sortWaiting 29 = .ok (.iconst 1, 1) := by decide +kernel
theorem dX10_sortWaiting_30 : decode cX10_sortWaiting 30 = .ok (.iadd, 1) := by decide +kernel
theorem dX10_sortWaiting_31 : decode cX10_sortWaiting 31 = .ok (.iastore, 1) := by decide +kernel
theorem dX10_sortWaiting_32 : decode cX10_sortWaiting 32 = .ok (.iinc 2 1, 3) := by decide +kernel
theorem dX10_sortWaiting_35 : decode cX10_sortWaiting 35 = .ok (.goto (-25), 3) := by decide +kernel
theorem dX10_sortWaiting_38 : decode cX10_sortWaiting 38 = .ok (.iconst 1, 1) := by decide +kernel
theorem dX10_sortWaiting_39 : decode cX10_sortWaiting 39 = .ok (.istore_n 2, 1) := by decide +kernel
theorem dX10_sortWaiting_40 : decode cX10_sortWaiting 40 = .ok (.iload_n 2, 1) := by decide +kernel
theorem dX10_sortWaiting_41 : decode cX10_sortWaiting 41 = .ok (.aload_n 0, 1) := by decide +kernel
theorem dX10_sortWaiting_42 : decode cX10_sortWaiting 42 = .ok (.getfield 21, 3) := by decide +kernel
theorem dX10_sortWaiting_45 : decode cX10_sortWaiting 45 = .ok (.arraylength, 1) := by decide +kernel
theorem dX10_sortWaiting_46 : decode cX10_sortWaiting 46 = .ok (.if_icmp .ge 26, 3) := by decide +kernel
theorem dX10_sortWaiting_49 : decode cX10_sortWaiting 49 = .ok (.aload_n 0, 1) := by decide +kernel
theorem dX10_sortWaiting_50 : decode cX10_sortWaiting 50 = .ok (.getfield 21, 3) := by decide +kernel
theorem dX10_sortWaiting_53 : decode cX10_sortWaiting 53 = .ok (.iload_n 2, 1) := by decide +kernel
theorem dX10_sortWaiting_54 : decode cX10_sortWaiting 54 = .ok (.dup2, 1) := by decide +kernel
theorem dX10_sortWaiting_55 : decode cX10_sortWaiting 55 = .ok (.iaload, 1) := by decide +kernel
theorem dX10_sortWaiting_56 : decode cX10_sortWaiting 56 = .ok (.aload_n 0, 1) := by decide +kernel
theorem dX10_sortWaiting_57 : decode cX10_sortWaiting 57 = .ok (.getfield 21, 3) := by decide +kernel
theorem dX10_sortWaiting_60 : decode cX10_sortWaiting 60 = .ok (.iload_n 2, 1) := by decide +kernel
theorem dX10_sortWaiting_61 : decode cX10_sortWaiting 61 = .ok (.iconst 1, 1) := by decide +kernel
theorem dX10_sortWaiting_62 : decode cX10_sortWaiting 62 = .ok (.isub, 1) := by decide +kernel
theorem dX10_sortWaiting_63 : decode cX10_sortWaiting 63 = .ok (.iaload, 1) := by decide +kernel
theorem dX10_sortWaiting_64 : decode cX10_sortWaiting 64 = .ok (.iadd, 1) := by decide +kernel
theorem dX10_sortWaiting_65 : decode cX10_sortWaiting 65 = .ok (.iastore, 1) := by decide +kernel
theorem dX10_sortWaiting_66 : decode cX10_sortWaiting 66 = .ok (.iinc 2 1, 3) := by decide +kernel
theorem dX10_sortWaiting_69 : decode cX10_sortWaiting 69 = .ok (.goto (-29), 3) := by decide +kernel
theorem dX10_sortWaiting_72 : decode cX10_sortWaiting 72 = .ok (.iconst 0, 1) := by decide +kernel
theorem dX10_sortWaiting_73 : decode cX10_sortWaiting 73 = .ok (.istore_n 2, 1) := by decide +kernel
theorem dX10_sortWaiting_74 : decode cX10_sortWaiting 74 = .ok (.iload_n 2, 1) := by decide +kernel
theorem dX10_sortWaiting_75 : decode cX10_sortWaiting 75 = .ok (.iload_n 1, 1) := by decide +kernel
theorem dX10_sortWaiting_76 : decode cX10_sortWaiting 76 = .ok (.if_icmp .ge 48, 3) := by decide +kernel
theorem dX10_sortWaiting_79 : decode cX10_sortWaiting 79 = .ok (.aload_n 0, 1) := by decide +kernel
theorem dX10_sortWaiting_80 : decode cX10_sortWaiting 80 = .ok (.getfield 15, 3) := by decide +kernel
theorem dX10_sortWaiting_83 : decode cX10_sortWaiting 83 = .ok (.aload_n 0, 1) := by decide +kernel
theorem dX10_sortWaiting_84 : decode cX10_sortWaiting 84 = .ok (.getfield 18, 3) := by decide +kernel
theorem dX10_sortWaiting_87 : decode cX10_sortWaiting 87 = .ok (.iload_n 2, 1) := by decide +kernel
theorem dX10_sortWaiting_88 : decode cX10_sortWaiting 88 = .ok (.iaload, 1) := by decide +kernel
theorem dX10_sortWaiting_89 : decode cX10_sortWaiting 89 = .ok (.iaload, 1) := by decide +kernel
theorem dX10_sortWaiting_90 : decode cX10_sortWaiting 90 = .ok (.istore_n 3, 1) := by decide +kernel
theorem dX10_sortWaiting_91 : decode cX10_sortWaiting 91 = .ok (.aload_n 0, 1) := by decide +kernel
theorem dX10_sortWaiting_92 : decode cX10_sortWaiting 92 = .ok (.getfield 9, 3) := by decide +kernel
theorem dX10_sortWaiting_95 : decode cX10_sortWaiting 95 = .ok (.aload_n 0, 1) := by decide +kernel
theorem dX10_sortWaiting_96 : decode cX10_sortWaiting 96 = .ok (.getfield 21, 3) := by decide +kernel
theorem dX10_sortWaiting_99 : decode cX10_sortWaiting 99 = .ok (.iload_n 3, 1) := by decide +kernel
theorem dX10_sortWaiting_100 : decode cX10_sortWaiting 100 = .ok (.iaload, 1) := by decide +kernel
theorem dX10_sortWaiting_101 : decode cX10_sortWaiting 101 = .ok (.aload_n 0, 1) := by decide +kernel
theorem dX10_sortWaiting_102 : decode cX10_sortWaiting 102 = .ok (.getfield 18, 3) := by decide +kernel
theorem dX10_sortWaiting_105 : decode cX10_sortWaiting 105 = .ok (.iload_n 2, 1) := by decide +kernel
theorem dX10_sortWaiting_106 : decode cX10_sortWaiting 106 = .ok (.iaload, 1) := by decide +kernel
theorem dX10_sortWaiting_107 : decode cX10_sortWaiting 107 = .ok (.iastore, 1) := by decide +kernel
theorem dX10_sortWaiting_108 : decode cX10_sortWaiting 108 = .ok (.aload_n 0, 1) := by decide +kernel
theorem dX10_sortWaiting_109 : decode cX10_sortWaiting 109 = .ok (.getfield 21, 3) := by decide +kernel
theorem dX10_sortWaiting_112 : decode cX10_sortWaiting 112 = .ok (.iload_n 3, 1) := by decide +kernel
theorem dX10_sortWaiting_113 : decode cX10_sortWaiting 113 = .ok (.dup2, 1) := by decide +kernel
theorem dX10_sortWaiting_114 : decode cX10_sortWaiting 114 = .ok (.iaload, 1) := by decide +kernel
theorem dX10_sortWaiting_115 : decode cX10_sortWaiting 115 = .ok (.iconst 1, 1) := by decide +kernel
theorem dX10_sortWaiting_116 : decode cX10_sortWaiting 116 = .ok (.iadd, 1) := by decide +kernel
theorem dX10_sortWaiting_117 : decode cX10_sortWaiting 117 = .ok (.iastore, 1) := by decide +kernel
theorem dX10_sortWaiting_118 : decode cX10_sortWaiting 118 = .ok (.iinc 2 1, 3) := by decide +kernel
theorem dX10_sortWaiting_121 : decode cX10_sortWaiting 121 = .ok (.goto (-47), 3) := by decide +kernel
theorem dX10_sortWaiting_124 : decode cX10_sortWaiting 124 = .ok (.return_, 1) := by decide +kernel
theorem dX10_rankAnew_0 : decode cX10_rankAnew 0 = .ok (.iconst 0, 1) := by decide +kernel
theorem dX10_rankAnew_1 : decode cX10_rankAnew 1 = .ok (.istore_n 3, 1) := by decide +kernel
theorem dX10_rankAnew_2 : decode cX10_rankAnew 2 = .ok (.iconst 0, 1) := by decide +kernel
theorem dX10_rankAnew_3 : decode cX10_rankAnew 3 = .ok (.istore 4, 2) := by decide +kernel
theorem dX10_rankAnew_5 : decode cX10_rankAnew 5 = .ok (.iload 4, 2) := by decide +kernel
theorem dX10_rankAnew_7 : decode cX10_rankAnew 7 = .ok (.iload_n 1, 1) := by decide +kernel
theorem dX10_rankAnew_8 : decode cX10_rankAnew 8 = .ok (.if_icmp .ge 55, 3) := by decide +kernel
theorem dX10_rankAnew_11 : decode cX10_rankAnew 11 = .ok (.iload 4, 2) := by decide +kernel
theorem dX10_rankAnew_13 : decode cX10_rankAnew 13 = .ok (.ifCond .le 31, 3) := by decide +kernel
theorem dX10_rankAnew_16 : decode cX10_rankAnew 16 = .ok (.aload_n 0, 1) := by decide +kernel
theorem dX10_rankAnew_17 : decode cX10_rankAnew 17 = .ok (.aload_n 0, 1) := by decide +kernel
theorem dX10_rankAnew_18 : decode cX10_rankAnew 18 = .ok (.getfield 9, 3) := by decide +kernel
theorem dX10_rankAnew_21 : decode cX10_rankAnew 21 = .ok (.iload 4, 2) := by decide +kernel
theorem dX10_rankAnew_23 : decode cX10_rankAnew 23 = .ok (.iconst 1, 1) := by decide +kernel
theorem dX10_rankAnew_24 : decode cX10_rankAnew 24 = .ok (.isub, 1) := by decide +kernel
theorem dX10_rankAnew_25 : decode cX10_rankAnew 25 = .ok (.iaload, 1) := by decide +kernel
theorem dX10_rankAnew_26 : decode cX10_rankAnew 26 = .ok (.aload_n 0, 1) := by decide +kernel
theorem dX10_rankAnew_27 : decode cX10_rankAnew 27 = .ok (.getfield 9, 3) := by decide +kernel
theorem dX10_rankAnew_30 : decode cX10_rankAnew 30 = .ok (.iload 4, 2) := by decide +kernel
theorem dX10_rankAnew_32 : decode cX10_rankAnew 32 = .ok (.iaload, 1) := by decide +kernel
theorem dX10_rankAnew_33 : decode cX10_rankAnew 33 = .ok (.iload_n 1, 1) := by decide +kernel
theorem dX10_rankAnew_34 : decode cX10_rankAnew 34 = .ok (.iload_n 2, 1) := by decide +kernel
theorem dX10_rankAnew_35 : decode cX10_rankAnew 35 = .ok (.invokevirtual 41, 3) := by decide +kernel
theorem dX10_rankAnew_38 : decode cX10_rankAnew 38 = .ok (.ifCond .eq 6, 3) := by decide +kernel
theorem dX10_rankAnew_41 : decode cX10_rankAnew 41 = .ok (.iinc 3 1, 3) := by decide +kernel
theorem dX10_rankAnew_44 : decode cX10_rankAnew 44 = .ok (.aload_n 0, 1) := by decide +kernel
theorem dX10_rankAnew_45 : decode cX10_rankAnew 45 = .ok (.getfield 18, 3) := by decide +kernel
theorem dX10_rankAnew_48 : decode cX10_rankAnew 48 = .ok (.aload_n 0, 1) := by decide +kernel
theorem dX10_rankAnew_49 : decode cX10_rankAnew 49 = .ok (.getfield 9, 3) := by decide +kernel
theorem dX10_rankAnew_52 : decode cX10_rankAnew 52 = .ok (.iload 4, 2) := by decide +kernel
theorem dX10_rankAnew_54 : decode cX10_rankAnew 54 = .ok (.iaload, 1) := by decide +kernel
theorem dX10_rankAnew_55 : decode cX10_rankAnew 55 = .ok (.iload_n 3, 1) := by decide +kernel
theorem dX10_rankAnew_56 : decode cX10_rankAnew 56 = .ok (.iastore, 1) := by decide +kernel
theorem dX10_rankAnew_57 : decode cX10_rankAnew 57 = .ok (.iinc 4 1, 3) := by decide +kernel
theorem dX10_rankAnew_60 : decode cX10_rankAnew 60 = .ok (.goto (-55), 3) := by decide +kernel
theorem dX10_rankAnew_63 : decode cX10_rankAnew 63 = .ok (.aload_n 0, 1) := by decide +kernel
theorem dX10_rankAnew_64 : decode cX10_rankAnew 64 = .ok (.getfield 18, 3) := by decide +kernel
theorem dX10_rankAnew_67 : decode cX10_rankAnew 67 = .ok (.iconst 0, 1) := by decide +kernel
theorem dX10_rankAnew_68 : decode cX10_rankAnew 68 = .ok (.aload_n 0, 1) := by decide +kernel
theorem dX10_rankAnew_69 : decode cX10_rankAnew 69 = .ok (.getfield 15, 3) := by decide +kernel
theorem dX10_rankAnew_72 : decode cX10_rankAnew 72 = .ok (.iconst 0, 1) := by decide +kernel
theorem dX10_rankAnew_73 : decode cX10_rankAnew 73 = .ok (.iload_n 1, 1) := by decide +kernel
theorem dX10_rankAnew_74 : decode cX10_rankAnew 74 = .ok (.invokestatic 45, 3) := by decide +kernel
theorem dX10_rankAnew_77 : decode cX10_rankAnew 77 = .ok (.return_, 1) := by decide +kernel
theorem dX10_differ_0 : decode cX10_differ 0 = .ok (.aload_n 0, 1) := by decide +kernel
theorem dX10_differ_1 : decode cX10_differ 1 = .ok (.getfield 15, 3) := by decide +kernel
theorem dX10_differ_4 : decode cX10_differ 4 = .ok (.iload_n 1, 1) := by decide +kernel
theorem dX10_differ_5 : decode cX10_differ 5 = .ok (.iaload, 1) := by decide +kernel
theorem dX10_differ_6 : decode cX10_differ 6 = .ok (.aload_n 0, 1) := by decide +kernel
theorem dX10_differ_7 : decode cX10_differ 7 = .ok (.getfield 15, 3) := by decide +kernel
theorem dX10_differ_10 : decode cX10_differ 10 = .ok (.iload_n 2, 1) := by decide +kernel
theorem dX10_differ_11 : decode cX10_differ 11 = .ok (.iaload, 1) := by decide +kernel
theorem dX10_differ_12 : decode cX10_differ 12 = .ok (.if_icmp .ne 28, 3) := by decide +kernel
theorem dX10_differ_15 : decode cX10_differ 15 = .ok (.aload_n 0, 1) := by decide +kernel
theorem dX10_differ_16 : decode cX10_differ 16 = .ok (.getfield 15, 3) := by decide +kernel
theorem dX10_differ_19 : decode cX10_differ 19 = .ok (.iload_n 1, 1) := by decide +kernel
theorem dX10_differ_20 : decode cX10_differ 20 = .ok (.iload 4, 2) := by decide +kernel
theorem dX10_differ_22 : decode cX10_differ 22 = .ok (.iadd, 1) := by decide +kernel
theorem dX10_differ_23 : decode cX10_differ 23 = .ok (.iload_n 3, 1) := by decide +kernel
theorem dX10_differ_24 : decode cX10_differ 24 = .ok (.irem, 1) := by decide +kernel
theorem dX10_differ_25 : decode cX10_differ 25 = .ok (.iaload, 1) := by decide +kernel
theorem dX10_differ_26 : decode cX10_differ 26 = .ok (.aload_n 0, 1) := by decide +kernel
theorem dX10_differ_27 : decode cX10_differ 27 = .ok (.getfield 15, 3) := by decide +kernel
theorem dX10_differ_30 : decode cX10_differ 30 = .ok (.iload_n 2, 1) := by decide +kernel
theorem dX10_differ_31 : decode cX10_differ 31 = .ok (.iload 4, 2) := by decide +kernel
theorem dX10_differ_33 : decode cX10_differ 33 = .ok (.iadd, 1) := by decide +kernel
theorem dX10_differ_34 : decode cX10_differ 34 = .ok (.iload_n 3, 1) := by decide +kernel
theorem dX10_differ_35 : decode cX10_differ 35 = .ok (.irem, 1) := by decide +kernel
theorem dX10_differ_36 : decode cX10_differ 36 = .ok (.iaload, 1) := by decide +kernel
theorem dX10_differ_37 : decode cX10_differ 37 = .ok (.if_icmp .eq 7, 3) := by decide +kernel
theorem dX10_differ_40 : decode cX10_differ 40 = .ok (.iconst 1, 1) := by decide +kernel
theorem dX10_differ_41 : decode cX10_differ 41 = .ok (.goto 4, 3) := by decide +kernel
theorem dX10_differ_44 : decode cX10_differ 44 = .ok (.iconst 0, 1) := by decide +kernel
theorem dX10_differ_45 : decode cX10_differ 45 = .ok (.ireturn, 1) := by decide +kernel
theorem dX10_lastByte_0 : decode cX10_lastByte 0 = .ok (.aload_n 0, 1) := by decide +kernel
theorem dX10_lastByte_1 : decode cX10_lastByte 1 = .ok (.getfield 9, 3) := by decide +kernel
theorem dX10_lastByte_4 : decode cX10_lastByte 4 = .ok (.iload_n 3, 1) := by decide +kernel
theorem dX10_lastByte_5 : decode cX10_lastByte 5 = .ok (.iaload, 1) := by decide +kernel
theorem dX10_lastByte_6 : decode cX10_lastByte 6 = .ok (.ifCond .ne 9, 3) := by decide +kernel
theorem dX10_lastByte_9 : decode cX10_lastByte 9 = .ok (.iload_n 2, 1) := by decide +kernel
theorem dX10_lastByte_10 : decode cX10_lastByte 10 = .ok (.iconst 1, 1) := by decide +kernel
theorem dX10_lastByte_11 : decode cX10_lastByte 11 = .ok (.isub, 1) := by decide +kernel
theorem dX10_lastByte_12 : decode cX10_lastByte 12 = .ok (.goto 11, 3) := by decide +kernel
theorem dX10_lastByte_15 : decode cX10_lastByte 15 = .ok (.aload_n 0, 1) := by decide +kernel
theorem dX10_lastByte_16 : decode cX10_lastByte 16 = .ok (.getfield 9, 3) := by decide +kernel
theorem dX10_lastByte_19 : decode cX10_lastByte 19 = .ok (.iload_n 3, 1) := by decide +kernel
theorem dX10_lastByte_20 : decode cX10_lastByte 20 = .ok (.iaload, 1) := by decide +kernel
theorem dX10_lastByte_21 : decode cX10_lastByte 21 = .ok (.iconst 1, 1) := by decide +kernel
theorem dX10_lastByte_22 : decode cX10_lastByte 22 = .ok (.isub, 1) := by decide +kernel
theorem dX10_lastByte_23 : decode cX10_lastByte 23 = .ok (.istore 4, 2) := by decide +kernel
theorem dX10_lastByte_25 : decode cX10_lastByte 25 = .ok (.aload_n 1, 1) := by decide +kernel
theorem dX10_lastByte_26 : decode cX10_lastByte 26 = .ok (.iload 4, 2) := by decide +kernel
theorem dX10_lastByte_28 : decode cX10_lastByte 28 = .ok (.baload, 1) := by decide +kernel
theorem dX10_lastByte_29 : decode cX10_lastByte 29 = .ok (.sipush 255, 3) := by decide +kernel
theorem dX10_lastByte_32 : decode cX10_lastByte 32 = .ok (.iand, 1) := by decide +kernel
theorem dX10_lastByte_33 : decode cX10_lastByte 33 = .ok (.ireturn, 1) := by decide +kernel
theorem dX10_origin_0 : decode cX10_origin 0 = .ok (.iconst 0, 1) := by decide +kernel
theorem dX10_origin_1 : decode cX10_origin 1 = .ok (.istore_n 2, 1) := by decide +kernel
theorem dX10_origin_2 : decode cX10_origin 2 = .ok (.iload_n 2, 1) := by decide +kernel
theorem dX10_origin_3 : decode cX10_origin 3 = .ok (.iload_n 1, 1) := by decide +kernel
theorem dX10_origin_4 : decode cX10_origin 4 = .ok (.if_icmp .ge 20, 3) := by decide +kernel
theorem dX10_origin_7 : decode cX10_origin 7 = .ok (.aload_n 0, 1) := by decide +kernel
theorem dX10_origin_8 : decode cX10_origin 8 = .ok (.getfield 9, 3) := by decide +kernel
theorem dX10_origin_11 : decode cX10_origin 11 = .ok (.iload_n 2, 1) := by decide +kernel
theorem dX10_origin_12 : decode cX10_origin 12 = .ok (.iaload, 1) := by decide +kernel
theorem dX10_origin_13 : decode cX10_origin 13 = .ok (.ifCond .ne 5, 3) := by decide +kernel
theorem dX10_origin_16 : decode cX10_origin 16 = .ok (.iload_n 2, 1) := by decide +kernel
theorem dX10_origin_17 : decode cX10_origin 17 = .ok (.ireturn, 1) := by decide +kernel
theorem dX10_origin_18 : decode cX10_origin 18 = .ok (.iinc 2 1, 3) := by decide +kernel
theorem dX10_origin_21 : decode cX10_origin 21 = .ok (.goto (-19), 3) := by decide +kernel
theorem dX10_origin_24 : decode cX10_origin 24 = .ok (.iconst 0, 1) := by decide +kernel
theorem dX10_origin_25 : decode cX10_origin 25 = .ok (.ireturn, 1) := by decide +kernel
theorem dX10_turnBack_0 : decode cX10_turnBack 0 = .ok (.aload_n 0, 1) := by decide +kernel
theorem dX10_turnBack_1 : decode cX10_turnBack 1 = .ok (.getfield 21, 3) := by decide +kernel
theorem dX10_turnBack_4 : decode cX10_turnBack 4 = .ok (.iconst 0, 1) := by decide +kernel
theorem dX10_turnBack_5 : decode cX10_turnBack 5 = .ok (.invokestatic 35, 3) := by decide +kernel
theorem dX10_turnBack_8 : decode cX10_turnBack 8 = .ok (.iconst 0, 1) := by decide +kernel
theorem dX10_turnBack_9 : decode cX10_turnBack 9 = .ok (.istore 5, 2) := by decide +kernel
theorem dX10_turnBack_11 : decode cX10_turnBack 11 = .ok (.iload 5, 2) := by decide +kernel
theorem dX10_turnBack_13 : decode cX10_turnBack 13 = .ok (.iload_n 2, 1) := by decide +kernel
theorem dX10_turnBack_14 : decode cX10_turnBack 14 = .ok (.if_icmp .ge 28, 3) := by decide +kernel
theorem dX10_turnBack_17 : decode cX10_turnBack 17 = .ok (.aload_n 0, 1) := by decide +kernel
theorem dX10_turnBack_18 : decode cX10_turnBack 18 = .ok (.getfield 21, 3) := by decide +kernel
theorem dX10_turnBack_21 : decode cX10_turnBack 21 = .ok (.aload_n 1, 1) := by decide +kernel
theorem dX10_turnBack_22 : decode cX10_turnBack 22 = .ok (.iload 5, 2) := by decide +kernel
theorem dX10_turnBack_24 : decode cX10_turnBack 24 = .ok (.baload, 1) := by decide +kernel
theorem dX10_turnBack_25 : decode cX10_turnBack 25 = .ok (.sipush 255, 3) := by decide +kernel
theorem dX10_turnBack_28 : decode cX10_turnBack 28 = .ok (.iand, 1) := by decide +kernel
theorem dX10_turnBack_29 : decode cX10_turnBack 29 = .ok (.iconst 1, 1) := by decide +kernel
theorem dX10_turnBack_30 : decode cX10_turnBack 30 = .ok (.iadd, 1) := by decide +kernel
theorem dX10_turnBack_31 : decode cX10_turnBack 31 = .ok (.dup2, 1) := by decide +kernel
theorem dX10_turnBack_32 : decode cX10_turnBack 32 = .ok (.iaload, 1) := by decide +kernel
theorem dX10_turnBack_33 : decode cX10_turnBack 33 = .ok (.iconst 1, 1) := by decide +kernel
theorem dX10_turnBack_34 : decode cX10_turnBack 34 = .ok (.iadd, 1) := by decide +kernel
theorem dX10_turnBack_35 : decode cX10_turnBack 35 = .ok (.iastore, 1) := by decide +kernel
theorem dX10_turnBack_36 : decode cX10_turnBack 36 = .ok (.iinc 5 1, 3) := by decide +kernel
theorem dX10_turnBack_39 : decode cX10_turnBack 39 = .ok (.goto (-28), 3) := by decide +kernel
theorem dX10_turnBack_42 : decode cX10_turnBack 42 = .ok (.iconst 1, 1) := by decide +kernel
theorem dX10_turnBack_43 : decode cX10_turnBack 43 = .ok (.istore 5, 2) := by decide +kernel
theorem dX10_turnBack_45 : decode cX10_turnBack 45 = .ok (.iload 5, 2) := by decide +kernel
theorem dX10_turnBack_47 : decode cX10_turnBack 47 = .ok (.sipush 256, 3) := by decide +kernel
theorem dX10_turnBack_50 : decode cX10_turnBack 50 = .ok (.if_icmp .gt 28, 3) := by decide +kernel
theorem dX10_turnBack_53 : decode cX10_turnBack 53 = .ok (.aload_n 0, 1) := by decide +kernel
theorem dX10_turnBack_54 : decode cX10_turnBack 54 = .ok (.getfield 21, 3) := by decide +kernel
theorem dX10_turnBack_57 : decode cX10_turnBack 57 = .ok (.iload 5, 2) := by decide +kernel
theorem dX10_turnBack_59 : decode cX10_turnBack 59 = .ok (.dup2, 1) := by decide +kernel
theorem dX10_turnBack_60 : decode cX10_turnBack 60 = .ok (.iaload, 1) := by decide +kernel
theorem dX10_turnBack_61 : decode cX10_turnBack 61 = .ok (.aload_n 0, 1) := by decide +kernel
theorem dX10_turnBack_62 : decode cX10_turnBack 62 = .ok (.getfield 21, 3) := by decide +kernel
theorem dX10_turnBack_65 : decode cX10_turnBack 65 = .ok (.iload 5, 2) := by decide +kernel
theorem dX10_turnBack_67 : decode cX10_turnBack 67 = .ok (.iconst 1, 1) := by decide +kernel
theorem dX10_turnBack_68 : decode cX10_turnBack 68 = .ok (.isub, 1) := by decide +kernel
theorem dX10_turnBack_69 : decode cX10_turnBack 69 = .ok (.iaload, 1) := by decide +kernel
theorem dX10_turnBack_70 : decode cX10_turnBack 70 = .ok (.iadd, 1) := by decide +kernel
theorem dX10_turnBack_71 : decode cX10_turnBack 71 = .ok (.iastore, 1) := by decide +kernel
theorem dX10_turnBack_72 : decode cX10_turnBack 72 = .ok (.iinc 5 1, 3) := by decide +kernel
theorem dX10_turnBack_75 : decode cX10_turnBack 75 = .ok (.goto (-30), 3) := by decide +kernel
theorem dX10_turnBack_78 : decode cX10_turnBack 78 = .ok (.iconst 0, 1) := by decide +kernel
theorem dX10_turnBack_79 : decode cX10_turnBack 79 = .ok (.istore 5, 2) := by decide +kernel
theorem dX10_turnBack_81 : decode cX10_turnBack 81 = .ok (.iload 5, 2) := by decide +kernel
theorem dX10_turnBack_83 : decode cX10_turnBack 83 = .ok (.iload_n 2, 1) := by decide +kernel
theorem dX10_turnBack_84 : decode cX10_turnBack 84 = .ok (.if_icmp .ge 44, 3) := by decide +kernel
theorem dX10_turnBack_87 : decode cX10_turnBack 87 = .ok (.aload_n 1, 1) := by decide +kernel
theorem dX10_turnBack_88 : decode cX10_turnBack 88 = .ok (.iload 5, 2) := by decide +kernel
theorem dX10_turnBack_90 : decode cX10_turnBack 90 = .ok (.baload, 1) := by decide +kernel
theorem dX10_turnBack_91 : decode cX10_turnBack 91 = .ok (.sipush 255, 3) := by decide +kernel
theorem dX10_turnBack_94 : decode cX10_turnBack 94 = .ok (.iand, 1) := by decide +kernel
theorem dX10_turnBack_95 : decode cX10_turnBack 95 = .ok (.istore 6, 2) := by decide +kernel
theorem dX10_turnBack_97 : decode cX10_turnBack 97 = .ok (.aload_n 0, 1) := by decide +kernel
theorem dX10_turnBack_98 : decode cX10_turnBack 98 = .ok (.getfield 9, 3) := by decide +kernel
theorem dX10_turnBack_101 : decode cX10_turnBack 101 = .ok (.aload_n 0, 1) := by decide +kernel
theorem dX10_turnBack_102 : decode cX10_turnBack 102 = .ok (.getfield 21, 3) := by decide +kernel
theorem dX10_turnBack_105 : decode cX10_turnBack 105 = .ok (.iload 6, 2) := by decide +kernel
theorem dX10_turnBack_107 : decode cX10_turnBack 107 = .ok (.iaload, 1) := by decide +kernel
theorem dX10_turnBack_108 : decode cX10_turnBack 108 = .ok (.iload 5, 2) := by decide +kernel
theorem dX10_turnBack_110 : decode cX10_turnBack 110 = .ok (.iastore, 1) := by decide +kernel
theorem dX10_turnBack_111 : decode cX10_turnBack 111 = .ok (.aload_n 0, 1) := by decide +kernel
theorem dX10_turnBack_112 : decode cX10_turnBack 112 = .ok (.getfield 21, 3) := by decide +kernel
theorem dX10_turnBack_115 : decode cX10_turnBack 115 = .ok (.iload 6, 2) := by decide +kernel
theorem dX10_turnBack_117 : decode cX10_turnBack 117 = .ok (.dup2, 1) := by decide +kernel
theorem dX10_turnBack_118 : decode cX10_turnBack 118 = .ok (.iaload, 1) := by decide +kernel
theorem dX10_turnBack_119 : decode cX10_turnBack 119 = .ok (.iconst 1, 1) := by decide +kernel
theorem dX10_turnBack_120 : decode cX10_turnBack 120 = .ok (.iadd, 1) := by decide +kernel
theorem dX10_turnBack_121 : decode cX10_turnBack 121 = .ok (.iastore, 1) := by decide +kernel
theorem dX10_turnBack_122 : decode cX10_turnBack 122 = .ok (.iinc 5 1, 3) := by decide +kernel
theorem dX10_turnBack_125 : decode cX10_turnBack 125 = .ok (.goto (-44), 3) := by decide +kernel
theorem dX10_turnBack_128 : decode cX10_turnBack 128 = .ok (.aload_n 0, 1) := by decide +kernel
theorem dX10_turnBack_129 : decode cX10_turnBack 129 = .ok (.getfield 9, 3) := by decide +kernel
theorem dX10_turnBack_132 : decode cX10_turnBack 132 = .ok (.iload_n 3, 1) := by decide +kernel
theorem dX10_turnBack_133 : decode cX10_turnBack 133 = .ok (.iaload, 1) := by decide +kernel
theorem dX10_turnBack_134 : decode cX10_turnBack 134 = .ok (.istore 5, 2) := by decide +kernel
theorem dX10_turnBack_136 : decode cX10_turnBack 136 = .ok (.iconst 0, 1) := by decide +kernel
theorem dX10_turnBack_137 : decode cX10_turnBack 137 = .ok (.istore 6, 2) := by decide +kernel
theorem dX10_turnBack_139 : decode cX10_turnBack 139 = .ok (.iload 6, 2) := by decide +kernel
theorem dX10_turnBack_141 : decode cX10_turnBack 141 = .ok (.iload_n 2, 1) := by decide +kernel
theorem dX10_turnBack_142 : decode cX10_turnBack 142 = .ok (.if_icmp .ge 27, 3) := by decide +kernel
theorem dX10_turnBack_145 : decode cX10_turnBack 145 = .ok (.aload 4, 2) := by decide +kernel
theorem dX10_turnBack_147 : decode cX10_turnBack 147 = .ok (.iload 6, 2) := by decide +kernel
theorem dX10_turnBack_149 : decode cX10_turnBack 149 = .ok (.aload_n 1, 1) := by decide +kernel
theorem dX10_turnBack_150 : decode cX10_turnBack 150 = .ok (.iload 5, 2) := by decide +kernel
theorem dX10_turnBack_152 : decode cX10_turnBack 152 = .ok (.baload, 1) := by decide +kernel
theorem dX10_turnBack_153 : decode cX10_turnBack 153 = .ok (.bastore, 1) := by decide +kernel
theorem dX10_turnBack_154 : decode cX10_turnBack 154 = .ok (.aload_n 0, 1) := by decide +kernel
theorem dX10_turnBack_155 : decode cX10_turnBack 155 = .ok (.getfield 9, 3) := by decide +kernel
theorem dX10_turnBack_158 : decode cX10_turnBack 158 = .ok (.iload 5, 2) := by decide +kernel
theorem dX10_turnBack_160 : decode cX10_turnBack 160 = .ok (.iaload, 1) := by decide +kernel
theorem dX10_turnBack_161 : decode cX10_turnBack 161 = .ok (.istore 5, 2) := by decide +kernel
theorem dX10_turnBack_163 : decode cX10_turnBack 163 = .ok (.iinc 6 1, 3) := by decide +kernel
theorem dX10_turnBack_166 : decode cX10_turnBack 166 = .ok (.goto (-27), 3) := by decide +kernel
theorem dX10_turnBack_169 : decode cX10_turnBack 169 = .ok (.return_, 1) := by decide +kernel
theorem dX11_init_0 : decode cX11_init 0 = .ok (.aload_n 0, 1) := by decide +kernel
theorem dX11_init_1 : decode cX11_init 1 = .ok (.invokespecial 3, 3) := by decide +kernel
theorem dX11_init_4 : decode cX11_init 4 = .ok (.aload_n 0, 1) := by decide +kernel
theorem dX11_init_5 : decode cX11_init 5 = .ok (.iconst 1, 1) := by decide +kernel
theorem dX11_init_6 : decode cX11_init 6 = .ok (.bipush 9, 2) := by decide +kernel
theorem dX11_init_8 : decode cX11_init 8 = .ok (.iload_n 1, 1) := by decide +kernel
theorem dX11_init_9 : decode cX11_init 9 = .ok (.invokestatic 9, 3) := by decide +kernel
theorem dX11_init_12 : decode cX11_init 12 = .ok (.invokestatic 15, 3) := by decide +kernel
theorem dX11_init_15 : decode cX11_init 15 = .ok (.putfield 18, 3) := by decide +kernel
theorem dX11_init_18 : decode cX11_init 18 = .ok (.aload_n 0, 1) := by decide +kernel
theorem dX11_init_19 : decode cX11_init 19 = .ok (.new 22, 3) := by decide +kernel
theorem dX11_init_22 : decode cX11_init 22 = .ok (.dup, 1) := by decide +kernel
theorem dX11_init_23 : decode cX11_init 23 = .ok (.sipush 1500, 3) := by decide +kernel
theorem dX11_init_26 : decode cX11_init 26 = .ok (.invokespecial 24, 3) := by decide +kernel
theorem dX11_init_29 : decode cX11_init 29 = .ok (.putfield 27, 3) := by decide +kernel
theorem dX11_init_32 : decode cX11_init 32 = .ok (.aload_n 0, 1) := by decide +kernel
theorem dX11_init_33 : decode cX11_init 33 = .ok (.new 22, 3) := by decide +kernel
theorem dX11_init_36 : decode cX11_init 36 = .ok (.dup, 1) := by decide +kernel
theorem dX11_init_37 : decode cX11_init 37 = .ok (.sipush 4000, 3) := by decide +kernel
theorem dX11_init_40 : decode cX11_init 40 = .ok (.invokespecial 24, 3) := by decide +kernel
theorem dX11_init_43 : decode cX11_init 43 = .ok (.putfield 31, 3) := by decide +kernel
theorem dX11_init_46 : decode cX11_init 46 = .ok (.aload_n 0, 1) := by decide +kernel
theorem dX11_init_47 : decode cX11_init 47 = .ok (.new 22, 3) := by decide +kernel
theorem dX11_init_50 : decode cX11_init 50 = .ok (.dup, 1) := by decide +kernel
theorem dX11_init_51 : decode cX11_init 51 = .ok (.sipush 1500, 3) := by decide +kernel
theorem dX11_init_54 : decode cX11_init 54 = .ok (.invokespecial 24, 3) := by decide +kernel
theorem dX11_init_57 : decode cX11_init 57 = .ok (.putfield 34, 3) := by decide +kernel
theorem dX11_init_60 : decode cX11_init 60 = .ok (.aload_n 0, 1) := by decide +kernel
theorem dX11_init_61 : decode cX11_init 61 = .ok (.new 37, 3) := by decide +kernel
theorem dX11_init_64 : decode cX11_init 64 = .ok (.dup, 1) := by decide +kernel
theorem dX11_init_65 : decode cX11_init 65 = .ok (.invokespecial 39, 3) := by decide +kernel
theorem dX11_init_68 : decode cX11_init 68 = .ok (.putfield 40, 3) := by decide +kernel
theorem dX11_init_71 : decode cX11_init 71 = .ok (.new 44, 3) := by decide +kernel
theorem dX11_init_74 : decode cX11_init 74 = .ok (.dup, 1) := by decide +kernel
theorem dX11_init_75 : decode cX11_init 75 = .ok (.invokespecial 46, 3) := by decide +kernel
theorem dX11_init_78 : decode cX11_init 78 = .ok (.astore_n 2, 1) := by decide +kernel
theorem dX11_init_79 : decode cX11_init 79 = .ok (.aload_n 0, 1) := by decide +kernel
theorem dX11_init_80 : decode cX11_init 80 = .ok (.new 47, 3) := by decide +kernel
theorem dX11_init_83 : decode cX11_init 83 = .ok (.dup, 1) := by decide +kernel
theorem dX11_init_84 : decode cX11_init 84 = .ok (.aload_n 0, 1) := by decide +kernel
theorem dX11_init_85 : decode cX11_init 85 = .ok (.getfield 31, 3) := by decide +kernel
theorem dX11_init_88 : decode cX11_init 88 = .ok (.aload_n 0, 1) := by decide +kernel
theorem dX11_init_89 : decode cX11_init 89 = .ok (.getfield 40, 3) := by decide +kernel
theorem dX11_init_92 : decode cX11_init 92 = .ok (.aload_n 2, 1) := by decide +kernel
theorem dX11_init_93 : decode cX11_init 93 = .ok (.invokespecial 49, 3) := by decide +kernel
theorem dX11_init_96 : decode cX11_init 96 = .ok (.putfield 52, 3) := by decide +kernel
theorem dX11_init_99 : decode cX11_init 99 = .ok (.aload_n 0, 1) := by decide +kernel
theorem dX11_init_100 : decode cX11_init 100 = .ok (.new 56, 3) := by decide +kernel
theorem dX11_init_103 : decode cX11_init 103 = .ok (.dup, 1) := by decide +kernel
theorem dX11_init_104 : decode cX11_init 104 = .ok (.aload_n 0, 1) := by decide +kernel
theorem dX11_init_105 : decode cX11_init 105 = .ok (.getfield 34, 3) := by decide +kernel
theorem dX11_init_108 : decode cX11_init 108 = .ok (.aload_n 0, 1) := by decide +kernel
theorem dX11_init_109 : decode cX11_init 109 = .ok (.getfield 31, 3) := by decide +kernel
theorem dX11_init_112 : decode cX11_init 112 = .ok (.aload_n 0, 1) := by decide +kernel
theorem dX11_init_113 : decode cX11_init 113 = .ok (.getfield 40, 3) := by decide +kernel
theorem dX11_init_116 : decode cX11_init 116 = .ok (.aload_n 2, 1) := by decide +kernel
theorem dX11_init_117 : decode cX11_init 117 = .ok (.invokespecial 58, 3) := by decide +kernel
theorem dX11_init_120 : decode cX11_init 120 = .ok (.putfield 61, 3) := by decide +kernel
theorem dX11_init_123 : decode cX11_init 123 = .ok (.return_, 1) := by decide +kernel
theorem dX11_feed_0 : decode cX11_feed 0 = .ok (.aload_n 0, 1) := by decide +kernel
theorem dX11_feed_1 : decode cX11_feed 1 = .ok (.getfield 27, 3) := by decide +kernel
theorem dX11_feed_4 : decode cX11_feed 4 = .ok (.bipush 20, 2) := by decide +kernel
theorem dX11_feed_6 : decode cX11_feed 6 = .ok (.invokevirtual 65, 3) := by decide +kernel
theorem dX11_feed_9 : decode cX11_feed 9 = .ok (.ifCond .ne 6, 3) := by decide +kernel
theorem dX11_feed_12 : decode cX11_feed 12 = .ok (.bipush (-3), 2) := by decide +kernel
theorem dX11_feed_14 : decode cX11_feed 14 = .ok (.ireturn, 1) := by decide +kernel
theorem dX11_feed_15 : decode cX11_feed 15 = .ok (.aload_n 0, 1) := by decide +kernel
theorem dX11_feed_16 : decode cX11_feed 16 = .ok (.getfield 27, 3) := by decide +kernel
theorem dX11_feed_19 : decode cX11_feed 19 = .ok (.iload_n 1, 1) := by decide +kernel
theorem dX11_feed_20 : decode cX11_feed 20 = .ok (.invokevirtual 69, 3) := by decide +kernel
theorem dX11_feed_23 : decode cX11_feed 23 = .ok (.aload_n 0, 1) := by decide +kernel
theorem dX11_feed_24 : decode cX11_feed 24 = .ok (.getfield 27, 3) := by decide +kernel
theorem dX11_feed_27 : decode cX11_feed 27 = .ok (.iload_n 2, 1) := by decide +kernel
theorem dX11_feed_28 : decode cX11_feed 28 = .ok (.invokevirtual 69, 3) := by decide +kernel
theorem dX11_feed_31 : decode cX11_feed 31 = .ok (.aload_n 0, 1) := by decide +kernel
theorem dX11_feed_32 : decode cX11_feed 32 = .ok (.getfield 27, 3) := by decide +kernel
theorem dX11_feed_35 : decode cX11_feed 35 = .ok (.iload_n 3, 1) := by decide +kernel
theorem dX11_feed_36 : decode cX11_feed 36 = .ok (.invokevirtual 69, 3) := by decide +kernel
theorem dX11_feed_39 : decode cX11_feed 39 = .ok (.aload_n 0, 1) := by decide +kernel
theorem dX11_feed_40 : decode cX11_feed 40 = .ok (.getfield 27, 3) := by decide +kernel
theorem dX11_feed_43 : decode cX11_feed 43 = .ok (.iload 4, 2) := by decide +kernel
theorem dX11_feed_45 : decode cX11_feed 45 = .ok (.invokevirtual 69, 3) := by decide +kernel
theorem dX11_feed_48 : decode cX11_feed 48 = .ok (.aload_n 0, 1) := by decide +kernel
theorem dX11_feed_49 : decode cX11_feed 49 = .ok (.getfield 27, 3) := by decide +kernel
theorem dX11_feed_52 : decode cX11_feed 52 = .ok (.iload 5, 2) := by decide +kernel
theorem dX11_feed_54 : decode cX11_feed 54 = .ok (.invokevirtual 69, 3) := by decide +kernel
theorem dX11_feed_57 : decode cX11_feed 57 = .ok (.aload_n 0, 1) := by decide +kernel
theorem dX11_feed_58 : decode cX11_feed 58 = .ok (.getfield 27, 3) := by decide +kernel
theorem dX11_feed_61 : decode cX11_feed 61 = .ok (.getfield 72, 3) := by decide +kernel
theorem dX11_feed_64 : decode cX11_feed 64 = .ok (.ireturn, 1) := by decide +kernel
theorem dX11_end_0 : decode cX11_end 0 = .ok (.iload_n 1, 1) := by decide +kernel
theorem dX11_end_1 : decode cX11_end 1 = .ok (.ifCond .lt 21, 3) := by decide +kernel
theorem dX11_end_4 : decode cX11_end 4 = .ok (.iload_n 1, 1) := by decide +kernel
theorem dX11_end_5 : decode cX11_end 5 = .ok (.bipush 20, 2) := by decide +kernel
theorem dX11_end_7 : decode cX11_end 7 = .ok (.if_icmp .gt 15, 3) := by decide +kernel
theorem dX11_end_10 : decode cX11_end 10 = .ok (.aload_n 0, 1) := by decide +kernel
theorem dX11_end_11 : decode cX11_end 11 = .ok (.getfield 27, 3) := by decide +kernel
theorem dX11_end_14 : decode cX11_end 14 = .ok (.getfield 72, 3) := by decide +kernel
theorem dX11_end_17 : decode cX11_end 17 = .ok (.bipush 20, 2) := by decide +kernel
theorem dX11_end_19 : decode cX11_end 19 = .ok (.if_icmp .ge 5, 3) := by decide +kernel
theorem dX11_end_22 : decode cX11_end 22 = .ok (.iconst (-1), 1) := by decide +kernel
theorem dX11_end_23 : decode cX11_end 23 = .ok (.ireturn, 1) := by decide +kernel
theorem dX11_end_24 : decode cX11_end 24 = .ok (.aload_n 0, 1) := by decide +kernel
theorem dX11_end_25 : decode cX11_end 25 = .ok (.getfield 27, 3) := by decide +kernel
theorem dX11_end_28 : decode cX11_end 28 = .ok (.aload_n 0, 1) := by decide +kernel
theorem dX11_end_29 : decode cX11_end 29 = .ok (.getfield 27, 3) := by decide +kernel
theorem dX11_end_32 : decode cX11_end 32 = .ok (.getfield 72, 3) := by decide +kernel
theorem dX11_end_35 : decode cX11_end 35 = .ok (.bipush 20, 2) := by decide +kernel
theorem dX11_end_37 : decode cX11_end 37 = .ok (.isub, 1) := by decide +kernel
theorem dX11_end_38 : decode cX11_end 38 = .ok (.iload_n 1, 1) := by decide +kernel
theorem dX11_end_39 : decode cX11_end 39 = .ok (.iadd, 1) := by decide +kernel
theorem dX11_end_40 : decode cX11_end 40 = .ok (.invokevirtual 75, 3) := by decide +kernel
theorem dX11_end_43 : decode cX11_end 43 = .ok (.aload_n 0, 1) := by decide +kernel
theorem dX11_end_44 : decode cX11_end 44 = .ok (.getfield 27, 3) := by decide +kernel
theorem dX11_end_47 : decode cX11_end 47 = .ok (.getfield 72, 3) := by decide +kernel
theorem dX11_end_50 : decode cX11_end 50 = .ok (.ireturn, 1) := by decide +kernel
theorem dX11_octets_0 : decode cX11_octets 0 = .ok (.iload_n 2, 1) := by decide +kernel
theorem dX11_octets_1 : decode cX11_octets 1 = .ok (.iconst 1, 1) := by decide +kernel
theorem dX11_octets_2 : decode cX11_octets 2 = .ok (.if_icmp .lt 10, 3) := by decide +kernel
theorem dX11_octets_5 : decode cX11_octets 5 = .ok (.iload_n 2, 1) := by decide +kernel
theorem dX11_octets_6 : decode cX11_octets 6 = .ok (.sipush 400, 3) := by decide +kernel
theorem dX11_octets_9 : decode cX11_octets 9 = .ok (.if_icmp .le 5, 3) := by decide +kernel
theorem dX11_octets_12 : decode cX11_octets 12 = .ok (.iconst (-1), 1) := by decide +kernel
theorem dX11_octets_13 : decode cX11_octets 13 = .ok (.ireturn, 1) := by decide +kernel
theorem dX11_octets_14 : decode cX11_octets 14 = .ok (.aload_n 0, 1) := by decide +kernel
theorem dX11_octets_15 : decode cX11_octets 15 = .ok (.getfield 27, 3) := by decide +kernel
theorem dX11_octets_18 : decode cX11_octets 18 = .ok (.iload_n 2, 1) := by decide +kernel
theorem dX11_octets_19 : decode cX11_octets 19 = .ok (.invokevirtual 65, 3) := by decide +kernel
theorem dX11_octets_22 : decode cX11_octets 22 = .ok (.ifCond .ne 6, 3) := by decide +kernel
theorem dX11_octets_25 : decode cX11_octets 25 = .ok (.bipush (-3), 2) := by decide +kernel
theorem dX11_octets_27 : decode cX11_octets 27 = .ok (.ireturn, 1) := by decide +kernel
theorem dX11_octets_28 : decode cX11_octets 28 = .ok (.iconst 0, 1) := by decide +kernel
theorem dX11_octets_29 : decode cX11_octets 29 = .ok (.istore_n 3, 1) := by decide +kernel
theorem dX11_octets_30 : decode cX11_octets 30 = .ok (.iload_n 3, 1) := by decide +kernel
theorem dX11_octets_31 : decode cX11_octets 31 = .ok (.iload_n 2, 1) := by decide +kernel
theorem dX11_octets_32 : decode cX11_octets 32 = .ok (.if_icmp .ge 17, 3) := by decide +kernel
theorem dX11_octets_35 : decode cX11_octets 35 = .ok (.aload_n 0, 1) := by decide +kernel
theorem dX11_octets_36 : decode cX11_octets 36 = .ok (.getfield 27, 3) := by decide +kernel
theorem dX11_octets_39 : decode cX11_octets 39 = .ok (.iload_n 1, 1) := by decide +kernel
theorem dX11_octets_40 : decode cX11_octets 40 = .ok (.invokevirtual 78, 3) := by decide +kernel
theorem dX11_octets_43 : decode cX11_octets 43 = .ok (.iinc 3 1, 3) := by decide +kernel
theorem dX11_octets_46 : decode cX11_octets 46 = .ok (.goto (-16), 3) := by decide +kernel
theorem dX11_octets_49 : decode cX11_octets 49 = .ok (.aload_n 0, 1) := by decide +kernel
theorem dX11_octets_50 : decode cX11_octets 50 = .ok (.getfield 27, 3) := by decide +kernel
theorem dX11_octets_53 : decode cX11_octets 53 = .ok (.getfield 72, 3) := by decide +kernel
theorem dX11_octets_56 : decode cX11_octets 56 = .ok (.ireturn, 1) := by decide +kernel
theorem dX11_pack_0 : decode cX11_pack 0 = .ok (.aload_n 0, 1) := by decide +kernel
theorem dX11_pack_1 : decode cX11_pack 1 = .ok (.getfield 52, 3) := by decide +kernel
theorem dX11_pack_4 : decode cX11_pack 4 = .ok (.aload_n 0, 1) := by decide +kernel
theorem dX11_pack_5 : decode cX11_pack 5 = .ok (.getfield 27, 3) := by decide +kernel
theorem dX11_pack_8 : decode cX11_pack 8 = .ok (.aload_n 0, 1) := by decide +kernel
theorem dX11_pack_9 : decode cX11_pack 9 = .ok (.getfield 18, 3) := by decide +kernel
theorem dX11_pack_12 : decode cX11_pack 12 = .ok (.invokevirtual 81, 3) := by decide +kernel
theorem dX11_pack_15 : decode cX11_pack 15 = .ok (.istore_n 1, 1) := by decide +kernel
theorem dX11_pack_16 : decode cX11_pack 16 = .ok (.aload_n 0, 1) := by decide +kernel
theorem dX11_pack_17 : decode cX11_pack 17 = .ok (.getfield 27, 3) := by decide +kernel
theorem dX11_pack_20 : decode cX11_pack 20 = .ok (.iconst 0, 1) := by decide +kernel
theorem dX11_pack_21 : decode cX11_pack 21 = .ok (.invokevirtual 75, 3) := by decide +kernel
theorem dX11_pack_24 : decode cX11_pack 24 = .ok (.iload_n 1, 1) := by decide +kernel
theorem dX11_pack_25 : decode cX11_pack 25 = .ok (.ifCond .ne 21, 3) := by decide +kernel
theorem dX11_pack_28 : decode cX11_pack 28 = .ok (.aload_n 0, 1) := by decide +kernel
theorem dX11_pack_29 : decode cX11_pack 29 = .ok (.getfield 31, 3) := by decide +kernel
theorem dX11_pack_32 : decode cX11_pack 32 = .ok (.iconst 0, 1) := by decide +kernel
theorem dX11_pack_33 : decode cX11_pack 33 = .ok (.invokevirtual 75, 3) := by decide +kernel
theorem dX11_pack_36 : decode cX11_pack 36 = .ok (.aload_n 0, 1) := by decide +kernel
theorem dX11_pack_37 : decode cX11_pack 37 = .ok (.getfield 40, 3) := by decide +kernel
theorem dX11_pack_40 : decode cX11_pack 40 = .ok (.invokevirtual 85, 3) := by decide +kernel
theorem dX11_pack_43 : decode cX11_pack 43 = .ok (.bipush (-3), 2) := by decide +kernel
theorem dX11_pack_45 : decode cX11_pack 45 = .ok (.ireturn, 1) := by decide +kernel
theorem dX11_pack_46 : decode cX11_pack 46 = .ok (.aload_n 0, 1) := by decide +kernel
theorem dX11_pack_47 : decode cX11_pack 47 = .ok (.getfield 31, 3) := by decide +kernel
theorem dX11_pack_50 : decode cX11_pack 50 = .ok (.getfield 72, 3) := by decide +kernel
theorem dX11_pack_53 : decode cX11_pack 53 = .ok (.ireturn, 1) := by decide +kernel
theorem dX11_open_0 : decode cX11_open 0 = .ok (.aload_n 0, 1) := by decide +kernel
theorem dX11_open_1 : decode cX11_open 1 = .ok (.getfield 34, 3) := by decide +kernel
theorem dX11_open_4 : decode cX11_open 4 = .ok (.iconst 0, 1) := by decide +kernel
theorem dX11_open_5 : decode cX11_open 5 = .ok (.invokevirtual 75, 3) := by decide +kernel
theorem dX11_open_8 : decode cX11_open 8 = .ok (.aload_n 0, 1) := by decide +kernel
theorem dX11_open_9 : decode cX11_open 9 = .ok (.getfield 34, 3) := by decide +kernel
theorem dX11_open_12 : decode cX11_open 12 = .ok (.aload_n 0, 1) := by decide +kernel
theorem dX11_open_13 : decode cX11_open 13 = .ok (.getfield 27, 3) := by decide +kernel
theorem dX11_open_16 : decode cX11_open 16 = .ok (.invokevirtual 88, 3) := by decide +kernel
theorem dX11_open_19 : decode cX11_open 19 = .ok (.aload_n 0, 1) := by decide +kernel
theorem dX11_open_20 : decode cX11_open 20 = .ok (.getfield 27, 3) := by decide +kernel
theorem dX11_open_23 : decode cX11_open 23 = .ok (.iconst 0, 1) := by decide +kernel
theorem dX11_open_24 : decode cX11_open 24 = .ok (.invokevirtual 75, 3) := by decide +kernel
theorem dX11_open_27 : decode cX11_open 27 = .ok (.aload_n 0, 1) := by decide +kernel
theorem dX11_open_28 : decode cX11_open 28 = .ok (.getfield 61, 3) := by decide +kernel
theorem dX11_open_31 : decode cX11_open 31 = .ok (.invokevirtual 92, 3) := by decide +kernel
theorem dX11_open_34 : decode cX11_open 34 = .ok (.ifCond .eq 13, 3) := by decide +kernel
theorem dX11_open_37 : decode cX11_open 37 = .ok (.aload_n 0, 1) := by decide +kernel
theorem dX11_open_38 : decode cX11_open 38 = .ok (.getfield 31, 3) := by decide +kernel
theorem dX11_open_41 : decode cX11_open 41 = .ok (.getfield 72, 3) := by decide +kernel
theorem dX11_open_44 : decode cX11_open 44 = .ok (.goto 10, 3) := by decide +kernel
theorem dX11_open_47 : decode cX11_open 47 = .ok (.aload_n 0, 1) := by decide +kernel
theorem dX11_open_48 : decode cX11_open 48 = .ok (.getfield 61, 3) := by decide +kernel
theorem dX11_open_51 : decode cX11_open 51 = .ok (.invokevirtual 96, 3) := by decide +kernel
theorem dX11_open_54 : decode cX11_open 54 = .ok (.ireturn, 1) := by decide +kernel
theorem dX11_rule_0 : decode cX11_rule 0 = .ok (.aload_n 0, 1) := by decide +kernel
theorem dX11_rule_1 : decode cX11_rule 1 = .ok (.getfield 61, 3) := by decide +kernel
theorem dX11_rule_4 : decode cX11_rule 4 = .ok (.getfield 100, 3) := by decide +kernel
theorem dX11_rule_7 : decode cX11_rule 7 = .ok (.ireturn, 1) := by decide +kernel
theorem dX11_pass_0 : decode cX11_pass 0 = .ok (.aload_n 0, 1) := by decide +kernel
theorem dX11_pass_1 : decode cX11_pass 1 = .ok (.getfield 27, 3) := by decide +kernel
theorem dX11_pass_4 : decode cX11_pass 4 = .ok (.aload_n 0, 1) := by decide +kernel
theorem dX11_pass_5 : decode cX11_pass 5 = .ok (.getfield 31, 3) := by decide +kernel
theorem dX11_pass_8 : decode cX11_pass 8 = .ok (.getfield 72, 3) := by decide +kernel
theorem dX11_pass_11 : decode cX11_pass 11 = .ok (.invokevirtual 65, 3) := by decide +kernel
theorem dX11_pass_14 : decode cX11_pass 14 = .ok (.ifCond .ne 6, 3) := by decide +kernel
theorem dX11_pass_17 : decode cX11_pass 17 = .ok (.bipush (-3), 2) := by decide +kernel
theorem dX11_pass_19 : decode cX11_pass 19 = .ok (.ireturn, 1) := by decide +kernel
theorem dX11_pass_20 : decode cX11_pass 20 = .ok (.aload_n 0, 1) := by decide +kernel
theorem dX11_pass_21 : decode cX11_pass 21 = .ok (.getfield 27, 3) := by decide +kernel
theorem dX11_pass_24 : decode cX11_pass 24 = .ok (.aload_n 0, 1) := by decide +kernel
theorem dX11_pass_25 : decode cX11_pass 25 = .ok (.getfield 31, 3) := by decide +kernel
theorem dX11_pass_28 : decode cX11_pass 28 = .ok (.invokevirtual 88, 3) := by decide +kernel
theorem dX11_pass_31 : decode cX11_pass 31 = .ok (.aload_n 0, 1) := by decide +kernel
theorem dX11_pass_32 : decode cX11_pass 32 = .ok (.getfield 27, 3) := by decide +kernel
theorem dX11_pass_35 : decode cX11_pass 35 = .ok (.getfield 72, 3) := by decide +kernel
theorem dX11_pass_38 : decode cX11_pass 38 = .ok (.ireturn, 1) := by decide +kernel
theorem dX11_spoil_0 : decode cX11_spoil 0 = .ok (.aload_n 0, 1) := by decide +kernel
theorem dX11_spoil_1 : decode cX11_spoil 1 = .ok (.getfield 27, 3) := by decide +kernel
theorem dX11_spoil_4 : decode cX11_spoil 4 = .ok (.iload_n 1, 1) := by decide +kernel
theorem dX11_spoil_5 : decode cX11_spoil 5 = .ok (.invokevirtual 103, 3) := by decide +kernel
theorem dX11_spoil_8 : decode cX11_spoil 8 = .ok (.ifCond .eq 15, 3) := by decide +kernel
theorem dX11_spoil_11 : decode cX11_spoil 11 = .ok (.iload_n 2, 1) := by decide +kernel
theorem dX11_spoil_12 : decode cX11_spoil 12 = .ok (.iconst 1, 1) := by decide +kernel
theorem dX11_spoil_13 : decode cX11_spoil 13 = .ok (.if_icmp .lt 10, 3) := by decide +kernel
theorem dX11_spoil_16 : decode cX11_spoil 16 = .ok (.iload_n 2, 1) := by decide +kernel
theorem dX11_spoil_17 : decode cX11_spoil 17 = .ok (.sipush 255, 3) := by decide +kernel
theorem dX11_spoil_20 : decode cX11_spoil 20 = .ok (.if_icmp .le 5, 3) := by decide +kernel
theorem dX11_spoil_23 : decode cX11_spoil 23 = .ok (.iconst (-1), 1) := by decide +kernel
theorem dX11_spoil_24 : decode cX11_spoil 24 = .ok (.ireturn, 1) := by decide +kernel
theorem dX11_spoil_25 : decode cX11_spoil 25 = .ok (.aload_n 0, 1) := by decide +kernel
theorem dX11_spoil_26 : decode cX11_spoil 26 = .ok (.getfield 27, 3) := by decide +kernel
theorem dX11_spoil_29 : decode cX11_spoil 29 = .ok (.iload_n 1, 1) := by decide +kernel
theorem dX11_spoil_30 : decode cX11_spoil 30 = .ok (.aload_n 0, 1) := by decide +kernel
theorem dX11_spoil_31 : decode cX11_spoil 31 = .ok (.getfield 27, 3) := by decide +kernel
theorem dX11_spoil_34 : decode cX11_spoil 34 = .ok (.iload_n 1, 1) := by decide +kernel
theorem dX11_spoil_35 : decode cX11_spoil 35 = .ok (.invokevirtual 106, 3) := by decide +kernel
theorem dX11_spoil_38 : decode cX11_spoil 38 = .ok (.iload_n 2, 1) := by decide +kernel
theorem dX11_spoil_39 : decode cX11_spoil 39 = .ok (.ixor, 1) := by decide +kernel
theorem dX11_spoil_40 : decode cX11_spoil 40 = .ok (.invokevirtual 110, 3) := by decide +kernel
theorem dX11_spoil_43 : decode cX11_spoil 43 = .ok (.aload_n 0, 1) := by decide +kernel
theorem dX11_spoil_44 : decode cX11_spoil 44 = .ok (.getfield 27, 3) := by decide +kernel
theorem dX11_spoil_47 : decode cX11_spoil 47 = .ok (.iload_n 1, 1) := by decide +kernel
theorem dX11_spoil_48 : decode cX11_spoil 48 = .ok (.invokevirtual 106, 3) := by decide +kernel
theorem dX11_spoil_51 : decode cX11_spoil 51 = .ok (.ireturn, 1) := by decide +kernel
theorem dX11_drop_0 : decode cX11_drop 0 = .ok (.iload_n 1, 1) := by decide +kernel
theorem dX11_drop_1 : decode cX11_drop 1 = .ok (.ifCond .lt 14, 3) := by decide +kernel
theorem dX11_drop_4 : decode cX11_drop 4 = .ok (.iload_n 1, 1) := by decide +kernel
theorem dX11_drop_5 : decode cX11_drop 5 = .ok (.aload_n 0, 1) := by decide +kernel
theorem dX11_drop_6 : decode cX11_drop 6 = .ok (.getfield 27, 3) := by decide +kernel
theorem dX11_drop_9 : decode cX11_drop 9 = .ok (.getfield 72, 3) := by decide +kernel
theorem dX11_drop_12 : decode cX11_drop 12 = .ok (.if_icmp .le 5, 3) := by decide +kernel
theorem dX11_drop_15 : decode cX11_drop 15 = .ok (.iconst (-1), 1) := by decide +kernel
theorem dX11_drop_16 : decode cX11_drop 16 = .ok (.ireturn, 1) := by decide +kernel
theorem dX11_drop_17 : decode cX11_drop 17 = .ok (.aload_n 0, 1) := by decide +kernel
theorem dX11_drop_18 : decode cX11_drop 18 = .ok (.getfield 27, 3) := by decide +kernel
theorem dX11_drop_21 : decode cX11_drop 21 = .ok (.iload_n 1, 1) := by decide +kernel
theorem dX11_drop_22 : decode cX11_drop 22 = .ok (.invokevirtual 114, 3) := by decide +kernel
theorem dX11_drop_25 : decode cX11_drop 25 = .ok (.aload_n 0, 1) := by decide +kernel
theorem dX11_drop_26 : decode cX11_drop 26 = .ok (.getfield 27, 3) := by decide +kernel
theorem dX11_drop_29 : decode cX11_drop 29 = .ok (.getfield 72, 3) := by decide +kernel
theorem dX11_drop_32 : decode cX11_drop 32 = .ok (.ireturn, 1) := by decide +kernel
theorem dX11_out_0 : decode cX11_out 0 = .ok (.aload_n 0, 1) := by decide +kernel
theorem dX11_out_1 : decode cX11_out 1 = .ok (.getfield 31, 3) := by decide +kernel
theorem dX11_out_4 : decode cX11_out 4 = .ok (.iload_n 1, 1) := by decide +kernel
theorem dX11_out_5 : decode cX11_out 5 = .ok (.invokevirtual 103, 3) := by decide +kernel
theorem dX11_out_8 : decode cX11_out 8 = .ok (.ifCond .ne 13, 3) := by decide +kernel
theorem dX11_out_11 : decode cX11_out 11 = .ok (.new 117, 3) := by decide +kernel
theorem dX11_out_14 : decode cX11_out 14 = .ok (.dup, 1) := by decide +kernel
theorem dX11_out_15 : decode cX11_out 15 = .ok (.ldc 119, 2) := by decide +kernel
theorem dX11_out_17 : decode cX11_out 17 = .ok (.invokespecial 121, 3) := by decide +kernel
theorem dX11_out_20 : decode cX11_out 20 = .ok (.athrow, 1) := by decide +kernel
theorem dX11_out_21 : decode cX11_out 21 = .ok (.aload_n 0, 1) := by decide +kernel
theorem dX11_out_22 : decode cX11_out 22 = .ok (.getfield 31, 3) := by decide +kernel
theorem dX11_out_25 : decode cX11_out 25 = .ok (.iload_n 1, 1) := by decide +kernel
theorem dX11_out_26 : decode cX11_out 26 = .ok (.invokevirtual 106, 3) := by decide +kernel
theorem dX11_out_29 : decode cX11_out 29 = .ok (.ireturn, 1) := by decide +kernel
theorem dX11_count_0 : decode cX11_count 0 = .ok (.iload_n 1, 1) := by decide +kernel
theorem dX11_count_1 : decode cX11_count 1 = .ok (.tableswitch 60 0 3 #[31, 39, 47, 55], 31) := by decide +kernel
theorem dX11_count_32 : decode cX11_count 32 = .ok (.aload_n 0, 1) := by decide +kernel
theorem dX11_count_33 : decode cX11_count 33 = .ok (.getfield 27, 3) := by decide +kernel
theorem dX11_count_36 : decode cX11_count 36 = .ok (.getfield 72, 3) := by decide +kernel
theorem dX11_count_39 : decode cX11_count 39 = .ok (.ireturn, 1) := by decide +kernel
theorem dX11_count_40 : decode cX11_count 40 = .ok (.aload_n 0, 1) := by decide +kernel
theorem dX11_count_41 : decode cX11_count 41 = .ok (.getfield 31, 3) := by decide +kernel
theorem dX11_count_44 : decode cX11_count 44 = .ok (.getfield 72, 3) := by decide +kernel
theorem dX11_count_47 : decode cX11_count 47 = .ok (.ireturn, 1) := by decide +kernel
theorem dX11_count_48 : decode cX11_count 48 = .ok (.aload_n 0, 1) := by decide +kernel
theorem dX11_count_49 : decode cX11_count 49 = .ok (.getfield 34, 3) := by decide +kernel
theorem dX11_count_52 : decode cX11_count 52 = .ok (.getfield 72, 3) := by decide +kernel
theorem dX11_count_55 : decode cX11_count 55 = .ok (.ireturn, 1) := by decide +kernel
theorem dX11_count_56 : decode cX11_count 56 = .ok (.aload_n 0, 1) := by decide +kernel
theorem dX11_count_57 : decode cX11_count 57 = .ok (.getfield 18, 3) := by decide +kernel
theorem dX11_count_60 : decode cX11_count 60 = .ok (.ireturn, 1) := by decide +kernel
theorem dX11_count_61 : decode cX11_count 61 = .ok (.iconst (-1), 1) := by decide +kernel
theorem dX11_count_62 : decode cX11_count 62 = .ok (.ireturn, 1) := by decide +kernel
theorem dX11_block_0 : decode cX11_block 0 = .ok (.iload_n 1, 1) := by decide +kernel
theorem dX11_block_1 : decode cX11_block 1 = .ok (.iconst (-1), 1) := by decide +kernel
theorem dX11_block_2 : decode cX11_block 2 = .ok (.if_icmp .ne 15, 3) := by decide +kernel
theorem dX11_block_5 : decode cX11_block 5 = .ok (.iload_n 2, 1) := by decide +kernel
theorem dX11_block_6 : decode cX11_block 6 = .ok (.ifCond .ne 11, 3) := by decide +kernel
theorem dX11_block_9 : decode cX11_block 9 = .ok (.aload_n 0, 1) := by decide +kernel
theorem dX11_block_10 : decode cX11_block 10 = .ok (.getfield 40, 3) := by decide +kernel
theorem dX11_block_13 : decode cX11_block 13 = .ok (.getfield 124, 3) := by decide +kernel
theorem dX11_block_16 : decode cX11_block 16 = .ok (.ireturn, 1) := by decide +kernel
theorem dX11_block_17 : decode cX11_block 17 = .ok (.aload_n 0, 1) := by decide +kernel
theorem dX11_block_18 : decode cX11_block 18 = .ok (.getfield 40, 3) := by decide +kernel
theorem dX11_block_21 : decode cX11_block 21 = .ok (.iload_n 1, 1) := by decide +kernel
theorem dX11_block_22 : decode cX11_block 22 = .ok (.iload_n 2, 1) := by decide +kernel
theorem dX11_block_23 : decode cX11_block 23 = .ok (.invokevirtual 127, 3) := by decide +kernel
theorem dX11_block_26 : decode cX11_block 26 = .ok (.ireturn, 1) := by decide +kernel
theorem dX11_sum_0 : decode cX11_sum 0 = .ok (.aload_n 0, 1) := by decide +kernel
theorem dX11_sum_1 : decode cX11_sum 1 = .ok (.getfield 40, 3) := by decide +kernel
theorem dX11_sum_4 : decode cX11_sum 4 = .ok (.iload_n 1, 1) := by decide +kernel
theorem dX11_sum_5 : decode cX11_sum 5 = .ok (.invokevirtual 130, 3) := by decide +kernel
theorem dX11_sum_8 : decode cX11_sum 8 = .ok (.ireturn, 1) := by decide +kernel
theorem dX11_choice_0 : decode cX11_choice 0 = .ok (.aload_n 0, 1) := by decide +kernel
theorem dX11_choice_1 : decode cX11_choice 1 = .ok (.getfield 40, 3) := by decide +kernel
theorem dX11_choice_4 : decode cX11_choice 4 = .ok (.getfield 133, 3) := by decide +kernel
theorem dX11_choice_7 : decode cX11_choice 7 = .ok (.iload_n 1, 1) := by decide +kernel
theorem dX11_choice_8 : decode cX11_choice 8 = .ok (.invokevirtual 137, 3) := by decide +kernel
theorem dX11_choice_11 : decode cX11_choice 11 = .ok (.ifCond .eq 17, 3) := by decide +kernel
theorem dX11_choice_14 : decode cX11_choice 14 = .ok (.aload_n 0, 1) := by decide +kernel
theorem dX11_choice_15 : decode cX11_choice 15 = .ok (.getfield 40, 3) := by decide +kernel
theorem dX11_choice_18 : decode cX11_choice 18 = .ok (.getfield 133, 3) := by decide +kernel
theorem dX11_choice_21 : decode cX11_choice 21 = .ok (.iload_n 1, 1) := by decide +kernel
theorem dX11_choice_22 : decode cX11_choice 22 = .ok (.invokevirtual 142, 3) := by decide +kernel
theorem dX11_choice_25 : decode cX11_choice 25 = .ok (.goto 4, 3) := by decide +kernel
theorem dX11_choice_28 : decode cX11_choice 28 = .ok (.iconst (-1), 1) := by decide +kernel
theorem dX11_choice_29 : decode cX11_choice 29 = .ok (.ireturn, 1) := by decide +kernel
theorem dX11_length_0 : decode cX11_length 0 = .ok (.aload_n 0, 1) := by decide +kernel
theorem dX11_length_1 : decode cX11_length 1 = .ok (.getfield 40, 3) := by decide +kernel
theorem dX11_length_4 : decode cX11_length 4 = .ok (.getfield 133, 3) := by decide +kernel
theorem dX11_length_7 : decode cX11_length 7 = .ok (.iload_n 1, 1) := by decide +kernel
theorem dX11_length_8 : decode cX11_length 8 = .ok (.iload_n 2, 1) := by decide +kernel
theorem dX11_length_9 : decode cX11_length 9 = .ok (.invokevirtual 145, 3) := by decide +kernel
theorem dX11_length_12 : decode cX11_length 12 = .ok (.ifCond .eq 20, 3) := by decide +kernel
theorem dX11_length_15 : decode cX11_length 15 = .ok (.aload_n 0, 1) := by decide +kernel
theorem dX11_length_16 : decode cX11_length 16 = .ok (.getfield 40, 3) := by decide +kernel
theorem dX11_length_19 : decode cX11_length 19 = .ok (.getfield 133, 3) := by decide +kernel
theorem dX11_length_22 : decode cX11_length 22 = .ok (.getfield 149, 3) := by decide +kernel
theorem dX11_length_25 : decode cX11_length 25 = .ok (.iload_n 1, 1) := by decide +kernel
theorem dX11_length_26 : decode cX11_length 26 = .ok (.aaload, 1) := by decide +kernel
theorem dX11_length_27 : decode cX11_length 27 = .ok (.iload_n 2, 1) := by decide +kernel
theorem dX11_length_28 : decode cX11_length 28 = .ok (.iaload, 1) := by decide +kernel
theorem dX11_length_29 : decode cX11_length 29 = .ok (.goto 4, 3) := by decide +kernel
theorem dX11_length_32 : decode cX11_length 32 = .ok (.iconst (-1), 1) := by decide +kernel
theorem dX11_length_33 : decode cX11_length 33 = .ok (.ireturn, 1) := by decide +kernel
theorem dX11_mark_0 : decode cX11_mark 0 = .ok (.aload_n 0, 1) := by decide +kernel
theorem dX11_mark_1 : decode cX11_mark 1 = .ok (.iload_n 1, 1) := by decide +kernel
theorem dX11_mark_2 : decode cX11_mark 2 = .ok (.invokevirtual 153, 3) := by decide +kernel
theorem dX11_mark_5 : decode cX11_mark 5 = .ok (.ireturn, 1) := by decide +kernel
theorem dX11_alone_0 : decode cX11_alone 0 = .ok (.aload_n 0, 1) := by decide +kernel
theorem dX11_alone_1 : decode cX11_alone 1 = .ok (.iload_n 1, 1) := by decide +kernel
theorem dX11_alone_2 : decode cX11_alone 2 = .ok (.invokevirtual 153, 3) := by decide +kernel
theorem dX11_alone_5 : decode cX11_alone 5 = .ok (.istore_n 2, 1) := by decide +kernel
theorem dX11_alone_6 : decode cX11_alone 6 = .ok (.iload_n 2, 1) := by decide +kernel
theorem dX11_alone_7 : decode cX11_alone 7 = .ok (.ifCond .ge 5, 3) := by decide +kernel
theorem dX11_alone_10 : decode cX11_alone 10 = .ok (.iconst (-1), 1) := by decide +kernel
theorem dX11_alone_11 : decode cX11_alone 11 = .ok (.ireturn, 1) := by decide +kernel
theorem dX11_alone_12 : decode cX11_alone 12 = .ok (.aload_n 0, 1) := by decide +kernel
theorem dX11_alone_13 : decode cX11_alone 13 = .ok (.getfield 61, 3) := by decide +kernel
theorem dX11_alone_16 : decode cX11_alone 16 = .ok (.iload_n 2, 1) := by decide +kernel
theorem dX11_alone_17 : decode cX11_alone 17 = .ok (.invokevirtual 156, 3) := by decide +kernel
theorem dX11_alone_20 : decode cX11_alone 20 = .ok (.ifCond .eq 13, 3) := by decide +kernel
theorem dX11_alone_23 : decode cX11_alone 23 = .ok (.aload_n 0, 1) := by decide +kernel
theorem dX11_alone_24 : decode cX11_alone 24 = .ok (.getfield 31, 3) := by decide +kernel
theorem dX11_alone_27 : decode cX11_alone 27 = .ok (.getfield 72, 3) := by decide +kernel
theorem dX11_alone_30 : decode cX11_alone 30 = .ok (.goto 10, 3) := by decide +kernel
theorem dX11_alone_33 : decode cX11_alone 33 = .ok (.aload_n 0, 1) := by decide +kernel
theorem dX11_alone_34 : decode cX11_alone 34 = .ok (.getfield 61, 3) := by decide +kernel
theorem dX11_alone_37 : decode cX11_alone 37 = .ok (.invokevirtual 96, 3) := by decide +kernel
theorem dX11_alone_40 : decode cX11_alone 40 = .ok (.ireturn, 1) := by decide +kernel
theorem dX11_findMark_0 : decode cX11_findMark 0 = .ok (.iload_n 1, 1) := by decide +kernel
theorem dX11_findMark_1 : decode cX11_findMark 1 = .ok (.ifCond .ge 5, 3) := by decide +kernel
theorem dX11_findMark_4 : decode cX11_findMark 4 = .ok (.iconst (-1), 1) := by decide +kernel
theorem dX11_findMark_5 : decode cX11_findMark 5 = .ok (.ireturn, 1) := by decide +kernel
theorem dX11_findMark_6 : decode cX11_findMark 6 = .ok (.iload_n 1, 1) := by decide +kernel
theorem dX11_findMark_7 : decode cX11_findMark 7 = .ok (.istore_n 2, 1) := by decide +kernel
theorem dX11_findMark_8 : decode cX11_findMark 8 = .ok (.lconst 0, 1) := by decide +kernel
theorem dX11_findMark_9 : decode cX11_findMark 9 = .ok (.lstore_n 3, 1) := by decide +kernel
theorem dX11_findMark_10 : decode cX11_findMark 10 = .ok (.iconst 0, 1) := by decide +kernel
theorem dX11_findMark_11 : decode cX11_findMark 11 = .ok (.istore 5, 2) := by decide +kernel
theorem dX11_findMark_13 : decode cX11_findMark 13 = .ok (.iload 5, 2) := by decide +kernel
theorem dX11_findMark_15 : decode cX11_findMark 15 = .ok (.aload_n 0, 1) := by decide +kernel
theorem dX11_findMark_16 : decode cX11_findMark 16 = .ok (.getfield 34, 3) := by decide +kernel
theorem dX11_findMark_19 : decode cX11_findMark 19 = .ok (.getfield 72, 3) := by decide +kernel
theorem dX11_findMark_22 : decode cX11_findMark 22 = .ok (.if_icmp .ge 90, 3) := by decide +kernel
theorem dX11_findMark_25 : decode cX11_findMark 25 = .ok (.aload_n 0, 1) := by decide +kernel
theorem dX11_findMark_26 : decode cX11_findMark 26 = .ok (.getfield 34, 3) := by decide +kernel
theorem dX11_findMark_29 : decode cX11_findMark 29 = .ok (.iload 5, 2) := by decide +kernel
theorem dX11_findMark_31 : decode cX11_findMark 31 = .ok (.invokevirtual 106, 3) := by decide +kernel
theorem dX11_findMark_34 : decode cX11_findMark 34 = .ok (.istore 6, 2) := by decide +kernel
theorem dX11_findMark_36 : decode cX11_findMark 36 = .ok (.bipush 7, 2) := by decide +kernel
theorem dX11_findMark_38 : decode cX11_findMark 38 = .ok (.istore 7, 2) := by decide +kernel
theorem dX11_findMark_40 : decode cX11_findMark 40 = .ok (.iload 7, 2) := by decide +kernel
theorem dX11_findMark_42 : decode cX11_findMark 42 = .ok (.ifCond .lt 64, 3) := by decide +kernel
theorem dX11_findMark_45 : decode cX11_findMark 45 = .ok (.lload_n 3, 1) := by decide +kernel
theorem dX11_findMark_46 : decode cX11_findMark 46 = .ok (.iconst 1, 1) := by decide +kernel
theorem dX11_findMark_47 : decode cX11_findMark 47 = .ok (.lshl, 1) := by decide +kernel
theorem dX11_findMark_48 : decode cX11_findMark 48 = .ok (.iload 6, 2) := by decide +kernel
theorem dX11_findMark_50 : decode cX11_findMark 50 = .ok (.iload 7, 2) := by decide +kernel
theorem dX11_findMark_52 : decode cX11_findMark 52 = .ok (.ishr, 1) := by decide +kernel
theorem dX11_findMark_53 : decode cX11_findMark 53 = .ok (.iconst 1, 1) := by decide +kernel
theorem dX11_findMark_54 : decode cX11_findMark 54 = .ok (.iand, 1) := by decide +kernel
theorem dX11_findMark_55 : decode cX11_findMark 55 = .ok (.i2l, 1) := by decide +kernel
theorem dX11_findMark_56 : decode cX11_findMark 56 = .ok (.lor, 1) := by decide +kernel
theorem dX11_findMark_57 : decode cX11_findMark 57 = .ok (.ldc2_w 159, 3) := by decide +kernel
theorem dX11_findMark_60 : decode cX11_findMark 60 = .ok (.land, 1) := by decide +kernel
theorem dX11_findMark_61 : decode cX11_findMark 61 = .ok (.lstore_n 3, 1) := by decide +kernel
theorem dX11_findMark_62 : decode cX11_findMark 62 = .ok (.bipush 8, 2) := by decide +kernel
theorem dX11_findMark_64 : decode cX11_findMark 64 = .ok (.iload 5, 2) := by decide +kernel
theorem dX11_findMark_66 : decode cX11_findMark 66 = .ok (.iconst 1, 1) := by decide +kernel
theorem dX11_findMark_67 : decode cX11_findMark 67 = .ok (.iadd, 1) := by decide +kernel
theorem dX11_findMark_68 : decode cX11_findMark 68 = .ok (.imul, 1) := by decide +kernel
theorem dX11_findMark_69 : decode cX11_findMark 69 = .ok (.iload 7, 2) := by decide +kernel
theorem dX11_findMark_71 : decode cX11_findMark 71 = .ok (.isub, 1) := by decide +kernel
theorem dX11_findMark_72 : decode cX11_findMark 72 = .ok (.bipush 48, 2) := by decide +kernel
theorem dX11_findMark_74 : decode cX11_findMark 74 = .ok (.isub, 1) := by decide +kernel
theorem dX11_findMark_75 : decode cX11_findMark 75 = .ok (.istore 8, 2) := by decide +kernel
theorem dX11_findMark_77 : decode cX11_findMark 77 = .ok (.iload 8, 2) := by decide +kernel
theorem dX11_findMark_79 : decode cX11_findMark 79 = .ok (.ifCond .lt 21, 3) := by decide +kernel
theorem dX11_findMark_82 : decode cX11_findMark 82 = .ok (.lload_n 3, 1) := by decide +kernel
theorem dX11_findMark_83 : decode cX11_findMark 83 = .ok (.ldc2_w 161, 3) := by decide +kernel
theorem dX11_findMark_86 : decode cX11_findMark 86 = .ok (.lcmp, 1) := by decide +kernel
theorem dX11_findMark_87 : decode cX11_findMark 87 = .ok (.ifCond .ne 13, 3) := by decide +kernel
theorem dX11_findMark_90 : decode cX11_findMark 90 = .ok (.iload_n 2, 1) := by decide +kernel
theorem dX11_findMark_91 : decode cX11_findMark 91 = .ok (.ifCond .ne 6, 3) := by decide +kernel
theorem dX11_findMark_94 : decode cX11_findMark 94 = .ok (.iload 8, 2) := by decide +kernel
theorem dX11_findMark_96 : decode cX11_findMark 96 = .ok (.ireturn, 1) := by decide +kernel
theorem dX11_findMark_97 : decode cX11_findMark 97 = .ok (.iinc 2 (-1), 3) := by decide +kernel
theorem dX11_findMark_100 : decode cX11_findMark 100 = .ok (.iinc 7 (-1), 3) := by decide +kernel
theorem dX11_findMark_103 : decode cX11_findMark 103 = .ok (.goto (-63), 3) := by decide +kernel
theorem dX11_findMark_106 : decode cX11_findMark 106 = .ok (.iinc 5 1, 3) := by decide +kernel
theorem dX11_findMark_109 : decode cX11_findMark 109 = .ok (.goto (-96), 3) := by decide +kernel
theorem dX11_findMark_112 : decode cX11_findMark 112 = .ok (.iconst (-1), 1) := by decide +kernel
theorem dX11_findMark_113 : decode cX11_findMark 113 = .ok (.ireturn, 1) := by decide +kernel
theorem dX11_stepSum_0 : decode cX11_stepSum 0 = .ok (.iload_n 0, 1) := by decide +kernel
theorem dX11_stepSum_1 : decode cX11_stepSum 1 = .ok (.iload_n 1, 1) := by decide +kernel
theorem dX11_stepSum_2 : decode cX11_stepSum 2 = .ok (.bipush 24, 2) := by decide +kernel
theorem dX11_stepSum_4 : decode cX11_stepSum 4 = .ok (.ishl, 1) := by decide +kernel
theorem dX11_stepSum_5 : decode cX11_stepSum 5 = .ok (.ixor, 1) := by decide +kernel
theorem dX11_stepSum_6 : decode cX11_stepSum 6 = .ok (.istore_n 2, 1) := by decide +kernel
theorem dX11_stepSum_7 : decode cX11_stepSum 7 = .ok (.iconst 0, 1) := by decide +kernel
theorem dX11_stepSum_8 : decode cX11_stepSum 8 = .ok (.istore_n 3, 1) := by decide +kernel
theorem dX11_stepSum_9 : decode cX11_stepSum 9 = .ok (.iload_n 3, 1) := by decide +kernel
theorem dX11_stepSum_10 : decode cX11_stepSum 10 = .ok (.bipush 8, 2) := by decide +kernel
theorem dX11_stepSum_12 : decode cX11_stepSum 12 = .ok (.if_icmp .ge 26, 3) := by decide +kernel
theorem dX11_stepSum_15 : decode cX11_stepSum 15 = .ok (.iload_n 2, 1) := by decide +kernel
theorem dX11_stepSum_16 : decode cX11_stepSum 16 = .ok (.ifCond .ge 12, 3) := by decide +kernel
theorem dX11_stepSum_19 : decode cX11_stepSum 19 = .ok (.iload_n 2, 1) := by decide +kernel
theorem dX11_stepSum_20 : decode cX11_stepSum 20 = .ok (.iconst 1, 1) := by decide +kernel
theorem dX11_stepSum_21 : decode cX11_stepSum 21 = .ok (.ishl, 1) := by decide +kernel
theorem dX11_stepSum_22 : decode cX11_stepSum 22 = .ok (.ldc 163, 2) := by decide +kernel
theorem dX11_stepSum_24 : decode cX11_stepSum 24 = .ok (.ixor, 1) := by decide +kernel
theorem dX11_stepSum_25 : decode cX11_stepSum 25 = .ok (.goto 6, 3) := by decide +kernel
theorem dX11_stepSum_28 : decode cX11_stepSum 28 = .ok (.iload_n 2, 1) := by decide +kernel
theorem dX11_stepSum_29 : decode cX11_stepSum 29 = .ok (.iconst 1, 1) := by decide +kernel
theorem dX11_stepSum_30 : decode cX11_stepSum 30 = .ok (.ishl, 1) := by decide +kernel
theorem dX11_stepSum_31 : decode cX11_stepSum 31 = .ok (.istore_n 2, 1) := by decide +kernel
theorem dX11_stepSum_32 : decode cX11_stepSum 32 = .ok (.iinc 3 1, 3) := by decide +kernel
theorem dX11_stepSum_35 : decode cX11_stepSum 35 = .ok (.goto (-26), 3) := by decide +kernel
theorem dX11_stepSum_38 : decode cX11_stepSum 38 = .ok (.iload_n 2, 1) := by decide +kernel
theorem dX11_stepSum_39 : decode cX11_stepSum 39 = .ok (.ireturn, 1) := by decide +kernel
theorem dX11_joinSums_0 : decode cX11_joinSums 0 = .ok (.iload_n 0, 1) := by decide +kernel
theorem dX11_joinSums_1 : decode cX11_joinSums 1 = .ok (.iconst 1, 1) := by decide +kernel
theorem dX11_joinSums_2 : decode cX11_joinSums 2 = .ok (.ishl, 1) := by decide +kernel
theorem dX11_joinSums_3 : decode cX11_joinSums 3 = .ok (.iload_n 0, 1) := by decide +kernel
theorem dX11_joinSums_4 : decode cX11_joinSums 4 = .ok (.bipush 31, 2) := by decide +kernel
theorem dX11_joinSums_6 : decode cX11_joinSums 6 = .ok (.iushr, 1) := by decide +kernel
theorem dX11_joinSums_7 : decode cX11_joinSums 7 = .ok (.ior, 1) := by decide +kernel
theorem dX11_joinSums_8 : decode cX11_joinSums 8 = .ok (.iload_n 1, 1) := by decide +kernel
theorem dX11_joinSums_9 : decode cX11_joinSums 9 = .ok (.ixor, 1) := by decide +kernel
theorem dX11_joinSums_10 : decode cX11_joinSums 10 = .ok (.ireturn, 1) := by decide +kernel
theorem dX12_init_0 : decode cX12_init 0 = .ok (.aload_n 0, 1) := by decide +kernel
theorem dX12_init_1 : decode cX12_init 1 = .ok (.aconst_null, 1) := by decide +kernel
theorem dX12_init_2 : decode cX12_init 2 = .ok (.aconst_null, 1) := by decide +kernel
theorem dX12_init_3 : decode cX12_init 3 = .ok (.iconst 0, 1) := by decide +kernel
theorem dX12_init_4 : decode cX12_init 4 = .ok (.iconst 0, 1) := by decide +kernel
theorem dX12_init_5 : decode cX12_init 5 = .ok (.invokespecial 1, 3) := by decide +kernel
theorem dX12_init_8 : decode cX12_init 8 = .ok (.return_, 1) := by decide +kernel
theorem dX13_thrown_0 : decode cX13_thrown 0 = .ok (.aload_n 0, 1) := by decide +kernel
theorem dX13_thrown_1 : decode cX13_thrown 1 = .ok (.getfield 1, 3) := by decide +kernel
theorem dX13_thrown_4 : decode cX13_thrown 4 = .ok (.ireturn, 1) := by decide +kernel
theorem dX13_in_0 : decode cX13_in 0 = .ok (.lload_n 0, 1) := by decide +kernel
theorem dX13_in_1 : decode cX13_in 1 = .ok (.lload_n 2, 1) := by decide +kernel
theorem dX13_in_2 : decode cX13_in 2 = .ok (.lcmp, 1) := by decide +kernel
theorem dX13_in_3 : decode cX13_in 3 = .ok (.ifCond .lt 14, 3) := by decide +kernel
theorem dX13_in_6 : decode cX13_in 6 = .ok (.lload_n 0, 1) := by decide +kernel
theorem dX13_in_7 : decode cX13_in 7 = .ok (.lload 4, 2) := by decide +kernel
theorem dX13_in_9 : decode cX13_in 9 = .ok (.lcmp, 1) := by decide +kernel
theorem dX13_in_10 : decode cX13_in 10 = .ok (.ifCond .gt 7, 3) := by decide +kernel
theorem dX13_in_13 : decode cX13_in 13 = .ok (.iconst 1, 1) := by decide +kernel
theorem dX13_in_14 : decode cX13_in 14 = .ok (.goto 4, 3) := by decide +kernel
theorem dX13_in_17 : decode cX13_in 17 = .ok (.iconst 0, 1) := by decide +kernel
theorem dX13_in_18 : decode cX13_in 18 = .ok (.ireturn, 1) := by decide +kernel
theorem dX13_init_0 : decode cX13_init 0 = .ok (.aload_n 0, 1) := by decide +kernel
theorem dX13_init_1 : decode cX13_init 1 = .ok (.invokespecial 7, 3) := by decide +kernel
theorem dX13_init_4 : decode cX13_init 4 = .ok (.aload_n 0, 1) := by decide +kernel
theorem dX13_init_5 : decode cX13_init 5 = .ok (.new 13, 3) := by decide +kernel
theorem dX13_init_8 : decode cX13_init 8 = .ok (.dup, 1) := by decide +kernel
theorem dX13_init_9 : decode cX13_init 9 = .ok (.invokespecial 15, 3) := by decide +kernel
theorem dX13_init_12 : decode cX13_init 12 = .ok (.putfield 16, 3) := by decide +kernel
theorem dX13_init_15 : decode cX13_init 15 = .ok (.aload_n 0, 1) := by decide +kernel
theorem dX13_init_16 : decode cX13_init 16 = .ok (.sipush 1500, 3) := by decide +kernel
theorem dX13_init_19 : decode cX13_init 19 = .ok (.newarray .byte, 2) := by decide +kernel
theorem dX13_init_21 : decode cX13_init 21 = .ok (.putfield 20, 3) := by decide +kernel
theorem dX13_init_24 : decode cX13_init 24 = .ok (.aload_n 0, 1) := by decide +kernel
theorem dX13_init_25 : decode cX13_init 25 = .ok (.sipush 4100, 3) := by decide +kernel
theorem dX13_init_28 : decode cX13_init 28 = .ok (.newarray .byte, 2) := by decide +kernel
theorem dX13_init_30 : decode cX13_init 30 = .ok (.putfield 24, 3) := by decide +kernel
theorem dX13_init_33 : decode cX13_init 33 = .ok (.aload_n 0, 1) := by decide +kernel
theorem dX13_init_34 : decode cX13_init 34 = .ok (.sipush 1500, 3) := by decide +kernel
theorem dX13_init_37 : decode cX13_init 37 = .ok (.newarray .byte, 2) := by decide +kernel
theorem dX13_init_39 : decode cX13_init 39 = .ok (.putfield 27, 3) := by decide +kernel
theorem dX13_init_42 : decode cX13_init 42 = .ok (.aload_n 0, 1) := by decide +kernel
theorem dX13_init_43 : decode cX13_init 43 = .ok (.sipush 540, 3) := by decide +kernel
theorem dX13_init_46 : decode cX13_init 46 = .ok (.newarray .int, 2) := by decide +kernel
theorem dX13_init_48 : decode cX13_init 48 = .ok (.putfield 30, 3) := by decide +kernel
theorem dX13_init_51 : decode cX13_init 51 = .ok (.aload_n 0, 1) := by decide +kernel
theorem dX13_init_52 : decode cX13_init 52 = .ok (.bipush 60, 2) := by decide +kernel
theorem dX13_init_54 : decode cX13_init 54 = .ok (.newarray .int, 2) := by decide +kernel
