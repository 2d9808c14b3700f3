theorem f_83_38 (l : za_L) (st : List Value) (w : za_W) : za_n 83 (38, l, st, w) = za_x 83 (.if_icmp .ge 79) 38 l st w := za_n.at zcc_83 dX8_chooseAll_38 rfl
theorem f_83_41 (l : za_L) (st : List Value) (w : za_W) : za_n 83 (41, l, st, w) = za_x 83 (.iload 4) 41 l st w := za_n.at zcc_83 dX8_chooseAll_41 rfl
theorem f_83_43 (l : za_L) (st : List Value) (w : za_W) : za_n 83 (43, l, st, w) = za_go 45 l (.int (50) :: st) w := (za_n.at zcc_83 dX8_chooseAll_43 rfl).trans (congrArg (fun x => za_go 45 l (.int x :: st) w) (by decide))
theorem f_83_45 (l : za_L) (st : List Value) (w : za_W) : za_n 83 (45, l, st, w) = za_x 83 (.imul) 45 l st w := za_n.at zcc_83 dX8_chooseAll_45 rfl
theorem f_83_46 (l : za_L) (st : List Value) (w : za_W) : za_n 83 (46, l, st, w) = za_x 83 (.istore 5) 46 l st w := za_n.at zcc_83 dX8_chooseAll_46 rfl
theorem f_83_48 (l : za_L) (st : List Value) (w : za_W) : za_n 83 (48, l, st, w) = za_x 83 (.iload_n 2) 48 l st w := za_n.at zcc_83 dX8_chooseAll_48 rfl
theorem f_83_49 (l : za_L) (st : List Value) (w : za_W) : za_n 83 (49, l, st, w) = za_x 83 (.iload 5) 49 l st w := za_n.at zcc_83 dX8_chooseAll_49 rfl
theorem f_83_51 (l : za_L) (st : List Value) (w : za_W) : za_n 83 (51, l, st, w) = za_go 53 l (.int (50) :: st) w := (za_n.at zcc_83 dX8_chooseAll_51 rfl).trans (congrArg (fun x => za_go 53 l (.int x :: st) w) (by decide))
theorem f_83_53 (l : za_L) (st : List Value) (w : za_W) : za_n 83 (53, l, st, w) = za_x 83 (.iadd) 53 l st w := za_n.at zcc_83 dX8_chooseAll_53 rfl
theorem f_83_54 (l : za_L) (st : List Value) (w : za_W) : za_n 83 (54, l, st, w) = za_x 83 (.invokestatic 68) 54 l st w := za_n.at zcc_83 dX8_chooseAll_54 rfl
theorem f_83_57 (l : za_L) (st : List Value) (w : za_W) : za_n 83 (57, l, st, w) = za_x 83 (.istore 6) 57 l st w := za_n.at zcc_83 dX8_chooseAll_57 rfl
theorem f_83_59 (l : za_L) (st : List Value) (w : za_W) : za_n 83 (59, l, st, w) = za_x 83 (.aload_n 1) 59 l st w := za_n.at zcc_83 dX8_chooseAll_59 rfl
theorem f_83_60 (l : za_L) (st : List Value) (w : za_W) : za_n 83 (60, l, st, w) = za_x 83 (.iload 5) 60 l st w := za_n.at zcc_83 dX8_chooseAll_60 rfl
theorem f_83_62 (l : za_L) (st : List Value) (w : za_W) : za_n 83 (62, l, st, w) = za_x 83 (.iload 6) 62 l st w := za_n.at zcc_83 dX8_chooseAll_62 rfl
theorem f_83_64 (l : za_L) (st : List Value) (w : za_W) : za_n 83 (64, l, st, w) = za_x 83 (.aload_n 3) 64 l st w := za_n.at zcc_83 dX8_chooseAll_64 rfl
theorem f_83_65 (l : za_L) (st : List Value) (w : za_W) : za_n 83 (65, l, st, w) = za_x 83 (.invokestatic 74) 65 l st w := za_n.at zcc_83 dX8_chooseAll_65 rfl
theorem f_83_68 (l : za_L) (st : List Value) (w : za_W) : za_n 83 (68, l, st, w) = za_x 83 (.istore 7) 68 l st w := za_n.at zcc_83 dX8_chooseAll_68 rfl
theorem f_83_70 (l : za_L) (st : List Value) (w : za_W) : za_n 83 (70, l, st, w) = za_x 83 (.aload_n 3) 70 l st w := za_n.at zcc_83 dX8_chooseAll_70 rfl
theorem f_83_71 (l : za_L) (st : List Value) (w : za_W) : za_n 83 (71, l, st, w) = za_x 83 (.iload 4) 71 l st w := za_n.at zcc_83 dX8_chooseAll_71 rfl
theorem f_83_73 (l : za_L) (st : List Value) (w : za_W) : za_n 83 (73, l, st, w) = za_x 83 (.iload 7) 73 l st w := za_n.at zcc_83 dX8_chooseAll_73 rfl
theorem f_83_75 (l : za_L) (st : List Value) (w : za_W) : za_n 83 (75, l, st, w) = za_x 83 (.invokevirtual 78) 75 l st w := za_n.at zcc_83 dX8_chooseAll_75 rfl
theorem f_83_78 (l : za_L) (st : List Value) (w : za_W) : za_n 83 (78, l, st, w) = za_x 83 (.iload 5) 78 l st w := za_n.at zcc_83 dX8_chooseAll_78 rfl
theorem f_83_80 (l : za_L) (st : List Value) (w : za_W) : za_n 83 (80, l, st, w) = za_x 83 (.istore 8) 80 l st w := za_n.at zcc_83 dX8_chooseAll_80 rfl
theorem f_83_82 (l : za_L) (st : List Value) (w : za_W) : za_n 83 (82, l, st, w) = za_x 83 (.iload 8) 82 l st w := za_n.at zcc_83 dX8_chooseAll_82 rfl
theorem f_83_84 (l : za_L) (st : List Value) (w : za_W) : za_n 83 (84, l, st, w) = za_x 83 (.iload 6) 84 l st w := za_n.at zcc_83 dX8_chooseAll_84 rfl
theorem f_83_86 (l : za_L) (st : List Value) (w : za_W) : za_n 83 (86, l, st, w) = za_x 83 (.if_icmp .ge 25) 86 l st w := za_n.at zcc_83 dX8_chooseAll_86 rfl
theorem f_83_89 (l : za_L) (st : List Value) (w : za_W) : za_n 83 (89, l, st, w) = za_x 83 (.aload_n 0) 89 l st w := za_n.at zcc_83 dX8_chooseAll_89 rfl
theorem f_83_90 (l : za_L) (st : List Value) (w : za_W) : za_n 83 (90, l, st, w) = za_x 83 (.getfield 11) 90 l st w := za_n.at zcc_83 dX8_chooseAll_90 rfl
theorem f_83_93 (l : za_L) (st : List Value) (w : za_W) : za_n 83 (93, l, st, w) = za_x 83 (.iload 7) 93 l st w := za_n.at zcc_83 dX8_chooseAll_93 rfl
theorem f_83_95 (l : za_L) (st : List Value) (w : za_W) : za_n 83 (95, l, st, w) = za_x 83 (.aaload) 95 l st w := za_n.at zcc_83 dX8_chooseAll_95 rfl
theorem f_83_96 (l : za_L) (st : List Value) (w : za_W) : za_n 83 (96, l, st, w) = za_x 83 (.aload_n 1) 96 l st w := za_n.at zcc_83 dX8_chooseAll_96 rfl
theorem f_83_97 (l : za_L) (st : List Value) (w : za_W) : za_n 83 (97, l, st, w) = za_x 83 (.iload 8) 97 l st w := za_n.at zcc_83 dX8_chooseAll_97 rfl
theorem f_83_99 (l : za_L) (st : List Value) (w : za_W) : za_n 83 (99, l, st, w) = za_x 83 (.iaload) 99 l st w := za_n.at zcc_83 dX8_chooseAll_99 rfl
theorem f_83_100 (l : za_L) (st : List Value) (w : za_W) : za_n 83 (100, l, st, w) = za_x 83 (.dup2) 100 l st w := za_n.at zcc_83 dX8_chooseAll_100 rfl
theorem f_83_101 (l : za_L) (st : List Value) (w : za_W) : za_n 83 (101, l, st, w) = za_x 83 (.iaload) 101 l st w := za_n.at zcc_83 dX8_chooseAll_101 rfl
theorem f_83_102 (l : za_L) (st : List Value) (w : za_W) : za_n 83 (102, l, st, w) = za_go 103 l (.int (1) :: st) w := (za_n.at zcc_83 dX8_chooseAll_102 rfl).trans (congrArg (fun x => za_go 103 l (.int x :: st) w) (by decide))
theorem f_83_103 (l : za_L) (st : List Value) (w : za_W) : za_n 83 (103, l, st, w) = za_x 83 (.iadd) 103 l st w := za_n.at zcc_83 dX8_chooseAll_103 rfl
theorem f_83_104 (l : za_L) (st : List Value) (w : za_W) : za_n 83 (104, l, st, w) = za_x 83 (.iastore) 104 l st w := za_n.at zcc_83 dX8_chooseAll_104 rfl
theorem f_83_105 (l : za_L) (st : List Value) (w : za_W) : za_n 83 (105, l, st, w) = za_x 83 (.iinc 8 1) 105 l st w := za_n.at zcc_83 dX8_chooseAll_105 rfl
theorem f_83_108 (l : za_L) (st : List Value) (w : za_W) : za_n 83 (108, l, st, w) = za_go 82 l st w := (za_n.at zcc_83 dX8_chooseAll_108 rfl).trans (za_jp.at (by decide))
theorem f_83_111 (l : za_L) (st : List Value) (w : za_W) : za_n 83 (111, l, st, w) = za_x 83 (.iinc 4 1) 111 l st w := za_n.at zcc_83 dX8_chooseAll_111 rfl
theorem f_83_114 (l : za_L) (st : List Value) (w : za_W) : za_n 83 (114, l, st, w) = za_go 32 l st w := (za_n.at zcc_83 dX8_chooseAll_114 rfl).trans (za_jp.at (by decide))
theorem f_83_117 (l : za_L) (st : List Value) (w : za_W) : za_n 83 (117, l, st, w) = za_x 83 (.return_) 117 l st w := za_n.at zcc_83 dX8_chooseAll_117 rfl
theorem f_84_0 (l : za_L) (st : List Value) (w : za_W) : za_n 84 (0, l, st, w) = za_go 1 l (.int (0) :: st) w := (za_n.at zcc_84 dX8_cheapest_0 rfl).trans (congrArg (fun x => za_go 1 l (.int x :: st) w) (by decide))
theorem f_84_1 (l : za_L) (st : List Value) (w : za_W) : za_n 84 (1, l, st, w) = za_x 84 (.istore 4) 1 l st w := za_n.at zcc_84 dX8_cheapest_1 rfl
theorem f_84_3 (l : za_L) (st : List Value) (w : za_W) : za_n 84 (3, l, st, w) = za_go 4 l (.int (0) :: st) w := (za_n.at zcc_84 dX8_cheapest_3 rfl).trans (congrArg (fun x => za_go 4 l (.int x :: st) w) (by decide))
theorem f_84_4 (l : za_L) (st : List Value) (w : za_W) : za_n 84 (4, l, st, w) = za_x 84 (.istore 5) 4 l st w := za_n.at zcc_84 dX8_cheapest_4 rfl
theorem f_84_6 (l : za_L) (st : List Value) (w : za_W) : za_n 84 (6, l, st, w) = za_go 7 l (.int (0) :: st) w := (za_n.at zcc_84 dX8_cheapest_6 rfl).trans (congrArg (fun x => za_go 7 l (.int x :: st) w) (by decide))
theorem f_84_7 (l : za_L) (st : List Value) (w : za_W) : za_n 84 (7, l, st, w) = za_x 84 (.istore 6) 7 l st w := za_n.at zcc_84 dX8_cheapest_7 rfl
theorem f_84_9 (l : za_L) (st : List Value) (w : za_W) : za_n 84 (9, l, st, w) = za_x 84 (.iload 6) 9 l st w := za_n.at zcc_84 dX8_cheapest_9 rfl
theorem f_84_11 (l : za_L) (st : List Value) (w : za_W) : za_n 84 (11, l, st, w) = za_x 84 (.aload_n 3) 11 l st w := za_n.at zcc_84 dX8_cheapest_11 rfl
theorem f_84_12 (l : za_L) (st : List Value) (w : za_W) : za_n 84 (12, l, st, w) = za_x 84 (.getfield 36) 12 l st w := za_n.at zcc_84 dX8_cheapest_12 rfl
theorem f_84_15 (l : za_L) (st : List Value) (w : za_W) : za_n 84 (15, l, st, w) = za_x 84 (.if_icmp .ge 64) 15 l st w := za_n.at zcc_84 dX8_cheapest_15 rfl
theorem f_84_18 (l : za_L) (st : List Value) (w : za_W) : za_n 84 (18, l, st, w) = za_go 19 l (.int (0) :: st) w := (za_n.at zcc_84 dX8_cheapest_18 rfl).trans (congrArg (fun x => za_go 19 l (.int x :: st) w) (by decide))
theorem f_84_19 (l : za_L) (st : List Value) (w : za_W) : za_n 84 (19, l, st, w) = za_x 84 (.istore 7) 19 l st w := za_n.at zcc_84 dX8_cheapest_19 rfl
theorem f_84_21 (l : za_L) (st : List Value) (w : za_W) : za_n 84 (21, l, st, w) = za_x 84 (.iload_n 1) 21 l st w := za_n.at zcc_84 dX8_cheapest_21 rfl
theorem f_84_22 (l : za_L) (st : List Value) (w : za_W) : za_n 84 (22, l, st, w) = za_x 84 (.istore 8) 22 l st w := za_n.at zcc_84 dX8_cheapest_22 rfl
theorem f_84_24 (l : za_L) (st : List Value) (w : za_W) : za_n 84 (24, l, st, w) = za_x 84 (.iload 8) 24 l st w := za_n.at zcc_84 dX8_cheapest_24 rfl
theorem f_84_26 (l : za_L) (st : List Value) (w : za_W) : za_n 84 (26, l, st, w) = za_x 84 (.iload_n 2) 26 l st w := za_n.at zcc_84 dX8_cheapest_26 rfl
theorem f_84_27 (l : za_L) (st : List Value) (w : za_W) : za_n 84 (27, l, st, w) = za_x 84 (.if_icmp .ge 26) 27 l st w := za_n.at zcc_84 dX8_cheapest_27 rfl
theorem f_84_30 (l : za_L) (st : List Value) (w : za_W) : za_n 84 (30, l, st, w) = za_x 84 (.iload 7) 30 l st w := za_n.at zcc_84 dX8_cheapest_30 rfl
theorem f_84_32 (l : za_L) (st : List Value) (w : za_W) : za_n 84 (32, l, st, w) = za_x 84 (.aload_n 3) 32 l st w := za_n.at zcc_84 dX8_cheapest_32 rfl
theorem f_84_33 (l : za_L) (st : List Value) (w : za_W) : za_n 84 (33, l, st, w) = za_x 84 (.getfield 55) 33 l st w := za_n.at zcc_84 dX8_cheapest_33 rfl
theorem f_84_36 (l : za_L) (st : List Value) (w : za_W) : za_n 84 (36, l, st, w) = za_x 84 (.iload 6) 36 l st w := za_n.at zcc_84 dX8_cheapest_36 rfl
theorem f_84_38 (l : za_L) (st : List Value) (w : za_W) : za_n 84 (38, l, st, w) = za_x 84 (.aaload) 38 l st w := za_n.at zcc_84 dX8_cheapest_38 rfl
theorem f_84_39 (l : za_L) (st : List Value) (w : za_W) : za_n 84 (39, l, st, w) = za_x 84 (.aload_n 0) 39 l st w := za_n.at zcc_84 dX8_cheapest_39 rfl
theorem f_84_40 (l : za_L) (st : List Value) (w : za_W) : za_n 84 (40, l, st, w) = za_x 84 (.iload 8) 40 l st w := za_n.at zcc_84 dX8_cheapest_40 rfl
theorem f_84_42 (l : za_L) (st : List Value) (w : za_W) : za_n 84 (42, l, st, w) = za_x 84 (.iaload) 42 l st w := za_n.at zcc_84 dX8_cheapest_42 rfl
theorem f_84_43 (l : za_L) (st : List Value) (w : za_W) : za_n 84 (43, l, st, w) = za_x 84 (.iaload) 43 l st w := za_n.at zcc_84 dX8_cheapest_43 rfl
theorem f_84_44 (l : za_L) (st : List Value) (w : za_W) : za_n 84 (44, l, st, w) = za_x 84 (.iadd) 44 l st w := za_n.at zcc_84 dX8_cheapest_44 rfl
theorem f_84_45 (l : za_L) (st : List Value) (w : za_W) : za_n 84 (45, l, st, w) = za_x 84 (.istore 7) 45 l st w := za_n.at zcc_84 dX8_cheapest_45 rfl
theorem f_84_47 (l : za_L) (st : List Value) (w : za_W) : za_n 84 (47, l, st, w) = za_x 84 (.iinc 8 1) 47 l st w := za_n.at zcc_84 dX8_cheapest_47 rfl
theorem f_84_50 (l : za_L) (st : List Value) (w : za_W) : za_n 84 (50, l, st, w) = za_go 24 l st w := (za_n.at zcc_84 dX8_cheapest_50 rfl).trans (za_jp.at (by decide))
theorem f_84_53 (l : za_L) (st : List Value) (w : za_W) : za_n 84 (53, l, st, w) = za_x 84 (.iload 6) 53 l st w := za_n.at zcc_84 dX8_cheapest_53 rfl
theorem f_84_55 (l : za_L) (st : List Value) (w : za_W) : za_n 84 (55, l, st, w) = za_x 84 (.ifCond .eq 10) 55 l st w := za_n.at zcc_84 dX8_cheapest_55 rfl
theorem f_84_58 (l : za_L) (st : List Value) (w : za_W) : za_n 84 (58, l, st, w) = za_x 84 (.iload 7) 58 l st w := za_n.at zcc_84 dX8_cheapest_58 rfl
theorem f_84_60 (l : za_L) (st : List Value) (w : za_W) : za_n 84 (60, l, st, w) = za_x 84 (.iload 5) 60 l st w := za_n.at zcc_84 dX8_cheapest_60 rfl
theorem f_84_62 (l : za_L) (st : List Value) (w : za_W) : za_n 84 (62, l, st, w) = za_x 84 (.if_icmp .ge 11) 62 l st w := za_n.at zcc_84 dX8_cheapest_62 rfl
theorem f_84_65 (l : za_L) (st : List Value) (w : za_W) : za_n 84 (65, l, st, w) = za_x 84 (.iload 7) 65 l st w := za_n.at zcc_84 dX8_cheapest_65 rfl
theorem f_84_67 (l : za_L) (st : List Value) (w : za_W) : za_n 84 (67, l, st, w) = za_x 84 (.istore 5) 67 l st w := za_n.at zcc_84 dX8_cheapest_67 rfl
theorem f_84_69 (l : za_L) (st : List Value) (w : za_W) : za_n 84 (69, l, st, w) = za_x 84 (.iload 6) 69 l st w := za_n.at zcc_84 dX8_cheapest_69 rfl
theorem f_84_71 (l : za_L) (st : List Value) (w : za_W) : za_n 84 (71, l, st, w) = za_x 84 (.istore 4) 71 l st w := za_n.at zcc_84 dX8_cheapest_71 rfl
theorem f_84_73 (l : za_L) (st : List Value) (w : za_W) : za_n 84 (73, l, st, w) = za_x 84 (.iinc 6 1) 73 l st w := za_n.at zcc_84 dX8_cheapest_73 rfl
theorem f_84_76 (l : za_L) (st : List Value) (w : za_W) : za_n 84 (76, l, st, w) = za_go 9 l st w := (za_n.at zcc_84 dX8_cheapest_76 rfl).trans (za_jp.at (by decide))
theorem f_84_79 (l : za_L) (st : List Value) (w : za_W) : za_n 84 (79, l, st, w) = za_x 84 (.iload 4) 79 l st w := za_n.at zcc_84 dX8_cheapest_79 rfl
theorem f_84_81 (l : za_L) (st : List Value) (w : za_W) : za_n 84 (81, l, st, w) = za_x 84 (.ireturn) 81 l st w := za_n.at zcc_84 dX8_cheapest_81 rfl
theorem f_85_0 (l : za_L) (st : List Value) (w : za_W) : za_n 85 (0, l, st, w) = za_go 1 l (.int (0) :: st) w := (za_n.at zcc_85 dX8_makeLengths_0 rfl).trans (congrArg (fun x => za_go 1 l (.int x :: st) w) (by decide))
theorem f_85_1 (l : za_L) (st : List Value) (w : za_W) : za_n 85 (1, l, st, w) = za_x 85 (.istore 4) 1 l st w := za_n.at zcc_85 dX8_makeLengths_1 rfl
theorem f_85_3 (l : za_L) (st : List Value) (w : za_W) : za_n 85 (3, l, st, w) = za_x 85 (.iload 4) 3 l st w := za_n.at zcc_85 dX8_makeLengths_3 rfl
theorem f_85_5 (l : za_L) (st : List Value) (w : za_W) : za_n 85 (5, l, st, w) = za_x 85 (.iload_n 2) 5 l st w := za_n.at zcc_85 dX8_makeLengths_5 rfl
theorem f_85_6 (l : za_L) (st : List Value) (w : za_W) : za_n 85 (6, l, st, w) = za_x 85 (.if_icmp .ge 24) 6 l st w := za_n.at zcc_85 dX8_makeLengths_6 rfl
theorem f_85_9 (l : za_L) (st : List Value) (w : za_W) : za_n 85 (9, l, st, w) = za_x 85 (.aload_n 0) 9 l st w := za_n.at zcc_85 dX8_makeLengths_9 rfl
theorem f_85_10 (l : za_L) (st : List Value) (w : za_W) : za_n 85 (10, l, st, w) = za_x 85 (.getfield 23) 10 l st w := za_n.at zcc_85 dX8_makeLengths_10 rfl
theorem f_85_13 (l : za_L) (st : List Value) (w : za_W) : za_n 85 (13, l, st, w) = za_x 85 (.iload 4) 13 l st w := za_n.at zcc_85 dX8_makeLengths_13 rfl
theorem f_85_15 (l : za_L) (st : List Value) (w : za_W) : za_n 85 (15, l, st, w) = za_go 16 l (.int (1) :: st) w := (za_n.at zcc_85 dX8_makeLengths_15 rfl).trans (congrArg (fun x => za_go 16 l (.int x :: st) w) (by decide))
theorem f_85_16 (l : za_L) (st : List Value) (w : za_W) : za_n 85 (16, l, st, w) = za_x 85 (.aload_n 1) 16 l st w := za_n.at zcc_85 dX8_makeLengths_16 rfl
theorem f_85_17 (l : za_L) (st : List Value) (w : za_W) : za_n 85 (17, l, st, w) = za_x 85 (.iload 4) 17 l st w := za_n.at zcc_85 dX8_makeLengths_17 rfl
theorem f_85_19 (l : za_L) (st : List Value) (w : za_W) : za_n 85 (19, l, st, w) = za_x 85 (.iaload) 19 l st w := za_n.at zcc_85 dX8_makeLengths_19 rfl
theorem f_85_20 (l : za_L) (st : List Value) (w : za_W) : za_n 85 (20, l, st, w) = za_x 85 (.invokestatic 82) 20 l st w := za_n.at zcc_85 dX8_makeLengths_20 rfl
theorem f_85_23 (l : za_L) (st : List Value) (w : za_W) : za_n 85 (23, l, st, w) = za_x 85 (.iastore) 23 l st w := za_n.at zcc_85 dX8_makeLengths_23 rfl
theorem f_85_24 (l : za_L) (st : List Value) (w : za_W) : za_n 85 (24, l, st, w) = za_x 85 (.iinc 4 1) 24 l st w := za_n.at zcc_85 dX8_makeLengths_24 rfl
theorem f_85_27 (l : za_L) (st : List Value) (w : za_W) : za_n 85 (27, l, st, w) = za_go 3 l st w := (za_n.at zcc_85 dX8_makeLengths_27 rfl).trans (za_jp.at (by decide))
theorem f_85_30 (l : za_L) (st : List Value) (w : za_W) : za_n 85 (30, l, st, w) = za_go 31 l (.int (0) :: st) w := (za_n.at zcc_85 dX8_makeLengths_30 rfl).trans (congrArg (fun x => za_go 31 l (.int x :: st) w) (by decide))
theorem f_85_31 (l : za_L) (st : List Value) (w : za_W) : za_n 85 (31, l, st, w) = za_x 85 (.istore 4) 31 l st w := za_n.at zcc_85 dX8_makeLengths_31 rfl
theorem f_85_33 (l : za_L) (st : List Value) (w : za_W) : za_n 85 (33, l, st, w) = za_x 85 (.iload 4) 33 l st w := za_n.at zcc_85 dX8_makeLengths_33 rfl
theorem f_85_35 (l : za_L) (st : List Value) (w : za_W) : za_n 85 (35, l, st, w) = za_go 37 l (.int (31) :: st) w := (za_n.at zcc_85 dX8_makeLengths_35 rfl).trans (congrArg (fun x => za_go 37 l (.int x :: st) w) (by decide))
theorem f_85_37 (l : za_L) (st : List Value) (w : za_W) : za_n 85 (37, l, st, w) = za_x 85 (.if_icmp .ge 59) 37 l st w := za_n.at zcc_85 dX8_makeLengths_37 rfl
theorem f_85_40 (l : za_L) (st : List Value) (w : za_W) : za_n 85 (40, l, st, w) = za_x 85 (.aload_n 0) 40 l st w := za_n.at zcc_85 dX8_makeLengths_40 rfl
theorem f_85_41 (l : za_L) (st : List Value) (w : za_W) : za_n 85 (41, l, st, w) = za_x 85 (.iload_n 2) 41 l st w := za_n.at zcc_85 dX8_makeLengths_41 rfl
theorem f_85_42 (l : za_L) (st : List Value) (w : za_W) : za_n 85 (42, l, st, w) = za_x 85 (.invokevirtual 85) 42 l st w := za_n.at zcc_85 dX8_makeLengths_42 rfl
theorem f_85_45 (l : za_L) (st : List Value) (w : za_W) : za_n 85 (45, l, st, w) = za_x 85 (.aload_n 0) 45 l st w := za_n.at zcc_85 dX8_makeLengths_45 rfl
theorem f_85_46 (l : za_L) (st : List Value) (w : za_W) : za_n 85 (46, l, st, w) = za_x 85 (.iload_n 2) 46 l st w := za_n.at zcc_85 dX8_makeLengths_46 rfl
theorem f_85_47 (l : za_L) (st : List Value) (w : za_W) : za_n 85 (47, l, st, w) = za_x 85 (.aload_n 3) 47 l st w := za_n.at zcc_85 dX8_makeLengths_47 rfl
theorem f_85_48 (l : za_L) (st : List Value) (w : za_W) : za_n 85 (48, l, st, w) = za_x 85 (.invokevirtual 89) 48 l st w := za_n.at zcc_85 dX8_makeLengths_48 rfl
theorem f_85_51 (l : za_L) (st : List Value) (w : za_W) : za_n 85 (51, l, st, w) = za_go 53 l (.int (17) :: st) w := (za_n.at zcc_85 dX8_makeLengths_51 rfl).trans (congrArg (fun x => za_go 53 l (.int x :: st) w) (by decide))
theorem f_85_53 (l : za_L) (st : List Value) (w : za_W) : za_n 85 (53, l, st, w) = za_x 85 (.if_icmp .gt 4) 53 l st w := za_n.at zcc_85 dX8_makeLengths_53 rfl
theorem f_85_56 (l : za_L) (st : List Value) (w : za_W) : za_n 85 (56, l, st, w) = za_x 85 (.return_) 56 l st w := za_n.at zcc_85 dX8_makeLengths_56 rfl
theorem f_85_57 (l : za_L) (st : List Value) (w : za_W) : za_n 85 (57, l, st, w) = za_go 58 l (.int (0) :: st) w := (za_n.at zcc_85 dX8_makeLengths_57 rfl).trans (congrArg (fun x => za_go 58 l (.int x :: st) w) (by decide))
theorem f_85_58 (l : za_L) (st : List Value) (w : za_W) : za_n 85 (58, l, st, w) = za_x 85 (.istore 5) 58 l st w := za_n.at zcc_85 dX8_makeLengths_58 rfl
theorem f_85_60 (l : za_L) (st : List Value) (w : za_W) : za_n 85 (60, l, st, w) = za_x 85 (.iload 5) 60 l st w := za_n.at zcc_85 dX8_makeLengths_60 rfl
theorem f_85_62 (l : za_L) (st : List Value) (w : za_W) : za_n 85 (62, l, st, w) = za_x 85 (.iload_n 2) 62 l st w := za_n.at zcc_85 dX8_makeLengths_62 rfl
theorem f_85_63 (l : za_L) (st : List Value) (w : za_W) : za_n 85 (63, l, st, w) = za_x 85 (.if_icmp .ge 27) 63 l st w := za_n.at zcc_85 dX8_makeLengths_63 rfl
theorem f_85_66 (l : za_L) (st : List Value) (w : za_W) : za_n 85 (66, l, st, w) = za_x 85 (.aload_n 0) 66 l st w := za_n.at zcc_85 dX8_makeLengths_66 rfl
theorem f_85_67 (l : za_L) (st : List Value) (w : za_W) : za_n 85 (67, l, st, w) = za_x 85 (.getfield 23) 67 l st w := za_n.at zcc_85 dX8_makeLengths_67 rfl
theorem f_85_70 (l : za_L) (st : List Value) (w : za_W) : za_n 85 (70, l, st, w) = za_x 85 (.iload 5) 70 l st w := za_n.at zcc_85 dX8_makeLengths_70 rfl
theorem f_85_72 (l : za_L) (st : List Value) (w : za_W) : za_n 85 (72, l, st, w) = za_x 85 (.aload_n 0) 72 l st w := za_n.at zcc_85 dX8_makeLengths_72 rfl
theorem f_85_73 (l : za_L) (st : List Value) (w : za_W) : za_n 85 (73, l, st, w) = za_x 85 (.getfield 23) 73 l st w := za_n.at zcc_85 dX8_makeLengths_73 rfl
theorem f_85_76 (l : za_L) (st : List Value) (w : za_W) : za_n 85 (76, l, st, w) = za_x 85 (.iload 5) 76 l st w := za_n.at zcc_85 dX8_makeLengths_76 rfl
theorem f_85_78 (l : za_L) (st : List Value) (w : za_W) : za_n 85 (78, l, st, w) = za_x 85 (.iaload) 78 l st w := za_n.at zcc_85 dX8_makeLengths_78 rfl
theorem f_85_79 (l : za_L) (st : List Value) (w : za_W) : za_n 85 (79, l, st, w) = za_go 80 l (.int (2) :: st) w := (za_n.at zcc_85 dX8_makeLengths_79 rfl).trans (congrArg (fun x => za_go 80 l (.int x :: st) w) (by decide))
theorem f_85_80 (l : za_L) (st : List Value) (w : za_W) : za_n 85 (80, l, st, w) = za_x 85 (.idiv) 80 l st w := za_n.at zcc_85 dX8_makeLengths_80 rfl
theorem f_85_81 (l : za_L) (st : List Value) (w : za_W) : za_n 85 (81, l, st, w) = za_go 82 l (.int (1) :: st) w := (za_n.at zcc_85 dX8_makeLengths_81 rfl).trans (congrArg (fun x => za_go 82 l (.int x :: st) w) (by decide))
theorem f_85_82 (l : za_L) (st : List Value) (w : za_W) : za_n 85 (82, l, st, w) = za_x 85 (.iadd) 82 l st w := za_n.at zcc_85 dX8_makeLengths_82 rfl
theorem f_85_83 (l : za_L) (st : List Value) (w : za_W) : za_n 85 (83, l, st, w) = za_x 85 (.iastore) 83 l st w := za_n.at zcc_85 dX8_makeLengths_83 rfl
theorem f_85_84 (l : za_L) (st : List Value) (w : za_W) : za_n 85 (84, l, st, w) = za_x 85 (.iinc 5 1) 84 l st w := za_n.at zcc_85 dX8_makeLengths_84 rfl
theorem f_85_87 (l : za_L) (st : List Value) (w : za_W) : za_n 85 (87, l, st, w) = za_go 60 l st w := (za_n.at zcc_85 dX8_makeLengths_87 rfl).trans (za_jp.at (by decide))
theorem f_85_90 (l : za_L) (st : List Value) (w : za_W) : za_n 85 (90, l, st, w) = za_x 85 (.iinc 4 1) 90 l st w := za_n.at zcc_85 dX8_makeLengths_90 rfl
theorem f_85_93 (l : za_L) (st : List Value) (w : za_W) : za_n 85 (93, l, st, w) = za_go 33 l st w := (za_n.at zcc_85 dX8_makeLengths_93 rfl).trans (za_jp.at (by decide))
theorem f_85_96 (l : za_L) (st : List Value) (w : za_W) : za_n 85 (96, l, st, w) = za_x 85 (.return_) 96 l st w := za_n.at zcc_85 dX8_makeLengths_96 rfl
theorem f_86_0 (l : za_L) (st : List Value) (w : za_W) : za_n 86 (0, l, st, w) = za_x 86 (.aload_n 0) 0 l st w := za_n.at zcc_86 dX8_joinAll_0 rfl
theorem f_86_1 (l : za_L) (st : List Value) (w : za_W) : za_n 86 (1, l, st, w) = za_x 86 (.iload_n 1) 1 l st w := za_n.at zcc_86 dX8_joinAll_1 rfl
theorem f_86_2 (l : za_L) (st : List Value) (w : za_W) : za_n 86 (2, l, st, w) = za_x 86 (.invokevirtual 93) 2 l st w := za_n.at zcc_86 dX8_joinAll_2 rfl
theorem f_86_5 (l : za_L) (st : List Value) (w : za_W) : za_n 86 (5, l, st, w) = za_x 86 (.aload_n 0) 5 l st w := za_n.at zcc_86 dX8_joinAll_5 rfl
theorem f_86_6 (l : za_L) (st : List Value) (w : za_W) : za_n 86 (6, l, st, w) = za_go 7 l (.int (0) :: st) w := (za_n.at zcc_86 dX8_joinAll_6 rfl).trans (congrArg (fun x => za_go 7 l (.int x :: st) w) (by decide))
theorem f_86_7 (l : za_L) (st : List Value) (w : za_W) : za_n 86 (7, l, st, w) = za_x 86 (.putfield 96) 7 l st w := za_n.at zcc_86 dX8_joinAll_7 rfl
theorem f_86_10 (l : za_L) (st : List Value) (w : za_W) : za_n 86 (10, l, st, w) = za_x 86 (.aload_n 0) 10 l st w := za_n.at zcc_86 dX8_joinAll_10 rfl
theorem f_86_11 (l : za_L) (st : List Value) (w : za_W) : za_n 86 (11, l, st, w) = za_x 86 (.iload_n 1) 11 l st w := za_n.at zcc_86 dX8_joinAll_11 rfl
theorem f_86_12 (l : za_L) (st : List Value) (w : za_W) : za_n 86 (12, l, st, w) = za_x 86 (.putfield 99) 12 l st w := za_n.at zcc_86 dX8_joinAll_12 rfl
theorem f_86_15 (l : za_L) (st : List Value) (w : za_W) : za_n 86 (15, l, st, w) = za_x 86 (.aload_n 0) 15 l st w := za_n.at zcc_86 dX8_joinAll_15 rfl
theorem f_86_16 (l : za_L) (st : List Value) (w : za_W) : za_n 86 (16, l, st, w) = za_x 86 (.iload_n 1) 16 l st w := za_n.at zcc_86 dX8_joinAll_16 rfl
theorem f_86_17 (l : za_L) (st : List Value) (w : za_W) : za_n 86 (17, l, st, w) = za_x 86 (.putfield 102) 17 l st w := za_n.at zcc_86 dX8_joinAll_17 rfl
theorem f_86_20 (l : za_L) (st : List Value) (w : za_W) : za_n 86 (20, l, st, w) = za_go 21 l (.int (2) :: st) w := (za_n.at zcc_86 dX8_joinAll_20 rfl).trans (congrArg (fun x => za_go 21 l (.int x :: st) w) (by decide))
theorem f_86_21 (l : za_L) (st : List Value) (w : za_W) : za_n 86 (21, l, st, w) = za_x 86 (.iload_n 1) 21 l st w := za_n.at zcc_86 dX8_joinAll_21 rfl
theorem f_86_22 (l : za_L) (st : List Value) (w : za_W) : za_n 86 (22, l, st, w) = za_x 86 (.imul) 22 l st w := za_n.at zcc_86 dX8_joinAll_22 rfl
theorem f_86_23 (l : za_L) (st : List Value) (w : za_W) : za_n 86 (23, l, st, w) = za_go 24 l (.int (1) :: st) w := (za_n.at zcc_86 dX8_joinAll_23 rfl).trans (congrArg (fun x => za_go 24 l (.int x :: st) w) (by decide))
theorem f_86_24 (l : za_L) (st : List Value) (w : za_W) : za_n 86 (24, l, st, w) = za_x 86 (.isub) 24 l st w := za_n.at zcc_86 dX8_joinAll_24 rfl
theorem f_86_25 (l : za_L) (st : List Value) (w : za_W) : za_n 86 (25, l, st, w) = za_x 86 (.istore_n 2) 25 l st w := za_n.at zcc_86 dX8_joinAll_25 rfl
theorem f_86_26 (l : za_L) (st : List Value) (w : za_W) : za_n 86 (26, l, st, w) = za_x 86 (.iload_n 1) 26 l st w := za_n.at zcc_86 dX8_joinAll_26 rfl
theorem f_86_27 (l : za_L) (st : List Value) (w : za_W) : za_n 86 (27, l, st, w) = za_x 86 (.istore_n 3) 27 l st w := za_n.at zcc_86 dX8_joinAll_27 rfl
theorem f_86_28 (l : za_L) (st : List Value) (w : za_W) : za_n 86 (28, l, st, w) = za_x 86 (.iload_n 3) 28 l st w := za_n.at zcc_86 dX8_joinAll_28 rfl
theorem f_86_29 (l : za_L) (st : List Value) (w : za_W) : za_n 86 (29, l, st, w) = za_x 86 (.iload_n 2) 29 l st w := za_n.at zcc_86 dX8_joinAll_29 rfl
theorem f_86_30 (l : za_L) (st : List Value) (w : za_W) : za_n 86 (30, l, st, w) = za_x 86 (.if_icmp .ge 67) 30 l st w := za_n.at zcc_86 dX8_joinAll_30 rfl
theorem f_86_33 (l : za_L) (st : List Value) (w : za_W) : za_n 86 (33, l, st, w) = za_x 86 (.aload_n 0) 33 l st w := za_n.at zcc_86 dX8_joinAll_33 rfl
theorem f_86_34 (l : za_L) (st : List Value) (w : za_W) : za_n 86 (34, l, st, w) = za_x 86 (.iload_n 1) 34 l st w := za_n.at zcc_86 dX8_joinAll_34 rfl
theorem f_86_35 (l : za_L) (st : List Value) (w : za_W) : za_n 86 (35, l, st, w) = za_x 86 (.invokevirtual 105) 35 l st w := za_n.at zcc_86 dX8_joinAll_35 rfl
theorem f_86_38 (l : za_L) (st : List Value) (w : za_W) : za_n 86 (38, l, st, w) = za_x 86 (.istore 4) 38 l st w := za_n.at zcc_86 dX8_joinAll_38 rfl
theorem f_86_40 (l : za_L) (st : List Value) (w : za_W) : za_n 86 (40, l, st, w) = za_x 86 (.aload_n 0) 40 l st w := za_n.at zcc_86 dX8_joinAll_40 rfl
theorem f_86_41 (l : za_L) (st : List Value) (w : za_W) : za_n 86 (41, l, st, w) = za_x 86 (.iload_n 1) 41 l st w := za_n.at zcc_86 dX8_joinAll_41 rfl
theorem f_86_42 (l : za_L) (st : List Value) (w : za_W) : za_n 86 (42, l, st, w) = za_x 86 (.invokevirtual 105) 42 l st w := za_n.at zcc_86 dX8_joinAll_42 rfl
theorem f_86_45 (l : za_L) (st : List Value) (w : za_W) : za_n 86 (45, l, st, w) = za_x 86 (.istore 5) 45 l st w := za_n.at zcc_86 dX8_joinAll_45 rfl
theorem f_86_47 (l : za_L) (st : List Value) (w : za_W) : za_n 86 (47, l, st, w) = za_x 86 (.aload_n 0) 47 l st w := za_n.at zcc_86 dX8_joinAll_47 rfl
theorem f_86_48 (l : za_L) (st : List Value) (w : za_W) : za_n 86 (48, l, st, w) = za_x 86 (.getfield 23) 48 l st w := za_n.at zcc_86 dX8_joinAll_48 rfl
theorem f_86_51 (l : za_L) (st : List Value) (w : za_W) : za_n 86 (51, l, st, w) = za_x 86 (.iload_n 3) 51 l st w := za_n.at zcc_86 dX8_joinAll_51 rfl
theorem f_86_52 (l : za_L) (st : List Value) (w : za_W) : za_n 86 (52, l, st, w) = za_x 86 (.aload_n 0) 52 l st w := za_n.at zcc_86 dX8_joinAll_52 rfl
theorem f_86_53 (l : za_L) (st : List Value) (w : za_W) : za_n 86 (53, l, st, w) = za_x 86 (.getfield 23) 53 l st w := za_n.at zcc_86 dX8_joinAll_53 rfl
theorem f_86_56 (l : za_L) (st : List Value) (w : za_W) : za_n 86 (56, l, st, w) = za_x 86 (.iload 4) 56 l st w := za_n.at zcc_86 dX8_joinAll_56 rfl
theorem f_86_58 (l : za_L) (st : List Value) (w : za_W) : za_n 86 (58, l, st, w) = za_x 86 (.iaload) 58 l st w := za_n.at zcc_86 dX8_joinAll_58 rfl
theorem f_86_59 (l : za_L) (st : List Value) (w : za_W) : za_n 86 (59, l, st, w) = za_x 86 (.aload_n 0) 59 l st w := za_n.at zcc_86 dX8_joinAll_59 rfl
theorem f_86_60 (l : za_L) (st : List Value) (w : za_W) : za_n 86 (60, l, st, w) = za_x 86 (.getfield 23) 60 l st w := za_n.at zcc_86 dX8_joinAll_60 rfl
theorem f_86_63 (l : za_L) (st : List Value) (w : za_W) : za_n 86 (63, l, st, w) = za_x 86 (.iload 5) 63 l st w := za_n.at zcc_86 dX8_joinAll_63 rfl
theorem f_86_65 (l : za_L) (st : List Value) (w : za_W) : za_n 86 (65, l, st, w) = za_x 86 (.iaload) 65 l st w := za_n.at zcc_86 dX8_joinAll_65 rfl
theorem f_86_66 (l : za_L) (st : List Value) (w : za_W) : za_n 86 (66, l, st, w) = za_x 86 (.iadd) 66 l st w := za_n.at zcc_86 dX8_joinAll_66 rfl
theorem f_86_67 (l : za_L) (st : List Value) (w : za_W) : za_n 86 (67, l, st, w) = za_x 86 (.iastore) 67 l st w := za_n.at zcc_86 dX8_joinAll_67 rfl
theorem f_86_68 (l : za_L) (st : List Value) (w : za_W) : za_n 86 (68, l, st, w) = za_x 86 (.aload_n 0) 68 l st w := za_n.at zcc_86 dX8_joinAll_68 rfl
theorem f_86_69 (l : za_L) (st : List Value) (w : za_W) : za_n 86 (69, l, st, w) = za_x 86 (.getfield 26) 69 l st w := za_n.at zcc_86 dX8_joinAll_69 rfl
theorem f_86_72 (l : za_L) (st : List Value) (w : za_W) : za_n 86 (72, l, st, w) = za_x 86 (.iload 4) 72 l st w := za_n.at zcc_86 dX8_joinAll_72 rfl
theorem f_86_74 (l : za_L) (st : List Value) (w : za_W) : za_n 86 (74, l, st, w) = za_x 86 (.iload_n 3) 74 l st w := za_n.at zcc_86 dX8_joinAll_74 rfl
theorem f_86_75 (l : za_L) (st : List Value) (w : za_W) : za_n 86 (75, l, st, w) = za_x 86 (.iastore) 75 l st w := za_n.at zcc_86 dX8_joinAll_75 rfl
theorem f_86_76 (l : za_L) (st : List Value) (w : za_W) : za_n 86 (76, l, st, w) = za_x 86 (.aload_n 0) 76 l st w := za_n.at zcc_86 dX8_joinAll_76 rfl
theorem f_86_77 (l : za_L) (st : List Value) (w : za_W) : za_n 86 (77, l, st, w) = za_x 86 (.getfield 26) 77 l st w := za_n.at zcc_86 dX8_joinAll_77 rfl
theorem f_86_80 (l : za_L) (st : List Value) (w : za_W) : za_n 86 (80, l, st, w) = za_x 86 (.iload 5) 80 l st w := za_n.at zcc_86 dX8_joinAll_80 rfl
theorem f_86_82 (l : za_L) (st : List Value) (w : za_W) : za_n 86 (82, l, st, w) = za_x 86 (.iload_n 3) 82 l st w := za_n.at zcc_86 dX8_joinAll_82 rfl
theorem f_86_83 (l : za_L) (st : List Value) (w : za_W) : za_n 86 (83, l, st, w) = za_x 86 (.iastore) 83 l st w := za_n.at zcc_86 dX8_joinAll_83 rfl
theorem f_86_84 (l : za_L) (st : List Value) (w : za_W) : za_n 86 (84, l, st, w) = za_x 86 (.aload_n 0) 84 l st w := za_n.at zcc_86 dX8_joinAll_84 rfl
theorem f_86_85 (l : za_L) (st : List Value) (w : za_W) : za_n 86 (85, l, st, w) = za_x 86 (.iload_n 3) 85 l st w := za_n.at zcc_86 dX8_joinAll_85 rfl
theorem f_86_86 (l : za_L) (st : List Value) (w : za_W) : za_n 86 (86, l, st, w) = za_go 87 l (.int (1) :: st) w := (za_n.at zcc_86 dX8_joinAll_86 rfl).trans (congrArg (fun x => za_go 87 l (.int x :: st) w) (by decide))
theorem f_86_87 (l : za_L) (st : List Value) (w : za_W) : za_n 86 (87, l, st, w) = za_x 86 (.iadd) 87 l st w := za_n.at zcc_86 dX8_joinAll_87 rfl
theorem f_86_88 (l : za_L) (st : List Value) (w : za_W) : za_n 86 (88, l, st, w) = za_x 86 (.putfield 102) 88 l st w := za_n.at zcc_86 dX8_joinAll_88 rfl
theorem f_86_91 (l : za_L) (st : List Value) (w : za_W) : za_n 86 (91, l, st, w) = za_x 86 (.iinc 3 1) 91 l st w := za_n.at zcc_86 dX8_joinAll_91 rfl
theorem f_86_94 (l : za_L) (st : List Value) (w : za_W) : za_n 86 (94, l, st, w) = za_go 28 l st w := (za_n.at zcc_86 dX8_joinAll_94 rfl).trans (za_jp.at (by decide))
theorem f_86_97 (l : za_L) (st : List Value) (w : za_W) : za_n 86 (97, l, st, w) = za_x 86 (.return_) 97 l st w := za_n.at zcc_86 dX8_joinAll_97 rfl
theorem f_87_0 (l : za_L) (st : List Value) (w : za_W) : za_n 87 (0, l, st, w) = za_go 1 l (.int (0) :: st) w := (za_n.at zcc_87 dX8_sortByWeight_0 rfl).trans (congrArg (fun x => za_go 1 l (.int x :: st) w) (by decide))
theorem f_87_1 (l : za_L) (st : List Value) (w : za_W) : za_n 87 (1, l, st, w) = za_x 87 (.istore_n 2) 1 l st w := za_n.at zcc_87 dX8_sortByWeight_1 rfl
theorem f_87_2 (l : za_L) (st : List Value) (w : za_W) : za_n 87 (2, l, st, w) = za_x 87 (.iload_n 2) 2 l st w := za_n.at zcc_87 dX8_sortByWeight_2 rfl
theorem f_87_3 (l : za_L) (st : List Value) (w : za_W) : za_n 87 (3, l, st, w) = za_x 87 (.iload_n 1) 3 l st w := za_n.at zcc_87 dX8_sortByWeight_3 rfl
theorem f_87_4 (l : za_L) (st : List Value) (w : za_W) : za_n 87 (4, l, st, w) = za_x 87 (.if_icmp .ge 64) 4 l st w := za_n.at zcc_87 dX8_sortByWeight_4 rfl
theorem f_87_7 (l : za_L) (st : List Value) (w : za_W) : za_n 87 (7, l, st, w) = za_x 87 (.iload_n 2) 7 l st w := za_n.at zcc_87 dX8_sortByWeight_7 rfl
theorem f_87_8 (l : za_L) (st : List Value) (w : za_W) : za_n 87 (8, l, st, w) = za_x 87 (.istore_n 3) 8 l st w := za_n.at zcc_87 dX8_sortByWeight_8 rfl
theorem f_87_9 (l : za_L) (st : List Value) (w : za_W) : za_n 87 (9, l, st, w) = za_x 87 (.iload_n 3) 9 l st w := za_n.at zcc_87 dX8_sortByWeight_9 rfl
theorem f_87_10 (l : za_L) (st : List Value) (w : za_W) : za_n 87 (10, l, st, w) = za_x 87 (.ifCond .le 45) 10 l st w := za_n.at zcc_87 dX8_sortByWeight_10 rfl
theorem f_87_13 (l : za_L) (st : List Value) (w : za_W) : za_n 87 (13, l, st, w) = za_x 87 (.aload_n 0) 13 l st w := za_n.at zcc_87 dX8_sortByWeight_13 rfl
theorem f_87_14 (l : za_L) (st : List Value) (w : za_W) : za_n 87 (14, l, st, w) = za_x 87 (.getfield 23) 14 l st w := za_n.at zcc_87 dX8_sortByWeight_14 rfl
theorem f_87_17 (l : za_L) (st : List Value) (w : za_W) : za_n 87 (17, l, st, w) = za_x 87 (.aload_n 0) 17 l st w := za_n.at zcc_87 dX8_sortByWeight_17 rfl
theorem f_87_18 (l : za_L) (st : List Value) (w : za_W) : za_n 87 (18, l, st, w) = za_x 87 (.getfield 20) 18 l st w := za_n.at zcc_87 dX8_sortByWeight_18 rfl
theorem f_87_21 (l : za_L) (st : List Value) (w : za_W) : za_n 87 (21, l, st, w) = za_x 87 (.iload_n 3) 21 l st w := za_n.at zcc_87 dX8_sortByWeight_21 rfl
theorem f_87_22 (l : za_L) (st : List Value) (w : za_W) : za_n 87 (22, l, st, w) = za_go 23 l (.int (1) :: st) w := (za_n.at zcc_87 dX8_sortByWeight_22 rfl).trans (congrArg (fun x => za_go 23 l (.int x :: st) w) (by decide))
theorem f_87_23 (l : za_L) (st : List Value) (w : za_W) : za_n 87 (23, l, st, w) = za_x 87 (.isub) 23 l st w := za_n.at zcc_87 dX8_sortByWeight_23 rfl
theorem f_87_24 (l : za_L) (st : List Value) (w : za_W) : za_n 87 (24, l, st, w) = za_x 87 (.iaload) 24 l st w := za_n.at zcc_87 dX8_sortByWeight_24 rfl
theorem f_87_25 (l : za_L) (st : List Value) (w : za_W) : za_n 87 (25, l, st, w) = za_x 87 (.iaload) 25 l st w := za_n.at zcc_87 dX8_sortByWeight_25 rfl
theorem f_87_26 (l : za_L) (st : List Value) (w : za_W) : za_n 87 (26, l, st, w) = za_x 87 (.aload_n 0) 26 l st w := za_n.at zcc_87 dX8_sortByWeight_26 rfl
theorem f_87_27 (l : za_L) (st : List Value) (w : za_W) : za_n 87 (27, l, st, w) = za_x 87 (.getfield 23) 27 l st w := za_n.at zcc_87 dX8_sortByWeight_27 rfl
theorem f_87_30 (l : za_L) (st : List Value) (w : za_W) : za_n 87 (30, l, st, w) = za_x 87 (.iload_n 2) 30 l st w := za_n.at zcc_87 dX8_sortByWeight_30 rfl
theorem f_87_31 (l : za_L) (st : List Value) (w : za_W) : za_n 87 (31, l, st, w) = za_x 87 (.iaload) 31 l st w := za_n.at zcc_87 dX8_sortByWeight_31 rfl
theorem f_87_32 (l : za_L) (st : List Value) (w : za_W) : za_n 87 (32, l, st, w) = za_x 87 (.if_icmp .le 23) 32 l st w := za_n.at zcc_87 dX8_sortByWeight_32 rfl
theorem f_87_35 (l : za_L) (st : List Value) (w : za_W) : za_n 87 (35, l, st, w) = za_x 87 (.aload_n 0) 35 l st w := za_n.at zcc_87 dX8_sortByWeight_35 rfl
theorem f_87_36 (l : za_L) (st : List Value) (w : za_W) : za_n 87 (36, l, st, w) = za_x 87 (.getfield 20) 36 l st w := za_n.at zcc_87 dX8_sortByWeight_36 rfl
theorem f_87_39 (l : za_L) (st : List Value) (w : za_W) : za_n 87 (39, l, st, w) = za_x 87 (.iload_n 3) 39 l st w := za_n.at zcc_87 dX8_sortByWeight_39 rfl
theorem f_87_40 (l : za_L) (st : List Value) (w : za_W) : za_n 87 (40, l, st, w) = za_x 87 (.aload_n 0) 40 l st w := za_n.at zcc_87 dX8_sortByWeight_40 rfl
theorem f_87_41 (l : za_L) (st : List Value) (w : za_W) : za_n 87 (41, l, st, w) = za_x 87 (.getfield 20) 41 l st w := za_n.at zcc_87 dX8_sortByWeight_41 rfl
theorem f_87_44 (l : za_L) (st : List Value) (w : za_W) : za_n 87 (44, l, st, w) = za_x 87 (.iload_n 3) 44 l st w := za_n.at zcc_87 dX8_sortByWeight_44 rfl
theorem f_87_45 (l : za_L) (st : List Value) (w : za_W) : za_n 87 (45, l, st, w) = za_go 46 l (.int (1) :: st) w := (za_n.at zcc_87 dX8_sortByWeight_45 rfl).trans (congrArg (fun x => za_go 46 l (.int x :: st) w) (by decide))
theorem f_87_46 (l : za_L) (st : List Value) (w : za_W) : za_n 87 (46, l, st, w) = za_x 87 (.isub) 46 l st w := za_n.at zcc_87 dX8_sortByWeight_46 rfl
theorem f_87_47 (l : za_L) (st : List Value) (w : za_W) : za_n 87 (47, l, st, w) = za_x 87 (.iaload) 47 l st w := za_n.at zcc_87 dX8_sortByWeight_47 rfl
theorem f_87_48 (l : za_L) (st : List Value) (w : za_W) : za_n 87 (48, l, st, w) = za_x 87 (.iastore) 48 l st w := za_n.at zcc_87 dX8_sortByWeight_48 rfl
theorem f_87_49 (l : za_L) (st : List Value) (w : za_W) : za_n 87 (49, l, st, w) = za_x 87 (.iinc 3 (-1)) 49 l st w := za_n.at zcc_87 dX8_sortByWeight_49 rfl
theorem f_87_52 (l : za_L) (st : List Value) (w : za_W) : za_n 87 (52, l, st, w) = za_go 9 l st w := (za_n.at zcc_87 dX8_sortByWeight_52 rfl).trans (za_jp.at (by decide))
theorem f_87_55 (l : za_L) (st : List Value) (w : za_W) : za_n 87 (55, l, st, w) = za_x 87 (.aload_n 0) 55 l st w := za_n.at zcc_87 dX8_sortByWeight_55 rfl
theorem f_87_56 (l : za_L) (st : List Value) (w : za_W) : za_n 87 (56, l, st, w) = za_x 87 (.getfield 20) 56 l st w := za_n.at zcc_87 dX8_sortByWeight_56 rfl
theorem f_87_59 (l : za_L) (st : List Value) (w : za_W) : za_n 87 (59, l, st, w) = za_x 87 (.iload_n 3) 59 l st w := za_n.at zcc_87 dX8_sortByWeight_59 rfl
theorem f_87_60 (l : za_L) (st : List Value) (w : za_W) : za_n 87 (60, l, st, w) = za_x 87 (.iload_n 2) 60 l st w := za_n.at zcc_87 dX8_sortByWeight_60 rfl
theorem f_87_61 (l : za_L) (st : List Value) (w : za_W) : za_n 87 (61, l, st, w) = za_x 87 (.iastore) 61 l st w := za_n.at zcc_87 dX8_sortByWeight_61 rfl
theorem f_87_62 (l : za_L) (st : List Value) (w : za_W) : za_n 87 (62, l, st, w) = za_x 87 (.iinc 2 1) 62 l st w := za_n.at zcc_87 dX8_sortByWeight_62 rfl
theorem f_87_65 (l : za_L) (st : List Value) (w : za_W) : za_n 87 (65, l, st, w) = za_go 2 l st w := (za_n.at zcc_87 dX8_sortByWeight_65 rfl).trans (za_jp.at (by decide))
theorem f_87_68 (l : za_L) (st : List Value) (w : za_W) : za_n 87 (68, l, st, w) = za_x 87 (.return_) 68 l st w := za_n.at zcc_87 dX8_sortByWeight_68 rfl
theorem f_88_0 (l : za_L) (st : List Value) (w : za_W) : za_n 88 (0, l, st, w) = za_x 88 (.aload_n 0) 0 l st w := za_n.at zcc_88 dX8_takeLeast_0 rfl
theorem f_88_1 (l : za_L) (st : List Value) (w : za_W) : za_n 88 (1, l, st, w) = za_x 88 (.getfield 96) 1 l st w := za_n.at zcc_88 dX8_takeLeast_1 rfl
theorem f_88_4 (l : za_L) (st : List Value) (w : za_W) : za_n 88 (4, l, st, w) = za_x 88 (.iload_n 1) 4 l st w := za_n.at zcc_88 dX8_takeLeast_4 rfl
theorem f_88_5 (l : za_L) (st : List Value) (w : za_W) : za_n 88 (5, l, st, w) = za_x 88 (.if_icmp .ge 7) 5 l st w := za_n.at zcc_88 dX8_takeLeast_5 rfl
theorem f_88_8 (l : za_L) (st : List Value) (w : za_W) : za_n 88 (8, l, st, w) = za_go 9 l (.int (1) :: st) w := (za_n.at zcc_88 dX8_takeLeast_8 rfl).trans (congrArg (fun x => za_go 9 l (.int x :: st) w) (by decide))
theorem f_88_9 (l : za_L) (st : List Value) (w : za_W) : za_n 88 (9, l, st, w) = za_go 13 l st w := (za_n.at zcc_88 dX8_takeLeast_9 rfl).trans (za_jp.at (by decide))
theorem f_88_12 (l : za_L) (st : List Value) (w : za_W) : za_n 88 (12, l, st, w) = za_go 13 l (.int (0) :: st) w := (za_n.at zcc_88 dX8_takeLeast_12 rfl).trans (congrArg (fun x => za_go 13 l (.int x :: st) w) (by decide))
theorem f_88_13 (l : za_L) (st : List Value) (w : za_W) : za_n 88 (13, l, st, w) = za_x 88 (.istore_n 2) 13 l st w := za_n.at zcc_88 dX8_takeLeast_13 rfl
theorem f_88_14 (l : za_L) (st : List Value) (w : za_W) : za_n 88 (14, l, st, w) = za_x 88 (.aload_n 0) 14 l st w := za_n.at zcc_88 dX8_takeLeast_14 rfl
theorem f_88_15 (l : za_L) (st : List Value) (w : za_W) : za_n 88 (15, l, st, w) = za_x 88 (.getfield 99) 15 l st w := za_n.at zcc_88 dX8_takeLeast_15 rfl
theorem f_88_18 (l : za_L) (st : List Value) (w : za_W) : za_n 88 (18, l, st, w) = za_x 88 (.aload_n 0) 18 l st w := za_n.at zcc_88 dX8_takeLeast_18 rfl
theorem f_88_19 (l : za_L) (st : List Value) (w : za_W) : za_n 88 (19, l, st, w) = za_x 88 (.getfield 102) 19 l st w := za_n.at zcc_88 dX8_takeLeast_19 rfl
theorem f_88_22 (l : za_L) (st : List Value) (w : za_W) : za_n 88 (22, l, st, w) = za_x 88 (.if_icmp .ge 7) 22 l st w := za_n.at zcc_88 dX8_takeLeast_22 rfl
theorem f_88_25 (l : za_L) (st : List Value) (w : za_W) : za_n 88 (25, l, st, w) = za_go 26 l (.int (1) :: st) w := (za_n.at zcc_88 dX8_takeLeast_25 rfl).trans (congrArg (fun x => za_go 26 l (.int x :: st) w) (by decide))
theorem f_88_26 (l : za_L) (st : List Value) (w : za_W) : za_n 88 (26, l, st, w) = za_go 30 l st w := (za_n.at zcc_88 dX8_takeLeast_26 rfl).trans (za_jp.at (by decide))
theorem f_88_29 (l : za_L) (st : List Value) (w : za_W) : za_n 88 (29, l, st, w) = za_go 30 l (.int (0) :: st) w := (za_n.at zcc_88 dX8_takeLeast_29 rfl).trans (congrArg (fun x => za_go 30 l (.int x :: st) w) (by decide))
theorem f_88_30 (l : za_L) (st : List Value) (w : za_W) : za_n 88 (30, l, st, w) = za_x 88 (.istore_n 3) 30 l st w := za_n.at zcc_88 dX8_takeLeast_30 rfl
theorem f_88_31 (l : za_L) (st : List Value) (w : za_W) : za_n 88 (31, l, st, w) = za_x 88 (.iload_n 2) 31 l st w := za_n.at zcc_88 dX8_takeLeast_31 rfl
theorem f_88_32 (l : za_L) (st : List Value) (w : za_W) : za_n 88 (32, l, st, w) = za_x 88 (.ifCond .eq 55) 32 l st w := za_n.at zcc_88 dX8_takeLeast_32 rfl
theorem f_88_35 (l : za_L) (st : List Value) (w : za_W) : za_n 88 (35, l, st, w) = za_x 88 (.iload_n 3) 35 l st w := za_n.at zcc_88 dX8_takeLeast_35 rfl
theorem f_88_36 (l : za_L) (st : List Value) (w : za_W) : za_n 88 (36, l, st, w) = za_x 88 (.ifCond .eq 29) 36 l st w := za_n.at zcc_88 dX8_takeLeast_36 rfl
theorem f_88_39 (l : za_L) (st : List Value) (w : za_W) : za_n 88 (39, l, st, w) = za_x 88 (.aload_n 0) 39 l st w := za_n.at zcc_88 dX8_takeLeast_39 rfl
theorem f_88_40 (l : za_L) (st : List Value) (w : za_W) : za_n 88 (40, l, st, w) = za_x 88 (.getfield 23) 40 l st w := za_n.at zcc_88 dX8_takeLeast_40 rfl
theorem f_88_43 (l : za_L) (st : List Value) (w : za_W) : za_n 88 (43, l, st, w) = za_x 88 (.aload_n 0) 43 l st w := za_n.at zcc_88 dX8_takeLeast_43 rfl
theorem f_88_44 (l : za_L) (st : List Value) (w : za_W) : za_n 88 (44, l, st, w) = za_x 88 (.getfield 20) 44 l st w := za_n.at zcc_88 dX8_takeLeast_44 rfl
theorem f_88_47 (l : za_L) (st : List Value) (w : za_W) : za_n 88 (47, l, st, w) = za_x 88 (.aload_n 0) 47 l st w := za_n.at zcc_88 dX8_takeLeast_47 rfl
theorem f_88_48 (l : za_L) (st : List Value) (w : za_W) : za_n 88 (48, l, st, w) = za_x 88 (.getfield 96) 48 l st w := za_n.at zcc_88 dX8_takeLeast_48 rfl
theorem f_88_51 (l : za_L) (st : List Value) (w : za_W) : za_n 88 (51, l, st, w) = za_x 88 (.iaload) 51 l st w := za_n.at zcc_88 dX8_takeLeast_51 rfl
theorem f_88_52 (l : za_L) (st : List Value) (w : za_W) : za_n 88 (52, l, st, w) = za_x 88 (.iaload) 52 l st w := za_n.at zcc_88 dX8_takeLeast_52 rfl
theorem f_88_53 (l : za_L) (st : List Value) (w : za_W) : za_n 88 (53, l, st, w) = za_x 88 (.aload_n 0) 53 l st w := za_n.at zcc_88 dX8_takeLeast_53 rfl
theorem f_88_54 (l : za_L) (st : List Value) (w : za_W) : za_n 88 (54, l, st, w) = za_x 88 (.getfield 23) 54 l st w := za_n.at zcc_88 dX8_takeLeast_54 rfl
theorem f_88_57 (l : za_L) (st : List Value) (w : za_W) : za_n 88 (57, l, st, w) = za_x 88 (.aload_n 0) 57 l st w := za_n.at zcc_88 dX8_takeLeast_57 rfl
theorem f_88_58 (l : za_L) (st : List Value) (w : za_W) : za_n 88 (58, l, st, w) = za_x 88 (.getfield 99) 58 l st w := za_n.at zcc_88 dX8_takeLeast_58 rfl
theorem f_88_61 (l : za_L) (st : List Value) (w : za_W) : za_n 88 (61, l, st, w) = za_x 88 (.iaload) 61 l st w := za_n.at zcc_88 dX8_takeLeast_61 rfl
theorem f_88_62 (l : za_L) (st : List Value) (w : za_W) : za_n 88 (62, l, st, w) = za_x 88 (.if_icmp .gt 25) 62 l st w := za_n.at zcc_88 dX8_takeLeast_62 rfl
theorem f_88_65 (l : za_L) (st : List Value) (w : za_W) : za_n 88 (65, l, st, w) = za_x 88 (.aload_n 0) 65 l st w := za_n.at zcc_88 dX8_takeLeast_65 rfl
theorem f_88_66 (l : za_L) (st : List Value) (w : za_W) : za_n 88 (66, l, st, w) = za_x 88 (.dup) 66 l st w := za_n.at zcc_88 dX8_takeLeast_66 rfl
theorem f_88_67 (l : za_L) (st : List Value) (w : za_W) : za_n 88 (67, l, st, w) = za_x 88 (.getfield 96) 67 l st w := za_n.at zcc_88 dX8_takeLeast_67 rfl
theorem f_88_70 (l : za_L) (st : List Value) (w : za_W) : za_n 88 (70, l, st, w) = za_go 71 l (.int (1) :: st) w := (za_n.at zcc_88 dX8_takeLeast_70 rfl).trans (congrArg (fun x => za_go 71 l (.int x :: st) w) (by decide))
theorem f_88_71 (l : za_L) (st : List Value) (w : za_W) : za_n 88 (71, l, st, w) = za_x 88 (.iadd) 71 l st w := za_n.at zcc_88 dX8_takeLeast_71 rfl
theorem f_88_72 (l : za_L) (st : List Value) (w : za_W) : za_n 88 (72, l, st, w) = za_x 88 (.putfield 96) 72 l st w := za_n.at zcc_88 dX8_takeLeast_72 rfl
theorem f_88_75 (l : za_L) (st : List Value) (w : za_W) : za_n 88 (75, l, st, w) = za_x 88 (.aload_n 0) 75 l st w := za_n.at zcc_88 dX8_takeLeast_75 rfl
theorem f_88_76 (l : za_L) (st : List Value) (w : za_W) : za_n 88 (76, l, st, w) = za_x 88 (.getfield 20) 76 l st w := za_n.at zcc_88 dX8_takeLeast_76 rfl
theorem f_88_79 (l : za_L) (st : List Value) (w : za_W) : za_n 88 (79, l, st, w) = za_x 88 (.aload_n 0) 79 l st w := za_n.at zcc_88 dX8_takeLeast_79 rfl
theorem f_88_80 (l : za_L) (st : List Value) (w : za_W) : za_n 88 (80, l, st, w) = za_x 88 (.getfield 96) 80 l st w := za_n.at zcc_88 dX8_takeLeast_80 rfl
theorem f_88_83 (l : za_L) (st : List Value) (w : za_W) : za_n 88 (83, l, st, w) = za_go 84 l (.int (1) :: st) w := (za_n.at zcc_88 dX8_takeLeast_83 rfl).trans (congrArg (fun x => za_go 84 l (.int x :: st) w) (by decide))
theorem f_88_84 (l : za_L) (st : List Value) (w : za_W) : za_n 88 (84, l, st, w) = za_x 88 (.isub) 84 l st w := za_n.at zcc_88 dX8_takeLeast_84 rfl
theorem f_88_85 (l : za_L) (st : List Value) (w : za_W) : za_n 88 (85, l, st, w) = za_x 88 (.iaload) 85 l st w := za_n.at zcc_88 dX8_takeLeast_85 rfl
theorem f_88_86 (l : za_L) (st : List Value) (w : za_W) : za_n 88 (86, l, st, w) = za_x 88 (.ireturn) 86 l st w := za_n.at zcc_88 dX8_takeLeast_86 rfl
theorem f_88_87 (l : za_L) (st : List Value) (w : za_W) : za_n 88 (87, l, st, w) = za_x 88 (.iload_n 3) 87 l st w := za_n.at zcc_88 dX8_takeLeast_87 rfl
theorem f_88_88 (l : za_L) (st : List Value) (w : za_W) : za_n 88 (88, l, st, w) = za_x 88 (.ifCond .eq 20) 88 l st w := za_n.at zcc_88 dX8_takeLeast_88 rfl
theorem f_88_91 (l : za_L) (st : List Value) (w : za_W) : za_n 88 (91, l, st, w) = za_x 88 (.aload_n 0) 91 l st w := za_n.at zcc_88 dX8_takeLeast_91 rfl
theorem f_88_92 (l : za_L) (st : List Value) (w : za_W) : za_n 88 (92, l, st, w) = za_x 88 (.dup) 92 l st w := za_n.at zcc_88 dX8_takeLeast_92 rfl
theorem f_88_93 (l : za_L) (st : List Value) (w : za_W) : za_n 88 (93, l, st, w) = za_x 88 (.getfield 99) 93 l st w := za_n.at zcc_88 dX8_takeLeast_93 rfl
theorem f_88_96 (l : za_L) (st : List Value) (w : za_W) : za_n 88 (96, l, st, w) = za_go 97 l (.int (1) :: st) w := (za_n.at zcc_88 dX8_takeLeast_96 rfl).trans (congrArg (fun x => za_go 97 l (.int x :: st) w) (by decide))
theorem f_88_97 (l : za_L) (st : List Value) (w : za_W) : za_n 88 (97, l, st, w) = za_x 88 (.iadd) 97 l st w := za_n.at zcc_88 dX8_takeLeast_97 rfl
theorem f_88_98 (l : za_L) (st : List Value) (w : za_W) : za_n 88 (98, l, st, w) = za_x 88 (.putfield 99) 98 l st w := za_n.at zcc_88 dX8_takeLeast_98 rfl
theorem f_88_101 (l : za_L) (st : List Value) (w : za_W) : za_n 88 (101, l, st, w) = za_x 88 (.aload_n 0) 101 l st w := za_n.at zcc_88 dX8_takeLeast_101 rfl
theorem f_88_102 (l : za_L) (st : List Value) (w : za_W) : za_n 88 (102, l, st, w) = za_x 88 (.getfield 99) 102 l st w := za_n.at zcc_88 dX8_takeLeast_102 rfl
theorem f_88_105 (l : za_L) (st : List Value) (w : za_W) : za_n 88 (105, l, st, w) = za_go 106 l (.int (1) :: st) w := (za_n.at zcc_88 dX8_takeLeast_105 rfl).trans (congrArg (fun x => za_go 106 l (.int x :: st) w) (by decide))
theorem f_88_106 (l : za_L) (st : List Value) (w : za_W) : za_n 88 (106, l, st, w) = za_x 88 (.isub) 106 l st w := za_n.at zcc_88 dX8_takeLeast_106 rfl
theorem f_88_107 (l : za_L) (st : List Value) (w : za_W) : za_n 88 (107, l, st, w) = za_x 88 (.ireturn) 107 l st w := za_n.at zcc_88 dX8_takeLeast_107 rfl
theorem f_88_108 (l : za_L) (st : List Value) (w : za_W) : za_n 88 (108, l, st, w) = za_go 109 l (.int (0) :: st) w := (za_n.at zcc_88 dX8_takeLeast_108 rfl).trans (congrArg (fun x => za_go 109 l (.int x :: st) w) (by decide))
theorem f_88_109 (l : za_L) (st : List Value) (w : za_W) : za_n 88 (109, l, st, w) = za_x 88 (.ireturn) 109 l st w := za_n.at zcc_88 dX8_takeLeast_109 rfl
theorem f_89_0 (l : za_L) (st : List Value) (w : za_W) : za_n 89 (0, l, st, w) = za_go 1 l (.int (2) :: st) w := (za_n.at zcc_89 dX8_setLengths_0 rfl).trans (congrArg (fun x => za_go 1 l (.int x :: st) w) (by decide))
theorem f_89_1 (l : za_L) (st : List Value) (w : za_W) : za_n 89 (1, l, st, w) = za_x 89 (.iload_n 1) 1 l st w := za_n.at zcc_89 dX8_setLengths_1 rfl
theorem f_89_2 (l : za_L) (st : List Value) (w : za_W) : za_n 89 (2, l, st, w) = za_x 89 (.imul) 2 l st w := za_n.at zcc_89 dX8_setLengths_2 rfl
theorem f_89_3 (l : za_L) (st : List Value) (w : za_W) : za_n 89 (3, l, st, w) = za_go 4 l (.int (2) :: st) w := (za_n.at zcc_89 dX8_setLengths_3 rfl).trans (congrArg (fun x => za_go 4 l (.int x :: st) w) (by decide))
theorem f_89_4 (l : za_L) (st : List Value) (w : za_W) : za_n 89 (4, l, st, w) = za_x 89 (.isub) 4 l st w := za_n.at zcc_89 dX8_setLengths_4 rfl
theorem f_89_5 (l : za_L) (st : List Value) (w : za_W) : za_n 89 (5, l, st, w) = za_x 89 (.istore_n 3) 5 l st w := za_n.at zcc_89 dX8_setLengths_5 rfl
theorem f_89_6 (l : za_L) (st : List Value) (w : za_W) : za_n 89 (6, l, st, w) = za_go 7 l (.int (0) :: st) w := (za_n.at zcc_89 dX8_setLengths_6 rfl).trans (congrArg (fun x => za_go 7 l (.int x :: st) w) (by decide))
theorem f_89_7 (l : za_L) (st : List Value) (w : za_W) : za_n 89 (7, l, st, w) = za_x 89 (.istore 4) 7 l st w := za_n.at zcc_89 dX8_setLengths_7 rfl
theorem f_89_9 (l : za_L) (st : List Value) (w : za_W) : za_n 89 (9, l, st, w) = za_x 89 (.aload_n 0) 9 l st w := za_n.at zcc_89 dX8_setLengths_9 rfl
theorem f_89_10 (l : za_L) (st : List Value) (w : za_W) : za_n 89 (10, l, st, w) = za_x 89 (.getfield 29) 10 l st w := za_n.at zcc_89 dX8_setLengths_10 rfl
theorem f_89_13 (l : za_L) (st : List Value) (w : za_W) : za_n 89 (13, l, st, w) = za_x 89 (.iload_n 3) 13 l st w := za_n.at zcc_89 dX8_setLengths_13 rfl
theorem f_89_14 (l : za_L) (st : List Value) (w : za_W) : za_n 89 (14, l, st, w) = za_go 15 l (.int (0) :: st) w := (za_n.at zcc_89 dX8_setLengths_14 rfl).trans (congrArg (fun x => za_go 15 l (.int x :: st) w) (by decide))
theorem f_89_15 (l : za_L) (st : List Value) (w : za_W) : za_n 89 (15, l, st, w) = za_x 89 (.iastore) 15 l st w := za_n.at zcc_89 dX8_setLengths_15 rfl
theorem f_89_16 (l : za_L) (st : List Value) (w : za_W) : za_n 89 (16, l, st, w) = za_x 89 (.iload_n 3) 16 l st w := za_n.at zcc_89 dX8_setLengths_16 rfl
theorem f_89_17 (l : za_L) (st : List Value) (w : za_W) : za_n 89 (17, l, st, w) = za_go 18 l (.int (1) :: st) w := (za_n.at zcc_89 dX8_setLengths_17 rfl).trans (congrArg (fun x => za_go 18 l (.int x :: st) w) (by decide))
theorem f_89_18 (l : za_L) (st : List Value) (w : za_W) : za_n 89 (18, l, st, w) = za_x 89 (.isub) 18 l st w := za_n.at zcc_89 dX8_setLengths_18 rfl
theorem f_89_19 (l : za_L) (st : List Value) (w : za_W) : za_n 89 (19, l, st, w) = za_x 89 (.istore 5) 19 l st w := za_n.at zcc_89 dX8_setLengths_19 rfl
theorem f_89_21 (l : za_L) (st : List Value) (w : za_W) : za_n 89 (21, l, st, w) = za_x 89 (.iload 5) 21 l st w := za_n.at zcc_89 dX8_setLengths_21 rfl
theorem f_89_23 (l : za_L) (st : List Value) (w : za_W) : za_n 89 (23, l, st, w) = za_x 89 (.ifCond .lt 61) 23 l st w := za_n.at zcc_89 dX8_setLengths_23 rfl
theorem f_89_26 (l : za_L) (st : List Value) (w : za_W) : za_n 89 (26, l, st, w) = za_x 89 (.aload_n 0) 26 l st w := za_n.at zcc_89 dX8_setLengths_26 rfl
theorem f_89_27 (l : za_L) (st : List Value) (w : za_W) : za_n 89 (27, l, st, w) = za_x 89 (.getfield 29) 27 l st w := za_n.at zcc_89 dX8_setLengths_27 rfl
theorem f_89_30 (l : za_L) (st : List Value) (w : za_W) : za_n 89 (30, l, st, w) = za_x 89 (.iload 5) 30 l st w := za_n.at zcc_89 dX8_setLengths_30 rfl
theorem f_89_32 (l : za_L) (st : List Value) (w : za_W) : za_n 89 (32, l, st, w) = za_x 89 (.aload_n 0) 32 l st w := za_n.at zcc_89 dX8_setLengths_32 rfl
theorem f_89_33 (l : za_L) (st : List Value) (w : za_W) : za_n 89 (33, l, st, w) = za_x 89 (.getfield 29) 33 l st w := za_n.at zcc_89 dX8_setLengths_33 rfl
theorem f_89_36 (l : za_L) (st : List Value) (w : za_W) : za_n 89 (36, l, st, w) = za_x 89 (.aload_n 0) 36 l st w := za_n.at zcc_89 dX8_setLengths_36 rfl
theorem f_89_37 (l : za_L) (st : List Value) (w : za_W) : za_n 89 (37, l, st, w) = za_x 89 (.getfield 26) 37 l st w := za_n.at zcc_89 dX8_setLengths_37 rfl
theorem f_89_40 (l : za_L) (st : List Value) (w : za_W) : za_n 89 (40, l, st, w) = za_x 89 (.iload 5) 40 l st w := za_n.at zcc_89 dX8_setLengths_40 rfl
theorem f_89_42 (l : za_L) (st : List Value) (w : za_W) : za_n 89 (42, l, st, w) = za_x 89 (.iaload) 42 l st w := za_n.at zcc_89 dX8_setLengths_42 rfl
theorem f_89_43 (l : za_L) (st : List Value) (w : za_W) : za_n 89 (43, l, st, w) = za_x 89 (.iaload) 43 l st w := za_n.at zcc_89 dX8_setLengths_43 rfl
theorem f_89_44 (l : za_L) (st : List Value) (w : za_W) : za_n 89 (44, l, st, w) = za_go 45 l (.int (1) :: st) w := (za_n.at zcc_89 dX8_setLengths_44 rfl).trans (congrArg (fun x => za_go 45 l (.int x :: st) w) (by decide))
theorem f_89_45 (l : za_L) (st : List Value) (w : za_W) : za_n 89 (45, l, st, w) = za_x 89 (.iadd) 45 l st w := za_n.at zcc_89 dX8_setLengths_45 rfl
theorem f_89_46 (l : za_L) (st : List Value) (w : za_W) : za_n 89 (46, l, st, w) = za_x 89 (.iastore) 46 l st w := za_n.at zcc_89 dX8_setLengths_46 rfl
theorem f_89_47 (l : za_L) (st : List Value) (w : za_W) : za_n 89 (47, l, st, w) = za_x 89 (.iload 5) 47 l st w := za_n.at zcc_89 dX8_setLengths_47 rfl
theorem f_89_49 (l : za_L) (st : List Value) (w : za_W) : za_n 89 (49, l, st, w) = za_x 89 (.iload_n 1) 49 l st w := za_n.at zcc_89 dX8_setLengths_49 rfl
theorem f_89_50 (l : za_L) (st : List Value) (w : za_W) : za_n 89 (50, l, st, w) = za_x 89 (.if_icmp .ge 28) 50 l st w := za_n.at zcc_89 dX8_setLengths_50 rfl
theorem f_89_53 (l : za_L) (st : List Value) (w : za_W) : za_n 89 (53, l, st, w) = za_x 89 (.aload_n 2) 53 l st w := za_n.at zcc_89 dX8_setLengths_53 rfl
theorem f_89_54 (l : za_L) (st : List Value) (w : za_W) : za_n 89 (54, l, st, w) = za_x 89 (.iload 5) 54 l st w := za_n.at zcc_89 dX8_setLengths_54 rfl
theorem f_89_56 (l : za_L) (st : List Value) (w : za_W) : za_n 89 (56, l, st, w) = za_x 89 (.aload_n 0) 56 l st w := za_n.at zcc_89 dX8_setLengths_56 rfl
theorem f_89_57 (l : za_L) (st : List Value) (w : za_W) : za_n 89 (57, l, st, w) = za_x 89 (.getfield 29) 57 l st w := za_n.at zcc_89 dX8_setLengths_57 rfl
theorem f_89_60 (l : za_L) (st : List Value) (w : za_W) : za_n 89 (60, l, st, w) = za_x 89 (.iload 5) 60 l st w := za_n.at zcc_89 dX8_setLengths_60 rfl
theorem f_89_62 (l : za_L) (st : List Value) (w : za_W) : za_n 89 (62, l, st, w) = za_x 89 (.iaload) 62 l st w := za_n.at zcc_89 dX8_setLengths_62 rfl
theorem f_89_63 (l : za_L) (st : List Value) (w : za_W) : za_n 89 (63, l, st, w) = za_x 89 (.iastore) 63 l st w := za_n.at zcc_89 dX8_setLengths_63 rfl
theorem f_89_64 (l : za_L) (st : List Value) (w : za_W) : za_n 89 (64, l, st, w) = za_x 89 (.iload 4) 64 l st w := za_n.at zcc_89 dX8_setLengths_64 rfl
theorem f_89_66 (l : za_L) (st : List Value) (w : za_W) : za_n 89 (66, l, st, w) = za_x 89 (.aload_n 0) 66 l st w := za_n.at zcc_89 dX8_setLengths_66 rfl
theorem f_89_67 (l : za_L) (st : List Value) (w : za_W) : za_n 89 (67, l, st, w) = za_x 89 (.getfield 29) 67 l st w := za_n.at zcc_89 dX8_setLengths_67 rfl
theorem f_89_70 (l : za_L) (st : List Value) (w : za_W) : za_n 89 (70, l, st, w) = za_x 89 (.iload 5) 70 l st w := za_n.at zcc_89 dX8_setLengths_70 rfl
theorem f_89_72 (l : za_L) (st : List Value) (w : za_W) : za_n 89 (72, l, st, w) = za_x 89 (.iaload) 72 l st w := za_n.at zcc_89 dX8_setLengths_72 rfl
theorem f_89_73 (l : za_L) (st : List Value) (w : za_W) : za_n 89 (73, l, st, w) = za_x 89 (.invokestatic 82) 73 l st w := za_n.at zcc_89 dX8_setLengths_73 rfl
theorem f_89_76 (l : za_L) (st : List Value) (w : za_W) : za_n 89 (76, l, st, w) = za_x 89 (.istore 4) 76 l st w := za_n.at zcc_89 dX8_setLengths_76 rfl
theorem f_89_78 (l : za_L) (st : List Value) (w : za_W) : za_n 89 (78, l, st, w) = za_x 89 (.iinc 5 (-1)) 78 l st w := za_n.at zcc_89 dX8_setLengths_78 rfl
theorem f_89_81 (l : za_L) (st : List Value) (w : za_W) : za_n 89 (81, l, st, w) = za_go 21 l st w := (za_n.at zcc_89 dX8_setLengths_81 rfl).trans (za_jp.at (by decide))
theorem f_89_84 (l : za_L) (st : List Value) (w : za_W) : za_n 89 (84, l, st, w) = za_x 89 (.iload 4) 84 l st w := za_n.at zcc_89 dX8_setLengths_84 rfl
theorem f_89_86 (l : za_L) (st : List Value) (w : za_W) : za_n 89 (86, l, st, w) = za_x 89 (.ireturn) 86 l st w := za_n.at zcc_89 dX8_setLengths_86 rfl
theorem f_90_0 (l : za_L) (st : List Value) (w : za_W) : za_n 90 (0, l, st, w) = za_x 90 (.aload_n 0) 0 l st w := za_n.at zcc_90 dX9_init_0 rfl
theorem f_90_1 (l : za_L) (st : List Value) (w : za_W) : za_n 90 (1, l, st, w) = za_x 90 (.invokespecial 3) 1 l st w := za_n.at zcc_90 dX9_init_1 rfl
theorem f_90_4 (l : za_L) (st : List Value) (w : za_W) : za_n 90 (4, l, st, w) = za_x 90 (.aload_n 0) 4 l st w := za_n.at zcc_90 dX9_init_4 rfl
theorem f_90_5 (l : za_L) (st : List Value) (w : za_W) : za_n 90 (5, l, st, w) = za_go 8 l (.int (540) :: st) w := (za_n.at zcc_90 dX9_init_5 rfl).trans (congrArg (fun x => za_go 8 l (.int x :: st) w) (by decide))
theorem f_90_8 (l : za_L) (st : List Value) (w : za_W) : za_n 90 (8, l, st, w) = za_x 90 (.newarray .int) 8 l st w := za_n.at zcc_90 dX9_init_8 rfl
theorem f_90_10 (l : za_L) (st : List Value) (w : za_W) : za_n 90 (10, l, st, w) = za_x 90 (.putfield 9) 10 l st w := za_n.at zcc_90 dX9_init_10 rfl
theorem f_90_13 (l : za_L) (st : List Value) (w : za_W) : za_n 90 (13, l, st, w) = za_x 90 (.aload_n 0) 13 l st w := za_n.at zcc_90 dX9_init_13 rfl
theorem f_90_14 (l : za_L) (st : List Value) (w : za_W) : za_n 90 (14, l, st, w) = za_go 16 l (.int (60) :: st) w := (za_n.at zcc_90 dX9_init_14 rfl).trans (congrArg (fun x => za_go 16 l (.int x :: st) w) (by decide))
theorem f_90_16 (l : za_L) (st : List Value) (w : za_W) : za_n 90 (16, l, st, w) = za_x 90 (.newarray .int) 16 l st w := za_n.at zcc_90 dX9_init_16 rfl
theorem f_90_18 (l : za_L) (st : List Value) (w : za_W) : za_n 90 (18, l, st, w) = za_x 90 (.putfield 15) 18 l st w := za_n.at zcc_90 dX9_init_18 rfl
theorem f_90_21 (l : za_L) (st : List Value) (w : za_W) : za_n 90 (21, l, st, w) = za_x 90 (.aload_n 0) 21 l st w := za_n.at zcc_90 dX9_init_21 rfl
theorem f_90_22 (l : za_L) (st : List Value) (w : za_W) : za_n 90 (22, l, st, w) = za_go 24 l (.int (9) :: st) w := (za_n.at zcc_90 dX9_init_22 rfl).trans (congrArg (fun x => za_go 24 l (.int x :: st) w) (by decide))
theorem f_90_24 (l : za_L) (st : List Value) (w : za_W) : za_n 90 (24, l, st, w) = za_x 90 (.newarray .int) 24 l st w := za_n.at zcc_90 dX9_init_24 rfl
theorem f_90_26 (l : za_L) (st : List Value) (w : za_W) : za_n 90 (26, l, st, w) = za_x 90 (.putfield 18) 26 l st w := za_n.at zcc_90 dX9_init_26 rfl
theorem f_90_29 (l : za_L) (st : List Value) (w : za_W) : za_n 90 (29, l, st, w) = za_x 90 (.aload_n 0) 29 l st w := za_n.at zcc_90 dX9_init_29 rfl
theorem f_90_30 (l : za_L) (st : List Value) (w : za_W) : za_n 90 (30, l, st, w) = za_x 90 (.new 21) 30 l st w := za_n.at zcc_90 dX9_init_30 rfl
theorem f_90_33 (l : za_L) (st : List Value) (w : za_W) : za_n 90 (33, l, st, w) = za_x 90 (.dup) 33 l st w := za_n.at zcc_90 dX9_init_33 rfl
theorem f_90_34 (l : za_L) (st : List Value) (w : za_W) : za_n 90 (34, l, st, w) = za_x 90 (.invokespecial 23) 34 l st w := za_n.at zcc_90 dX9_init_34 rfl
theorem f_90_37 (l : za_L) (st : List Value) (w : za_W) : za_n 90 (37, l, st, w) = za_x 90 (.putfield 24) 37 l st w := za_n.at zcc_90 dX9_init_37 rfl
theorem f_90_40 (l : za_L) (st : List Value) (w : za_W) : za_n 90 (40, l, st, w) = za_x 90 (.aload_n 0) 40 l st w := za_n.at zcc_90 dX9_init_40 rfl
theorem f_90_41 (l : za_L) (st : List Value) (w : za_W) : za_n 90 (41, l, st, w) = za_x 90 (.new 21) 41 l st w := za_n.at zcc_90 dX9_init_41 rfl
theorem f_90_44 (l : za_L) (st : List Value) (w : za_W) : za_n 90 (44, l, st, w) = za_x 90 (.dup) 44 l st w := za_n.at zcc_90 dX9_init_44 rfl
theorem f_90_45 (l : za_L) (st : List Value) (w : za_W) : za_n 90 (45, l, st, w) = za_x 90 (.invokespecial 23) 45 l st w := za_n.at zcc_90 dX9_init_45 rfl
theorem f_90_48 (l : za_L) (st : List Value) (w : za_W) : za_n 90 (48, l, st, w) = za_x 90 (.putfield 28) 48 l st w := za_n.at zcc_90 dX9_init_48 rfl
theorem f_90_51 (l : za_L) (st : List Value) (w : za_W) : za_n 90 (51, l, st, w) = za_x 90 (.return_) 51 l st w := za_n.at zcc_90 dX9_init_51 rfl
theorem f_91_0 (l : za_L) (st : List Value) (w : za_W) : za_n 91 (0, l, st, w) = za_x 91 (.aload_n 0) 0 l st w := za_n.at zcc_91 dX9_forget_0 rfl
theorem f_91_1 (l : za_L) (st : List Value) (w : za_W) : za_n 91 (1, l, st, w) = za_go 2 l (.int (0) :: st) w := (za_n.at zcc_91 dX9_forget_1 rfl).trans (congrArg (fun x => za_go 2 l (.int x :: st) w) (by decide))
theorem f_91_2 (l : za_L) (st : List Value) (w : za_W) : za_n 91 (2, l, st, w) = za_x 91 (.putfield 31) 2 l st w := za_n.at zcc_91 dX9_forget_2 rfl
theorem f_91_5 (l : za_L) (st : List Value) (w : za_W) : za_n 91 (5, l, st, w) = za_x 91 (.aload_n 0) 5 l st w := za_n.at zcc_91 dX9_forget_5 rfl
theorem f_91_6 (l : za_L) (st : List Value) (w : za_W) : za_n 91 (6, l, st, w) = za_x 91 (.getfield 24) 6 l st w := za_n.at zcc_91 dX9_forget_6 rfl
theorem f_91_9 (l : za_L) (st : List Value) (w : za_W) : za_n 91 (9, l, st, w) = za_x 91 (.invokevirtual 35) 9 l st w := za_n.at zcc_91 dX9_forget_9 rfl
theorem f_91_12 (l : za_L) (st : List Value) (w : za_W) : za_n 91 (12, l, st, w) = za_x 91 (.return_) 12 l st w := za_n.at zcc_91 dX9_forget_12 rfl
theorem f_92_0 (l : za_L) (st : List Value) (w : za_W) : za_n 92 (0, l, st, w) = za_x 92 (.iload_n 1) 0 l st w := za_n.at zcc_92 dX9_tells_0 rfl
theorem f_92_1 (l : za_L) (st : List Value) (w : za_W) : za_n 92 (1, l, st, w) = za_x 92 (.ifCond .lt 21) 1 l st w := za_n.at zcc_92 dX9_tells_1 rfl
theorem f_92_4 (l : za_L) (st : List Value) (w : za_W) : za_n 92 (4, l, st, w) = za_x 92 (.iload_n 1) 4 l st w := za_n.at zcc_92 dX9_tells_4 rfl
theorem f_92_5 (l : za_L) (st : List Value) (w : za_W) : za_n 92 (5, l, st, w) = za_x 92 (.aload_n 0) 5 l st w := za_n.at zcc_92 dX9_tells_5 rfl
theorem f_92_6 (l : za_L) (st : List Value) (w : za_W) : za_n 92 (6, l, st, w) = za_x 92 (.getfield 31) 6 l st w := za_n.at zcc_92 dX9_tells_6 rfl
theorem f_92_9 (l : za_L) (st : List Value) (w : za_W) : za_n 92 (9, l, st, w) = za_x 92 (.if_icmp .ge 13) 9 l st w := za_n.at zcc_92 dX9_tells_9 rfl
theorem f_92_12 (l : za_L) (st : List Value) (w : za_W) : za_n 92 (12, l, st, w) = za_x 92 (.iload_n 1) 12 l st w := za_n.at zcc_92 dX9_tells_12 rfl
theorem f_92_13 (l : za_L) (st : List Value) (w : za_W) : za_n 92 (13, l, st, w) = za_go 15 l (.int (60) :: st) w := (za_n.at zcc_92 dX9_tells_13 rfl).trans (congrArg (fun x => za_go 15 l (.int x :: st) w) (by decide))
theorem f_92_15 (l : za_L) (st : List Value) (w : za_W) : za_n 92 (15, l, st, w) = za_x 92 (.if_icmp .ge 7) 15 l st w := za_n.at zcc_92 dX9_tells_15 rfl
theorem f_92_18 (l : za_L) (st : List Value) (w : za_W) : za_n 92 (18, l, st, w) = za_go 19 l (.int (1) :: st) w := (za_n.at zcc_92 dX9_tells_18 rfl).trans (congrArg (fun x => za_go 19 l (.int x :: st) w) (by decide))
theorem f_92_19 (l : za_L) (st : List Value) (w : za_W) : za_n 92 (19, l, st, w) = za_go 23 l st w := (za_n.at zcc_92 dX9_tells_19 rfl).trans (za_jp.at (by decide))
theorem f_92_22 (l : za_L) (st : List Value) (w : za_W) : za_n 92 (22, l, st, w) = za_go 23 l (.int (0) :: st) w := (za_n.at zcc_92 dX9_tells_22 rfl).trans (congrArg (fun x => za_go 23 l (.int x :: st) w) (by decide))
theorem f_92_23 (l : za_L) (st : List Value) (w : za_W) : za_n 92 (23, l, st, w) = za_x 92 (.ireturn) 23 l st w := za_n.at zcc_92 dX9_tells_23 rfl
theorem f_93_0 (l : za_L) (st : List Value) (w : za_W) : za_n 93 (0, l, st, w) = za_x 93 (.aload_n 0) 0 l st w := za_n.at zcc_93 dX9_fact_0 rfl
theorem f_93_1 (l : za_L) (st : List Value) (w : za_W) : za_n 93 (1, l, st, w) = za_x 93 (.iload_n 1) 1 l st w := za_n.at zcc_93 dX9_fact_1 rfl
theorem f_93_2 (l : za_L) (st : List Value) (w : za_W) : za_n 93 (2, l, st, w) = za_x 93 (.invokevirtual 38) 2 l st w := za_n.at zcc_93 dX9_fact_2 rfl
theorem f_93_5 (l : za_L) (st : List Value) (w : za_W) : za_n 93 (5, l, st, w) = za_x 93 (.ifCond .eq 27) 5 l st w := za_n.at zcc_93 dX9_fact_5 rfl
theorem f_93_8 (l : za_L) (st : List Value) (w : za_W) : za_n 93 (8, l, st, w) = za_x 93 (.iload_n 2) 8 l st w := za_n.at zcc_93 dX9_fact_8 rfl
theorem f_93_9 (l : za_L) (st : List Value) (w : za_W) : za_n 93 (9, l, st, w) = za_x 93 (.ifCond .lt 23) 9 l st w := za_n.at zcc_93 dX9_fact_9 rfl
theorem f_93_12 (l : za_L) (st : List Value) (w : za_W) : za_n 93 (12, l, st, w) = za_x 93 (.iload_n 2) 12 l st w := za_n.at zcc_93 dX9_fact_12 rfl
theorem f_93_13 (l : za_L) (st : List Value) (w : za_W) : za_n 93 (13, l, st, w) = za_go 15 l (.int (9) :: st) w := (za_n.at zcc_93 dX9_fact_13 rfl).trans (congrArg (fun x => za_go 15 l (.int x :: st) w) (by decide))
theorem f_93_15 (l : za_L) (st : List Value) (w : za_W) : za_n 93 (15, l, st, w) = za_x 93 (.if_icmp .ge 17) 15 l st w := za_n.at zcc_93 dX9_fact_15 rfl
theorem f_93_18 (l : za_L) (st : List Value) (w : za_W) : za_n 93 (18, l, st, w) = za_x 93 (.aload_n 0) 18 l st w := za_n.at zcc_93 dX9_fact_18 rfl
theorem f_93_19 (l : za_L) (st : List Value) (w : za_W) : za_n 93 (19, l, st, w) = za_x 93 (.getfield 9) 19 l st w := za_n.at zcc_93 dX9_fact_19 rfl
theorem f_93_22 (l : za_L) (st : List Value) (w : za_W) : za_n 93 (22, l, st, w) = za_x 93 (.iload_n 1) 22 l st w := za_n.at zcc_93 dX9_fact_22 rfl
theorem f_93_23 (l : za_L) (st : List Value) (w : za_W) : za_n 93 (23, l, st, w) = za_go 25 l (.int (9) :: st) w := (za_n.at zcc_93 dX9_fact_23 rfl).trans (congrArg (fun x => za_go 25 l (.int x :: st) w) (by decide))
theorem f_93_25 (l : za_L) (st : List Value) (w : za_W) : za_n 93 (25, l, st, w) = za_x 93 (.imul) 25 l st w := za_n.at zcc_93 dX9_fact_25 rfl
theorem f_93_26 (l : za_L) (st : List Value) (w : za_W) : za_n 93 (26, l, st, w) = za_x 93 (.iload_n 2) 26 l st w := za_n.at zcc_93 dX9_fact_26 rfl
theorem f_93_27 (l : za_L) (st : List Value) (w : za_W) : za_n 93 (27, l, st, w) = za_x 93 (.iadd) 27 l st w := za_n.at zcc_93 dX9_fact_27 rfl
theorem f_93_28 (l : za_L) (st : List Value) (w : za_W) : za_n 93 (28, l, st, w) = za_x 93 (.iaload) 28 l st w := za_n.at zcc_93 dX9_fact_28 rfl
theorem f_93_29 (l : za_L) (st : List Value) (w : za_W) : za_n 93 (29, l, st, w) = za_go 33 l st w := (za_n.at zcc_93 dX9_fact_29 rfl).trans (za_jp.at (by decide))
theorem f_93_32 (l : za_L) (st : List Value) (w : za_W) : za_n 93 (32, l, st, w) = za_go 33 l (.int (-1) :: st) w := (za_n.at zcc_93 dX9_fact_32 rfl).trans (congrArg (fun x => za_go 33 l (.int x :: st) w) (by decide))
theorem f_93_33 (l : za_L) (st : List Value) (w : za_W) : za_n 93 (33, l, st, w) = za_x 93 (.ireturn) 33 l st w := za_n.at zcc_93 dX9_fact_33 rfl
theorem f_94_0 (l : za_L) (st : List Value) (w : za_W) : za_n 94 (0, l, st, w) = za_x 94 (.aload_n 0) 0 l st w := za_n.at zcc_94 dX9_sumOf_0 rfl
theorem f_94_1 (l : za_L) (st : List Value) (w : za_W) : za_n 94 (1, l, st, w) = za_x 94 (.iload_n 1) 1 l st w := za_n.at zcc_94 dX9_sumOf_1 rfl
theorem f_94_2 (l : za_L) (st : List Value) (w : za_W) : za_n 94 (2, l, st, w) = za_x 94 (.invokevirtual 38) 2 l st w := za_n.at zcc_94 dX9_sumOf_2 rfl
theorem f_94_5 (l : za_L) (st : List Value) (w : za_W) : za_n 94 (5, l, st, w) = za_x 94 (.ifCond .eq 12) 5 l st w := za_n.at zcc_94 dX9_sumOf_5 rfl
theorem f_94_8 (l : za_L) (st : List Value) (w : za_W) : za_n 94 (8, l, st, w) = za_x 94 (.aload_n 0) 8 l st w := za_n.at zcc_94 dX9_sumOf_8 rfl
theorem f_94_9 (l : za_L) (st : List Value) (w : za_W) : za_n 94 (9, l, st, w) = za_x 94 (.getfield 15) 9 l st w := za_n.at zcc_94 dX9_sumOf_9 rfl
theorem f_94_12 (l : za_L) (st : List Value) (w : za_W) : za_n 94 (12, l, st, w) = za_x 94 (.iload_n 1) 12 l st w := za_n.at zcc_94 dX9_sumOf_12 rfl
theorem f_94_13 (l : za_L) (st : List Value) (w : za_W) : za_n 94 (13, l, st, w) = za_x 94 (.iaload) 13 l st w := za_n.at zcc_94 dX9_sumOf_13 rfl
theorem f_94_14 (l : za_L) (st : List Value) (w : za_W) : za_n 94 (14, l, st, w) = za_go 18 l st w := (za_n.at zcc_94 dX9_sumOf_14 rfl).trans (za_jp.at (by decide))
theorem f_94_17 (l : za_L) (st : List Value) (w : za_W) : za_n 94 (17, l, st, w) = za_go 18 l (.int (0) :: st) w := (za_n.at zcc_94 dX9_sumOf_17 rfl).trans (congrArg (fun x => za_go 18 l (.int x :: st) w) (by decide))
theorem f_94_18 (l : za_L) (st : List Value) (w : za_W) : za_n 94 (18, l, st, w) = za_x 94 (.ireturn) 18 l st w := za_n.at zcc_94 dX9_sumOf_18 rfl
theorem f_95_0 (l : za_L) (st : List Value) (w : za_W) : za_n 95 (0, l, st, w) = za_x 95 (.iload_n 1) 0 l st w := za_n.at zcc_95 dX9_note_0 rfl
theorem f_95_1 (l : za_L) (st : List Value) (w : za_W) : za_n 95 (1, l, st, w) = za_x 95 (.ifCond .lt 16) 1 l st w := za_n.at zcc_95 dX9_note_1 rfl
theorem f_95_4 (l : za_L) (st : List Value) (w : za_W) : za_n 95 (4, l, st, w) = za_x 95 (.iload_n 1) 4 l st w := za_n.at zcc_95 dX9_note_4 rfl
theorem f_95_5 (l : za_L) (st : List Value) (w : za_W) : za_n 95 (5, l, st, w) = za_go 7 l (.int (9) :: st) w := (za_n.at zcc_95 dX9_note_5 rfl).trans (congrArg (fun x => za_go 7 l (.int x :: st) w) (by decide))
theorem f_95_7 (l : za_L) (st : List Value) (w : za_W) : za_n 95 (7, l, st, w) = za_x 95 (.if_icmp .ge 10) 7 l st w := za_n.at zcc_95 dX9_note_7 rfl
theorem f_95_10 (l : za_L) (st : List Value) (w : za_W) : za_n 95 (10, l, st, w) = za_x 95 (.aload_n 0) 10 l st w := za_n.at zcc_95 dX9_note_10 rfl
theorem f_95_11 (l : za_L) (st : List Value) (w : za_W) : za_n 95 (11, l, st, w) = za_x 95 (.getfield 18) 11 l st w := za_n.at zcc_95 dX9_note_11 rfl
theorem f_95_14 (l : za_L) (st : List Value) (w : za_W) : za_n 95 (14, l, st, w) = za_x 95 (.iload_n 1) 14 l st w := za_n.at zcc_95 dX9_note_14 rfl
theorem f_95_15 (l : za_L) (st : List Value) (w : za_W) : za_n 95 (15, l, st, w) = za_x 95 (.iload_n 2) 15 l st w := za_n.at zcc_95 dX9_note_15 rfl
theorem f_95_16 (l : za_L) (st : List Value) (w : za_W) : za_n 95 (16, l, st, w) = za_x 95 (.iastore) 16 l st w := za_n.at zcc_95 dX9_note_16 rfl
theorem f_95_17 (l : za_L) (st : List Value) (w : za_W) : za_n 95 (17, l, st, w) = za_x 95 (.return_) 17 l st w := za_n.at zcc_95 dX9_note_17 rfl
theorem f_96_0 (l : za_L) (st : List Value) (w : za_W) : za_n 96 (0, l, st, w) = za_x 96 (.aload_n 0) 0 l st w := za_n.at zcc_96 dX9_keepBlock_0 rfl
theorem f_96_1 (l : za_L) (st : List Value) (w : za_W) : za_n 96 (1, l, st, w) = za_x 96 (.getfield 31) 1 l st w := za_n.at zcc_96 dX9_keepBlock_1 rfl
theorem f_96_4 (l : za_L) (st : List Value) (w : za_W) : za_n 96 (4, l, st, w) = za_go 6 l (.int (60) :: st) w := (za_n.at zcc_96 dX9_keepBlock_4 rfl).trans (congrArg (fun x => za_go 6 l (.int x :: st) w) (by decide))
theorem f_96_6 (l : za_L) (st : List Value) (w : za_W) : za_n 96 (6, l, st, w) = za_x 96 (.if_icmp .ge 37) 6 l st w := za_n.at zcc_96 dX9_keepBlock_6 rfl
theorem f_96_9 (l : za_L) (st : List Value) (w : za_W) : za_n 96 (9, l, st, w) = za_x 96 (.aload_n 0) 9 l st w := za_n.at zcc_96 dX9_keepBlock_9 rfl
theorem f_96_10 (l : za_L) (st : List Value) (w : za_W) : za_n 96 (10, l, st, w) = za_x 96 (.getfield 18) 10 l st w := za_n.at zcc_96 dX9_keepBlock_10 rfl
theorem f_96_13 (l : za_L) (st : List Value) (w : za_W) : za_n 96 (13, l, st, w) = za_go 14 l (.int (0) :: st) w := (za_n.at zcc_96 dX9_keepBlock_13 rfl).trans (congrArg (fun x => za_go 14 l (.int x :: st) w) (by decide))
theorem f_96_14 (l : za_L) (st : List Value) (w : za_W) : za_n 96 (14, l, st, w) = za_x 96 (.aload_n 0) 14 l st w := za_n.at zcc_96 dX9_keepBlock_14 rfl
theorem f_96_15 (l : za_L) (st : List Value) (w : za_W) : za_n 96 (15, l, st, w) = za_x 96 (.getfield 9) 15 l st w := za_n.at zcc_96 dX9_keepBlock_15 rfl
theorem f_96_18 (l : za_L) (st : List Value) (w : za_W) : za_n 96 (18, l, st, w) = za_x 96 (.aload_n 0) 18 l st w := za_n.at zcc_96 dX9_keepBlock_18 rfl
theorem f_96_19 (l : za_L) (st : List Value) (w : za_W) : za_n 96 (19, l, st, w) = za_x 96 (.getfield 31) 19 l st w := za_n.at zcc_96 dX9_keepBlock_19 rfl
theorem f_96_22 (l : za_L) (st : List Value) (w : za_W) : za_n 96 (22, l, st, w) = za_go 24 l (.int (9) :: st) w := (za_n.at zcc_96 dX9_keepBlock_22 rfl).trans (congrArg (fun x => za_go 24 l (.int x :: st) w) (by decide))
theorem f_96_24 (l : za_L) (st : List Value) (w : za_W) : za_n 96 (24, l, st, w) = za_x 96 (.imul) 24 l st w := za_n.at zcc_96 dX9_keepBlock_24 rfl
theorem f_96_25 (l : za_L) (st : List Value) (w : za_W) : za_n 96 (25, l, st, w) = za_go 27 l (.int (9) :: st) w := (za_n.at zcc_96 dX9_keepBlock_25 rfl).trans (congrArg (fun x => za_go 27 l (.int x :: st) w) (by decide))
theorem f_96_27 (l : za_L) (st : List Value) (w : za_W) : za_n 96 (27, l, st, w) = za_x 96 (.invokestatic 42) 27 l st w := za_n.at zcc_96 dX9_keepBlock_27 rfl
theorem f_96_30 (l : za_L) (st : List Value) (w : za_W) : za_n 96 (30, l, st, w) = za_x 96 (.aload_n 0) 30 l st w := za_n.at zcc_96 dX9_keepBlock_30 rfl
theorem f_96_31 (l : za_L) (st : List Value) (w : za_W) : za_n 96 (31, l, st, w) = za_x 96 (.getfield 15) 31 l st w := za_n.at zcc_96 dX9_keepBlock_31 rfl
theorem f_96_34 (l : za_L) (st : List Value) (w : za_W) : za_n 96 (34, l, st, w) = za_x 96 (.aload_n 0) 34 l st w := za_n.at zcc_96 dX9_keepBlock_34 rfl
theorem f_96_35 (l : za_L) (st : List Value) (w : za_W) : za_n 96 (35, l, st, w) = za_x 96 (.getfield 31) 35 l st w := za_n.at zcc_96 dX9_keepBlock_35 rfl
theorem f_96_38 (l : za_L) (st : List Value) (w : za_W) : za_n 96 (38, l, st, w) = za_x 96 (.aload_n 0) 38 l st w := za_n.at zcc_96 dX9_keepBlock_38 rfl
theorem f_96_39 (l : za_L) (st : List Value) (w : za_W) : za_n 96 (39, l, st, w) = za_x 96 (.getfield 48) 39 l st w := za_n.at zcc_96 dX9_keepBlock_39 rfl
theorem f_96_42 (l : za_L) (st : List Value) (w : za_W) : za_n 96 (42, l, st, w) = za_x 96 (.iastore) 42 l st w := za_n.at zcc_96 dX9_keepBlock_42 rfl
theorem f_96_43 (l : za_L) (st : List Value) (w : za_W) : za_n 96 (43, l, st, w) = za_x 96 (.aload_n 0) 43 l st w := za_n.at zcc_96 dX9_keepBlock_43 rfl
theorem f_96_44 (l : za_L) (st : List Value) (w : za_W) : za_n 96 (44, l, st, w) = za_x 96 (.dup) 44 l st w := za_n.at zcc_96 dX9_keepBlock_44 rfl
theorem f_96_45 (l : za_L) (st : List Value) (w : za_W) : za_n 96 (45, l, st, w) = za_x 96 (.getfield 31) 45 l st w := za_n.at zcc_96 dX9_keepBlock_45 rfl
theorem f_96_48 (l : za_L) (st : List Value) (w : za_W) : za_n 96 (48, l, st, w) = za_go 49 l (.int (1) :: st) w := (za_n.at zcc_96 dX9_keepBlock_48 rfl).trans (congrArg (fun x => za_go 49 l (.int x :: st) w) (by decide))
theorem f_96_49 (l : za_L) (st : List Value) (w : za_W) : za_n 96 (49, l, st, w) = za_x 96 (.iadd) 49 l st w := za_n.at zcc_96 dX9_keepBlock_49 rfl
theorem f_96_50 (l : za_L) (st : List Value) (w : za_W) : za_n 96 (50, l, st, w) = za_x 96 (.putfield 31) 50 l st w := za_n.at zcc_96 dX9_keepBlock_50 rfl
theorem f_96_53 (l : za_L) (st : List Value) (w : za_W) : za_n 96 (53, l, st, w) = za_x 96 (.return_) 53 l st w := za_n.at zcc_96 dX9_keepBlock_53 rfl
theorem f_97_0 (l : za_L) (st : List Value) (w : za_W) : za_n 97 (0, l, st, w) = za_x 97 (.aload_n 0) 0 l st w := za_n.at zcc_97 dX9_keepCoding_0 rfl
theorem f_97_1 (l : za_L) (st : List Value) (w : za_W) : za_n 97 (1, l, st, w) = za_x 97 (.getfield 24) 1 l st w := za_n.at zcc_97 dX9_keepCoding_1 rfl
theorem f_97_4 (l : za_L) (st : List Value) (w : za_W) : za_n 97 (4, l, st, w) = za_x 97 (.astore_n 1) 4 l st w := za_n.at zcc_97 dX9_keepCoding_4 rfl
theorem f_97_5 (l : za_L) (st : List Value) (w : za_W) : za_n 97 (5, l, st, w) = za_x 97 (.aload_n 0) 5 l st w := za_n.at zcc_97 dX9_keepCoding_5 rfl
theorem f_97_6 (l : za_L) (st : List Value) (w : za_W) : za_n 97 (6, l, st, w) = za_x 97 (.aload_n 0) 6 l st w := za_n.at zcc_97 dX9_keepCoding_6 rfl
theorem f_97_7 (l : za_L) (st : List Value) (w : za_W) : za_n 97 (7, l, st, w) = za_x 97 (.getfield 28) 7 l st w := za_n.at zcc_97 dX9_keepCoding_7 rfl
theorem f_97_10 (l : za_L) (st : List Value) (w : za_W) : za_n 97 (10, l, st, w) = za_x 97 (.putfield 24) 10 l st w := za_n.at zcc_97 dX9_keepCoding_10 rfl
theorem f_97_13 (l : za_L) (st : List Value) (w : za_W) : za_n 97 (13, l, st, w) = za_x 97 (.aload_n 0) 13 l st w := za_n.at zcc_97 dX9_keepCoding_13 rfl
theorem f_97_14 (l : za_L) (st : List Value) (w : za_W) : za_n 97 (14, l, st, w) = za_x 97 (.aload_n 1) 14 l st w := za_n.at zcc_97 dX9_keepCoding_14 rfl
theorem f_97_15 (l : za_L) (st : List Value) (w : za_W) : za_n 97 (15, l, st, w) = za_x 97 (.putfield 28) 15 l st w := za_n.at zcc_97 dX9_keepCoding_15 rfl
theorem f_97_18 (l : za_L) (st : List Value) (w : za_W) : za_n 97 (18, l, st, w) = za_x 97 (.return_) 18 l st w := za_n.at zcc_97 dX9_keepCoding_18 rfl
theorem f_98_0 (l : za_L) (st : List Value) (w : za_W) : za_n 98 (0, l, st, w) = za_x 98 (.aload_n 0) 0 l st w := za_n.at zcc_98 dX10_init_0 rfl
theorem f_98_1 (l : za_L) (st : List Value) (w : za_W) : za_n 98 (1, l, st, w) = za_x 98 (.invokespecial 3) 1 l st w := za_n.at zcc_98 dX10_init_1 rfl
theorem f_98_4 (l : za_L) (st : List Value) (w : za_W) : za_n 98 (4, l, st, w) = za_x 98 (.aload_n 0) 4 l st w := za_n.at zcc_98 dX10_init_4 rfl
theorem f_98_5 (l : za_L) (st : List Value) (w : za_W) : za_n 98 (5, l, st, w) = za_go 8 l (.int (1800) :: st) w := (za_n.at zcc_98 dX10_init_5 rfl).trans (congrArg (fun x => za_go 8 l (.int x :: st) w) (by decide))
theorem f_98_8 (l : za_L) (st : List Value) (w : za_W) : za_n 98 (8, l, st, w) = za_x 98 (.newarray .int) 8 l st w := za_n.at zcc_98 dX10_init_8 rfl
theorem f_98_10 (l : za_L) (st : List Value) (w : za_W) : za_n 98 (10, l, st, w) = za_x 98 (.putfield 9) 10 l st w := za_n.at zcc_98 dX10_init_10 rfl
theorem f_98_13 (l : za_L) (st : List Value) (w : za_W) : za_n 98 (13, l, st, w) = za_x 98 (.aload_n 0) 13 l st w := za_n.at zcc_98 dX10_init_13 rfl
theorem f_98_14 (l : za_L) (st : List Value) (w : za_W) : za_n 98 (14, l, st, w) = za_go 17 l (.int (1800) :: st) w := (za_n.at zcc_98 dX10_init_14 rfl).trans (congrArg (fun x => za_go 17 l (.int x :: st) w) (by decide))
theorem f_98_17 (l : za_L) (st : List Value) (w : za_W) : za_n 98 (17, l, st, w) = za_x 98 (.newarray .int) 17 l st w := za_n.at zcc_98 dX10_init_17 rfl
theorem f_98_19 (l : za_L) (st : List Value) (w : za_W) : za_n 98 (19, l, st, w) = za_x 98 (.putfield 15) 19 l st w := za_n.at zcc_98 dX10_init_19 rfl
theorem f_98_22 (l : za_L) (st : List Value) (w : za_W) : za_n 98 (22, l, st, w) = za_x 98 (.aload_n 0) 22 l st w := za_n.at zcc_98 dX10_init_22 rfl
theorem f_98_23 (l : za_L) (st : List Value) (w : za_W) : za_n 98 (23, l, st, w) = za_go 26 l (.int (1800) :: st) w := (za_n.at zcc_98 dX10_init_23 rfl).trans (congrArg (fun x => za_go 26 l (.int x :: st) w) (by decide))
theorem f_98_26 (l : za_L) (st : List Value) (w : za_W) : za_n 98 (26, l, st, w) = za_x 98 (.newarray .int) 26 l st w := za_n.at zcc_98 dX10_init_26 rfl
theorem f_98_28 (l : za_L) (st : List Value) (w : za_W) : za_n 98 (28, l, st, w) = za_x 98 (.putfield 18) 28 l st w := za_n.at zcc_98 dX10_init_28 rfl
theorem f_98_31 (l : za_L) (st : List Value) (w : za_W) : za_n 98 (31, l, st, w) = za_x 98 (.aload_n 0) 31 l st w := za_n.at zcc_98 dX10_init_31 rfl
theorem f_98_32 (l : za_L) (st : List Value) (w : za_W) : za_n 98 (32, l, st, w) = za_go 35 l (.int (1801) :: st) w := (za_n.at zcc_98 dX10_init_32 rfl).trans (congrArg (fun x => za_go 35 l (.int x :: st) w) (by decide))
theorem f_98_35 (l : za_L) (st : List Value) (w : za_W) : za_n 98 (35, l, st, w) = za_x 98 (.newarray .int) 35 l st w := za_n.at zcc_98 dX10_init_35 rfl
theorem f_98_37 (l : za_L) (st : List Value) (w : za_W) : za_n 98 (37, l, st, w) = za_x 98 (.putfield 21) 37 l st w := za_n.at zcc_98 dX10_init_37 rfl
theorem f_98_40 (l : za_L) (st : List Value) (w : za_W) : za_n 98 (40, l, st, w) = za_x 98 (.return_) 40 l st w := za_n.at zcc_98 dX10_init_40 rfl
theorem f_99_0 (l : za_L) (st : List Value) (w : za_W) : za_n 99 (0, l, st, w) = za_go 1 l (.int (0) :: st) w := (za_n.at zcc_99 dX10_sortTurns_0 rfl).trans (congrArg (fun x => za_go 1 l (.int x :: st) w) (by decide))
theorem f_99_1 (l : za_L) (st : List Value) (w : za_W) : za_n 99 (1, l, st, w) = za_x 99 (.istore_n 3) 1 l st w := za_n.at zcc_99 dX10_sortTurns_1 rfl
theorem f_99_2 (l : za_L) (st : List Value) (w : za_W) : za_n 99 (2, l, st, w) = za_x 99 (.iload_n 3) 2 l st w := za_n.at zcc_99 dX10_sortTurns_2 rfl
theorem f_99_3 (l : za_L) (st : List Value) (w : za_W) : za_n 99 (3, l, st, w) = za_x 99 (.iload_n 2) 3 l st w := za_n.at zcc_99 dX10_sortTurns_3 rfl
theorem f_99_4 (l : za_L) (st : List Value) (w : za_W) : za_n 99 (4, l, st, w) = za_x 99 (.if_icmp .ge 22) 4 l st w := za_n.at zcc_99 dX10_sortTurns_4 rfl
theorem f_99_7 (l : za_L) (st : List Value) (w : za_W) : za_n 99 (7, l, st, w) = za_x 99 (.aload_n 0) 7 l st w := za_n.at zcc_99 dX10_sortTurns_7 rfl
theorem f_99_8 (l : za_L) (st : List Value) (w : za_W) : za_n 99 (8, l, st, w) = za_x 99 (.getfield 15) 8 l st w := za_n.at zcc_99 dX10_sortTurns_8 rfl
theorem f_99_11 (l : za_L) (st : List Value) (w : za_W) : za_n 99 (11, l, st, w) = za_x 99 (.iload_n 3) 11 l st w := za_n.at zcc_99 dX10_sortTurns_11 rfl
theorem f_99_12 (l : za_L) (st : List Value) (w : za_W) : za_n 99 (12, l, st, w) = za_x 99 (.aload_n 1) 12 l st w := za_n.at zcc_99 dX10_sortTurns_12 rfl
theorem f_99_13 (l : za_L) (st : List Value) (w : za_W) : za_n 99 (13, l, st, w) = za_x 99 (.iload_n 3) 13 l st w := za_n.at zcc_99 dX10_sortTurns_13 rfl
theorem f_99_14 (l : za_L) (st : List Value) (w : za_W) : za_n 99 (14, l, st, w) = za_x 99 (.baload) 14 l st w := za_n.at zcc_99 dX10_sortTurns_14 rfl
theorem f_99_15 (l : za_L) (st : List Value) (w : za_W) : za_n 99 (15, l, st, w) = za_go 18 l (.int (255) :: st) w := (za_n.at zcc_99 dX10_sortTurns_15 rfl).trans (congrArg (fun x => za_go 18 l (.int x :: st) w) (by decide))
theorem f_99_18 (l : za_L) (st : List Value) (w : za_W) : za_n 99 (18, l, st, w) = za_x 99 (.iand) 18 l st w := za_n.at zcc_99 dX10_sortTurns_18 rfl
theorem f_99_19 (l : za_L) (st : List Value) (w : za_W) : za_n 99 (19, l, st, w) = za_x 99 (.iastore) 19 l st w := za_n.at zcc_99 dX10_sortTurns_19 rfl
theorem f_99_20 (l : za_L) (st : List Value) (w : za_W) : za_n 99 (20, l, st, w) = za_x 99 (.iinc 3 1) 20 l st w := za_n.at zcc_99 dX10_sortTurns_20 rfl
theorem f_99_23 (l : za_L) (st : List Value) (w : za_W) : za_n 99 (23, l, st, w) = za_go 2 l st w := (za_n.at zcc_99 dX10_sortTurns_23 rfl).trans (za_jp.at (by decide))
theorem f_99_26 (l : za_L) (st : List Value) (w : za_W) : za_n 99 (26, l, st, w) = za_x 99 (.aload_n 0) 26 l st w := za_n.at zcc_99 dX10_sortTurns_26 rfl
theorem f_99_27 (l : za_L) (st : List Value) (w : za_W) : za_n 99 (27, l, st, w) = za_x 99 (.iload_n 2) 27 l st w := za_n.at zcc_99 dX10_sortTurns_27 rfl
theorem f_99_28 (l : za_L) (st : List Value) (w : za_W) : za_n 99 (28, l, st, w) = za_x 99 (.invokevirtual 24) 28 l st w := za_n.at zcc_99 dX10_sortTurns_28 rfl
theorem f_99_31 (l : za_L) (st : List Value) (w : za_W) : za_n 99 (31, l, st, w) = za_go 32 l (.int (1) :: st) w := (za_n.at zcc_99 dX10_sortTurns_31 rfl).trans (congrArg (fun x => za_go 32 l (.int x :: st) w) (by decide))
theorem f_99_32 (l : za_L) (st : List Value) (w : za_W) : za_n 99 (32, l, st, w) = za_x 99 (.istore_n 3) 32 l st w := za_n.at zcc_99 dX10_sortTurns_32 rfl
theorem f_99_33 (l : za_L) (st : List Value) (w : za_W) : za_n 99 (33, l, st, w) = za_x 99 (.iload_n 3) 33 l st w := za_n.at zcc_99 dX10_sortTurns_33 rfl
theorem f_99_34 (l : za_L) (st : List Value) (w : za_W) : za_n 99 (34, l, st, w) = za_x 99 (.iload_n 2) 34 l st w := za_n.at zcc_99 dX10_sortTurns_34 rfl
theorem f_99_35 (l : za_L) (st : List Value) (w : za_W) : za_n 99 (35, l, st, w) = za_x 99 (.if_icmp .ge 56) 35 l st w := za_n.at zcc_99 dX10_sortTurns_35 rfl
theorem f_99_38 (l : za_L) (st : List Value) (w : za_W) : za_n 99 (38, l, st, w) = za_go 39 l (.int (0) :: st) w := (za_n.at zcc_99 dX10_sortTurns_38 rfl).trans (congrArg (fun x => za_go 39 l (.int x :: st) w) (by decide))
theorem f_99_39 (l : za_L) (st : List Value) (w : za_W) : za_n 99 (39, l, st, w) = za_x 99 (.istore 4) 39 l st w := za_n.at zcc_99 dX10_sortTurns_39 rfl
theorem f_99_41 (l : za_L) (st : List Value) (w : za_W) : za_n 99 (41, l, st, w) = za_x 99 (.iload 4) 41 l st w := za_n.at zcc_99 dX10_sortTurns_41 rfl
theorem f_99_43 (l : za_L) (st : List Value) (w : za_W) : za_n 99 (43, l, st, w) = za_x 99 (.iload_n 2) 43 l st w := za_n.at zcc_99 dX10_sortTurns_43 rfl
theorem f_99_44 (l : za_L) (st : List Value) (w : za_W) : za_n 99 (44, l, st, w) = za_x 99 (.if_icmp .ge 29) 44 l st w := za_n.at zcc_99 dX10_sortTurns_44 rfl
theorem f_99_47 (l : za_L) (st : List Value) (w : za_W) : za_n 99 (47, l, st, w) = za_x 99 (.aload_n 0) 47 l st w := za_n.at zcc_99 dX10_sortTurns_47 rfl
theorem f_99_48 (l : za_L) (st : List Value) (w : za_W) : za_n 99 (48, l, st, w) = za_x 99 (.getfield 18) 48 l st w := za_n.at zcc_99 dX10_sortTurns_48 rfl
theorem f_99_51 (l : za_L) (st : List Value) (w : za_W) : za_n 99 (51, l, st, w) = za_x 99 (.iload 4) 51 l st w := za_n.at zcc_99 dX10_sortTurns_51 rfl
theorem f_99_53 (l : za_L) (st : List Value) (w : za_W) : za_n 99 (53, l, st, w) = za_x 99 (.aload_n 0) 53 l st w := za_n.at zcc_99 dX10_sortTurns_53 rfl
theorem f_99_54 (l : za_L) (st : List Value) (w : za_W) : za_n 99 (54, l, st, w) = za_x 99 (.getfield 9) 54 l st w := za_n.at zcc_99 dX10_sortTurns_54 rfl
theorem f_99_57 (l : za_L) (st : List Value) (w : za_W) : za_n 99 (57, l, st, w) = za_x 99 (.iload 4) 57 l st w := za_n.at zcc_99 dX10_sortTurns_57 rfl
theorem f_99_59 (l : za_L) (st : List Value) (w : za_W) : za_n 99 (59, l, st, w) = za_x 99 (.iaload) 59 l st w := za_n.at zcc_99 dX10_sortTurns_59 rfl
theorem f_99_60 (l : za_L) (st : List Value) (w : za_W) : za_n 99 (60, l, st, w) = za_x 99 (.iload_n 3) 60 l st w := za_n.at zcc_99 dX10_sortTurns_60 rfl
theorem f_99_61 (l : za_L) (st : List Value) (w : za_W) : za_n 99 (61, l, st, w) = za_x 99 (.isub) 61 l st w := za_n.at zcc_99 dX10_sortTurns_61 rfl
theorem f_99_62 (l : za_L) (st : List Value) (w : za_W) : za_n 99 (62, l, st, w) = za_x 99 (.iload_n 2) 62 l st w := za_n.at zcc_99 dX10_sortTurns_62 rfl
theorem f_99_63 (l : za_L) (st : List Value) (w : za_W) : za_n 99 (63, l, st, w) = za_x 99 (.iadd) 63 l st w := za_n.at zcc_99 dX10_sortTurns_63 rfl
theorem f_99_64 (l : za_L) (st : List Value) (w : za_W) : za_n 99 (64, l, st, w) = za_x 99 (.iload_n 2) 64 l st w := za_n.at zcc_99 dX10_sortTurns_64 rfl
theorem f_99_65 (l : za_L) (st : List Value) (w : za_W) : za_n 99 (65, l, st, w) = za_x 99 (.irem) 65 l st w := za_n.at zcc_99 dX10_sortTurns_65 rfl
theorem f_99_66 (l : za_L) (st : List Value) (w : za_W) : za_n 99 (66, l, st, w) = za_x 99 (.iastore) 66 l st w := za_n.at zcc_99 dX10_sortTurns_66 rfl
theorem f_99_67 (l : za_L) (st : List Value) (w : za_W) : za_n 99 (67, l, st, w) = za_x 99 (.iinc 4 1) 67 l st w := za_n.at zcc_99 dX10_sortTurns_67 rfl
theorem f_99_70 (l : za_L) (st : List Value) (w : za_W) : za_n 99 (70, l, st, w) = za_go 41 l st w := (za_n.at zcc_99 dX10_sortTurns_70 rfl).trans (za_jp.at (by decide))
theorem f_99_73 (l : za_L) (st : List Value) (w : za_W) : za_n 99 (73, l, st, w) = za_x 99 (.aload_n 0) 73 l st w := za_n.at zcc_99 dX10_sortTurns_73 rfl
theorem f_99_74 (l : za_L) (st : List Value) (w : za_W) : za_n 99 (74, l, st, w) = za_x 99 (.iload_n 2) 74 l st w := za_n.at zcc_99 dX10_sortTurns_74 rfl
theorem f_99_75 (l : za_L) (st : List Value) (w : za_W) : za_n 99 (75, l, st, w) = za_x 99 (.invokevirtual 28) 75 l st w := za_n.at zcc_99 dX10_sortTurns_75 rfl
theorem f_99_78 (l : za_L) (st : List Value) (w : za_W) : za_n 99 (78, l, st, w) = za_x 99 (.aload_n 0) 78 l st w := za_n.at zcc_99 dX10_sortTurns_78 rfl
theorem f_99_79 (l : za_L) (st : List Value) (w : za_W) : za_n 99 (79, l, st, w) = za_x 99 (.iload_n 2) 79 l st w := za_n.at zcc_99 dX10_sortTurns_79 rfl
theorem f_99_80 (l : za_L) (st : List Value) (w : za_W) : za_n 99 (80, l, st, w) = za_x 99 (.iload_n 3) 80 l st w := za_n.at zcc_99 dX10_sortTurns_80 rfl
theorem f_99_81 (l : za_L) (st : List Value) (w : za_W) : za_n 99 (81, l, st, w) = za_x 99 (.invokevirtual 31) 81 l st w := za_n.at zcc_99 dX10_sortTurns_81 rfl
theorem f_99_84 (l : za_L) (st : List Value) (w : za_W) : za_n 99 (84, l, st, w) = za_x 99 (.iload_n 3) 84 l st w := za_n.at zcc_99 dX10_sortTurns_84 rfl
theorem f_99_85 (l : za_L) (st : List Value) (w : za_W) : za_n 99 (85, l, st, w) = za_go 86 l (.int (2) :: st) w := (za_n.at zcc_99 dX10_sortTurns_85 rfl).trans (congrArg (fun x => za_go 86 l (.int x :: st) w) (by decide))
theorem f_99_86 (l : za_L) (st : List Value) (w : za_W) : za_n 99 (86, l, st, w) = za_x 99 (.imul) 86 l st w := za_n.at zcc_99 dX10_sortTurns_86 rfl
theorem f_99_87 (l : za_L) (st : List Value) (w : za_W) : za_n 99 (87, l, st, w) = za_x 99 (.istore_n 3) 87 l st w := za_n.at zcc_99 dX10_sortTurns_87 rfl
theorem f_99_88 (l : za_L) (st : List Value) (w : za_W) : za_n 99 (88, l, st, w) = za_go 33 l st w := (za_n.at zcc_99 dX10_sortTurns_88 rfl).trans (za_jp.at (by decide))
theorem f_99_91 (l : za_L) (st : List Value) (w : za_W) : za_n 99 (91, l, st, w) = za_x 99 (.aload_n 0) 91 l st w := za_n.at zcc_99 dX10_sortTurns_91 rfl
theorem f_99_92 (l : za_L) (st : List Value) (w : za_W) : za_n 99 (92, l, st, w) = za_x 99 (.iload_n 2) 92 l st w := za_n.at zcc_99 dX10_sortTurns_92 rfl
theorem f_99_93 (l : za_L) (st : List Value) (w : za_W) : za_n 99 (93, l, st, w) = za_x 99 (.invokevirtual 24) 93 l st w := za_n.at zcc_99 dX10_sortTurns_93 rfl
theorem f_99_96 (l : za_L) (st : List Value) (w : za_W) : za_n 99 (96, l, st, w) = za_x 99 (.return_) 96 l st w := za_n.at zcc_99 dX10_sortTurns_96 rfl
theorem f_100_0 (l : za_L) (st : List Value) (w : za_W) : za_n 100 (0, l, st, w) = za_go 1 l (.int (0) :: st) w := (za_n.at zcc_100 dX10_sortPlaces_0 rfl).trans (congrArg (fun x => za_go 1 l (.int x :: st) w) (by decide))
theorem f_100_1 (l : za_L) (st : List Value) (w : za_W) : za_n 100 (1, l, st, w) = za_x 100 (.istore_n 2) 1 l st w := za_n.at zcc_100 dX10_sortPlaces_1 rfl
theorem f_100_2 (l : za_L) (st : List Value) (w : za_W) : za_n 100 (2, l, st, w) = za_x 100 (.iload_n 2) 2 l st w := za_n.at zcc_100 dX10_sortPlaces_2 rfl
theorem f_100_3 (l : za_L) (st : List Value) (w : za_W) : za_n 100 (3, l, st, w) = za_x 100 (.iload_n 1) 3 l st w := za_n.at zcc_100 dX10_sortPlaces_3 rfl
theorem f_100_4 (l : za_L) (st : List Value) (w : za_W) : za_n 100 (4, l, st, w) = za_x 100 (.if_icmp .ge 16) 4 l st w := za_n.at zcc_100 dX10_sortPlaces_4 rfl
theorem f_100_7 (l : za_L) (st : List Value) (w : za_W) : za_n 100 (7, l, st, w) = za_x 100 (.aload_n 0) 7 l st w := za_n.at zcc_100 dX10_sortPlaces_7 rfl
theorem f_100_8 (l : za_L) (st : List Value) (w : za_W) : za_n 100 (8, l, st, w) = za_x 100 (.getfield 18) 8 l st w := za_n.at zcc_100 dX10_sortPlaces_8 rfl
theorem f_100_11 (l : za_L) (st : List Value) (w : za_W) : za_n 100 (11, l, st, w) = za_x 100 (.iload_n 2) 11 l st w := za_n.at zcc_100 dX10_sortPlaces_11 rfl
theorem f_100_12 (l : za_L) (st : List Value) (w : za_W) : za_n 100 (12, l, st, w) = za_x 100 (.iload_n 2) 12 l st w := za_n.at zcc_100 dX10_sortPlaces_12 rfl
theorem f_100_13 (l : za_L) (st : List Value) (w : za_W) : za_n 100 (13, l, st, w) = za_x 100 (.iastore) 13 l st w := za_n.at zcc_100 dX10_sortPlaces_13 rfl
theorem f_100_14 (l : za_L) (st : List Value) (w : za_W) : za_n 100 (14, l, st, w) = za_x 100 (.iinc 2 1) 14 l st w := za_n.at zcc_100 dX10_sortPlaces_14 rfl
theorem f_100_17 (l : za_L) (st : List Value) (w : za_W) : za_n 100 (17, l, st, w) = za_go 2 l st w := (za_n.at zcc_100 dX10_sortPlaces_17 rfl).trans (za_jp.at (by decide))
theorem f_100_20 (l : za_L) (st : List Value) (w : za_W) : za_n 100 (20, l, st, w) = za_x 100 (.aload_n 0) 20 l st w := za_n.at zcc_100 dX10_sortPlaces_20 rfl
theorem f_100_21 (l : za_L) (st : List Value) (w : za_W) : za_n 100 (21, l, st, w) = za_x 100 (.iload_n 1) 21 l st w := za_n.at zcc_100 dX10_sortPlaces_21 rfl
theorem f_100_22 (l : za_L) (st : List Value) (w : za_W) : za_n 100 (22, l, st, w) = za_x 100 (.invokevirtual 28) 22 l st w := za_n.at zcc_100 dX10_sortPlaces_22 rfl
theorem f_100_25 (l : za_L) (st : List Value) (w : za_W) : za_n 100 (25, l, st, w) = za_x 100 (.return_) 25 l st w := za_n.at zcc_100 dX10_sortPlaces_25 rfl
theorem f_101_0 (l : za_L) (st : List Value) (w : za_W) : za_n 101 (0, l, st, w) = za_x 101 (.aload_n 0) 0 l st w := za_n.at zcc_101 dX10_sortWaiting_0 rfl
theorem f_101_1 (l : za_L) (st : List Value) (w : za_W) : za_n 101 (1, l, st, w) = za_x 101 (.getfield 21) 1 l st w := za_n.at zcc_101 dX10_sortWaiting_1 rfl
theorem f_101_4 (l : za_L) (st : List Value) (w : za_W) : za_n 101 (4, l, st, w) = za_go 5 l (.int (0) :: st) w := (za_n.at zcc_101 dX10_sortWaiting_4 rfl).trans (congrArg (fun x => za_go 5 l (.int x :: st) w) (by decide))
theorem f_101_5 (l : za_L) (st : List Value) (w : za_W) : za_n 101 (5, l, st, w) = za_x 101 (.invokestatic 35) 5 l st w := za_n.at zcc_101 dX10_sortWaiting_5 rfl
theorem f_101_8 (l : za_L) (st : List Value) (w : za_W) : za_n 101 (8, l, st, w) = za_go 9 l (.int (0) :: st) w := (za_n.at zcc_101 dX10_sortWaiting_8 rfl).trans (congrArg (fun x => za_go 9 l (.int x :: st) w) (by decide))
theorem f_101_9 (l : za_L) (st : List Value) (w : za_W) : za_n 101 (9, l, st, w) = za_x 101 (.istore_n 2) 9 l st w := za_n.at zcc_101 dX10_sortWaiting_9 rfl
theorem f_101_10 (l : za_L) (st : List Value) (w : za_W) : za_n 101 (10, l, st, w) = za_x 101 (.iload_n 2) 10 l st w := za_n.at zcc_101 dX10_sortWaiting_10 rfl
theorem f_101_11 (l : za_L) (st : List Value) (w : za_W) : za_n 101 (11, l, st, w) = za_x 101 (.iload_n 1) 11 l st w := za_n.at zcc_101 dX10_sortWaiting_11 rfl
theorem f_101_12 (l : za_L) (st : List Value) (w : za_W) : za_n 101 (12, l, st, w) = za_x 101 (.if_icmp .ge 26) 12 l st w := za_n.at zcc_101 dX10_sortWaiting_12 rfl
theorem f_101_15 (l : za_L) (st : List Value) (w : za_W) : za_n 101 (15, l, st, w) = za_x 101 (.aload_n 0) 15 l st w := za_n.at zcc_101 dX10_sortWaiting_15 rfl
theorem f_101_16 (l : za_L) (st : List Value) (w : za_W) : za_n 101 (16, l, st, w) = za_x 101 (.getfield 21) 16 l st w := za_n.at zcc_101 dX10_sortWaiting_16 rfl
theorem f_101_19 (l : za_L) (st : List Value) (w : za_W) : za_n 101 (19, l, st, w) = za_x 101 (.aload_n 0) 19 l st w := za_n.at zcc_101 dX10_sortWaiting_19 rfl
theorem f_101_20 (l : za_L) (st : List Value) (w : za_W) : za_n 101 (20, l, st, w) = za_x 101 (.getfield 15) 20 l st w := za_n.at zcc_101 dX10_sortWaiting_20 rfl
theorem f_101_23 (l : za_L) (st : List Value) (w : za_W) : za_n 101 (23, l, st, w) = za_x 101 (.iload_n 2) 23 l st w := za_n.at zcc_101 dX10_sortWaiting_23 rfl
theorem f_101_24 (l : za_L) (st : List Value) (w : za_W) : za_n 101 (24, l, st, w) = za_x 101 (.iaload) 24 l st w := za_n.at zcc_101 dX10_sortWaiting_24 rfl
theorem f_101_25 (l : za_L) (st : List Value) (w : za_W) : za_n 101 (25, l, st, w) = za_go 26 l (.int (1) :: st) w := (za_n.at zcc_101 dX10_sortWaiting_25 rfl).trans (congrArg (fun x => za_go 26 l (.int x :: st) w) (by decide))
theorem f_101_26 (l : za_L) (st : List Value) (w : za_W) : za_n 101 (26, l, st, w) = za_x 101 (.iadd) 26 l st w := za_n.at zcc_101 dX10_sortWaiting_26 rfl
theorem f_101_27 (l : za_L) (st : List Value) (w : za_W) : za_n 101 (27, l, st, w) = za_x 101 (.dup2) 27 l st w := za_n.at zcc_101 dX10_sortWaiting_27 rfl
theorem f_101_28 (l : za_L) (st : List Value) (w : za_W) : za_n 101 (28, l, st, w) = za_x 101 (.iaload) 28 l st w := za_n.at zcc_101 dX10_sortWaiting_28 rfl
theorem f_101_29 (l : za_L) (st : List Value) (w : za_W) : za_n 101 (29, l, st, w) = za_go 30 l (.int (1) :: st) w := (za_n.at zcc_101 dX10_sortWaiting_29 rfl).trans (congrArg (fun x => za_go 30 l (.int x :: st) w) (by decide))
theorem f_101_30 (l : za_L) (st : List Value) (w : za_W) : za_n 101 (30, l, st, w) = za_x 101 (.iadd) 30 l st w := za_n.at zcc_101 dX10_sortWaiting_30 rfl
theorem f_101_31 (l : za_L) (st : List Value) (w : za_W) : za_n 101 (31, l, st, w) = za_x 101 (.iastore) 31 l st w := za_n.at zcc_101 dX10_sortWaiting_31 rfl
theorem f_101_32 (l : za_L) (st : List Value) (w : za_W) : za_n 101 (32, l, st, w) = za_x 101 (.iinc 2 1) 32 l st w := za_n.at zcc_101 dX10_sortWaiting_32 rfl
theorem f_101_35 (l : za_L) (st : List Value) (w : za_W) : za_n 101 (35, l, st, w) = za_go 10 l st w := (za_n.at zcc_101 dX10_sortWaiting_35 rfl).trans (za_jp.at (by decide))
theorem f_101_38 (l : za_L) (st : List Value) (w : za_W) : za_n 101 (38, l, st, w) = za_go 39 l (.int (1) :: st) w := (za_n.at zcc_101 dX10_sortWaiting_38 rfl).trans (congrArg (fun x => za_go 39 l (.int x :: st) w) (by decide))
theorem f_101_39 (l : za_L) (st : List Value) (w : za_W) : za_n 101 (39, l, st, w) = za_x 101 (.istore_n 2) 39 l st w := za_n.at zcc_101 dX10_sortWaiting_39 rfl
theorem f_101_40 (l : za_L) (st : List Value) (w : za_W) : za_n 101 (40, l, st, w) = za_x 101 (.iload_n 2) 40 l st w := za_n.at zcc_101 dX10_sortWaiting_40 rfl
theorem f_101_41 (l : za_L) (st : List Value) (w : za_W) : za_n 101 (41, l, st, w) = za_x 101 (.aload_n 0) 41 l st w := za_n.at zcc_101 dX10_sortWaiting_41 rfl
theorem f_101_42 (l : za_L) (st : List Value) (w : za_W) : za_n 101 (42, l, st, w) = za_x 101 (.getfield 21) 42 l st w := za_n.at zcc_101 dX10_sortWaiting_42 rfl
theorem f_101_45 (l : za_L) (st : List Value) (w : za_W) : za_n 101 (45, l, st, w) = za_x 101 (.arraylength) 45 l st w := za_n.at zcc_101 dX10_sortWaiting_45 rfl
theorem f_101_46 (l : za_L) (st : List Value) (w : za_W) : za_n 101 (46, l, st, w) = za_x 101 (.if_icmp .ge 26) 46 l st w := za_n.at zcc_101 dX10_sortWaiting_46 rfl
theorem f_101_49 (l : za_L) (st : List Value) (w : za_W) : za_n 101 (49, l, st, w) = za_x 101 (.aload_n 0) 49 l st w := za_n.at zcc_101 dX10_sortWaiting_49 rfl
theorem f_101_50 (l : za_L) (st : List Value) (w : za_W) : za_n 101 (50, l, st, w) = za_x 101 (.getfield 21) 50 l st w := za_n.at zcc_101 dX10_sortWaiting_50 rfl
theorem f_101_53 (l : za_L) (st : List Value) (w : za_W) : za_n 101 (53, l, st, w) = za_x 101 (.iload_n 2) 53 l st w := za_n.at zcc_101 dX10_sortWaiting_53 rfl
theorem f_101_54 (l : za_L) (st : List Value) (w : za_W) : za_n 101 (54, l, st, w) = za_x 101 (.dup2) 54 l st w := za_n.at zcc_101 dX10_sortWaiting_54 rfl
theorem f_101_55 (l : za_L) (st : List Value) (w : za_W) : za_n 101 (55, l, st, w) = za_x 101 (.iaload) 55 l st w := za_n.at zcc_101 dX10_sortWaiting_55 rfl
theorem f_101_56 (l : za_L) (st : List Value) (w : za_W) : za_n 101 (56, l, st, w) = za_x 101 (.aload_n 0) 56 l st w := za_n.at zcc_101 dX10_sortWaiting_56 rfl
theorem f_101_57 (l : za_L) (st : List Value) (w : za_W) : za_n 101 (57, l, st, w) = za_x 101 (.getfield 21) 57 l st w := za_n.at zcc_101 dX10_sortWaiting_57 rfl
theorem f_101_60 (l : za_L) (st : List Value) (w : za_W) : za_n 101 (60, l, st, w) = za_x 101 (.iload_n 2) 60 l st w := za_n.at zcc_101 dX10_sortWaiting_60 rfl
theorem f_101_61 (l : za_L) (st : List Value) (w : za_W) : za_n 101 (61, l, st, w) = za_go 62 l (.int (1) :: st) w := (za_n.at zcc_101 dX10_sortWaiting_61 rfl).trans (congrArg (fun x => za_go 62 l (.int x :: st) w) (by decide))
theorem f_101_62 (l : za_L) (st : List Value) (w : za_W) : za_n 101 (62, l, st, w) = za_x 101 (.isub) 62 l st w := za_n.at zcc_101 dX10_sortWaiting_62 rfl
theorem f_101_63 (l : za_L) (st : List Value) (w : za_W) : za_n 101 (63, l, st, w) = za_x 101 (.iaload) 63 l st w := za_n.at zcc_101 dX10_sortWaiting_63 rfl
theorem f_101_64 (l : za_L) (st : List Value) (w : za_W) : za_n 101 (64, l, st, w) = za_x 101 (.iadd) 64 l st w := za_n.at zcc_101 dX10_sortWaiting_64 rfl
theorem f_101_65 (l : za_L) (st : List Value) (w : za_W) : za_n 101 (65, l, st, w) = za_x 101 (.iastore) 65 l st w := za_n.at zcc_101 dX10_sortWaiting_65 rfl
theorem f_101_66 (l : za_L) (st : List Value) (w : za_W) : za_n 101 (66, l, st, w) = za_x 101 (.iinc 2 1) 66 l st w := za_n.at zcc_101 dX10_sortWaiting_66 rfl
theorem f_101_69 (l : za_L) (st : List Value) (w : za_W) : za_n 101 (69, l, st, w) = za_go 40 l st w := (za_n.at zcc_101 dX10_sortWaiting_69 rfl).trans (za_jp.at (by decide))
theorem f_101_72 (l : za_L) (st : List Value) (w : za_W) : za_n 101 (72, l, st, w) = za_go 73 l (.int (0) :: st) w := (za_n.at zcc_101 dX10_sortWaiting_72 rfl).trans (congrArg (fun x => za_go 73 l (.int x :: st) w) (by decide))
theorem f_101_73 (l : za_L) (st : List Value) (w : za_W) : za_n 101 (73, l, st, w) = za_x 101 (.istore_n 2) 73 l st w := za_n.at zcc_101 dX10_sortWaiting_73 rfl
theorem f_101_74 (l : za_L) (st : List Value) (w : za_W) : za_n 101 (74, l, st, w) = za_x 101 (.iload_n 2) 74 l st w := za_n.at zcc_101 dX10_sortWaiting_74 rfl
theorem f_101_75 (l : za_L) (st : List Value) (w : za_W) : za_n 101 (75, l, st, w) = za_x 101 (.iload_n 1) 75 l st w := za_n.at zcc_101 dX10_sortWaiting_75 rfl
theorem f_101_76 (l : za_L) (st : List Value) (w : za_W) : za_n 101 (76, l, st, w) = za_x 101 (.if_icmp .ge 48) 76 l st w := za_n.at zcc_101 dX10_sortWaiting_76 rfl
theorem f_101_79 (l : za_L) (st : List Value) (w : za_W) : za_n 101 (79, l, st, w) = za_x 101 (.aload_n 0) 79 l st w := za_n.at zcc_101 dX10_sortWaiting_79 rfl
theorem f_101_80 (l : za_L) (st : List Value) (w : za_W) : za_n 101 (80, l, st, w) = za_x 101 (.getfield 15) 80 l st w := za_n.at zcc_101 dX10_sortWaiting_80 rfl
theorem f_101_83 (l : za_L) (st : List Value) (w : za_W) : za_n 101 (83, l, st, w) = za_x 101 (.aload_n 0) 83 l st w := za_n.at zcc_101 dX10_sortWaiting_83 rfl
theorem f_101_84 (l : za_L) (st : List Value) (w : za_W) : za_n 101 (84, l, st, w) = za_x 101 (.getfield 18) 84 l st w := za_n.at zcc_101 dX10_sortWaiting_84 rfl
theorem f_101_87 (l : za_L) (st : List Value) (w : za_W) : za_n 101 (87, l, st, w) = za_x 101 (.iload_n 2) 87 l st w := za_n.at zcc_101 dX10_sortWaiting_87 rfl
theorem f_101_88 (l : za_L) (st : List Value) (w : za_W) : za_n 101 (88, l, st, w) = za_x 101 (.iaload) 88 l st w := za_n.at zcc_101 dX10_sortWaiting_88 rfl
theorem f_101_89 (l : za_L) (st : List Value) (w : za_W) : za_n 101 (89, l, st, w) = za_x 101 (.iaload) 89 l st w := za_n.at zcc_101 dX10_sortWaiting_89 rfl
theorem f_101_90 (l : za_L) (st : List Value) (w : za_W) : za_n 101 (90, l, st, w) = za_x 101 (.istore_n 3) 90 l st w := za_n.at zcc_101 dX10_sortWaiting_90 rfl
theorem f_101_91 (l : za_L) (st : List Value) (w : za_W) : za_n 101 (91, l, st, w) = za_x 101 (.aload_n 0) 91 l st w := za_n.at zcc_101 dX10_sortWaiting_91 rfl
theorem f_101_92 (l : za_L) (st : List Value) (w : za_W) : za_n 101 (92, l, st, w) = za_x 101 (.getfield 9) 92 l st w := za_n.at zcc_101 dX10_sortWaiting_92 rfl
theorem f_101_95 (l : za_L) (st : List Value) (w : za_W) : za_n 101 (95, l, st, w) = za_x 101 (.aload_n 0) 95 l st w := za_n.at zcc_101 dX10_sortWaiting_95 rfl
theorem f_101_96 (l : za_L) (st : List Value) (w : za_W) : za_n 101 (96, l, st, w) = za_x 101 (.getfield 21) 96 l st w := za_n.at zcc_101 dX10_sortWaiting_96 rfl
theorem f_101_99 (l : za_L) (st : List Value) (w : za_W) : za_n 101 (99, l, st, w) = za_x 101 (.iload_n 3) 99 l st w := za_n.at zcc_101 dX10_sortWaiting_99 rfl
theorem f_101_100 (l : za_L) (st : List Value) (w : za_W) : za_n 101 (100, l, st, w) = za_x 101 (.iaload) 100 l st w := za_n.at zcc_101 dX10_sortWaiting_100 rfl
theorem f_101_101 (l : za_L) (st : List Value) (w : za_W) : za_n 101 (101, l, st, w) = za_x 101 (.aload_n 0) 101 l st w := za_n.at zcc_101 dX10_sortWaiting_101 rfl
theorem f_101_102 (l : za_L) (st : List Value) (w : za_W) : za_n 101 (102, l, st, w) = za_x 101 (.getfield 18) 102 l st w := za_n.at zcc_101 dX10_sortWaiting_102 rfl
theorem f_101_105 (l : za_L) (st : List Value) (w : za_W) : za_n 101 (105, l, st, w) = za_x 101 (.iload_n 2) 105 l st w := za_n.at zcc_101 dX10_sortWaiting_105 rfl
theorem f_101_106 (l : za_L) (st : List Value) (w : za_W) : za_n 101 (106, l, st, w) = za_x 101 (.iaload) 106 l st w := za_n.at zcc_101 dX10_sortWaiting_106 rfl
theorem f_101_107 (l : za_L) (st : List Value) (w : za_W) : za_n 101 (107, l, st, w) = za_x 101 (.iastore) 107 l st w := za_n.at zcc_101 dX10_sortWaiting_107 rfl
theorem f_101_108 (l : za_L) (st : List Value) (w : za_W) : za_n 101 (108, l, st, w) = za_x 101 (.aload_n 0) 108 l st w := za_n.at zcc_101 dX10_sortWaiting_108 rfl
theorem f_101_109 (l : za_L) (st : List Value) (w : za_W) : za_n 101 (109, l, st, w) = za_x 101 (.getfield 21) 109 l st w := za_n.at zcc_101 dX10_sortWaiting_109 rfl
theorem f_101_112 (l : za_L) (st : List Value) (w : za_W) : za_n 101 (112, l, st, w) = za_x 101 (.iload_n 3) 112 l st w := za_n.at zcc_101 dX10_sortWaiting_112 rfl
theorem f_101_113 (l : za_L) (st : List Value) (w : za_W) : za_n 101 (113, l, st, w) = za_x 101 (.dup2) 113 l st w := za_n.at zcc_101 dX10_sortWaiting_113 rfl
theorem f_101_114 (l : za_L) (st : List Value) (w : za_W) : za_n 101 (114, l, st, w) = za_x 101 (.iaload) 114 l st w := za_n.at zcc_101 dX10_sortWaiting_114 rfl
theorem f_101_115 (l : za_L) (st : List Value) (w : za_W) : za_n 101 (115, l, st, w) = za_go 116 l (.int (1) :: st) w := (za_n.at zcc_101 dX10_sortWaiting_115 rfl).trans (congrArg (fun x => za_go 116 l (.int x :: st) w) (by decide))
theorem f_101_116 (l : za_L) (st : List Value) (w : za_W) : za_n 101 (116, l, st, w) = za_x 101 (.iadd) 116 l st w := za_n.at zcc_101 dX10_sortWaiting_116 rfl
theorem f_101_117 (l : za_L) (st : List Value) (w : za_W) : za_n 101 (117, l, st, w) = za_x 101 (.iastore) 117 l st w := za_n.at zcc_101 dX10_sortWaiting_117 rfl
theorem f_101_118 (l : za_L) (st : List Value) (w : za_W) : za_n 101 (118, l, st, w) = za_x 101 (.iinc 2 1) 118 l st w := za_n.at zcc_101 dX10_sortWaiting_118 rfl
theorem f_101_121 (l : za_L) (st : List Value) (w : za_W) : za_n 101 (121, l, st, w) = za_go 74 l st w := (za_n.at zcc_101 dX10_sortWaiting_121 rfl).trans (za_jp.at (by decide))
theorem f_101_124 (l : za_L) (st : List Value) (w : za_W) : za_n 101 (124, l, st, w) = za_x 101 (.return_) 124 l st w := za_n.at zcc_101 dX10_sortWaiting_124 rfl
theorem f_102_0 (l : za_L) (st : List Value) (w : za_W) : za_n 102 (0, l, st, w) = za_go 1 l (.int (0) :: st) w := (za_n.at zcc_102 dX10_rankAnew_0 rfl).trans (congrArg (fun x => za_go 1 l (.int x :: st) w) (by decide))
theorem f_102_1 (l : za_L) (st : List Value) (w : za_W) : za_n 102 (1, l, st, w) = za_x 102 (.istore_n 3) 1 l st w := za_n.at zcc_102 dX10_rankAnew_1 rfl
theorem f_102_2 (l : za_L) (st : List Value) (w : za_W) : za_n 102 (2, l, st, w) = za_go 3 l (.int (0) :: st) w := (za_n.at zcc_102 dX10_rankAnew_2 rfl).trans (congrArg (fun x => za_go 3 l (.int x :: st) w) (by decide))
theorem f_102_3 (l : za_L) (st : List Value) (w : za_W) : za_n 102 (3, l, st, w) = za_x 102 (.istore 4) 3 l st w := za_n.at zcc_102 dX10_rankAnew_3 rfl
theorem f_102_5 (l : za_L) (st : List Value) (w : za_W) : za_n 102 (5, l, st, w) = za_x 102 (.iload 4) 5 l st w := za_n.at zcc_102 dX10_rankAnew_5 rfl
theorem f_102_7 (l : za_L) (st : List Value) (w : za_W) : za_n 102 (7, l, st, w) = za_x 102 (.iload_n 1) 7 l st w := za_n.at zcc_102 dX10_rankAnew_7 rfl
theorem f_102_8 (l : za_L) (st : List Value) (w : za_W) : za_n 102 (8, l, st, w) = za_x 102 (.if_icmp .ge 55) 8 l st w := za_n.at zcc_102 dX10_rankAnew_8 rfl
theorem f_102_11 (l : za_L) (st : List Value) (w : za_W) : za_n 102 (11, l, st, w) = za_x 102 (.iload 4) 11 l st w := za_n.at zcc_102 dX10_rankAnew_11 rfl
theorem f_102_13 (l : za_L) (st : List Value) (w : za_W) : za_n 102 (13, l, st, w) = za_x 102 (.ifCond .le 31) 13 l st w := za_n.at zcc_102 dX10_rankAnew_13 rfl
theorem f_102_16 (l : za_L) (st : List Value) (w : za_W) : za_n 102 (16, l, st, w) = za_x 102 (.aload_n 0) 16 l st w := za_n.at zcc_102 dX10_rankAnew_16 rfl
theorem f_102_17 (l : za_L) (st : List Value) (w : za_W) : za_n 102 (17, l, st, w) = za_x 102 (.aload_n 0) 17 l st w := za_n.at zcc_102 dX10_rankAnew_17 rfl
theorem f_102_18 (l : za_L) (st : List Value) (w : za_W) : za_n 102 (18, l, st, w) = za_x 102 (.getfield 9) 18 l st w := za_n.at zcc_102 dX10_rankAnew_18 rfl
theorem f_102_21 (l : za_L) (st : List Value) (w : za_W) : za_n 102 (21, l, st, w) = za_x 102 (.iload 4) 21 l st w := za_n.at zcc_102 dX10_rankAnew_21 rfl
theorem f_102_23 (l : za_L) (st : List Value) (w : za_W) : za_n 102 (23, l, st, w) = za_go 24 l (.int (1) :: st) w := (za_n.at zcc_102 dX10_rankAnew_23 rfl).trans (congrArg (fun x => za_go 24 l (.int x :: st) w) (by decide))
theorem f_102_24 (l : za_L) (st : List Value) (w : za_W) : za_n 102 (24, l, st, w) = za_x 102 (.isub) 24 l st w := za_n.at zcc_102 dX10_rankAnew_24 rfl
theorem f_102_25 (l : za_L) (st : List Value) (w : za_W) : za_n 102 (25, l, st, w) = za_x 102 (.iaload) 25 l st w := za_n.at zcc_102 dX10_rankAnew_25 rfl
theorem f_102_26 (l : za_L) (st : List Value) (w : za_W) : za_n 102 (26, l, st, w) = za_x 102 (.aload_n 0) 26 l st w := za_n.at zcc_102 dX10_rankAnew_26 rfl
theorem f_102_27 (l : za_L) (st : List Value) (w : za_W) : za_n 102 (27, l, st, w) = za_x 102 (.getfield 9) 27 l st w := za_n.at zcc_102 dX10_rankAnew_27 rfl
theorem f_102_30 (l : za_L) (st : List Value) (w : za_W) : za_n 102 (30, l, st, w) = za_x 102 (.iload 4) 30 l st w := za_n.at zcc_102 dX10_rankAnew_30 rfl
theorem f_102_32 (l : za_L) (st : List Value) (w : za_W) : za_n 102 (32, l, st, w) = za_x 102 (.iaload) 32 l st w := za_n.at zcc_102 dX10_rankAnew_32 rfl
theorem f_102_33 (l : za_L) (st : List Value) (w : za_W) : za_n 102 (33, l, st, w) = za_x 102 (.iload_n 1) 33 l st w := za_n.at zcc_102 dX10_rankAnew_33 rfl
theorem f_102_34 (l : za_L) (st : List Value) (w : za_W) : za_n 102 (34, l, st, w) = za_x 102 (.iload_n 2) 34 l st w := za_n.at zcc_102 dX10_rankAnew_34 rfl
theorem f_102_35 (l : za_L) (st : List Value) (w : za_W) : za_n 102 (35, l, st, w) = za_x 102 (.invokevirtual 41) 35 l st w := za_n.at zcc_102 dX10_rankAnew_35 rfl
theorem f_102_38 (l : za_L) (st : List Value) (w : za_W) : za_n 102 (38, l, st, w) = za_x 102 (.ifCond .eq 6) 38 l st w := za_n.at zcc_102 dX10_rankAnew_38 rfl
theorem f_102_41 (l : za_L) (st : List Value) (w : za_W) : za_n 102 (41, l, st, w) = za_x 102 (.iinc 3 1) 41 l st w := za_n.at zcc_102 dX10_rankAnew_41 rfl
theorem f_102_44 (l : za_L) (st : List Value) (w : za_W) : za_n 102 (44, l, st, w) = za_x 102 (.aload_n 0) 44 l st w := za_n.at zcc_102 dX10_rankAnew_44 rfl
theorem f_102_45 (l : za_L) (st : List Value) (w : za_W) : za_n 102 (45, l, st, w) = za_x 102 (.getfield 18) 45 l st w := za_n.at zcc_102 dX10_rankAnew_45 rfl
theorem f_102_48 (l : za_L) (st : List Value) (w : za_W) : za_n 102 (48, l, st, w) = za_x 102 (.aload_n 0) 48 l st w := za_n.at zcc_102 dX10_rankAnew_48 rfl
theorem f_102_49 (l : za_L) (st : List Value) (w : za_W) : za_n 102 (49, l, st, w) = za_x 102 (.getfield 9) 49 l st w := za_n.at zcc_102 dX10_rankAnew_49 rfl
theorem f_102_52 (l : za_L) (st : List Value) (w : za_W) : za_n 102 (52, l, st, w) = za_x 102 (.iload 4) 52 l st w := za_n.at zcc_102 dX10_rankAnew_52 rfl
theorem f_102_54 (l : za_L) (st : List Value) (w : za_W) : za_n 102 (54, l, st, w) = za_x 102 (.iaload) 54 l st w := za_n.at zcc_102 dX10_rankAnew_54 rfl
theorem f_102_55 (l : za_L) (st : List Value) (w : za_W) : za_n 102 (55, l, st, w) = za_x 102 (.iload_n 3) 55 l st w := za_n.at zcc_102 dX10_rankAnew_55 rfl
theorem f_102_56 (l : za_L) (st : List Value) (w : za_W) : za_n 102 (56, l, st, w) = za_x 102 (.iastore) 56 l st w := za_n.at zcc_102 dX10_rankAnew_56 rfl
theorem f_102_57 (l : za_L) (st : List Value) (w : za_W) : za_n 102 (57, l, st, w) = za_x 102 (.iinc 4 1) 57 l st w := za_n.at zcc_102 dX10_rankAnew_57 rfl
theorem f_102_60 (l : za_L) (st : List Value) (w : za_W) : za_n 102 (60, l, st, w) = za_go 5 l st w := (za_n.at zcc_102 dX10_rankAnew_60 rfl).trans (za_jp.at (by decide))
theorem f_102_63 (l : za_L) (st : List Value) (w : za_W) : za_n 102 (63, l, st, w) = za_x 102 (.aload_n 0) 63 l st w := za_n.at zcc_102 dX10_rankAnew_63 rfl
theorem f_102_64 (l : za_L) (st : List Value) (w : za_W) : za_n 102 (64, l, st, w) = za_x 102 (.getfield 18) 64 l st w := za_n.at zcc_102 dX10_rankAnew_64 rfl
theorem f_102_67 (l : za_L) (st : List Value) (w : za_W) : za_n 102 (67, l, st, w) = za_go 68 l (.int (0) :: st) w := (za_n.at zcc_102 dX10_rankAnew_67 rfl).trans (congrArg (fun x => za_go 68 l (.int x :: st) w) (by decide))
theorem f_102_68 (l : za_L) (st : List Value) (w : za_W) : za_n 102 (68, l, st, w) = za_x 102 (.aload_n 0) 68 l st w := za_n.at zcc_102 dX10_rankAnew_68 rfl
theorem f_102_69 (l : za_L) (st : List Value) (w : za_W) : za_n 102 (69, l, st, w) = za_x 102 (.getfield 15) 69 l st w := za_n.at zcc_102 dX10_rankAnew_69 rfl
theorem f_102_72 (l : za_L) (st : List Value) (w : za_W) : za_n 102 (72, l, st, w) = za_go 73 l (.int (0) :: st) w := (za_n.at zcc_102 dX10_rankAnew_72 rfl).trans (congrArg (fun x => za_go 73 l (.int x :: st) w) (by decide))
theorem f_102_73 (l : za_L) (st : List Value) (w : za_W) : za_n 102 (73, l, st, w) = za_x 102 (.iload_n 1) 73 l st w := za_n.at zcc_102 dX10_rankAnew_73 rfl
theorem f_102_74 (l : za_L) (st : List Value) (w : za_W) : za_n 102 (74, l, st, w) = za_x 102 (.invokestatic 45) 74 l st w := za_n.at zcc_102 dX10_rankAnew_74 rfl
theorem f_102_77 (l : za_L) (st : List Value) (w : za_W) : za_n 102 (77, l, st, w) = za_x 102 (.return_) 77 l st w := za_n.at zcc_102 dX10_rankAnew_77 rfl
theorem f_103_0 (l : za_L) (st : List Value) (w : za_W) : za_n 103 (0, l, st, w) = za_x 103 (.aload_n 0) 0 l st w := za_n.at zcc_103 dX10_differ_0 rfl
theorem f_103_1 (l : za_L) (st : List Value) (w : za_W) : za_n 103 (1, l, st, w) = za_x 103 (.getfield 15) 1 l st w := za_n.at zcc_103 dX10_differ_1 rfl
theorem f_103_4 (l : za_L) (st : List Value) (w : za_W) : za_n 103 (4, l, st, w) = za_x 103 (.iload_n 1) 4 l st w := za_n.at zcc_103 dX10_differ_4 rfl
theorem f_103_5 (l : za_L) (st : List Value) (w : za_W) : za_n 103 (5, l, st, w) = za_x 103 (.iaload) 5 l st w := za_n.at zcc_103 dX10_differ_5 rfl
theorem f_103_6 (l : za_L) (st : List Value) (w : za_W) : za_n 103 (6, l, st, w) = za_x 103 (.aload_n 0) 6 l st w := za_n.at zcc_103 dX10_differ_6 rfl
theorem f_103_7 (l : za_L) (st : List Value) (w : za_W) : za_n 103 (7, l, st, w) = za_x 103 (.getfield 15) 7 l st w := za_n.at zcc_103 dX10_differ_7 rfl
theorem f_103_10 (l : za_L) (st : List Value) (w : za_W) : za_n 103 (10, l, st, w) = za_x 103 (.iload_n 2) 10 l st w := za_n.at zcc_103 dX10_differ_10 rfl
theorem f_103_11 (l : za_L) (st : List Value) (w : za_W) : za_n 103 (11, l, st, w) = za_x 103 (.iaload) 11 l st w := za_n.at zcc_103 dX10_differ_11 rfl
theorem f_103_12 (l : za_L) (st : List Value) (w : za_W) : za_n 103 (12, l, st, w) = za_x 103 (.if_icmp .ne 28) 12 l st w := za_n.at zcc_103 dX10_differ_12 rfl
theorem f_103_15 (l : za_L) (st : List Value) (w : za_W) : za_n 103 (15, l, st, w) = za_x 103 (.aload_n 0) 15 l st w := za_n.at zcc_103 dX10_differ_15 rfl
theorem f_103_16 (l : za_L) (st : List Value) (w : za_W) : za_n 103 (16, l, st, w) = za_x 103 (.getfield 15) 16 l st w := za_n.at zcc_103 dX10_differ_16 rfl
theorem f_103_19 (l : za_L) (st : List Value) (w : za_W) : za_n 103 (19, l, st, w) = za_x 103 (.iload_n 1) 19 l st w := za_n.at zcc_103 dX10_differ_19 rfl
theorem f_103_20 (l : za_L) (st : List Value) (w : za_W) : za_n 103 (20, l, st, w) = za_x 103 (.iload 4) 20 l st w := za_n.at zcc_103 dX10_differ_20 rfl
theorem f_103_22 (l : za_L) (st : List Value) (w : za_W) : za_n 103 (22, l, st, w) = za_x 103 (.iadd) 22 l st w := za_n.at zcc_103 dX10_differ_22 rfl
theorem f_103_23 (l : za_L) (st : List Value) (w : za_W) : za_n 103 (23, l, st, w) = za_x 103 (.iload_n 3) 23 l st w := za_n.at zcc_103 dX10_differ_23 rfl
theorem f_103_24 (l : za_L) (st : List Value) (w : za_W) : za_n 103 (24, l, st, w) = za_x 103 (.irem) 24 l st w := za_n.at zcc_103 dX10_differ_24 rfl
theorem f_103_25 (l : za_L) (st : List Value) (w : za_W) : za_n 103 (25, l, st, w) = za_x 103 (.iaload) 25 l st w := za_n.at zcc_103 dX10_differ_25 rfl
theorem f_103_26 (l : za_L) (st : List Value) (w : za_W) : za_n 103 (26, l, st, w) = za_x 103 (.aload_n 0) 26 l st w := za_n.at zcc_103 dX10_differ_26 rfl
theorem f_103_27 (l : za_L) (st : List Value) (w : za_W) : za_n 103 (27, l, st, w) = za_x 103 (.getfield 15) 27 l st w := za_n.at zcc_103 dX10_differ_27 rfl
theorem f_103_30 (l : za_L) (st : List Value) (w : za_W) : za_n 103 (30, l, st, w) = za_x 103 (.iload_n 2) 30 l st w := za_n.at zcc_103 dX10_differ_30 rfl
theorem f_103_31 (l : za_L) (st : List Value) (w : za_W) : za_n 103 (31, l, st, w) = za_x 103 (.iload 4) 31 l st w := za_n.at zcc_103 dX10_differ_31 rfl
theorem f_103_33 (l : za_L) (st : List Value) (w : za_W) : za_n 103 (33, l, st, w) = za_x 103 (.iadd) 33 l st w := za_n.at zcc_103 dX10_differ_33 rfl
theorem f_103_34 (l : za_L) (st : List Value) (w : za_W) : za_n 103 (34, l, st, w) = za_x 103 (.iload_n 3) 34 l st w := za_n.at zcc_103 dX10_differ_34 rfl
theorem f_103_35 (l : za_L) (st : List Value) (w : za_W) : za_n 103 (35, l, st, w) = za_x 103 (.irem) 35 l st w := za_n.at zcc_103 dX10_differ_35 rfl
theorem f_103_36 (l : za_L) (st : List Value) (w : za_W) : za_n 103 (36, l, st, w) = za_x 103 (.iaload) 36 l st w := za_n.at zcc_103 dX10_differ_36 rfl
theorem f_103_37 (l : za_L) (st : List Value) (w : za_W) : za_n 103 (37, l, st, w) = za_x 103 (.if_icmp .eq 7) 37 l st w := za_n.at zcc_103 dX10_differ_37 rfl
theorem f_103_40 (l : za_L) (st : List Value) (w : za_W) : za_n 103 (40, l, st, w) = za_go 41 l (.int (1) :: st) w := (za_n.at zcc_103 dX10_differ_40 rfl).trans (congrArg (fun x => za_go 41 l (.int x :: st) w) (by decide))
theorem f_103_41 (l : za_L) (st : List Value) (w : za_W) : za_n 103 (41, l, st, w) = za_go 45 l st w := (za_n.at zcc_103 dX10_differ_41 rfl).trans (za_jp.at (by decide))
theorem f_103_44 (l : za_L) (st : List Value) (w : za_W) : za_n 103 (44, l, st, w) = za_go 45 l (.int (0) :: st) w := (za_n.at zcc_103 dX10_differ_44 rfl).trans (congrArg (fun x => za_go 45 l (.int x :: st) w) (by decide))
theorem f_103_45 (l : za_L) (st : List Value) (w : za_W) : za_n 103 (45, l, st, w) = za_x 103 (.ireturn) 45 l st w := za_n.at zcc_103 dX10_differ_45 rfl
theorem f_104_0 (l : za_L) (st : List Value) (w : za_W) : za_n 104 (0, l, st, w) = za_x 104 (.aload_n 0) 0 l st w := za_n.at zcc_104 dX10_lastByte_0 rfl
theorem f_104_1 (l : za_L) (st : List Value) (w : za_W) : za_n 104 (1, l, st, w) = za_x 104 (.getfield 9) 1 l st w := za_n.at zcc_104 dX10_lastByte_1 rfl
theorem f_104_4 (l : za_L) (st : List Value) (w : za_W) : za_n 104 (4, l, st, w) = za_x 104 (.iload_n 3) 4 l st w := za_n.at zcc_104 dX10_lastByte_4 rfl
theorem f_104_5 (l : za_L) (st : List Value) (w : za_W) : za_n 104 (5, l, st, w) = za_x 104 (.iaload) 5 l st w := za_n.at zcc_104 dX10_lastByte_5 rfl
theorem f_104_6 (l : za_L) (st : List Value) (w : za_W) : za_n 104 (6, l, st, w) = za_x 104 (.ifCond .ne 9) 6 l st w := za_n.at zcc_104 dX10_lastByte_6 rfl
theorem f_104_9 (l : za_L) (st : List Value) (w : za_W) : za_n 104 (9, l, st, w) = za_x 104 (.iload_n 2) 9 l st w := za_n.at zcc_104 dX10_lastByte_9 rfl
theorem f_104_10 (l : za_L) (st : List Value) (w : za_W) : za_n 104 (10, l, st, w) = za_go 11 l (.int (1) :: st) w := (za_n.at zcc_104 dX10_lastByte_10 rfl).trans (congrArg (fun x => za_go 11 l (.int x :: st) w) (by decide))
theorem f_104_11 (l : za_L) (st : List Value) (w : za_W) : za_n 104 (11, l, st, w) = za_x 104 (.isub) 11 l st w := za_n.at zcc_104 dX10_lastByte_11 rfl
theorem f_104_12 (l : za_L) (st : List Value) (w : za_W) : za_n 104 (12, l, st, w) = za_go 23 l st w := (za_n.at zcc_104 dX10_lastByte_12 rfl).trans (za_jp.at (by decide))
theorem f_104_15 (l : za_L) (st : List Value) (w : za_W) : za_n 104 (15, l, st, w) = za_x 104 (.aload_n 0) 15 l st w := za_n.at zcc_104 dX10_lastByte_15 rfl
theorem f_104_16 (l : za_L) (st : List Value) (w : za_W) : za_n 104 (16, l, st, w) = za_x 104 (.getfield 9) 16 l st w := za_n.at zcc_104 dX10_lastByte_16 rfl
theorem f_104_19 (l : za_L) (st : List Value) (w : za_W) : za_n 104 (19, l, st, w) = za_x 104 (.iload_n 3) 19 l st w := za_n.at zcc_104 dX10_lastByte_19 rfl
theorem f_104_20 (l : za_L) (st : List Value) (w : za_W) : za_n 104 (20, l, st, w) = za_x 104 (.iaload) 20 l st w := za_n.at zcc_104 dX10_lastByte_20 rfl
theorem f_104_21 (l : za_L) (st : List Value) (w : za_W) : za_n 104 (21, l, st, w) = za_go 22 l (.int (1) :: st) w := (za_n.at zcc_104 dX10_lastByte_21 rfl).trans (congrArg (fun x => za_go 22 l (.int x :: st) w) (by decide))
theorem f_104_22 (l : za_L) (st : List Value) (w : za_W) : za_n 104 (22, l, st, w) = za_x 104 (.isub) 22 l st w := za_n.at zcc_104 dX10_lastByte_22 rfl
theorem f_104_23 (l : za_L) (st : List Value) (w : za_W) : za_n 104 (23, l, st, w) = za_x 104 (.istore 4) 23 l st w := za_n.at zcc_104 dX10_lastByte_23 rfl
theorem f_104_25 (l : za_L) (st : List Value) (w : za_W) : za_n 104 (25, l, st, w) = za_x 104 (.aload_n 1) 25 l st w := za_n.at zcc_104 dX10_lastByte_25 rfl
theorem f_104_26 (l : za_L) (st : List Value) (w : za_W) : za_n 104 (26, l, st, w) = za_x 104 (.iload 4) 26 l st w := za_n.at zcc_104 dX10_lastByte_26 rfl
theorem f_104_28 (l : za_L) (st : List Value) (w : za_W) : za_n 104 (28, l, st, w) = za_x 104 (.baload) 28 l st w := za_n.at zcc_104 dX10_lastByte_28 rfl
theorem f_104_29 (l : za_L) (st : List Value) (w : za_W) : za_n 104 (29, l, st, w) = za_go 32 l (.int (255) :: st) w := (za_n.at zcc_104 dX10_lastByte_29 rfl).trans (congrArg (fun x => za_go 32 l (.int x :: st) w) (by decide))
theorem f_104_32 (l : za_L) (st : List Value) (w : za_W) : za_n 104 (32, l, st, w) = za_x 104 (.iand) 32 l st w := za_n.at zcc_104 dX10_lastByte_32 rfl
theorem f_104_33 (l : za_L) (st : List Value) (w : za_W) : za_n 104 (33, l, st, w) = za_x 104 (.ireturn) 33 l st w := za_n.at zcc_104 dX10_lastByte_33 rfl
theorem f_105_0 (l : za_L) (st : List Value) (w : za_W) : za_n 105 (0, l, st, w) = za_go 1 l (.int (0) :: st) w := (za_n.at zcc_105 dX10_origin_0 rfl).trans (congrArg (fun x => za_go 1 l (.int x :: st) w) (by decide))
theorem f_105_1 (l : za_L) (st : List Value) (w : za_W) : za_n 105 (1, l, st, w) = za_x 105 (.istore_n 2) 1 l st w := za_n.at zcc_105 dX10_origin_1 rfl
theorem f_105_2 (l : za_L) (st : List Value) (w : za_W) : za_n 105 (2, l, st, w) = za_x 105 (.iload_n 2) 2 l st w := za_n.at zcc_105 dX10_origin_2 rfl
theorem f_105_3 (l : za_L) (st : List Value) (w : za_W) : za_n 105 (3, l, st, w) = za_x 105 (.iload_n 1) 3 l st w := za_n.at zcc_105 dX10_origin_3 rfl
theorem f_105_4 (l : za_L) (st : List Value) (w : za_W) : za_n 105 (4, l, st, w) = za_x 105 (.if_icmp .ge 20) 4 l st w := za_n.at zcc_105 dX10_origin_4 rfl
theorem f_105_7 (l : za_L) (st : List Value) (w : za_W) : za_n 105 (7, l, st, w) = za_x 105 (.aload_n 0) 7 l st w := za_n.at zcc_105 dX10_origin_7 rfl
theorem f_105_8 (l : za_L) (st : List Value) (w : za_W) : za_n 105 (8, l, st, w) = za_x 105 (.getfield 9) 8 l st w := za_n.at zcc_105 dX10_origin_8 rfl
theorem f_105_11 (l : za_L) (st : List Value) (w : za_W) : za_n 105 (11, l, st, w) = za_x 105 (.iload_n 2) 11 l st w := za_n.at zcc_105 dX10_origin_11 rfl
theorem f_105_12 (l : za_L) (st : List Value) (w : za_W) : za_n 105 (12, l, st, w) = za_x 105 (.iaload) 12 l st w := za_n.at zcc_105 dX10_origin_12 rfl
theorem f_105_13 (l : za_L) (st : List Value) (w : za_W) : za_n 105 (13, l, st, w) = za_x 105 (.ifCond .ne 5) 13 l st w := za_n.at zcc_105 dX10_origin_13 rfl
theorem f_105_16 (l : za_L) (st : List Value) (w : za_W) : za_n 105 (16, l, st, w) = za_x 105 (.iload_n 2) 16 l st w := za_n.at zcc_105 dX10_origin_16 rfl
theorem f_105_17 (l : za_L) (st : List Value) (w : za_W) : za_n 105 (17, l, st, w) = za_x 105 (.ireturn) 17 l st w := za_n.at zcc_105 dX10_origin_17 rfl
theorem f_105_18 (l : za_L) (st : List Value) (w : za_W) : za_n 105 (18, l, st, w) = za_x 105 (.iinc 2 1) 18 l st w := za_n.at zcc_105 dX10_origin_18 rfl
theorem f_105_21 (l : za_L) (st : List Value) (w : za_W) : za_n 105 (21, l, st, w) = za_go 2 l st w := (za_n.at zcc_105 dX10_origin_21 rfl).trans (za_jp.at (by decide))
theorem f_105_24 (l : za_L) (st : List Value) (w : za_W) : za_n 105 (24, l, st, w) = za_go 25 l (.int (0) :: st) w := (za_n.at zcc_105 dX10_origin_24 rfl).trans (congrArg (fun x => za_go 25 l (.int x :: st) w) (by decide))
theorem f_105_25 (l : za_L) (st : List Value) (w : za_W) : za_n 105 (25, l, st, w) = za_x 105 (.ireturn) 25 l st w := za_n.at zcc_105 dX10_origin_25 rfl
theorem f_106_0 (l : za_L) (st : List Value) (w : za_W) : za_n 106 (0, l, st, w) = za_x 106 (.aload_n 0) 0 l st w := za_n.at zcc_106 dX10_turnBack_0 rfl
theorem f_106_1 (l : za_L) (st : List Value) (w : za_W) : za_n 106 (1, l, st, w) = za_x 106 (.getfield 21) 1 l st w := za_n.at zcc_106 dX10_turnBack_1 rfl
theorem f_106_4 (l : za_L) (st : List Value) (w : za_W) : za_n 106 (4, l, st, w) = za_go 5 l (.int (0) :: st) w := (za_n.at zcc_106 dX10_turnBack_4 rfl).trans (congrArg (fun x => za_go 5 l (.int x :: st) w) (by decide))
theorem f_106_5 (l : za_L) (st : List Value) (w : za_W) : za_n 106 (5, l, st, w) = za_x 106 (.invokestatic 35) 5 l st w := za_n.at zcc_106 dX10_turnBack_5 rfl
theorem f_106_8 (l : za_L) (st : List Value) (w : za_W) : za_n 106 (8, l, st, w) = za_go 9 l (.int (0) :: st) w := (za_n.at zcc_106 dX10_turnBack_8 rfl).trans (congrArg (fun x => za_go 9 l (.int x :: st) w) (by decide))
theorem f_106_9 (l : za_L) (st : List Value) (w : za_W) : za_n 106 (9, l, st, w) = za_x 106 (.istore 5) 9 l st w := za_n.at zcc_106 dX10_turnBack_9 rfl
theorem f_106_11 (l : za_L) (st : List Value) (w : za_W) : za_n 106 (11, l, st, w) = za_x 106 (.iload 5) 11 l st w := za_n.at zcc_106 dX10_turnBack_11 rfl
theorem f_106_13 (l : za_L) (st : List Value) (w : za_W) : za_n 106 (13, l, st, w) = za_x 106 (.iload_n 2) 13 l st w := za_n.at zcc_106 dX10_turnBack_13 rfl
theorem f_106_14 (l : za_L) (st : List Value) (w : za_W) : za_n 106 (14, l, st, w) = za_x 106 (.if_icmp .ge 28) 14 l st w := za_n.at zcc_106 dX10_turnBack_14 rfl
theorem f_106_17 (l : za_L) (st : List Value) (w : za_W) : za_n 106 (17, l, st, w) = za_x 106 (.aload_n 0) 17 l st w := za_n.at zcc_106 dX10_turnBack_17 rfl
theorem f_106_18 (l : za_L) (st : List Value) (w : za_W) : za_n 106 (18, l, st, w) = za_x 106 (.getfield 21) 18 l st w := za_n.at zcc_106 dX10_turnBack_18 rfl
theorem f_106_21 (l : za_L) (st : List Value) (w : za_W) : za_n 106 (21, l, st, w) = za_x 106 (.aload_n 1) 21 l st w := za_n.at zcc_106 dX10_turnBack_21 rfl
theorem f_106_22 (l : za_L) (st : List Value) (w : za_W) : za_n 106 (22, l, st, w) = za_x 106 (.iload 5) 22 l st w := za_n.at zcc_106 dX10_turnBack_22 rfl
theorem f_106_24 (l : za_L) (st : List Value) (w : za_W) : za_n 106 (24, l, st, w) = za_x 106 (.baload) 24 l st w := za_n.at zcc_106 dX10_turnBack_24 rfl
theorem f_106_25 (l : za_L) (st : List Value) (w : za_W) : za_n 106 (25, l, st, w) = za_go 28 l (.int (255) :: st) w := (za_n.at zcc_106 dX10_turnBack_25 rfl).trans (congrArg (fun x => za_go 28 l (.int x :: st) w) (by decide))
theorem f_106_28 (l : za_L) (st : List Value) (w : za_W) : za_n 106 (28, l, st, w) = za_x 106 (.iand) 28 l st w := za_n.at zcc_106 dX10_turnBack_28 rfl
theorem f_106_29 (l : za_L) (st : List Value) (w : za_W) : za_n 106 (29, l, st, w) = za_go 30 l (.int (1) :: st) w := (za_n.at zcc_106 dX10_turnBack_29 rfl).trans (congrArg (fun x => za_go 30 l (.int x :: st) w) (by decide))
theorem f_106_30 (l : za_L) (st : List Value) (w : za_W) : za_n 106 (30, l, st, w) = za_x 106 (.iadd) 30 l st w := za_n.at zcc_106 dX10_turnBack_30 rfl
theorem f_106_31 (l : za_L) (st : List Value) (w : za_W) : za_n 106 (31, l, st, w) = za_x 106 (.dup2) 31 l st w := za_n.at zcc_106 dX10_turnBack_31 rfl
theorem f_106_32 (l : za_L) (st : List Value) (w : za_W) : za_n 106 (32, l, st, w) = za_x 106 (.iaload) 32 l st w := za_n.at zcc_106 dX10_turnBack_32 rfl
theorem f_106_33 (l : za_L) (st : List Value) (w : za_W) : za_n 106 (33, l, st, w) = za_go 34 l (.int (1) :: st) w := (za_n.at zcc_106 dX10_turnBack_33 rfl).trans (congrArg (fun x => za_go 34 l (.int x :: st) w) (by decide))
theorem f_106_34 (l : za_L) (st : List Value) (w : za_W) : za_n 106 (34, l, st, w) = za_x 106 (.iadd) 34 l st w := za_n.at zcc_106 dX10_turnBack_34 rfl
theorem f_106_35 (l : za_L) (st : List Value) (w : za_W) : za_n 106 (35, l, st, w) = za_x 106 (.iastore) 35 l st w := za_n.at zcc_106 dX10_turnBack_35 rfl
theorem f_106_36 (l : za_L) (st : List Value) (w : za_W) : za_n 106 (36, l, st, w) = za_x 106 (.iinc 5 1) 36 l st w := za_n.at zcc_106 dX10_turnBack_36 rfl
theorem f_106_39 (l : za_L) (st : List Value) (w : za_W) : za_n 106 (39, l, st, w) = za_go 11 l st w := (za_n.at zcc_106 dX10_turnBack_39 rfl).trans (za_jp.at (by decide))
theorem f_106_42 (l : za_L) (st : List Value) (w : za_W) : za_n 106 (42, l, st, w) = za_go 43 l (.int (1) :: st) w := (za_n.at zcc_106 dX10_turnBack_42 rfl).trans (congrArg (fun x => za_go 43 l (.int x :: st) w) (by decide))
theorem f_106_43 (l : za_L) (st : List Value) (w : za_W) : za_n 106 (43, l, st, w) = za_x 106 (.istore 5) 43 l st w := za_n.at zcc_106 dX10_turnBack_43 rfl
theorem f_106_45 (l : za_L) (st : List Value) (w : za_W) : za_n 106 (45, l, st, w) = za_x 106 (.iload 5) 45 l st w := za_n.at zcc_106 dX10_turnBack_45 rfl
theorem f_106_47 (l : za_L) (st : List Value) (w : za_W) : za_n 106 (47, l, st, w) = za_go 50 l (.int (256) :: st) w := (za_n.at zcc_106 dX10_turnBack_47 rfl).trans (congrArg (fun x => za_go 50 l (.int x :: st) w) (by decide))
theorem f_106_50 (l : za_L) (st : List Value) (w : za_W) : za_n 106 (50, l, st, w) = za_x 106 (.if_icmp .gt 28) 50 l st w := za_n.at zcc_106 dX10_turnBack_50 rfl
theorem f_106_53 (l : za_L) (st : List Value) (w : za_W) : za_n 106 (53, l, st, w) = za_x 106 (.aload_n 0) 53 l st w := za_n.at zcc_106 dX10_turnBack_53 rfl
theorem f_106_54 (l : za_L) (st : List Value) (w : za_W) : za_n 106 (54, l, st, w) = za_x 106 (.getfield 21) 54 l st w := za_n.at zcc_106 dX10_turnBack_54 rfl
theorem f_106_57 (l : za_L) (st : List Value) (w : za_W) : za_n 106 (57, l, st, w) = za_x 106 (.iload 5) 57 l st w := za_n.at zcc_106 dX10_turnBack_57 rfl
theorem f_106_59 (l : za_L) (st : List Value) (w : za_W) : za_n 106 (59, l, st, w) = za_x 106 (.dup2) 59 l st w := za_n.at zcc_106 dX10_turnBack_59 rfl
theorem f_106_60 (l : za_L) (st : List Value) (w : za_W) : za_n 106 (60, l, st, w) = za_x 106 (.iaload) 60 l st w := za_n.at zcc_106 dX10_turnBack_60 rfl
theorem f_106_61 (l : za_L) (st : List Value) (w : za_W) : za_n 106 (61, l, st, w) = za_x 106 (.aload_n 0) 61 l st w := za_n.at zcc_106 dX10_turnBack_61 rfl
theorem f_106_62 (l : za_L) (st : List Value) (w : za_W) : za_n 106 (62, l, st, w) = za_x 106 (.getfield 21) 62 l st w := za_n.at zcc_106 dX10_turnBack_62 rfl
theorem f_106_65 (l : za_L) (st : List Value) (w : za_W) : za_n 106 (65, l, st, w) = za_x 106 (.iload 5) 65 l st w := za_n.at zcc_106 dX10_turnBack_65 rfl
theorem f_106_67 (l : za_L) (st : List Value) (w : za_W) : za_n 106 (67, l, st, w) = za_go 68 l (.int (1) :: st) w := (za_n.at zcc_106 dX10_turnBack_67 rfl).trans (congrArg (fun x => za_go 68 l (.int x :: st) w) (by decide))
theorem f_106_68 (l : za_L) (st : List Value) (w : za_W) : za_n 106 (68, l, st, w) = za_x 106 (.isub) 68 l st w := za_n.at zcc_106 dX10_turnBack_68 rfl
theorem f_106_69 (l : za_L) (st : List Value) (w : za_W) : za_n 106 (69, l, st, w) = za_x 106 (.iaload) 69 l st w := za_n.at zcc_106 dX10_turnBack_69 rfl
theorem f_106_70 (l : za_L) (st : List Value) (w : za_W) : za_n 106 (70, l, st, w) = za_x 106 (.iadd) 70 l st w := za_n.at zcc_106 dX10_turnBack_70 rfl
theorem f_106_71 (l : za_L) (st : List Value) (w : za_W) : za_n 106 (71, l, st, w) = za_x 106 (.iastore) 71 l st w := za_n.at zcc_106 dX10_turnBack_71 rfl
theorem f_106_72 (l : za_L) (st : List Value) (w : za_W) : za_n 106 (72, l, st, w) = za_x 106 (.iinc 5 1) 72 l st w := za_n.at zcc_106 dX10_turnBack_72 rfl
theorem f_106_75 (l : za_L) (st : List Value) (w : za_W) : za_n 106 (75, l, st, w) = za_go 45 l st w := (za_n.at zcc_106 dX10_turnBack_75 rfl).trans (za_jp.at (by decide))
theorem f_106_78 (l : za_L) (st : List Value) (w : za_W) : za_n 106 (78, l, st, w) = za_go 79 l (.int (0) :: st) w := (za_n.at zcc_106 dX10_turnBack_78 rfl).trans (congrArg (fun x => za_go 79 l (.int x :: st) w) (by decide))
theorem f_106_79 (l : za_L) (st : List Value) (w : za_W) : za_n 106 (79, l, st, w) = za_x 106 (.istore 5) 79 l st w := za_n.at zcc_106 dX10_turnBack_79 rfl
theorem f_106_81 (l : za_L) (st : List Value) (w : za_W) : za_n 106 (81, l, st, w) = za_x 106 (.iload 5) 81 l st w := za_n.at zcc_106 dX10_turnBack_81 rfl
theorem f_106_83 (l : za_L) (st : List Value) (w : za_W) : za_n 106 (83, l, st, w) = za_x 106 (.iload_n 2) 83 l st w := za_n.at zcc_106 dX10_turnBack_83 rfl
theorem f_106_84 (l : za_L) (st : List Value) (w : za_W) : za_n 106 (84, l, st, w) = za_x 106 (.if_icmp .ge 44) 84 l st w := za_n.at zcc_106 dX10_turnBack_84 rfl
theorem f_106_87 (l : za_L) (st : List Value) (w : za_W) : za_n 106 (87, l, st, w) = za_x 106 (.aload_n 1) 87 l st w := za_n.at zcc_106 dX10_turnBack_87 rfl
theorem f_106_88 (l : za_L) (st : List Value) (w : za_W) : za_n 106 (88, l, st, w) = za_x 106 (.iload 5) 88 l st w := za_n.at zcc_106 dX10_turnBack_88 rfl
theorem f_106_90 (l : za_L) (st : List Value) (w : za_W) : za_n 106 (90, l, st, w) = za_x 106 (.baload) 90 l st w := za_n.at zcc_106 dX10_turnBack_90 rfl
theorem f_106_91 (l : za_L) (st : List Value) (w : za_W) : za_n 106 (91, l, st, w) = za_go 94 l (.int (255) :: st) w := (za_n.at zcc_106 dX10_turnBack_91 rfl).trans (congrArg (fun x => za_go 94 l (.int x :: st) w) (by decide))
theorem f_106_94 (l : za_L) (st : List Value) (w : za_W) : za_n 106 (94, l, st, w) = za_x 106 (.iand) 94 l st w := za_n.at zcc_106 dX10_turnBack_94 rfl
theorem f_106_95 (l : za_L) (st : List Value) (w : za_W) : za_n 106 (95, l, st, w) = za_x 106 (.istore 6) 95 l st w := za_n.at zcc_106 dX10_turnBack_95 rfl
theorem f_106_97 (l : za_L) (st : List Value) (w : za_W) : za_n 106 (97, l, st, w) = za_x 106 (.aload_n 0) 97 l st w := za_n.at zcc_106 dX10_turnBack_97 rfl
theorem f_106_98 (l : za_L) (st : List Value) (w : za_W) : za_n 106 (98, l, st, w) = za_x 106 (.getfield 9) 98 l st w := za_n.at zcc_106 dX10_turnBack_98 rfl
theorem f_106_101 (l : za_L) (st : List Value) (w : za_W) : za_n 106 (101, l, st, w) = za_x 106 (.aload_n 0) 101 l st w := za_n.at zcc_106 dX10_turnBack_101 rfl
theorem f_106_102 (l : za_L) (st : List Value) (w : za_W) : za_n 106 (102, l, st, w) = za_x 106 (.getfield 21) 102 l st w := za_n.at zcc_106 dX10_turnBack_102 rfl
theorem f_106_105 (l : za_L) (st : List Value) (w : za_W) : za_n 106 (105, l, st, w) = za_x 106 (.iload 6) 105 l st w := za_n.at zcc_106 dX10_turnBack_105 rfl
theorem f_106_107 (l : za_L) (st : List Value) (w : za_W) : za_n 106 (107, l, st, w) = za_x 106 (.iaload) 107 l st w := za_n.at zcc_106 dX10_turnBack_107 rfl
theorem f_106_108 (l : za_L) (st : List Value) (w : za_W) : za_n 106 (108, l, st, w) = za_x 106 (.iload 5) 108 l st w := za_n.at zcc_106 dX10_turnBack_108 rfl
theorem f_106_110 (l : za_L) (st : List Value) (w : za_W) : za_n 106 (110, l, st, w) = za_x 106 (.iastore) 110 l st w := za_n.at zcc_106 dX10_turnBack_110 rfl
theorem f_106_111 (l : za_L) (st : List Value) (w : za_W) : za_n 106 (111, l, st, w) = za_x 106 (.aload_n 0) 111 l st w := za_n.at zcc_106 dX10_turnBack_111 rfl
theorem f_106_112 (l : za_L) (st : List Value) (w : za_W) : za_n 106 (112, l, st, w) = za_x 106 (.getfield 21) 112 l st w := za_n.at zcc_106 dX10_turnBack_112 rfl
theorem f_106_115 (l : za_L) (st : List Value) (w : za_W) : za_n 106 (115, l, st, w) = za_x 106 (.iload 6) 115 l st w := za_n.at zcc_106 dX10_turnBack_115 rfl
theorem f_106_117 (l : za_L) (st : List Value) (w : za_W) : za_n 106 (117, l, st, w) = za_x 106 (.dup2) 117 l st w := za_n.at zcc_106 dX10_turnBack_117 rfl
theorem f_106_118 (l : za_L) (st : List Value) (w : za_W) : za_n 106 (118, l, st, w) = za_x 106 (.iaload) 118 l st w := za_n.at zcc_106 dX10_turnBack_118 rfl
theorem f_106_119 (l : za_L) (st : List Value) (w : za_W) : za_n 106 (119, l, st, w) = za_go 120 l (.int (1) :: st) w := (za_n.at zcc_106 dX10_turnBack_119 rfl).trans (congrArg (fun x => za_go 120 l (.int x :: st) w) (by decide))
theorem f_106_120 (l : za_L) (st : List Value) (w : za_W) : za_n 106 (120, l, st, w) = za_x 106 (.iadd) 120 l st w := za_n.at zcc_106 dX10_turnBack_120 rfl
theorem f_106_121 (l : za_L) (st : List Value) (w : za_W) : za_n 106 (121, l, st, w) = za_x 106 (.iastore) 121 l st w := za_n.at zcc_106 dX10_turnBack_121 rfl
theorem f_106_122 (l : za_L) (st : List Value) (w : za_W) : za_n 106 (122, l, st, w) = za_x 106 (.iinc 5 1) 122 l st w := za_n.at zcc_106 dX10_turnBack_122 rfl
theorem f_106_125 (l : za_L) (st : List Value) (w : za_W) : za_n 106 (125, l, st, w) = za_go 81 l st w := (za_n.at zcc_106 dX10_turnBack_125 rfl).trans (za_jp.at (by decide))
theorem f_106_128 (l : za_L) (st : List Value) (w : za_W) : za_n 106 (128, l, st, w) = za_x 106 (.aload_n 0) 128 l st w := za_n.at zcc_106 dX10_turnBack_128 rfl
theorem f_106_129 (l : za_L) (st : List Value) (w : za_W) : za_n 106 (129, l, st, w) = za_x 106 (.getfield 9) 129 l st w := za_n.at zcc_106 dX10_turnBack_129 rfl
theorem f_106_132 (l : za_L) (st : List Value) (w : za_W) : za_n 106 (132, l, st, w) = za_x 106 (.iload_n 3) 132 l st w := za_n.at zcc_106 dX10_turnBack_132 rfl
theorem f_106_133 (l : za_L) (st : List Value) (w : za_W) : za_n 106 (133, l, st, w) = za_x 106 (.iaload) 133 l st w := za_n.at zcc_106 dX10_turnBack_133 rfl
theorem f_106_134 (l : za_L) (st : List Value) (w : za_W) : za_n 106 (134, l, st, w) = za_x 106 (.istore 5) 134 l st w := za_n.at zcc_106 dX10_turnBack_134 rfl
theorem f_106_136 (l : za_L) (st : List Value) (w : za_W) : za_n 106 (136, l, st, w) = za_go 137 l (.int (0) :: st) w := (za_n.at zcc_106 dX10_turnBack_136 rfl).trans (congrArg (fun x => za_go 137 l (.int x :: st) w) (by decide))
theorem f_106_137 (l : za_L) (st : List Value) (w : za_W) : za_n 106 (137, l, st, w) = za_x 106 (.istore 6) 137 l st w := za_n.at zcc_106 dX10_turnBack_137 rfl
theorem f_106_139 (l : za_L) (st : List Value) (w : za_W) : za_n 106 (139, l, st, w) = za_x 106 (.iload 6) 139 l st w := za_n.at zcc_106 dX10_turnBack_139 rfl
theorem f_106_141 (l : za_L) (st : List Value) (w : za_W) : za_n 106 (141, l, st, w) = za_x 106 (.iload_n 2) 141 l st w := za_n.at zcc_106 dX10_turnBack_141 rfl
theorem f_106_142 (l : za_L) (st : List Value) (w : za_W) : za_n 106 (142, l, st, w) = za_x 106 (.if_icmp .ge 27) 142 l st w := za_n.at zcc_106 dX10_turnBack_142 rfl
theorem f_106_145 (l : za_L) (st : List Value) (w : za_W) : za_n 106 (145, l, st, w) = za_x 106 (.aload 4) 145 l st w := za_n.at zcc_106 dX10_turnBack_145 rfl
theorem f_106_147 (l : za_L) (st : List Value) (w : za_W) : za_n 106 (147, l, st, w) = za_x 106 (.iload 6) 147 l st w := za_n.at zcc_106 dX10_turnBack_147 rfl
theorem f_106_149 (l : za_L) (st : List Value) (w : za_W) : za_n 106 (149, l, st, w) = za_x 106 (.aload_n 1) 149 l st w := za_n.at zcc_106 dX10_turnBack_149 rfl
theorem f_106_150 (l : za_L) (st : List Value) (w : za_W) : za_n 106 (150, l, st, w) = za_x 106 (.iload 5) 150 l st w := za_n.at zcc_106 dX10_turnBack_150 rfl
theorem f_106_152 (l : za_L) (st : List Value) (w : za_W) : za_n 106 (152, l, st, w) = za_x 106 (.baload) 152 l st w := za_n.at zcc_106 dX10_turnBack_152 rfl
theorem f_106_153 (l : za_L) (st : List Value) (w : za_W) : za_n 106 (153, l, st, w) = za_x 106 (.bastore) 153 l st w := za_n.at zcc_106 dX10_turnBack_153 rfl
theorem f_106_154 (l : za_L) (st : List Value) (w : za_W) : za_n 106 (154, l, st, w) = za_x 106 (.aload_n 0) 154 l st w := za_n.at zcc_106 dX10_turnBack_154 rfl
theorem f_106_155 (l : za_L) (st : List Value) (w : za_W) : za_n 106 (155, l, st, w) = za_x 106 (.getfield 9) 155 l st w := za_n.at zcc_106 dX10_turnBack_155 rfl
theorem f_106_158 (l : za_L) (st : List Value) (w : za_W) : za_n 106 (158, l, st, w) = za_x 106 (.iload 5) 158 l st w := za_n.at zcc_106 dX10_turnBack_158 rfl
theorem f_106_160 (l : za_L) (st : List Value) (w : za_W) : za_n 106 (160, l, st, w) = za_x 106 (.iaload) 160 l st w := za_n.at zcc_106 dX10_turnBack_160 rfl
theorem f_106_161 (l : za_L) (st : List Value) (w : za_W) : za_n 106 (161, l, st, w) = za_x 106 (.istore 5) 161 l st w := za_n.at zcc_106 dX10_turnBack_161 rfl
theorem f_106_163 (l : za_L) (st : List Value) (w : za_W) : za_n 106 (163, l, st, w) = za_x 106 (.iinc 6 1) 163 l st w := za_n.at zcc_106 dX10_turnBack_163 rfl
theorem f_106_166 (l : za_L) (st : List Value) (w : za_W) : za_n 106 (166, l, st, w) = za_go 139 l st w := (za_n.at zcc_106 dX10_turnBack_166 rfl).trans (za_jp.at (by decide))
theorem f_106_169 (l : za_L) (st : List Value) (w : za_W) : za_n 106 (169, l, st, w) = za_x 106 (.return_) 169 l st w := za_n.at zcc_106 dX10_turnBack_169 rfl
theorem f_107_0 (l : za_L) (st : List Value) (w : za_W) : za_n 107 (0, l, st, w) = za_x 107 (.aload_n 0) 0 l st w := za_n.at zcc_107 dX11_init_0 rfl
theorem f_107_1 (l : za_L) (st : List Value) (w : za_W) : za_n 107 (1, l, st, w) = za_x 107 (.invokespecial 3) 1 l st w := za_n.at zcc_107 dX11_init_1 rfl
theorem f_107_4 (l : za_L) (st : List Value) (w : za_W) : za_n 107 (4, l, st, w) = za_x 107 (.aload_n 0) 4 l st w := za_n.at zcc_107 dX11_init_4 rfl
theorem f_107_5 (l : za_L) (st : List Value) (w : za_W) : za_n 107 (5, l, st, w) = za_go 6 l (.int (1) :: st) w := (za_n.at zcc_107 dX11_init_5 rfl).trans (congrArg (fun x => za_go 6 l (.int x :: st) w) (by decide))
theorem f_107_6 (l : za_L) (st : List Value) (w : za_W) : za_n 107 (6, l, st, w) = za_go 8 l (.int (9) :: st) w := (za_n.at zcc_107 dX11_init_6 rfl).trans (congrArg (fun x => za_go 8 l (.int x :: st) w) (by decide))
theorem f_107_8 (l : za_L) (st : List Value) (w : za_W) : za_n 107 (8, l, st, w) = za_x 107 (.iload_n 1) 8 l st w := za_n.at zcc_107 dX11_init_8 rfl
theorem f_107_9 (l : za_L) (st : List Value) (w : za_W) : za_n 107 (9, l, st, w) = za_x 107 (.invokestatic 9) 9 l st w := za_n.at zcc_107 dX11_init_9 rfl
theorem f_107_12 (l : za_L) (st : List Value) (w : za_W) : za_n 107 (12, l, st, w) = za_x 107 (.invokestatic 15) 12 l st w := za_n.at zcc_107 dX11_init_12 rfl
theorem f_107_15 (l : za_L) (st : List Value) (w : za_W) : za_n 107 (15, l, st, w) = za_x 107 (.putfield 18) 15 l st w := za_n.at zcc_107 dX11_init_15 rfl
theorem f_107_18 (l : za_L) (st : List Value) (w : za_W) : za_n 107 (18, l, st, w) = za_x 107 (.aload_n 0) 18 l st w := za_n.at zcc_107 dX11_init_18 rfl
theorem f_107_19 (l : za_L) (st : List Value) (w : za_W) : za_n 107 (19, l, st, w) = za_x 107 (.new 22) 19 l st w := za_n.at zcc_107 dX11_init_19 rfl
theorem f_107_22 (l : za_L) (st : List Value) (w : za_W) : za_n 107 (22, l, st, w) = za_x 107 (.dup) 22 l st w := za_n.at zcc_107 dX11_init_22 rfl
theorem f_107_23 (l : za_L) (st : List Value) (w : za_W) : za_n 107 (23, l, st, w) = za_go 26 l (.int (1500) :: st) w := (za_n.at zcc_107 dX11_init_23 rfl).trans (congrArg (fun x => za_go 26 l (.int x :: st) w) (by decide))
theorem f_107_26 (l : za_L) (st : List Value) (w : za_W) : za_n 107 (26, l, st, w) = za_x 107 (.invokespecial 24) 26 l st w := za_n.at zcc_107 dX11_init_26 rfl
theorem f_107_29 (l : za_L) (st : List Value) (w : za_W) : za_n 107 (29, l, st, w) = za_x 107 (.putfield 27) 29 l st w := za_n.at zcc_107 dX11_init_29 rfl
theorem f_107_32 (l : za_L) (st : List Value) (w : za_W) : za_n 107 (32, l, st, w) = za_x 107 (.aload_n 0) 32 l st w := za_n.at zcc_107 dX11_init_32 rfl
theorem f_107_33 (l : za_L) (st : List Value) (w : za_W) : za_n 107 (33, l, st, w) = za_x 107 (.new 22) 33 l st w := za_n.at zcc_107 dX11_init_33 rfl
theorem f_107_36 (l : za_L) (st : List Value) (w : za_W) : za_n 107 (36, l, st, w) = za_x 107 (.dup) 36 l st w := za_n.at zcc_107 dX11_init_36 rfl
theorem f_107_37 (l : za_L) (st : List Value) (w : za_W) : za_n 107 (37, l, st, w) = za_go 40 l (.int (4000) :: st) w := (za_n.at zcc_107 dX11_init_37 rfl).trans (congrArg (fun x => za_go 40 l (.int x :: st) w) (by decide))
theorem f_107_40 (l : za_L) (st : List Value) (w : za_W) : za_n 107 (40, l, st, w) = za_x 107 (.invokespecial 24) 40 l st w := za_n.at zcc_107 dX11_init_40 rfl
theorem f_107_43 (l : za_L) (st : List Value) (w : za_W) : za_n 107 (43, l, st, w) = za_x 107 (.putfield 31) 43 l st w := za_n.at zcc_107 dX11_init_43 rfl
theorem f_107_46 (l : za_L) (st : List Value) (w : za_W) : za_n 107 (46, l, st, w) = za_x 107 (.aload_n 0) 46 l st w := za_n.at zcc_107 dX11_init_46 rfl
theorem f_107_47 (l : za_L) (st : List Value) (w : za_W) : za_n 107 (47, l, st, w) = za_x 107 (.new 22) 47 l st w := za_n.at zcc_107 dX11_init_47 rfl
theorem f_107_50 (l : za_L) (st : List Value) (w : za_W) : za_n 107 (50, l, st, w) = za_x 107 (.dup) 50 l st w := za_n.at zcc_107 dX11_init_50 rfl
theorem f_107_51 (l : za_L) (st : List Value) (w : za_W) : za_n 107 (51, l, st, w) = za_go 54 l (.int (1500) :: st) w := (za_n.at zcc_107 dX11_init_51 rfl).trans (congrArg (fun x => za_go 54 l (.int x :: st) w) (by decide))
theorem f_107_54 (l : za_L) (st : List Value) (w : za_W) : za_n 107 (54, l, st, w) = za_x 107 (.invokespecial 24) 54 l st w := za_n.at zcc_107 dX11_init_54 rfl
theorem f_107_57 (l : za_L) (st : List Value) (w : za_W) : za_n 107 (57, l, st, w) = za_x 107 (.putfield 34) 57 l st w := za_n.at zcc_107 dX11_init_57 rfl
theorem f_107_60 (l : za_L) (st : List Value) (w : za_W) : za_n 107 (60, l, st, w) = za_x 107 (.aload_n 0) 60 l st w := za_n.at zcc_107 dX11_init_60 rfl
theorem f_107_61 (l : za_L) (st : List Value) (w : za_W) : za_n 107 (61, l, st, w) = za_x 107 (.new 37) 61 l st w := za_n.at zcc_107 dX11_init_61 rfl
theorem f_107_64 (l : za_L) (st : List Value) (w : za_W) : za_n 107 (64, l, st, w) = za_x 107 (.dup) 64 l st w := za_n.at zcc_107 dX11_init_64 rfl
theorem f_107_65 (l : za_L) (st : List Value) (w : za_W) : za_n 107 (65, l, st, w) = za_x 107 (.invokespecial 39) 65 l st w := za_n.at zcc_107 dX11_init_65 rfl
theorem f_107_68 (l : za_L) (st : List Value) (w : za_W) : za_n 107 (68, l, st, w) = za_x 107 (.putfield 40) 68 l st w := za_n.at zcc_107 dX11_init_68 rfl
theorem f_107_71 (l : za_L) (st : List Value) (w : za_W) : za_n 107 (71, l, st, w) = za_x 107 (.new 44) 71 l st w := za_n.at zcc_107 dX11_init_71 rfl
theorem f_107_74 (l : za_L) (st : List Value) (w : za_W) : za_n 107 (74, l, st, w) = za_x 107 (.dup) 74 l st w := za_n.at zcc_107 dX11_init_74 rfl
theorem f_107_75 (l : za_L) (st : List Value) (w : za_W) : za_n 107 (75, l, st, w) = za_x 107 (.invokespecial 46) 75 l st w := za_n.at zcc_107 dX11_init_75 rfl
theorem f_107_78 (l : za_L) (st : List Value) (w : za_W) : za_n 107 (78, l, st, w) = za_x 107 (.astore_n 2) 78 l st w := za_n.at zcc_107 dX11_init_78 rfl
theorem f_107_79 (l : za_L) (st : List Value) (w : za_W) : za_n 107 (79, l, st, w) = za_x 107 (.aload_n 0) 79 l st w := za_n.at zcc_107 dX11_init_79 rfl
theorem f_107_80 (l : za_L) (st : List Value) (w : za_W) : za_n 107 (80, l, st, w) = za_x 107 (.new 47) 80 l st w := za_n.at zcc_107 dX11_init_80 rfl
theorem f_107_83 (l : za_L) (st : List Value) (w : za_W) : za_n 107 (83, l, st, w) = za_x 107 (.dup) 83 l st w := za_n.at zcc_107 dX11_init_83 rfl
theorem f_107_84 (l : za_L) (st : List Value) (w : za_W) : za_n 107 (84, l, st, w) = za_x 107 (.aload_n 0) 84 l st w := za_n.at zcc_107 dX11_init_84 rfl
theorem f_107_85 (l : za_L) (st : List Value) (w : za_W) : za_n 107 (85, l, st, w) = za_x 107 (.getfield 31) 85 l st w := za_n.at zcc_107 dX11_init_85 rfl
theorem f_107_88 (l : za_L) (st : List Value) (w : za_W) : za_n 107 (88, l, st, w) = za_x 107 (.aload_n 0) 88 l st w := za_n.at zcc_107 dX11_init_88 rfl
theorem f_107_89 (l : za_L) (st : List Value) (w : za_W) : za_n 107 (89, l, st, w) = za_x 107 (.getfield 40) 89 l st w := za_n.at zcc_107 dX11_init_89 rfl
theorem f_107_92 (l : za_L) (st : List Value) (w : za_W) : za_n 107 (92, l, st, w) = za_x 107 (.aload_n 2) 92 l st w := za_n.at zcc_107 dX11_init_92 rfl
theorem f_107_93 (l : za_L) (st : List Value) (w : za_W) : za_n 107 (93, l, st, w) = za_x 107 (.invokespecial 49) 93 l st w := za_n.at zcc_107 dX11_init_93 rfl
theorem f_107_96 (l : za_L) (st : List Value) (w : za_W) : za_n 107 (96, l, st, w) = za_x 107 (.putfield 52) 96 l st w := za_n.at zcc_107 dX11_init_96 rfl
theorem f_107_99 (l : za_L) (st : List Value) (w : za_W) : za_n 107 (99, l, st, w) = za_x 107 (.aload_n 0) 99 l st w := za_n.at zcc_107 dX11_init_99 rfl
theorem f_107_100 (l : za_L) (st : List Value) (w : za_W) : za_n 107 (100, l, st, w) = za_x 107 (.new 56) 100 l st w := za_n.at zcc_107 dX11_init_100 rfl
theorem f_107_103 (l : za_L) (st : List Value) (w : za_W) : za_n 107 (103, l, st, w) = za_x 107 (.dup) 103 l st w := za_n.at zcc_107 dX11_init_103 rfl
theorem f_107_104 (l : za_L) (st : List Value) (w : za_W) : za_n 107 (104, l, st, w) = za_x 107 (.aload_n 0) 104 l st w := za_n.at zcc_107 dX11_init_104 rfl
theorem f_107_105 (l : za_L) (st : List Value) (w : za_W) : za_n 107 (105, l, st, w) = za_x 107 (.getfield 34) 105 l st w := za_n.at zcc_107 dX11_init_105 rfl
theorem f_107_108 (l : za_L) (st : List Value) (w : za_W) : za_n 107 (108, l, st, w) = za_x 107 (.aload_n 0) 108 l st w := za_n.at zcc_107 dX11_init_108 rfl
theorem f_107_109 (l : za_L) (st : List Value) (w : za_W) : za_n 107 (109, l, st, w) = za_x 107 (.getfield 31) 109 l st w := za_n.at zcc_107 dX11_init_109 rfl
theorem f_107_112 (l : za_L) (st : List Value) (w : za_W) : za_n 107 (112, l, st, w) = za_x 107 (.aload_n 0) 112 l st w := za_n.at zcc_107 dX11_init_112 rfl
theorem f_107_113 (l : za_L) (st : List Value) (w : za_W) : za_n 107 (113, l, st, w) = za_x 107 (.getfield 40) 113 l st w := za_n.at zcc_107 dX11_init_113 rfl
theorem f_107_116 (l : za_L) (st : List Value) (w : za_W) : za_n 107 (116, l, st, w) = za_x 107 (.aload_n 2) 116 l st w := za_n.at zcc_107 dX11_init_116 rfl
theorem f_107_117 (l : za_L) (st : List Value) (w : za_W) : za_n 107 (117, l, st, w) = za_x 107 (.invokespecial 58) 117 l st w := za_n.at zcc_107 dX11_init_117 rfl
theorem f_107_120 (l : za_L) (st : List Value) (w : za_W) : za_n 107 (120, l, st, w) = za_x 107 (.putfield 61) 120 l st w := za_n.at zcc_107 dX11_init_120 rfl
theorem f_107_123 (l : za_L) (st : List Value) (w : za_W) : za_n 107 (123, l, st, w) = za_x 107 (.return_) 123 l st w := za_n.at zcc_107 dX11_init_123 rfl
theorem f_108_0 (l : za_L) (st : List Value) (w : za_W) : za_n 108 (0, l, st, w) = za_x 108 (.aload_n 0) 0 l st w := za_n.at zcc_108 dX11_feed_0 rfl
theorem f_108_1 (l : za_L) (st : List Value) (w : za_W) : za_n 108 (1, l, st, w) = za_x 108 (.getfield 27) 1 l st w := za_n.at zcc_108 dX11_feed_1 rfl
theorem f_108_4 (l : za_L) (st : List Value) (w : za_W) : za_n 108 (4, l, st, w) = za_go 6 l (.int (20) :: st) w := (za_n.at zcc_108 dX11_feed_4 rfl).trans (congrArg (fun x => za_go 6 l (.int x :: st) w) (by decide))
theorem f_108_6 (l : za_L) (st : List Value) (w : za_W) : za_n 108 (6, l, st, w) = za_x 108 (.invokevirtual 65) 6 l st w := za_n.at zcc_108 dX11_feed_6 rfl
theorem f_108_9 (l : za_L) (st : List Value) (w : za_W) : za_n 108 (9, l, st, w) = za_x 108 (.ifCond .ne 6) 9 l st w := za_n.at zcc_108 dX11_feed_9 rfl
theorem f_108_12 (l : za_L) (st : List Value) (w : za_W) : za_n 108 (12, l, st, w) = za_go 14 l (.int (-3) :: st) w := (za_n.at zcc_108 dX11_feed_12 rfl).trans (congrArg (fun x => za_go 14 l (.int x :: st) w) (by decide))
theorem f_108_14 (l : za_L) (st : List Value) (w : za_W) : za_n 108 (14, l, st, w) = za_x 108 (.ireturn) 14 l st w := za_n.at zcc_108 dX11_feed_14 rfl
theorem f_108_15 (l : za_L) (st : List Value) (w : za_W) : za_n 108 (15, l, st, w) = za_x 108 (.aload_n 0) 15 l st w := za_n.at zcc_108 dX11_feed_15 rfl
theorem f_108_16 (l : za_L) (st : List Value) (w : za_W) : za_n 108 (16, l, st, w) = za_x 108 (.getfield 27) 16 l st w := za_n.at zcc_108 dX11_feed_16 rfl
theorem f_108_19 (l : za_L) (st : List Value) (w : za_W) : za_n 108 (19, l, st, w) = za_x 108 (.iload_n 1) 19 l st w := za_n.at zcc_108 dX11_feed_19 rfl
theorem f_108_20 (l : za_L) (st : List Value) (w : za_W) : za_n 108 (20, l, st, w) = za_x 108 (.invokevirtual 69) 20 l st w := za_n.at zcc_108 dX11_feed_20 rfl
theorem f_108_23 (l : za_L) (st : List Value) (w : za_W) : za_n 108 (23, l, st, w) = za_x 108 (.aload_n 0) 23 l st w := za_n.at zcc_108 dX11_feed_23 rfl
theorem f_108_24 (l : za_L) (st : List Value) (w : za_W) : za_n 108 (24, l, st, w) = za_x 108 (.getfield 27) 24 l st w := za_n.at zcc_108 dX11_feed_24 rfl
theorem f_108_27 (l : za_L) (st : List Value) (w : za_W) : za_n 108 (27, l, st, w) = za_x 108 (.iload_n 2) 27 l st w := za_n.at zcc_108 dX11_feed_27 rfl
theorem f_108_28 (l : za_L) (st : List Value) (w : za_W) : za_n 108 (28, l, st, w) = za_x 108 (.invokevirtual 69) 28 l st w := za_n.at zcc_108 dX11_feed_28 rfl
theorem f_108_31 (l : za_L) (st : List Value) (w : za_W) : za_n 108 (31, l, st, w) = za_x 108 (.aload_n 0) 31 l st w := za_n.at zcc_108 dX11_feed_31 rfl
theorem f_108_32 (l : za_L) (st : List Value) (w : za_W) : za_n 108 (32, l, st, w) = za_x 108 (.getfield 27) 32 l st w := za_n.at zcc_108 dX11_feed_32 rfl
theorem f_108_35 (l : za_L) (st : List Value) (w : za_W) : za_n 108 (35, l, st, w) = za_x 108 (.iload_n 3) 35 l st w := za_n.at zcc_108 dX11_feed_35 rfl
theorem f_108_36 (l : za_L) (st : List Value) (w : za_W) : za_n 108 (36, l, st, w) = za_x 108 (.invokevirtual 69) 36 l st w := za_n.at zcc_108 dX11_feed_36 rfl
theorem f_108_39 (l : za_L) (st : List Value) (w : za_W) : za_n 108 (39, l, st, w) = za_x 108 (.aload_n 0) 39 l st w := za_n.at zcc_108 dX11_feed_39 rfl
theorem f_108_40 (l : za_L) (st : List Value) (w : za_W) : za_n 108 (40, l, st, w) = za_x 108 (.getfield 27) 40 l st w := za_n.at zcc_108 dX11_feed_40 rfl
theorem f_108_43 (l : za_L) (st : List Value) (w : za_W) : za_n 108 (43, l, st, w) = za_x 108 (.iload 4) 43 l st w := za_n.at zcc_108 dX11_feed_43 rfl
theorem f_108_45 (l : za_L) (st : List Value) (w : za_W) : za_n 108 (45, l, st, w) = za_x 108 (.invokevirtual 69) 45 l st w := za_n.at zcc_108 dX11_feed_45 rfl
theorem f_108_48 (l : za_L) (st : List Value) (w : za_W) : za_n 108 (48, l, st, w) = za_x 108 (.aload_n 0) 48 l st w := za_n.at zcc_108 dX11_feed_48 rfl
theorem f_108_49 (l : za_L) (st : List Value) (w : za_W) : za_n 108 (49, l, st, w) = za_x 108 (.getfield 27) 49 l st w := za_n.at zcc_108 dX11_feed_49 rfl
theorem f_108_52 (l : za_L) (st : List Value) (w : za_W) : za_n 108 (52, l, st, w) = za_x 108 (.iload 5) 52 l st w := za_n.at zcc_108 dX11_feed_52 rfl
theorem f_108_54 (l : za_L) (st : List Value) (w : za_W) : za_n 108 (54, l, st, w) = za_x 108 (.invokevirtual 69) 54 l st w := za_n.at zcc_108 dX11_feed_54 rfl
theorem f_108_57 (l : za_L) (st : List Value) (w : za_W) : za_n 108 (57, l, st, w) = za_x 108 (.aload_n 0) 57 l st w := za_n.at zcc_108 dX11_feed_57 rfl
theorem f_108_58 (l : za_L) (st : List Value) (w : za_W) : za_n 108 (58, l, st, w) = za_x 108 (.getfield 27) 58 l st w := za_n.at zcc_108 dX11_feed_58 rfl
theorem f_108_61 (l : za_L) (st : List Value) (w : za_W) : za_n 108 (61, l, st, w) = za_x 108 (.getfield 72) 61 l st w := za_n.at zcc_108 dX11_feed_61 rfl
theorem f_108_64 (l : za_L) (st : List Value) (w : za_W) : za_n 108 (64, l, st, w) = za_x 108 (.ireturn) 64 l st w := za_n.at zcc_108 dX11_feed_64 rfl
theorem f_109_0 (l : za_L) (st : List Value) (w : za_W) : za_n 109 (0, l, st, w) = za_x 109 (.iload_n 1) 0 l st w := za_n.at zcc_109 dX11_end_0 rfl
theorem f_109_1 (l : za_L) (st : List Value) (w : za_W) : za_n 109 (1, l, st, w) = za_x 109 (.ifCond .lt 21) 1 l st w := za_n.at zcc_109 dX11_end_1 rfl
theorem f_109_4 (l : za_L) (st : List Value) (w : za_W) : za_n 109 (4, l, st, w) = za_x 109 (.iload_n 1) 4 l st w := za_n.at zcc_109 dX11_end_4 rfl
theorem f_109_5 (l : za_L) (st : List Value) (w : za_W) : za_n 109 (5, l, st, w) = za_go 7 l (.int (20) :: st) w := (za_n.at zcc_109 dX11_end_5 rfl).trans (congrArg (fun x => za_go 7 l (.int x :: st) w) (by decide))
theorem f_109_7 (l : za_L) (st : List Value) (w : za_W) : za_n 109 (7, l, st, w) = za_x 109 (.if_icmp .gt 15) 7 l st w := za_n.at zcc_109 dX11_end_7 rfl
theorem f_109_10 (l : za_L) (st : List Value) (w : za_W) : za_n 109 (10, l, st, w) = za_x 109 (.aload_n 0) 10 l st w := za_n.at zcc_109 dX11_end_10 rfl
theorem f_109_11 (l : za_L) (st : List Value) (w : za_W) : za_n 109 (11, l, st, w) = za_x 109 (.getfield 27) 11 l st w := za_n.at zcc_109 dX11_end_11 rfl
theorem f_109_14 (l : za_L) (st : List Value) (w : za_W) : za_n 109 (14, l, st, w) = za_x 109 (.getfield 72) 14 l st w := za_n.at zcc_109 dX11_end_14 rfl
theorem f_109_17 (l : za_L) (st : List Value) (w : za_W) : za_n 109 (17, l, st, w) = za_go 19 l (.int (20) :: st) w := (za_n.at zcc_109 dX11_end_17 rfl).trans (congrArg (fun x => za_go 19 l (.int x :: st) w) (by decide))
theorem f_109_19 (l : za_L) (st : List Value) (w : za_W) : za_n 109 (19, l, st, w) = za_x 109 (.if_icmp .ge 5) 19 l st w := za_n.at zcc_109 dX11_end_19 rfl
theorem f_109_22 (l : za_L) (st : List Value) (w : za_W) : za_n 109 (22, l, st, w) = za_go 23 l (.int (-1) :: st) w := (za_n.at zcc_109 dX11_end_22 rfl).trans (congrArg (fun x => za_go 23 l (.int x :: st) w) (by decide))
theorem f_109_23 (l : za_L) (st : List Value) (w : za_W) : za_n 109 (23, l, st, w) = za_x 109 (.ireturn) 23 l st w := za_n.at zcc_109 dX11_end_23 rfl
theorem f_109_24 (l : za_L) (st : List Value) (w : za_W) : za_n 109 (24, l, st, w) = za_x 109 (.aload_n 0) 24 l st w := za_n.at zcc_109 dX11_end_24 rfl
theorem f_109_25 (l : za_L) (st : List Value) (w : za_W) : za_n 109 (25, l, st, w) = za_x 109 (.getfield 27) 25 l st w := za_n.at zcc_109 dX11_end_25 rfl
theorem f_109_28 (l : za_L) (st : List Value) (w : za_W) : za_n 109 (28, l, st, w) = za_x 109 (.aload_n 0) 28 l st w := za_n.at zcc_109 dX11_end_28 rfl
theorem f_109_29 (l : za_L) (st : List Value) (w : za_W) : za_n 109 (29, l, st, w) = za_x 109 (.getfield 27) 29 l st w := za_n.at zcc_109 dX11_end_29 rfl
theorem f_109_32 (l : za_L) (st : List Value) (w : za_W) : za_n 109 (32, l, st, w) = za_x 109 (.getfield 72) 32 l st w := za_n.at zcc_109 dX11_end_32 rfl
theorem f_109_35 (l : za_L) (st : List Value) (w : za_W) : za_n 109 (35, l, st, w) = za_go 37 l (.int (20) :: st) w := (za_n.at zcc_109 dX11_end_35 rfl).trans (congrArg (fun x => za_go 37 l (.int x :: st) w) (by decide))
theorem f_109_37 (l : za_L) (st : List Value) (w : za_W) : za_n 109 (37, l, st, w) = za_x 109 (.isub) 37 l st w := za_n.at zcc_109 dX11_end_37 rfl
theorem f_109_38 (l : za_L) (st : List Value) (w : za_W) : za_n 109 (38, l, st, w) = za_x 109 (.iload_n 1) 38 l st w := za_n.at zcc_109 dX11_end_38 rfl
theorem f_109_39 (l : za_L) (st : List Value) (w : za_W) : za_n 109 (39, l, st, w) = za_x 109 (.iadd) 39 l st w := za_n.at zcc_109 dX11_end_39 rfl
theorem f_109_40 (l : za_L) (st : List Value) (w : za_W) : za_n 109 (40, l, st, w) = za_x 109 (.invokevirtual 75) 40 l st w := za_n.at zcc_109 dX11_end_40 rfl
theorem f_109_43 (l : za_L) (st : List Value) (w : za_W) : za_n 109 (43, l, st, w) = za_x 109 (.aload_n 0) 43 l st w := za_n.at zcc_109 dX11_end_43 rfl
theorem f_109_44 (l : za_L) (st : List Value) (w : za_W) : za_n 109 (44, l, st, w) = za_x 109 (.getfield 27) 44 l st w := za_n.at zcc_109 dX11_end_44 rfl
theorem f_109_47 (l : za_L) (st : List Value) (w : za_W) : za_n 109 (47, l, st, w) = za_x 109 (.getfield 72) 47 l st w := za_n.at zcc_109 dX11_end_47 rfl
theorem f_109_50 (l : za_L) (st : List Value) (w : za_W) : za_n 109 (50, l, st, w) = za_x 109 (.ireturn) 50 l st w := za_n.at zcc_109 dX11_end_50 rfl
theorem f_110_0 (l : za_L) (st : List Value) (w : za_W) : za_n 110 (0, l, st, w) = za_x 110 (.iload_n 2) 0 l st w := za_n.at zcc_110 dX11_octets_0 rfl
theorem f_110_1 (l : za_L) (st : List Value) (w : za_W) : za_n 110 (1, l, st, w) = za_go 2 l (.int (1) :: st) w := (za_n.at zcc_110 dX11_octets_1 rfl).trans (congrArg (fun x => za_go 2 l (.int x :: st) w) (by decide))
theorem f_110_2 (l : za_L) (st : List Value) (w : za_W) : za_n 110 (2, l, st, w) = za_x 110 (.if_icmp .lt 10) 2 l st w := za_n.at zcc_110 dX11_octets_2 rfl
theorem f_110_5 (l : za_L) (st : List Value) (w : za_W) : za_n 110 (5, l, st, w) = za_x 110 (.iload_n 2) 5 l st w := za_n.at zcc_110 dX11_octets_5 rfl
theorem f_110_6 (l : za_L) (st : List Value) (w : za_W) : za_n 110 (6, l, st, w) = za_go 9 l (.int (400) :: st) w := (za_n.at zcc_110 dX11_octets_6 rfl).trans (congrArg (fun x => za_go 9 l (.int x :: st) w) (by decide))
theorem f_110_9 (l : za_L) (st : List Value) (w : za_W) : za_n 110 (9, l, st, w) = za_x 110 (.if_icmp .le 5) 9 l st w := za_n.at zcc_110 dX11_octets_9 rfl
theorem f_110_12 (l : za_L) (st : List Value) (w : za_W) : za_n 110 (12, l, st, w) = za_go 13 l (.int (-1) :: st) w := (za_n.at zcc_110 dX11_octets_12 rfl).trans (congrArg (fun x => za_go 13 l (.int x :: st) w) (by decide))
theorem f_110_13 (l : za_L) (st : List Value) (w : za_W) : za_n 110 (13, l, st, w) = za_x 110 (.ireturn) 13 l st w := za_n.at zcc_110 dX11_octets_13 rfl
theorem f_110_14 (l : za_L) (st : List Value) (w : za_W) : za_n 110 (14, l, st, w) = za_x 110 (.aload_n 0) 14 l st w := za_n.at zcc_110 dX11_octets_14 rfl
theorem f_110_15 (l : za_L) (st : List Value) (w : za_W) : za_n 110 (15, l, st, w) = za_x 110 (.getfield 27) 15 l st w := za_n.at zcc_110 dX11_octets_15 rfl
theorem f_110_18 (l : za_L) (st : List Value) (w : za_W) : za_n 110 (18, l, st, w) = za_x 110 (.iload_n 2) 18 l st w := za_n.at zcc_110 dX11_octets_18 rfl
theorem f_110_19 (l : za_L) (st : List Value) (w : za_W) : za_n 110 (19, l, st, w) = za_x 110 (.invokevirtual 65) 19 l st w := za_n.at zcc_110 dX11_octets_19 rfl
theorem f_110_22 (l : za_L) (st : List Value) (w : za_W) : za_n 110 (22, l, st, w) = za_x 110 (.ifCond .ne 6) 22 l st w := za_n.at zcc_110 dX11_octets_22 rfl
theorem f_110_25 (l : za_L) (st : List Value) (w : za_W) : za_n 110 (25, l, st, w) = za_go 27 l (.int (-3) :: st) w := (za_n.at zcc_110 dX11_octets_25 rfl).trans (congrArg (fun x => za_go 27 l (.int x :: st) w) (by decide))
theorem f_110_27 (l : za_L) (st : List Value) (w : za_W) : za_n 110 (27, l, st, w) = za_x 110 (.ireturn) 27 l st w := za_n.at zcc_110 dX11_octets_27 rfl
theorem f_110_28 (l : za_L) (st : List Value) (w : za_W) : za_n 110 (28, l, st, w) = za_go 29 l (.int (0) :: st) w := (za_n.at zcc_110 dX11_octets_28 rfl).trans (congrArg (fun x => za_go 29 l (.int x :: st) w) (by decide))
theorem f_110_29 (l : za_L) (st : List Value) (w : za_W) : za_n 110 (29, l, st, w) = za_x 110 (.istore_n 3) 29 l st w := za_n.at zcc_110 dX11_octets_29 rfl
theorem f_110_30 (l : za_L) (st : List Value) (w : za_W) : za_n 110 (30, l, st, w) = za_x 110 (.iload_n 3) 30 l st w := za_n.at zcc_110 dX11_octets_30 rfl
theorem f_110_31 (l : za_L) (st : List Value) (w : za_W) : za_n 110 (31, l, st, w) = za_x 110 (.iload_n 2) 31 l st w := za_n.at zcc_110 dX11_octets_31 rfl
theorem f_110_32 (l : za_L) (st : List Value) (w : za_W) : za_n 110 (32, l, st, w) = za_x 110 (.if_icmp .ge 17) 32 l st w := za_n.at zcc_110 dX11_octets_32 rfl
theorem f_110_35 (l : za_L) (st : List Value) (w : za_W) : za_n 110 (35, l, st, w) = za_x 110 (.aload_n 0) 35 l st w := za_n.at zcc_110 dX11_octets_35 rfl
theorem f_110_36 (l : za_L) (st : List Value) (w : za_W) : za_n 110 (36, l, st, w) = za_x 110 (.getfield 27) 36 l st w := za_n.at zcc_110 dX11_octets_36 rfl
theorem f_110_39 (l : za_L) (st : List Value) (w : za_W) : za_n 110 (39, l, st, w) = za_x 110 (.iload_n 1) 39 l st w := za_n.at zcc_110 dX11_octets_39 rfl
theorem f_110_40 (l : za_L) (st : List Value) (w : za_W) : za_n 110 (40, l, st, w) = za_x 110 (.invokevirtual 78) 40 l st w := za_n.at zcc_110 dX11_octets_40 rfl
theorem f_110_43 (l : za_L) (st : List Value) (w : za_W) : za_n 110 (43, l, st, w) = za_x 110 (.iinc 3 1) 43 l st w := za_n.at zcc_110 dX11_octets_43 rfl
theorem f_110_46 (l : za_L) (st : List Value) (w : za_W) : za_n 110 (46, l, st, w) = za_go 30 l st w := (za_n.at zcc_110 dX11_octets_46 rfl).trans (za_jp.at (by decide))
theorem f_110_49 (l : za_L) (st : List Value) (w : za_W) : za_n 110 (49, l, st, w) = za_x 110 (.aload_n 0) 49 l st w := za_n.at zcc_110 dX11_octets_49 rfl
theorem f_110_50 (l : za_L) (st : List Value) (w : za_W) : za_n 110 (50, l, st, w) = za_x 110 (.getfield 27) 50 l st w := za_n.at zcc_110 dX11_octets_50 rfl
theorem f_110_53 (l : za_L) (st : List Value) (w : za_W) : za_n 110 (53, l, st, w) = za_x 110 (.getfield 72) 53 l st w := za_n.at zcc_110 dX11_octets_53 rfl
theorem f_110_56 (l : za_L) (st : List Value) (w : za_W) : za_n 110 (56, l, st, w) = za_x 110 (.ireturn) 56 l st w := za_n.at zcc_110 dX11_octets_56 rfl
theorem f_111_0 (l : za_L) (st : List Value) (w : za_W) : za_n 111 (0, l, st, w) = za_x 111 (.aload_n 0) 0 l st w := za_n.at zcc_111 dX11_pack_0 rfl
theorem f_111_1 (l : za_L) (st : List Value) (w : za_W) : za_n 111 (1, l, st, w) = za_x 111 (.getfield 52) 1 l st w := za_n.at zcc_111 dX11_pack_1 rfl
theorem f_111_4 (l : za_L) (st : List Value) (w : za_W) : za_n 111 (4, l, st, w) = za_x 111 (.aload_n 0) 4 l st w := za_n.at zcc_111 dX11_pack_4 rfl
theorem f_111_5 (l : za_L) (st : List Value) (w : za_W) : za_n 111 (5, l, st, w) = za_x 111 (.getfield 27) 5 l st w := za_n.at zcc_111 dX11_pack_5 rfl
theorem f_111_8 (l : za_L) (st : List Value) (w : za_W) : za_n 111 (8, l, st, w) = za_x 111 (.aload_n 0) 8 l st w := za_n.at zcc_111 dX11_pack_8 rfl
theorem f_111_9 (l : za_L) (st : List Value) (w : za_W) : za_n 111 (9, l, st, w) = za_x 111 (.getfield 18) 9 l st w := za_n.at zcc_111 dX11_pack_9 rfl
theorem f_111_12 (l : za_L) (st : List Value) (w : za_W) : za_n 111 (12, l, st, w) = za_x 111 (.invokevirtual 81) 12 l st w := za_n.at zcc_111 dX11_pack_12 rfl
theorem f_111_15 (l : za_L) (st : List Value) (w : za_W) : za_n 111 (15, l, st, w) = za_x 111 (.istore_n 1) 15 l st w := za_n.at zcc_111 dX11_pack_15 rfl
theorem f_111_16 (l : za_L) (st : List Value) (w : za_W) : za_n 111 (16, l, st, w) = za_x 111 (.aload_n 0) 16 l st w := za_n.at zcc_111 dX11_pack_16 rfl
theorem f_111_17 (l : za_L) (st : List Value) (w : za_W) : za_n 111 (17, l, st, w) = za_x 111 (.getfield 27) 17 l st w := za_n.at zcc_111 dX11_pack_17 rfl
theorem f_111_20 (l : za_L) (st : List Value) (w : za_W) : za_n 111 (20, l, st, w) = za_go 21 l (.int (0) :: st) w := (za_n.at zcc_111 dX11_pack_20 rfl).trans (congrArg (fun x => za_go 21 l (.int x :: st) w) (by decide))
theorem f_111_21 (l : za_L) (st : List Value) (w : za_W) : za_n 111 (21, l, st, w) = za_x 111 (.invokevirtual 75) 21 l st w := za_n.at zcc_111 dX11_pack_21 rfl
theorem f_111_24 (l : za_L) (st : List Value) (w : za_W) : za_n 111 (24, l, st, w) = za_x 111 (.iload_n 1) 24 l st w := za_n.at zcc_111 dX11_pack_24 rfl
theorem f_111_25 (l : za_L) (st : List Value) (w : za_W) : za_n 111 (25, l, st, w) = za_x 111 (.ifCond .ne 21) 25 l st w := za_n.at zcc_111 dX11_pack_25 rfl
theorem f_111_28 (l : za_L) (st : List Value) (w : za_W) : za_n 111 (28, l, st, w) = za_x 111 (.aload_n 0) 28 l st w := za_n.at zcc_111 dX11_pack_28 rfl
theorem f_111_29 (l : za_L) (st : List Value) (w : za_W) : za_n 111 (29, l, st, w) = za_x 111 (.getfield 31) 29 l st w := za_n.at zcc_111 dX11_pack_29 rfl
theorem f_111_32 (l : za_L) (st : List Value) (w : za_W) : za_n 111 (32, l, st, w) = za_go 33 l (.int (0) :: st) w := (za_n.at zcc_111 dX11_pack_32 rfl).trans (congrArg (fun x => za_go 33 l (.int x :: st) w) (by decide))
theorem f_111_33 (l : za_L) (st : List Value) (w : za_W) : za_n 111 (33, l, st, w) = za_x 111 (.invokevirtual 75) 33 l st w := za_n.at zcc_111 dX11_pack_33 rfl
theorem f_111_36 (l : za_L) (st : List Value) (w : za_W) : za_n 111 (36, l, st, w) = za_x 111 (.aload_n 0) 36 l st w := za_n.at zcc_111 dX11_pack_36 rfl
theorem f_111_37 (l : za_L) (st : List Value) (w : za_W) : za_n 111 (37, l, st, w) = za_x 111 (.getfield 40) 37 l st w := za_n.at zcc_111 dX11_pack_37 rfl
theorem f_111_40 (l : za_L) (st : List Value) (w : za_W) : za_n 111 (40, l, st, w) = za_x 111 (.invokevirtual 85) 40 l st w := za_n.at zcc_111 dX11_pack_40 rfl
theorem f_111_43 (l : za_L) (st : List Value) (w : za_W) : za_n 111 (43, l, st, w) = za_go 45 l (.int (-3) :: st) w := (za_n.at zcc_111 dX11_pack_43 rfl).trans (congrArg (fun x => za_go 45 l (.int x :: st) w) (by decide))
theorem f_111_45 (l : za_L) (st : List Value) (w : za_W) : za_n 111 (45, l, st, w) = za_x 111 (.ireturn) 45 l st w := za_n.at zcc_111 dX11_pack_45 rfl
theorem f_111_46 (l : za_L) (st : List Value) (w : za_W) : za_n 111 (46, l, st, w) = za_x 111 (.aload_n 0) 46 l st w := za_n.at zcc_111 dX11_pack_46 rfl
theorem f_111_47 (l : za_L) (st : List Value) (w : za_W) : za_n 111 (47, l, st, w) = za_x 111 (.getfield 31) 47 l st w := za_n.at zcc_111 dX11_pack_47 rfl
theorem f_111_50 (l : za_L) (st : List Value) (w : za_W) : za_n 111 (50, l, st, w) = za_x 111 (.getfield 72) 50 l st w := za_n.at zcc_111 dX11_pack_50 rfl
theorem f_111_53 (l : za_L) (st : List Value) (w : za_W) : za_n 111 (53, l, st, w) = za_x 111 (.ireturn) 53 l st w := za_n.at zcc_111 dX11_pack_53 rfl
theorem f_112_0 (l : za_L) (st : List Value) (w : za_W) : za_n 112 (0, l, st, w) = za_x 112 (.aload_n 0) 0 l st w := za_n.at zcc_112 dX11_open_0 rfl
theorem f_112_1 (l : za_L) (st : List Value) (w : za_W) : za_n 112 (1, l, st, w) = za_x 112 (.getfield 34) 1 l st w := za_n.at zcc_112 dX11_open_1 rfl
theorem f_112_4 (l : za_L) (st : List Value) (w : za_W) : za_n 112 (4, l, st, w) = za_go 5 l (.int (0) :: st) w := (za_n.at zcc_112 dX11_open_4 rfl).trans (congrArg (fun x => za_go 5 l (.int x :: st) w) (by decide))
theorem f_112_5 (l : za_L) (st : List Value) (w : za_W) : za_n 112 (5, l, st, w) = za_x 112 (.invokevirtual 75) 5 l st w := za_n.at zcc_112 dX11_open_5 rfl
theorem f_112_8 (l : za_L) (st : List Value) (w : za_W) : za_n 112 (8, l, st, w) = za_x 112 (.aload_n 0) 8 l st w := za_n.at zcc_112 dX11_open_8 rfl
theorem f_112_9 (l : za_L) (st : List Value) (w : za_W) : za_n 112 (9, l, st, w) = za_x 112 (.getfield 34) 9 l st w := za_n.at zcc_112 dX11_open_9 rfl
theorem f_112_12 (l : za_L) (st : List Value) (w : za_W) : za_n 112 (12, l, st, w) = za_x 112 (.aload_n 0) 12 l st w := za_n.at zcc_112 dX11_open_12 rfl
theorem f_112_13 (l : za_L) (st : List Value) (w : za_W) : za_n 112 (13, l, st, w) = za_x 112 (.getfield 27) 13 l st w := za_n.at zcc_112 dX11_open_13 rfl
theorem f_112_16 (l : za_L) (st : List Value) (w : za_W) : za_n 112 (16, l, st, w) = za_x 112 (.invokevirtual 88) 16 l st w := za_n.at zcc_112 dX11_open_16 rfl
theorem f_112_19 (l : za_L) (st : List Value) (w : za_W) : za_n 112 (19, l, st, w) = za_x 112 (.aload_n 0) 19 l st w := za_n.at zcc_112 dX11_open_19 rfl
theorem f_112_20 (l : za_L) (st : List Value) (w : za_W) : za_n 112 (20, l, st, w) = za_x 112 (.getfield 27) 20 l st w := za_n.at zcc_112 dX11_open_20 rfl
theorem f_112_23 (l : za_L) (st : List Value) (w : za_W) : za_n 112 (23, l, st, w) = za_go 24 l (.int (0) :: st) w := (za_n.at zcc_112 dX11_open_23 rfl).trans (congrArg (fun x => za_go 24 l (.int x :: st) w) (by decide))
theorem f_112_24 (l : za_L) (st : List Value) (w : za_W) : za_n 112 (24, l, st, w) = za_x 112 (.invokevirtual 75) 24 l st w := za_n.at zcc_112 dX11_open_24 rfl
theorem f_112_27 (l : za_L) (st : List Value) (w : za_W) : za_n 112 (27, l, st, w) = za_x 112 (.aload_n 0) 27 l st w := za_n.at zcc_112 dX11_open_27 rfl
theorem f_112_28 (l : za_L) (st : List Value) (w : za_W) : za_n 112 (28, l, st, w) = za_x 112 (.getfield 61) 28 l st w := za_n.at zcc_112 dX11_open_28 rfl
theorem f_112_31 (l : za_L) (st : List Value) (w : za_W) : za_n 112 (31, l, st, w) = za_x 112 (.invokevirtual 92) 31 l st w := za_n.at zcc_112 dX11_open_31 rfl
theorem f_112_34 (l : za_L) (st : List Value) (w : za_W) : za_n 112 (34, l, st, w) = za_x 112 (.ifCond .eq 13) 34 l st w := za_n.at zcc_112 dX11_open_34 rfl
theorem f_112_37 (l : za_L) (st : List Value) (w : za_W) : za_n 112 (37, l, st, w) = za_x 112 (.aload_n 0) 37 l st w := za_n.at zcc_112 dX11_open_37 rfl
theorem f_112_38 (l : za_L) (st : List Value) (w : za_W) : za_n 112 (38, l, st, w) = za_x 112 (.getfield 31) 38 l st w := za_n.at zcc_112 dX11_open_38 rfl
theorem f_112_41 (l : za_L) (st : List Value) (w : za_W) : za_n 112 (41, l, st, w) = za_x 112 (.getfield 72) 41 l st w := za_n.at zcc_112 dX11_open_41 rfl
theorem f_112_44 (l : za_L) (st : List Value) (w : za_W) : za_n 112 (44, l, st, w) = za_go 54 l st w := (za_n.at zcc_112 dX11_open_44 rfl).trans (za_jp.at (by decide))
theorem f_112_47 (l : za_L) (st : List Value) (w : za_W) : za_n 112 (47, l, st, w) = za_x 112 (.aload_n 0) 47 l st w := za_n.at zcc_112 dX11_open_47 rfl
theorem f_112_48 (l : za_L) (st : List Value) (w : za_W) : za_n 112 (48, l, st, w) = za_x 112 (.getfield 61) 48 l st w := za_n.at zcc_112 dX11_open_48 rfl
theorem f_112_51 (l : za_L) (st : List Value) (w : za_W) : za_n 112 (51, l, st, w) = za_x 112 (.invokevirtual 96) 51 l st w := za_n.at zcc_112 dX11_open_51 rfl
theorem f_112_54 (l : za_L) (st : List Value) (w : za_W) : za_n 112 (54, l, st, w) = za_x 112 (.ireturn) 54 l st w := za_n.at zcc_112 dX11_open_54 rfl
theorem f_113_0 (l : za_L) (st : List Value) (w : za_W) : za_n 113 (0, l, st, w) = za_x 113 (.aload_n 0) 0 l st w := za_n.at zcc_113 dX11_rule_0 rfl
theorem f_113_1 (l : za_L) (st : List Value) (w : za_W) : za_n 113 (1, l, st, w) = za_x 113 (.getfield 61) 1 l st w := za_n.at zcc_113 dX11_rule_1 rfl
theorem f_113_4 (l : za_L) (st : List Value) (w : za_W) : za_n 113 (4, l, st, w) = za_x 113 (.getfield 100) 4 l st w := za_n.at zcc_113 dX11_rule_4 rfl
theorem f_113_7 (l : za_L) (st : List Value) (w : za_W) : za_n 113 (7, l, st, w) = za_x 113 (.ireturn) 7 l st w := za_n.at zcc_113 dX11_rule_7 rfl
theorem f_114_0 (l : za_L) (st : List Value) (w : za_W) : za_n 114 (0, l, st, w) = za_x 114 (.aload_n 0) 0 l st w := za_n.at zcc_114 dX11_pass_0 rfl
theorem f_114_1 (l : za_L) (st : List Value) (w : za_W) : za_n 114 (1, l, st, w) = za_x 114 (.getfield 27) 1 l st w := za_n.at zcc_114 dX11_pass_1 rfl
theorem f_114_4 (l : za_L) (st : List Value) (w : za_W) : za_n 114 (4, l, st, w) = za_x 114 (.aload_n 0) 4 l st w := za_n.at zcc_114 dX11_pass_4 rfl
theorem f_114_5 (l : za_L) (st : List Value) (w : za_W) : za_n 114 (5, l, st, w) = za_x 114 (.getfield 31) 5 l st w := za_n.at zcc_114 dX11_pass_5 rfl
theorem f_114_8 (l : za_L) (st : List Value) (w : za_W) : za_n 114 (8, l, st, w) = za_x 114 (.getfield 72) 8 l st w := za_n.at zcc_114 dX11_pass_8 rfl
theorem f_114_11 (l : za_L) (st : List Value) (w : za_W) : za_n 114 (11, l, st, w) = za_x 114 (.invokevirtual 65) 11 l st w := za_n.at zcc_114 dX11_pass_11 rfl
theorem f_114_14 (l : za_L) (st : List Value) (w : za_W) : za_n 114 (14, l, st, w) = za_x 114 (.ifCond .ne 6) 14 l st w := za_n.at zcc_114 dX11_pass_14 rfl
theorem f_114_17 (l : za_L) (st : List Value) (w : za_W) : za_n 114 (17, l, st, w) = za_go 19 l (.int (-3) :: st) w := (za_n.at zcc_114 dX11_pass_17 rfl).trans (congrArg (fun x => za_go 19 l (.int x :: st) w) (by decide))
theorem f_114_19 (l : za_L) (st : List Value) (w : za_W) : za_n 114 (19, l, st, w) = za_x 114 (.ireturn) 19 l st w := za_n.at zcc_114 dX11_pass_19 rfl
theorem f_114_20 (l : za_L) (st : List Value) (w : za_W) : za_n 114 (20, l, st, w) = za_x 114 (.aload_n 0) 20 l st w := za_n.at zcc_114 dX11_pass_20 rfl
theorem f_114_21 (l : za_L) (st : List Value) (w : za_W) : za_n 114 (21, l, st, w) = za_x 114 (.getfield 27) 21 l st w := za_n.at zcc_114 dX11_pass_21 rfl
theorem f_114_24 (l : za_L) (st : List Value) (w : za_W) : za_n 114 (24, l, st, w) = za_x 114 (.aload_n 0) 24 l st w := za_n.at zcc_114 dX11_pass_24 rfl
theorem f_114_25 (l : za_L) (st : List Value) (w : za_W) : za_n 114 (25, l, st, w) = za_x 114 (.getfield 31) 25 l st w := za_n.at zcc_114 dX11_pass_25 rfl
theorem f_114_28 (l : za_L) (st : List Value) (w : za_W) : za_n 114 (28, l, st, w) = za_x 114 (.invokevirtual 88) 28 l st w := za_n.at zcc_114 dX11_pass_28 rfl
theorem f_114_31 (l : za_L) (st : List Value) (w : za_W) : za_n 114 (31, l, st, w) = za_x 114 (.aload_n 0) 31 l st w := za_n.at zcc_114 dX11_pass_31 rfl
theorem f_114_32 (l : za_L) (st : List Value) (w : za_W) : za_n 114 (32, l, st, w) = za_x 114 (.getfield 27) 32 l st w := za_n.at zcc_114 dX11_pass_32 rfl
theorem f_114_35 (l : za_L) (st : List Value) (w : za_W) : za_n 114 (35, l, st, w) = za_x 114 (.getfield 72) 35 l st w := za_n.at zcc_114 dX11_pass_35 rfl
theorem f_114_38 (l : za_L) (st : List Value) (w : za_W) : za_n 114 (38, l, st, w) = za_x 114 (.ireturn) 38 l st w := za_n.at zcc_114 dX11_pass_38 rfl
theorem f_115_0 (l : za_L) (st : List Value) (w : za_W) : za_n 115 (0, l, st, w) = za_x 115 (.aload_n 0) 0 l st w := za_n.at zcc_115 dX11_spoil_0 rfl
theorem f_115_1 (l : za_L) (st : List Value) (w : za_W) : za_n 115 (1, l, st, w) = za_x 115 (.getfield 27) 1 l st w := za_n.at zcc_115 dX11_spoil_1 rfl
theorem f_115_4 (l : za_L) (st : List Value) (w : za_W) : za_n 115 (4, l, st, w) = za_x 115 (.iload_n 1) 4 l st w := za_n.at zcc_115 dX11_spoil_4 rfl
theorem f_115_5 (l : za_L) (st : List Value) (w : za_W) : za_n 115 (5, l, st, w) = za_x 115 (.invokevirtual 103) 5 l st w := za_n.at zcc_115 dX11_spoil_5 rfl
theorem f_115_8 (l : za_L) (st : List Value) (w : za_W) : za_n 115 (8, l, st, w) = za_x 115 (.ifCond .eq 15) 8 l st w := za_n.at zcc_115 dX11_spoil_8 rfl
theorem f_115_11 (l : za_L) (st : List Value) (w : za_W) : za_n 115 (11, l, st, w) = za_x 115 (.iload_n 2) 11 l st w := za_n.at zcc_115 dX11_spoil_11 rfl
theorem f_115_12 (l : za_L) (st : List Value) (w : za_W) : za_n 115 (12, l, st, w) = za_go 13 l (.int (1) :: st) w := (za_n.at zcc_115 dX11_spoil_12 rfl).trans (congrArg (fun x => za_go 13 l (.int x :: st) w) (by decide))
theorem f_115_13 (l : za_L) (st : List Value) (w : za_W) : za_n 115 (13, l, st, w) = za_x 115 (.if_icmp .lt 10) 13 l st w := za_n.at zcc_115 dX11_spoil_13 rfl
theorem f_115_16 (l : za_L) (st : List Value) (w : za_W) : za_n 115 (16, l, st, w) = za_x 115 (.iload_n 2) 16 l st w := za_n.at zcc_115 dX11_spoil_16 rfl
theorem f_115_17 (l : za_L) (st : List Value) (w : za_W) : za_n 115 (17, l, st, w) = za_go 20 l (.int (255) :: st) w := (za_n.at zcc_115 dX11_spoil_17 rfl).trans (congrArg (fun x => za_go 20 l (.int x :: st) w) (by decide))
theorem f_115_20 (l : za_L) (st : List Value) (w : za_W) : za_n 115 (20, l, st, w) = za_x 115 (.if_icmp .le 5) 20 l st w := za_n.at zcc_115 dX11_spoil_20 rfl
theorem f_115_23 (l : za_L) (st : List Value) (w : za_W) : za_n 115 (23, l, st, w) = za_go 24 l (.int (-1) :: st) w := (za_n.at zcc_115 dX11_spoil_23 rfl).trans (congrArg (fun x => za_go 24 l (.int x :: st) w) (by decide))
theorem f_115_24 (l : za_L) (st : List Value) (w : za_W) : za_n 115 (24, l, st, w) = za_x 115 (.ireturn) 24 l st w := za_n.at zcc_115 dX11_spoil_24 rfl
theorem f_115_25 (l : za_L) (st : List Value) (w : za_W) : za_n 115 (25, l, st, w) = za_x 115 (.aload_n 0) 25 l st w := za_n.at zcc_115 dX11_spoil_25 rfl
theorem f_115_26 (l : za_L) (st : List Value) (w : za_W) : za_n 115 (26, l, st, w) = za_x 115 (.getfield 27) 26 l st w := za_n.at zcc_115 dX11_spoil_26 rfl
theorem f_115_29 (l : za_L) (st : List Value) (w : za_W) : za_n 115 (29, l, st, w) = za_x 115 (.iload_n 1) 29 l st w := za_n.at zcc_115 dX11_spoil_29 rfl
theorem f_115_30 (l : za_L) (st : List Value) (w : za_W) : za_n 115 (30, l, st, w) = za_x 115 (.aload_n 0) 30 l st w := za_n.at zcc_115 dX11_spoil_30 rfl
theorem f_115_31 (l : za_L) (st : List Value) (w : za_W) : za_n 115 (31, l, st, w) = za_x 115 (.getfield 27) 31 l st w := za_n.at zcc_115 dX11_spoil_31 rfl
theorem f_115_34 (l : za_L) (st : List Value) (w : za_W) : za_n 115 (34, l, st, w) = za_x 115 (.iload_n 1) 34 l st w := za_n.at zcc_115 dX11_spoil_34 rfl
theorem f_115_35 (l : za_L) (st : List Value) (w : za_W) : za_n 115 (35, l, st, w) = za_x 115 (.invokevirtual 106) 35 l st w := za_n.at zcc_115 dX11_spoil_35 rfl
theorem f_115_38 (l : za_L) (st : List Value) (w : za_W) : za_n 115 (38, l, st, w) = za_x 115 (.iload_n 2) 38 l st w := za_n.at zcc_115 dX11_spoil_38 rfl
theorem f_115_39 (l : za_L) (st : List Value) (w : za_W) : za_n 115 (39, l, st, w) = za_x 115 (.ixor) 39 l st w := za_n.at zcc_115 dX11_spoil_39 rfl
theorem f_115_40 (l : za_L) (st : List Value) (w : za_W) : za_n 115 (40, l, st, w) = za_x 115 (.invokevirtual 110) 40 l st w := za_n.at zcc_115 dX11_spoil_40 rfl
theorem f_115_43 (l : za_L) (st : List Value) (w : za_W) : za_n 115 (43, l, st, w) = za_x 115 (.aload_n 0) 43 l st w := za_n.at zcc_115 dX11_spoil_43 rfl
theorem f_115_44 (l : za_L) (st : List Value) (w : za_W) : za_n 115 (44, l, st, w) = za_x 115 (.getfield 27) 44 l st w := za_n.at zcc_115 dX11_spoil_44 rfl
theorem f_115_47 (l : za_L) (st : List Value) (w : za_W) : za_n 115 (47, l, st, w) = za_x 115 (.iload_n 1) 47 l st w := za_n.at zcc_115 dX11_spoil_47 rfl
theorem f_115_48 (l : za_L) (st : List Value) (w : za_W) : za_n 115 (48, l, st, w) = za_x 115 (.invokevirtual 106) 48 l st w := za_n.at zcc_115 dX11_spoil_48 rfl
theorem f_115_51 (l : za_L) (st : List Value) (w : za_W) : za_n 115 (51, l, st, w) = za_x 115 (.ireturn) 51 l st w := za_n.at zcc_115 dX11_spoil_51 rfl
theorem f_116_0 (l : za_L) (st : List Value) (w : za_W) : za_n 116 (0, l, st, w) = za_x 116 (.iload_n 1) 0 l st w := za_n.at zcc_116 dX11_drop_0 rfl
theorem f_116_1 (l : za_L) (st : List Value) (w : za_W) : za_n 116 (1, l, st, w) = za_x 116 (.ifCond .lt 14) 1 l st w := za_n.at zcc_116 dX11_drop_1 rfl
theorem f_116_4 (l : za_L) (st : List Value) (w : za_W) : za_n 116 (4, l, st, w) = za_x 116 (.iload_n 1) 4 l st w := za_n.at zcc_116 dX11_drop_4 rfl
theorem f_116_5 (l : za_L) (st : List Value) (w : za_W) : za_n 116 (5, l, st, w) = za_x 116 (.aload_n 0) 5 l st w := za_n.at zcc_116 dX11_drop_5 rfl
theorem f_116_6 (l : za_L) (st : List Value) (w : za_W) : za_n 116 (6, l, st, w) = za_x 116 (.getfield 27) 6 l st w := za_n.at zcc_116 dX11_drop_6 rfl
theorem f_116_9 (l : za_L) (st : List Value) (w : za_W) : za_n 116 (9, l, st, w) = za_x 116 (.getfield 72) 9 l st w := za_n.at zcc_116 dX11_drop_9 rfl
theorem f_116_12 (l : za_L) (st : List Value) (w : za_W) : za_n 116 (12, l, st, w) = za_x 116 (.if_icmp .le 5) 12 l st w := za_n.at zcc_116 dX11_drop_12 rfl
theorem f_116_15 (l : za_L) (st : List Value) (w : za_W) : za_n 116 (15, l, st, w) = za_go 16 l (.int (-1) :: st) w := (za_n.at zcc_116 dX11_drop_15 rfl).trans (congrArg (fun x => za_go 16 l (.int x :: st) w) (by decide))
theorem f_116_16 (l : za_L) (st : List Value) (w : za_W) : za_n 116 (16, l, st, w) = za_x 116 (.ireturn) 16 l st w := za_n.at zcc_116 dX11_drop_16 rfl
theorem f_116_17 (l : za_L) (st : List Value) (w : za_W) : za_n 116 (17, l, st, w) = za_x 116 (.aload_n 0) 17 l st w := za_n.at zcc_116 dX11_drop_17 rfl
theorem f_116_18 (l : za_L) (st : List Value) (w : za_W) : za_n 116 (18, l, st, w) = za_x 116 (.getfield 27) 18 l st w := za_n.at zcc_116 dX11_drop_18 rfl
theorem f_116_21 (l : za_L) (st : List Value) (w : za_W) : za_n 116 (21, l, st, w) = za_x 116 (.iload_n 1) 21 l st w := za_n.at zcc_116 dX11_drop_21 rfl
theorem f_116_22 (l : za_L) (st : List Value) (w : za_W) : za_n 116 (22, l, st, w) = za_x 116 (.invokevirtual 114) 22 l st w := za_n.at zcc_116 dX11_drop_22 rfl
theorem f_116_25 (l : za_L) (st : List Value) (w : za_W) : za_n 116 (25, l, st, w) = za_x 116 (.aload_n 0) 25 l st w := za_n.at zcc_116 dX11_drop_25 rfl
theorem f_116_26 (l : za_L) (st : List Value) (w : za_W) : za_n 116 (26, l, st, w) = za_x 116 (.getfield 27) 26 l st w := za_n.at zcc_116 dX11_drop_26 rfl
theorem f_116_29 (l : za_L) (st : List Value) (w : za_W) : za_n 116 (29, l, st, w) = za_x 116 (.getfield 72) 29 l st w := za_n.at zcc_116 dX11_drop_29 rfl
theorem f_116_32 (l : za_L) (st : List Value) (w : za_W) : za_n 116 (32, l, st, w) = za_x 116 (.ireturn) 32 l st w := za_n.at zcc_116 dX11_drop_32 rfl
theorem f_117_0 (l : za_L) (st : List Value) (w : za_W) : za_n 117 (0, l, st, w) = za_x 117 (.aload_n 0) 0 l st w := za_n.at zcc_117 dX11_out_0 rfl
theorem f_117_1 (l : za_L) (st : List Value) (w : za_W) : za_n 117 (1, l, st, w) = za_x 117 (.getfield 31) 1 l st w := za_n.at zcc_117 dX11_out_1 rfl
theorem f_117_4 (l : za_L) (st : List Value) (w : za_W) : za_n 117 (4, l, st, w) = za_x 117 (.iload_n 1) 4 l st w := za_n.at zcc_117 dX11_out_4 rfl
theorem f_117_5 (l : za_L) (st : List Value) (w : za_W) : za_n 117 (5, l, st, w) = za_x 117 (.invokevirtual 103) 5 l st w := za_n.at zcc_117 dX11_out_5 rfl
theorem f_117_8 (l : za_L) (st : List Value) (w : za_W) : za_n 117 (8, l, st, w) = za_x 117 (.ifCond .ne 13) 8 l st w := za_n.at zcc_117 dX11_out_8 rfl
theorem f_117_11 (l : za_L) (st : List Value) (w : za_W) : za_n 117 (11, l, st, w) = za_x 117 (.new 117) 11 l st w := za_n.at zcc_117 dX11_out_11 rfl
theorem f_117_14 (l : za_L) (st : List Value) (w : za_W) : za_n 117 (14, l, st, w) = za_x 117 (.dup) 14 l st w := za_n.at zcc_117 dX11_out_14 rfl
theorem f_117_15 (l : za_L) (st : List Value) (w : za_W) : za_n 117 (15, l, st, w) = za_x 117 (.ldc 119) 15 l st w := za_n.at zcc_117 dX11_out_15 rfl
theorem f_117_17 (l : za_L) (st : List Value) (w : za_W) : za_n 117 (17, l, st, w) = za_x 117 (.invokespecial 121) 17 l st w := za_n.at zcc_117 dX11_out_17 rfl
theorem f_117_20 (l : za_L) (st : List Value) (w : za_W) : za_n 117 (20, l, st, w) = za_x 117 (.athrow) 20 l st w := za_n.at zcc_117 dX11_out_20 rfl
theorem f_117_21 (l : za_L) (st : List Value) (w : za_W) : za_n 117 (21, l, st, w) = za_x 117 (.aload_n 0) 21 l st w := za_n.at zcc_117 dX11_out_21 rfl
theorem f_117_22 (l : za_L) (st : List Value) (w : za_W) : za_n 117 (22, l, st, w) = za_x 117 (.getfield 31) 22 l st w := za_n.at zcc_117 dX11_out_22 rfl
theorem f_117_25 (l : za_L) (st : List Value) (w : za_W) : za_n 117 (25, l, st, w) = za_x 117 (.iload_n 1) 25 l st w := za_n.at zcc_117 dX11_out_25 rfl
theorem f_117_26 (l : za_L) (st : List Value) (w : za_W) : za_n 117 (26, l, st, w) = za_x 117 (.invokevirtual 106) 26 l st w := za_n.at zcc_117 dX11_out_26 rfl
theorem f_117_29 (l : za_L) (st : List Value) (w : za_W) : za_n 117 (29, l, st, w) = za_x 117 (.ireturn) 29 l st w := za_n.at zcc_117 dX11_out_29 rfl
theorem f_118_0 (l : za_L) (st : List Value) (w : za_W) : za_n 118 (0, l, st, w) = za_x 118 (.iload_n 1) 0 l st w := za_n.at zcc_118 dX11_count_0 rfl
theorem f_118_1 (l : za_L) (st : List Value) (w : za_W) : za_n 118 (1, l, st, w) = za_x 118 (.tableswitch 60 0 3 #[31, 39, 47, 55]) 1 l st w := za_n.at zcc_118 dX11_count_1 rfl
theorem f_118_32 (l : za_L) (st : List Value) (w : za_W) : za_n 118 (32, l, st, w) = za_x 118 (.aload_n 0) 32 l st w := za_n.at zcc_118 dX11_count_32 rfl
theorem f_118_33 (l : za_L) (st : List Value) (w : za_W) : za_n 118 (33, l, st, w) = za_x 118 (.getfield 27) 33 l st w := za_n.at zcc_118 dX11_count_33 rfl
theorem f_118_36 (l : za_L) (st : List Value) (w : za_W) : za_n 118 (36, l, st, w) = za_x 118 (.getfield 72) 36 l st w := za_n.at zcc_118 dX11_count_36 rfl
theorem f_118_39 (l : za_L) (st : List Value) (w : za_W) : za_n 118 (39, l, st, w) = za_x 118 (.ireturn) 39 l st w := za_n.at zcc_118 dX11_count_39 rfl
theorem f_118_40 (l : za_L) (st : List Value) (w : za_W) : za_n 118 (40, l, st, w) = za_x 118 (.aload_n 0) 40 l st w := za_n.at zcc_118 dX11_count_40 rfl
theorem f_118_41 (l : za_L) (st : List Value) (w : za_W) : za_n 118 (41, l, st, w) = za_x 118 (.getfield 31) 41 l st w := za_n.at zcc_118 dX11_count_41 rfl
theorem f_118_44 (l : za_L) (st : List Value) (w : za_W) : za_n 118 (44, l, st, w) = za_x 118 (.getfield 72) 44 l st w := za_n.at zcc_118 dX11_count_44 rfl
theorem f_118_47 (l : za_L) (st : List Value) (w : za_W) : za_n 118 (47, l, st, w) = za_x 118 (.ireturn) 47 l st w := za_n.at zcc_118 dX11_count_47 rfl
theorem f_118_48 (l : za_L) (st : List Value) (w : za_W) : za_n 118 (48, l, st, w) = za_x 118 (.aload_n 0) 48 l st w := za_n.at zcc_118 dX11_count_48 rfl
theorem f_118_49 (l : za_L) (st : List Value) (w : za_W) : za_n 118 (49, l, st, w) = za_x 118 (.getfield 34) 49 l st w := za_n.at zcc_118 dX11_count_49 rfl
theorem f_118_52 (l : za_L) (st : List Value) (w : za_W) : za_n 118 (52, l, st, w) = za_x 118 (.getfield 72) 52 l st w := za_n.at zcc_118 dX11_count_52 rfl
theorem f_118_55 (l : za_L) (st : List Value) (w : za_W) : za_n 118 (55, l, st, w) = za_x 118 (.ireturn) 55 l st w := za_n.at zcc_118 dX11_count_55 rfl
theorem f_118_56 (l : za_L) (st : List Value) (w : za_W) : za_n 118 (56, l, st, w) = za_x 118 (.aload_n 0) 56 l st w := za_n.at zcc_118 dX11_count_56 rfl
theorem f_118_57 (l : za_L) (st : List Value) (w : za_W) : za_n 118 (57, l, st, w) = za_x 118 (.getfield 18) 57 l st w := za_n.at zcc_118 dX11_count_57 rfl
theorem f_118_60 (l : za_L) (st : List Value) (w : za_W) : za_n 118 (60, l, st, w) = za_x 118 (.ireturn) 60 l st w := za_n.at zcc_118 dX11_count_60 rfl
theorem f_118_61 (l : za_L) (st : List Value) (w : za_W) : za_n 118 (61, l, st, w) = za_go 62 l (.int (-1) :: st) w := (za_n.at zcc_118 dX11_count_61 rfl).trans (congrArg (fun x => za_go 62 l (.int x :: st) w) (by decide))
theorem f_118_62 (l : za_L) (st : List Value) (w : za_W) : za_n 118 (62, l, st, w) = za_x 118 (.ireturn) 62 l st w := za_n.at zcc_118 dX11_count_62 rfl
theorem f_119_0 (l : za_L) (st : List Value) (w : za_W) : za_n 119 (0, l, st, w) = za_x 119 (.iload_n 1) 0 l st w := za_n.at zcc_119 dX11_block_0 rfl
theorem f_119_1 (l : za_L) (st : List Value) (w : za_W) : za_n 119 (1, l, st, w) = za_go 2 l (.int (-1) :: st) w := (za_n.at zcc_119 dX11_block_1 rfl).trans (congrArg (fun x => za_go 2 l (.int x :: st) w) (by decide))
theorem f_119_2 (l : za_L) (st : List Value) (w : za_W) : za_n 119 (2, l, st, w) = za_x 119 (.if_icmp .ne 15) 2 l st w := za_n.at zcc_119 dX11_block_2 rfl
theorem f_119_5 (l : za_L) (st : List Value) (w : za_W) : za_n 119 (5, l, st, w) = za_x 119 (.iload_n 2) 5 l st w := za_n.at zcc_119 dX11_block_5 rfl
theorem f_119_6 (l : za_L) (st : List Value) (w : za_W) : za_n 119 (6, l, st, w) = za_x 119 (.ifCond .ne 11) 6 l st w := za_n.at zcc_119 dX11_block_6 rfl
theorem f_119_9 (l : za_L) (st : List Value) (w : za_W) : za_n 119 (9, l, st, w) = za_x 119 (.aload_n 0) 9 l st w := za_n.at zcc_119 dX11_block_9 rfl
theorem f_119_10 (l : za_L) (st : List Value) (w : za_W) : za_n 119 (10, l, st, w) = za_x 119 (.getfield 40) 10 l st w := za_n.at zcc_119 dX11_block_10 rfl
theorem f_119_13 (l : za_L) (st : List Value) (w : za_W) : za_n 119 (13, l, st, w) = za_x 119 (.getfield 124) 13 l st w := za_n.at zcc_119 dX11_block_13 rfl
theorem f_119_16 (l : za_L) (st : List Value) (w : za_W) : za_n 119 (16, l, st, w) = za_x 119 (.ireturn) 16 l st w := za_n.at zcc_119 dX11_block_16 rfl
theorem f_119_17 (l : za_L) (st : List Value) (w : za_W) : za_n 119 (17, l, st, w) = za_x 119 (.aload_n 0) 17 l st w := za_n.at zcc_119 dX11_block_17 rfl
theorem f_119_18 (l : za_L) (st : List Value) (w : za_W) : za_n 119 (18, l, st, w) = za_x 119 (.getfield 40) 18 l st w := za_n.at zcc_119 dX11_block_18 rfl
theorem f_119_21 (l : za_L) (st : List Value) (w : za_W) : za_n 119 (21, l, st, w) = za_x 119 (.iload_n 1) 21 l st w := za_n.at zcc_119 dX11_block_21 rfl
theorem f_119_22 (l : za_L) (st : List Value) (w : za_W) : za_n 119 (22, l, st, w) = za_x 119 (.iload_n 2) 22 l st w := za_n.at zcc_119 dX11_block_22 rfl
theorem f_119_23 (l : za_L) (st : List Value) (w : za_W) : za_n 119 (23, l, st, w) = za_x 119 (.invokevirtual 127) 23 l st w := za_n.at zcc_119 dX11_block_23 rfl
theorem f_119_26 (l : za_L) (st : List Value) (w : za_W) : za_n 119 (26, l, st, w) = za_x 119 (.ireturn) 26 l st w := za_n.at zcc_119 dX11_block_26 rfl
theorem f_120_0 (l : za_L) (st : List Value) (w : za_W) : za_n 120 (0, l, st, w) = za_x 120 (.aload_n 0) 0 l st w := za_n.at zcc_120 dX11_sum_0 rfl
theorem f_120_1 (l : za_L) (st : List Value) (w : za_W) : za_n 120 (1, l, st, w) = za_x 120 (.getfield 40) 1 l st w := za_n.at zcc_120 dX11_sum_1 rfl
theorem f_120_4 (l : za_L) (st : List Value) (w : za_W) : za_n 120 (4, l, st, w) = za_x 120 (.iload_n 1) 4 l st w := za_n.at zcc_120 dX11_sum_4 rfl
theorem f_120_5 (l : za_L) (st : List Value) (w : za_W) : za_n 120 (5, l, st, w) = za_x 120 (.invokevirtual 130) 5 l st w := za_n.at zcc_120 dX11_sum_5 rfl
theorem f_120_8 (l : za_L) (st : List Value) (w : za_W) : za_n 120 (8, l, st, w) = za_x 120 (.ireturn) 8 l st w := za_n.at zcc_120 dX11_sum_8 rfl
theorem f_121_0 (l : za_L) (st : List Value) (w : za_W) : za_n 121 (0, l, st, w) = za_x 121 (.aload_n 0) 0 l st w := za_n.at zcc_121 dX11_choice_0 rfl
theorem f_121_1 (l : za_L) (st : List Value) (w : za_W) : za_n 121 (1, l, st, w) = za_x 121 (.getfield 40) 1 l st w := za_n.at zcc_121 dX11_choice_1 rfl
theorem f_121_4 (l : za_L) (st : List Value) (w : za_W) : za_n 121 (4, l, st, w) = za_x 121 (.getfield 133) 4 l st w := za_n.at zcc_121 dX11_choice_4 rfl
theorem f_121_7 (l : za_L) (st : List Value) (w : za_W) : za_n 121 (7, l, st, w) = za_x 121 (.iload_n 1) 7 l st w := za_n.at zcc_121 dX11_choice_7 rfl
theorem f_121_8 (l : za_L) (st : List Value) (w : za_W) : za_n 121 (8, l, st, w) = za_x 121 (.invokevirtual 137) 8 l st w := za_n.at zcc_121 dX11_choice_8 rfl
theorem f_121_11 (l : za_L) (st : List Value) (w : za_W) : za_n 121 (11, l, st, w) = za_x 121 (.ifCond .eq 17) 11 l st w := za_n.at zcc_121 dX11_choice_11 rfl
theorem f_121_14 (l : za_L) (st : List Value) (w : za_W) : za_n 121 (14, l, st, w) = za_x 121 (.aload_n 0) 14 l st w := za_n.at zcc_121 dX11_choice_14 rfl
theorem f_121_15 (l : za_L) (st : List Value) (w : za_W) : za_n 121 (15, l, st, w) = za_x 121 (.getfield 40) 15 l st w := za_n.at zcc_121 dX11_choice_15 rfl
theorem f_121_18 (l : za_L) (st : List Value) (w : za_W) : za_n 121 (18, l, st, w) = za_x 121 (.getfield 133) 18 l st w := za_n.at zcc_121 dX11_choice_18 rfl
theorem f_121_21 (l : za_L) (st : List Value) (w : za_W) : za_n 121 (21, l, st, w) = za_x 121 (.iload_n 1) 21 l st w := za_n.at zcc_121 dX11_choice_21 rfl
theorem f_121_22 (l : za_L) (st : List Value) (w : za_W) : za_n 121 (22, l, st, w) = za_x 121 (.invokevirtual 142) 22 l st w := za_n.at zcc_121 dX11_choice_22 rfl
theorem f_121_25 (l : za_L) (st : List Value) (w : za_W) : za_n 121 (25, l, st, w) = za_go 29 l st w := (za_n.at zcc_121 dX11_choice_25 rfl).trans (za_jp.at (by decide))
theorem f_121_28 (l : za_L) (st : List Value) (w : za_W) : za_n 121 (28, l, st, w) = za_go 29 l (.int (-1) :: st) w := (za_n.at zcc_121 dX11_choice_28 rfl).trans (congrArg (fun x => za_go 29 l (.int x :: st) w) (by decide))
theorem f_121_29 (l : za_L) (st : List Value) (w : za_W) : za_n 121 (29, l, st, w) = za_x 121 (.ireturn) 29 l st w := za_n.at zcc_121 dX11_choice_29 rfl
theorem f_122_0 (l : za_L) (st : List Value) (w : za_W) : za_n 122 (0, l, st, w) = za_x 122 (.aload_n 0) 0 l st w := za_n.at zcc_122 dX11_length_0 rfl
theorem f_122_1 (l : za_L) (st : List Value) (w : za_W) : za_n 122 (1, l, st, w) = za_x 122 (.getfield 40) 1 l st w := za_n.at zcc_122 dX11_length_1 rfl
theorem f_122_4 (l : za_L) (st : List Value) (w : za_W) : za_n 122 (4, l, st, w) = za_x 122 (.getfield 133) 4 l st w := za_n.at zcc_122 dX11_length_4 rfl
theorem f_122_7 (l : za_L) (st : List Value) (w : za_W) : za_n 122 (7, l, st, w) = za_x 122 (.iload_n 1) 7 l st w := za_n.at zcc_122 dX11_length_7 rfl
theorem f_122_8 (l : za_L) (st : List Value) (w : za_W) : za_n 122 (8, l, st, w) = za_x 122 (.iload_n 2) 8 l st w := za_n.at zcc_122 dX11_length_8 rfl
theorem f_122_9 (l : za_L) (st : List Value) (w : za_W) : za_n 122 (9, l, st, w) = za_x 122 (.invokevirtual 145) 9 l st w := za_n.at zcc_122 dX11_length_9 rfl
theorem f_122_12 (l : za_L) (st : List Value) (w : za_W) : za_n 122 (12, l, st, w) = za_x 122 (.ifCond .eq 20) 12 l st w := za_n.at zcc_122 dX11_length_12 rfl
theorem f_122_15 (l : za_L) (st : List Value) (w : za_W) : za_n 122 (15, l, st, w) = za_x 122 (.aload_n 0) 15 l st w := za_n.at zcc_122 dX11_length_15 rfl
theorem f_122_16 (l : za_L) (st : List Value) (w : za_W) : za_n 122 (16, l, st, w) = za_x 122 (.getfield 40) 16 l st w := za_n.at zcc_122 dX11_length_16 rfl
theorem f_122_19 (l : za_L) (st : List Value) (w : za_W) : za_n 122 (19, l, st, w) = za_x 122 (.getfield 133) 19 l st w := za_n.at zcc_122 dX11_length_19 rfl
theorem f_122_22 (l : za_L) (st : List Value) (w : za_W) : za_n 122 (22, l, st, w) = za_x 122 (.getfield 149) 22 l st w := za_n.at zcc_122 dX11_length_22 rfl
theorem f_122_25 (l : za_L) (st : List Value) (w : za_W) : za_n 122 (25, l, st, w) = za_x 122 (.iload_n 1) 25 l st w := za_n.at zcc_122 dX11_length_25 rfl
theorem f_122_26 (l : za_L) (st : List Value) (w : za_W) : za_n 122 (26, l, st, w) = za_x 122 (.aaload) 26 l st w := za_n.at zcc_122 dX11_length_26 rfl
theorem f_122_27 (l : za_L) (st : List Value) (w : za_W) : za_n 122 (27, l, st, w) = za_x 122 (.iload_n 2) 27 l st w := za_n.at zcc_122 dX11_length_27 rfl
theorem f_122_28 (l : za_L) (st : List Value) (w : za_W) : za_n 122 (28, l, st, w) = za_x 122 (.iaload) 28 l st w := za_n.at zcc_122 dX11_length_28 rfl
theorem f_122_29 (l : za_L) (st : List Value) (w : za_W) : za_n 122 (29, l, st, w) = za_go 33 l st w := (za_n.at zcc_122 dX11_length_29 rfl).trans (za_jp.at (by decide))
theorem f_122_32 (l : za_L) (st : List Value) (w : za_W) : za_n 122 (32, l, st, w) = za_go 33 l (.int (-1) :: st) w := (za_n.at zcc_122 dX11_length_32 rfl).trans (congrArg (fun x => za_go 33 l (.int x :: st) w) (by decide))
theorem f_122_33 (l : za_L) (st : List Value) (w : za_W) : za_n 122 (33, l, st, w) = za_x 122 (.ireturn) 33 l st w := za_n.at zcc_122 dX11_length_33 rfl
theorem f_123_0 (l : za_L) (st : List Value) (w : za_W) : za_n 123 (0, l, st, w) = za_x 123 (.aload_n 0) 0 l st w := za_n.at zcc_123 dX11_mark_0 rfl
theorem f_123_1 (l : za_L) (st : List Value) (w : za_W) : za_n 123 (1, l, st, w) = za_x 123 (.iload_n 1) 1 l st w := za_n.at zcc_123 dX11_mark_1 rfl
theorem f_123_2 (l : za_L) (st : List Value) (w : za_W) : za_n 123 (2, l, st, w) = za_x 123 (.invokevirtual 153) 2 l st w := za_n.at zcc_123 dX11_mark_2 rfl
theorem f_123_5 (l : za_L) (st : List Value) (w : za_W) : za_n 123 (5, l, st, w) = za_x 123 (.ireturn) 5 l st w := za_n.at zcc_123 dX11_mark_5 rfl
theorem f_124_0 (l : za_L) (st : List Value) (w : za_W) : za_n 124 (0, l, st, w) = za_x 124 (.aload_n 0) 0 l st w := za_n.at zcc_124 dX11_alone_0 rfl
theorem f_124_1 (l : za_L) (st : List Value) (w : za_W) : za_n 124 (1, l, st, w) = za_x 124 (.iload_n 1) 1 l st w := za_n.at zcc_124 dX11_alone_1 rfl
theorem f_124_2 (l : za_L) (st : List Value) (w : za_W) : za_n 124 (2, l, st, w) = za_x 124 (.invokevirtual 153) 2 l st w := za_n.at zcc_124 dX11_alone_2 rfl
theorem f_124_5 (l : za_L) (st : List Value) (w : za_W) : za_n 124 (5, l, st, w) = za_x 124 (.istore_n 2) 5 l st w := za_n.at zcc_124 dX11_alone_5 rfl
theorem f_124_6 (l : za_L) (st : List Value) (w : za_W) : za_n 124 (6, l, st, w) = za_x 124 (.iload_n 2) 6 l st w := za_n.at zcc_124 dX11_alone_6 rfl
theorem f_124_7 (l : za_L) (st : List Value) (w : za_W) : za_n 124 (7, l, st, w) = za_x 124 (.ifCond .ge 5) 7 l st w := za_n.at zcc_124 dX11_alone_7 rfl
theorem f_124_10 (l : za_L) (st : List Value) (w : za_W) : za_n 124 (10, l, st, w) = za_go 11 l (.int (-1) :: st) w := (za_n.at zcc_124 dX11_alone_10 rfl).trans (congrArg (fun x => za_go 11 l (.int x :: st) w) (by decide))
theorem f_124_11 (l : za_L) (st : List Value) (w : za_W) : za_n 124 (11, l, st, w) = za_x 124 (.ireturn) 11 l st w := za_n.at zcc_124 dX11_alone_11 rfl
theorem f_124_12 (l : za_L) (st : List Value) (w : za_W) : za_n 124 (12, l, st, w) = za_x 124 (.aload_n 0) 12 l st w := za_n.at zcc_124 dX11_alone_12 rfl
theorem f_124_13 (l : za_L) (st : List Value) (w : za_W) : za_n 124 (13, l, st, w) = za_x 124 (.getfield 61) 13 l st w := za_n.at zcc_124 dX11_alone_13 rfl
theorem f_124_16 (l : za_L) (st : List Value) (w : za_W) : za_n 124 (16, l, st, w) = za_x 124 (.iload_n 2) 16 l st w := za_n.at zcc_124 dX11_alone_16 rfl
theorem f_124_17 (l : za_L) (st : List Value) (w : za_W) : za_n 124 (17, l, st, w) = za_x 124 (.invokevirtual 156) 17 l st w := za_n.at zcc_124 dX11_alone_17 rfl
theorem f_124_20 (l : za_L) (st : List Value) (w : za_W) : za_n 124 (20, l, st, w) = za_x 124 (.ifCond .eq 13) 20 l st w := za_n.at zcc_124 dX11_alone_20 rfl
theorem f_124_23 (l : za_L) (st : List Value) (w : za_W) : za_n 124 (23, l, st, w) = za_x 124 (.aload_n 0) 23 l st w := za_n.at zcc_124 dX11_alone_23 rfl
theorem f_124_24 (l : za_L) (st : List Value) (w : za_W) : za_n 124 (24, l, st, w) = za_x 124 (.getfield 31) 24 l st w := za_n.at zcc_124 dX11_alone_24 rfl
theorem f_124_27 (l : za_L) (st : List Value) (w : za_W) : za_n 124 (27, l, st, w) = za_x 124 (.getfield 72) 27 l st w := za_n.at zcc_124 dX11_alone_27 rfl
theorem f_124_30 (l : za_L) (st : List Value) (w : za_W) : za_n 124 (30, l, st, w) = za_go 40 l st w := (za_n.at zcc_124 dX11_alone_30 rfl).trans (za_jp.at (by decide))
theorem f_124_33 (l : za_L) (st : List Value) (w : za_W) : za_n 124 (33, l, st, w) = za_x 124 (.aload_n 0) 33 l st w := za_n.at zcc_124 dX11_alone_33 rfl
theorem f_124_34 (l : za_L) (st : List Value) (w : za_W) : za_n 124 (34, l, st, w) = za_x 124 (.getfield 61) 34 l st w := za_n.at zcc_124 dX11_alone_34 rfl
theorem f_124_37 (l : za_L) (st : List Value) (w : za_W) : za_n 124 (37, l, st, w) = za_x 124 (.invokevirtual 96) 37 l st w := za_n.at zcc_124 dX11_alone_37 rfl
theorem f_124_40 (l : za_L) (st : List Value) (w : za_W) : za_n 124 (40, l, st, w) = za_x 124 (.ireturn) 40 l st w := za_n.at zcc_124 dX11_alone_40 rfl
theorem f_125_0 (l : za_L) (st : List Value) (w : za_W) : za_n 125 (0, l, st, w) = za_x 125 (.iload_n 1) 0 l st w := za_n.at zcc_125 dX11_findMark_0 rfl
theorem f_125_1 (l : za_L) (st : List Value) (w : za_W) : za_n 125 (1, l, st, w) = za_x 125 (.ifCond .ge 5) 1 l st w := za_n.at zcc_125 dX11_findMark_1 rfl
theorem f_125_4 (l : za_L) (st : List Value) (w : za_W) : za_n 125 (4, l, st, w) = za_go 5 l (.int (-1) :: st) w := (za_n.at zcc_125 dX11_findMark_4 rfl).trans (congrArg (fun x => za_go 5 l (.int x :: st) w) (by decide))
theorem f_125_5 (l : za_L) (st : List Value) (w : za_W) : za_n 125 (5, l, st, w) = za_x 125 (.ireturn) 5 l st w := za_n.at zcc_125 dX11_findMark_5 rfl
theorem f_125_6 (l : za_L) (st : List Value) (w : za_W) : za_n 125 (6, l, st, w) = za_x 125 (.iload_n 1) 6 l st w := za_n.at zcc_125 dX11_findMark_6 rfl
theorem f_125_7 (l : za_L) (st : List Value) (w : za_W) : za_n 125 (7, l, st, w) = za_x 125 (.istore_n 2) 7 l st w := za_n.at zcc_125 dX11_findMark_7 rfl
theorem f_125_8 (l : za_L) (st : List Value) (w : za_W) : za_n 125 (8, l, st, w) = za_x 125 (.lconst 0) 8 l st w := za_n.at zcc_125 dX11_findMark_8 rfl
theorem f_125_9 (l : za_L) (st : List Value) (w : za_W) : za_n 125 (9, l, st, w) = za_x 125 (.lstore_n 3) 9 l st w := za_n.at zcc_125 dX11_findMark_9 rfl
theorem f_125_10 (l : za_L) (st : List Value) (w : za_W) : za_n 125 (10, l, st, w) = za_go 11 l (.int (0) :: st) w := (za_n.at zcc_125 dX11_findMark_10 rfl).trans (congrArg (fun x => za_go 11 l (.int x :: st) w) (by decide))
theorem f_125_11 (l : za_L) (st : List Value) (w : za_W) : za_n 125 (11, l, st, w) = za_x 125 (.istore 5) 11 l st w := za_n.at zcc_125 dX11_findMark_11 rfl
theorem f_125_13 (l : za_L) (st : List Value) (w : za_W) : za_n 125 (13, l, st, w) = za_x 125 (.iload 5) 13 l st w := za_n.at zcc_125 dX11_findMark_13 rfl
theorem f_125_15 (l : za_L) (st : List Value) (w : za_W) : za_n 125 (15, l, st, w) = za_x 125 (.aload_n 0) 15 l st w := za_n.at zcc_125 dX11_findMark_15 rfl
theorem f_125_16 (l : za_L) (st : List Value) (w : za_W) : za_n 125 (16, l, st, w) = za_x 125 (.getfield 34) 16 l st w := za_n.at zcc_125 dX11_findMark_16 rfl
theorem f_125_19 (l : za_L) (st : List Value) (w : za_W) : za_n 125 (19, l, st, w) = za_x 125 (.getfield 72) 19 l st w := za_n.at zcc_125 dX11_findMark_19 rfl
theorem f_125_22 (l : za_L) (st : List Value) (w : za_W) : za_n 125 (22, l, st, w) = za_x 125 (.if_icmp .ge 90) 22 l st w := za_n.at zcc_125 dX11_findMark_22 rfl
theorem f_125_25 (l : za_L) (st : List Value) (w : za_W) : za_n 125 (25, l, st, w) = za_x 125 (.aload_n 0) 25 l st w := za_n.at zcc_125 dX11_findMark_25 rfl
theorem f_125_26 (l : za_L) (st : List Value) (w : za_W) : za_n 125 (26, l, st, w) = za_x 125 (.getfield 34) 26 l st w := za_n.at zcc_125 dX11_findMark_26 rfl
theorem f_125_29 (l : za_L) (st : List Value) (w : za_W) : za_n 125 (29, l, st, w) = za_x 125 (.iload 5) 29 l st w := za_n.at zcc_125 dX11_findMark_29 rfl
theorem f_125_31 (l : za_L) (st : List Value) (w : za_W) : za_n 125 (31, l, st, w) = za_x 125 (.invokevirtual 106) 31 l st w := za_n.at zcc_125 dX11_findMark_31 rfl
theorem f_125_34 (l : za_L) (st : List Value) (w : za_W) : za_n 125 (34, l, st, w) = za_x 125 (.istore 6) 34 l st w := za_n.at zcc_125 dX11_findMark_34 rfl
theorem f_125_36 (l : za_L) (st : List Value) (w : za_W) : za_n 125 (36, l, st, w) = za_go 38 l (.int (7) :: st) w := (za_n.at zcc_125 dX11_findMark_36 rfl).trans (congrArg (fun x => za_go 38 l (.int x :: st) w) (by decide))
theorem f_125_38 (l : za_L) (st : List Value) (w : za_W) : za_n 125 (38, l, st, w) = za_x 125 (.istore 7) 38 l st w := za_n.at zcc_125 dX11_findMark_38 rfl
theorem f_125_40 (l : za_L) (st : List Value) (w : za_W) : za_n 125 (40, l, st, w) = za_x 125 (.iload 7) 40 l st w := za_n.at zcc_125 dX11_findMark_40 rfl
theorem f_125_42 (l : za_L) (st : List Value) (w : za_W) : za_n 125 (42, l, st, w) = za_x 125 (.ifCond .lt 64) 42 l st w := za_n.at zcc_125 dX11_findMark_42 rfl
theorem f_125_45 (l : za_L) (st : List Value) (w : za_W) : za_n 125 (45, l, st, w) = za_x 125 (.lload_n 3) 45 l st w := za_n.at zcc_125 dX11_findMark_45 rfl
theorem f_125_46 (l : za_L) (st : List Value) (w : za_W) : za_n 125 (46, l, st, w) = za_go 47 l (.int (1) :: st) w := (za_n.at zcc_125 dX11_findMark_46 rfl).trans (congrArg (fun x => za_go 47 l (.int x :: st) w) (by decide))
theorem f_125_47 (l : za_L) (st : List Value) (w : za_W) : za_n 125 (47, l, st, w) = za_x 125 (.lshl) 47 l st w := za_n.at zcc_125 dX11_findMark_47 rfl
theorem f_125_48 (l : za_L) (st : List Value) (w : za_W) : za_n 125 (48, l, st, w) = za_x 125 (.iload 6) 48 l st w := za_n.at zcc_125 dX11_findMark_48 rfl
theorem f_125_50 (l : za_L) (st : List Value) (w : za_W) : za_n 125 (50, l, st, w) = za_x 125 (.iload 7) 50 l st w := za_n.at zcc_125 dX11_findMark_50 rfl
theorem f_125_52 (l : za_L) (st : List Value) (w : za_W) : za_n 125 (52, l, st, w) = za_x 125 (.ishr) 52 l st w := za_n.at zcc_125 dX11_findMark_52 rfl
theorem f_125_53 (l : za_L) (st : List Value) (w : za_W) : za_n 125 (53, l, st, w) = za_go 54 l (.int (1) :: st) w := (za_n.at zcc_125 dX11_findMark_53 rfl).trans (congrArg (fun x => za_go 54 l (.int x :: st) w) (by decide))
theorem f_125_54 (l : za_L) (st : List Value) (w : za_W) : za_n 125 (54, l, st, w) = za_x 125 (.iand) 54 l st w := za_n.at zcc_125 dX11_findMark_54 rfl
theorem f_125_55 (l : za_L) (st : List Value) (w : za_W) : za_n 125 (55, l, st, w) = za_x 125 (.i2l) 55 l st w := za_n.at zcc_125 dX11_findMark_55 rfl
theorem f_125_56 (l : za_L) (st : List Value) (w : za_W) : za_n 125 (56, l, st, w) = za_x 125 (.lor) 56 l st w := za_n.at zcc_125 dX11_findMark_56 rfl
theorem f_125_57 (l : za_L) (st : List Value) (w : za_W) : za_n 125 (57, l, st, w) = za_x 125 (.ldc2_w 159) 57 l st w := za_n.at zcc_125 dX11_findMark_57 rfl
theorem f_125_60 (l : za_L) (st : List Value) (w : za_W) : za_n 125 (60, l, st, w) = za_x 125 (.land) 60 l st w := za_n.at zcc_125 dX11_findMark_60 rfl
theorem f_125_61 (l : za_L) (st : List Value) (w : za_W) : za_n 125 (61, l, st, w) = za_x 125 (.lstore_n 3) 61 l st w := za_n.at zcc_125 dX11_findMark_61 rfl
theorem f_125_62 (l : za_L) (st : List Value) (w : za_W) : za_n 125 (62, l, st, w) = za_go 64 l (.int (8) :: st) w := (za_n.at zcc_125 dX11_findMark_62 rfl).trans (congrArg (fun x => za_go 64 l (.int x :: st) w) (by decide))
theorem f_125_64 (l : za_L) (st : List Value) (w : za_W) : za_n 125 (64, l, st, w) = za_x 125 (.iload 5) 64 l st w := za_n.at zcc_125 dX11_findMark_64 rfl
theorem f_125_66 (l : za_L) (st : List Value) (w : za_W) : za_n 125 (66, l, st, w) = za_go 67 l (.int (1) :: st) w := (za_n.at zcc_125 dX11_findMark_66 rfl).trans (congrArg (fun x => za_go 67 l (.int x :: st) w) (by decide))
theorem f_125_67 (l : za_L) (st : List Value) (w : za_W) : za_n 125 (67, l, st, w) = za_x 125 (.iadd) 67 l st w := za_n.at zcc_125 dX11_findMark_67 rfl
theorem f_125_68 (l : za_L) (st : List Value) (w : za_W) : za_n 125 (68, l, st, w) = za_x 125 (.imul) 68 l st w := za_n.at zcc_125 dX11_findMark_68 rfl
theorem f_125_69 (l : za_L) (st : List Value) (w : za_W) : za_n 125 (69, l, st, w) = za_x 125 (.iload 7) 69 l st w := za_n.at zcc_125 dX11_findMark_69 rfl
theorem f_125_71 (l : za_L) (st : List Value) (w : za_W) : za_n 125 (71, l, st, w) = za_x 125 (.isub) 71 l st w := za_n.at zcc_125 dX11_findMark_71 rfl
theorem f_125_72 (l : za_L) (st : List Value) (w : za_W) : za_n 125 (72, l, st, w) = za_go 74 l (.int (48) :: st) w := (za_n.at zcc_125 dX11_findMark_72 rfl).trans (congrArg (fun x => za_go 74 l (.int x :: st) w) (by decide))
theorem f_125_74 (l : za_L) (st : List Value) (w : za_W) : za_n 125 (74, l, st, w) = za_x 125 (.isub) 74 l st w := za_n.at zcc_125 dX11_findMark_74 rfl
theorem f_125_75 (l : za_L) (st : List Value) (w : za_W) : za_n 125 (75, l, st, w) = za_x 125 (.istore 8) 75 l st w := za_n.at zcc_125 dX11_findMark_75 rfl
theorem f_125_77 (l : za_L) (st : List Value) (w : za_W) : za_n 125 (77, l, st, w) = za_x 125 (.iload 8) 77 l st w := za_n.at zcc_125 dX11_findMark_77 rfl
theorem f_125_79 (l : za_L) (st : List Value) (w : za_W) : za_n 125 (79, l, st, w) = za_x 125 (.ifCond .lt 21) 79 l st w := za_n.at zcc_125 dX11_findMark_79 rfl
theorem f_125_82 (l : za_L) (st : List Value) (w : za_W) : za_n 125 (82, l, st, w) = za_x 125 (.lload_n 3) 82 l st w := za_n.at zcc_125 dX11_findMark_82 rfl
theorem f_125_83 (l : za_L) (st : List Value) (w : za_W) : za_n 125 (83, l, st, w) = za_x 125 (.ldc2_w 161) 83 l st w := za_n.at zcc_125 dX11_findMark_83 rfl
theorem f_125_86 (l : za_L) (st : List Value) (w : za_W) : za_n 125 (86, l, st, w) = za_x 125 (.lcmp) 86 l st w := za_n.at zcc_125 dX11_findMark_86 rfl
theorem f_125_87 (l : za_L) (st : List Value) (w : za_W) : za_n 125 (87, l, st, w) = za_x 125 (.ifCond .ne 13) 87 l st w := za_n.at zcc_125 dX11_findMark_87 rfl
theorem f_125_90 (l : za_L) (st : List Value) (w : za_W) : za_n 125 (90, l, st, w) = za_x 125 (.iload_n 2) 90 l st w := za_n.at zcc_125 dX11_findMark_90 rfl
theorem f_125_91 (l : za_L) (st : List Value) (w : za_W) : za_n 125 (91, l, st, w) = za_x 125 (.ifCond .ne 6) 91 l st w := za_n.at zcc_125 dX11_findMark_91 rfl
theorem f_125_94 (l : za_L) (st : List Value) (w : za_W) : za_n 125 (94, l, st, w) = za_x 125 (.iload 8) 94 l st w := za_n.at zcc_125 dX11_findMark_94 rfl
theorem f_125_96 (l : za_L) (st : List Value) (w : za_W) : za_n 125 (96, l, st, w) = za_x 125 (.ireturn) 96 l st w := za_n.at zcc_125 dX11_findMark_96 rfl
theorem f_125_97 (l : za_L) (st : List Value) (w : za_W) : za_n 125 (97, l, st, w) = za_x 125 (.iinc 2 (-1)) 97 l st w := za_n.at zcc_125 dX11_findMark_97 rfl
theorem f_125_100 (l : za_L) (st : List Value) (w : za_W) : za_n 125 (100, l, st, w) = za_x 125 (.iinc 7 (-1)) 100 l st w := za_n.at zcc_125 dX11_findMark_100 rfl
theorem f_125_103 (l : za_L) (st : List Value) (w : za_W) : za_n 125 (103, l, st, w) = za_go 40 l st w := (za_n.at zcc_125 dX11_findMark_103 rfl).trans (za_jp.at (by decide))
theorem f_125_106 (l : za_L) (st : List Value) (w : za_W) : za_n 125 (106, l, st, w) = za_x 125 (.iinc 5 1) 106 l st w := za_n.at zcc_125 dX11_findMark_106 rfl
theorem f_125_109 (l : za_L) (st : List Value) (w : za_W) : za_n 125 (109, l, st, w) = za_go 13 l st w := (za_n.at zcc_125 dX11_findMark_109 rfl).trans (za_jp.at (by decide))
theorem f_125_112 (l : za_L) (st : List Value) (w : za_W) : za_n 125 (112, l, st, w) = za_go 113 l (.int (-1) :: st) w := (za_n.at zcc_125 dX11_findMark_112 rfl).trans (congrArg (fun x => za_go 113 l (.int x :: st) w) (by decide))
theorem f_125_113 (l : za_L) (st : List Value) (w : za_W) : za_n 125 (113, l, st, w) = za_x 125 (.ireturn) 113 l st w := za_n.at zcc_125 dX11_findMark_113 rfl
theorem f_126_0 (l : za_L) (st : List Value) (w : za_W) : za_n 126 (0, l, st, w) = za_x 126 (.iload_n 0) 0 l st w := za_n.at zcc_126 dX11_stepSum_0 rfl
theorem f_126_1 (l : za_L) (st : List Value) (w : za_W) : za_n 126 (1, l, st, w) = za_x 126 (.iload_n 1) 1 l st w := za_n.at zcc_126 dX11_stepSum_1 rfl
theorem f_126_2 (l : za_L) (st : List Value) (w : za_W) : za_n 126 (2, l, st, w) = za_go 4 l (.int (24) :: st) w := (za_n.at zcc_126 dX11_stepSum_2 rfl).trans (congrArg (fun x => za_go 4 l (.int x :: st) w) (by decide))
theorem f_126_4 (l : za_L) (st : List Value) (w : za_W) : za_n 126 (4, l, st, w) = za_x 126 (.ishl) 4 l st w := za_n.at zcc_126 dX11_stepSum_4 rfl
theorem f_126_5 (l : za_L) (st : List Value) (w : za_W) : za_n 126 (5, l, st, w) = za_x 126 (.ixor) 5 l st w := za_n.at zcc_126 dX11_stepSum_5 rfl
theorem f_126_6 (l : za_L) (st : List Value) (w : za_W) : za_n 126 (6, l, st, w) = za_x 126 (.istore_n 2) 6 l st w := za_n.at zcc_126 dX11_stepSum_6 rfl
theorem f_126_7 (l : za_L) (st : List Value) (w : za_W) : za_n 126 (7, l, st, w) = za_go 8 l (.int (0) :: st) w := (za_n.at zcc_126 dX11_stepSum_7 rfl).trans (congrArg (fun x => za_go 8 l (.int x :: st) w) (by decide))
theorem f_126_8 (l : za_L) (st : List Value) (w : za_W) : za_n 126 (8, l, st, w) = za_x 126 (.istore_n 3) 8 l st w := za_n.at zcc_126 dX11_stepSum_8 rfl
theorem f_126_9 (l : za_L) (st : List Value) (w : za_W) : za_n 126 (9, l, st, w) = za_x 126 (.iload_n 3) 9 l st w := za_n.at zcc_126 dX11_stepSum_9 rfl
theorem f_126_10 (l : za_L) (st : List Value) (w : za_W) : za_n 126 (10, l, st, w) = za_go 12 l (.int (8) :: st) w := (za_n.at zcc_126 dX11_stepSum_10 rfl).trans (congrArg (fun x => za_go 12 l (.int x :: st) w) (by decide))
theorem f_126_12 (l : za_L) (st : List Value) (w : za_W) : za_n 126 (12, l, st, w) = za_x 126 (.if_icmp .ge 26) 12 l st w := za_n.at zcc_126 dX11_stepSum_12 rfl
theorem f_126_15 (l : za_L) (st : List Value) (w : za_W) : za_n 126 (15, l, st, w) = za_x 126 (.iload_n 2) 15 l st w := za_n.at zcc_126 dX11_stepSum_15 rfl
theorem f_126_16 (l : za_L) (st : List Value) (w : za_W) : za_n 126 (16, l, st, w) = za_x 126 (.ifCond .ge 12) 16 l st w := za_n.at zcc_126 dX11_stepSum_16 rfl
theorem f_126_19 (l : za_L) (st : List Value) (w : za_W) : za_n 126 (19, l, st, w) = za_x 126 (.iload_n 2) 19 l st w := za_n.at zcc_126 dX11_stepSum_19 rfl
theorem f_126_20 (l : za_L) (st : List Value) (w : za_W) : za_n 126 (20, l, st, w) = za_go 21 l (.int (1) :: st) w := (za_n.at zcc_126 dX11_stepSum_20 rfl).trans (congrArg (fun x => za_go 21 l (.int x :: st) w) (by decide))
theorem f_126_21 (l : za_L) (st : List Value) (w : za_W) : za_n 126 (21, l, st, w) = za_x 126 (.ishl) 21 l st w := za_n.at zcc_126 dX11_stepSum_21 rfl
theorem f_126_22 (l : za_L) (st : List Value) (w : za_W) : za_n 126 (22, l, st, w) = za_x 126 (.ldc 163) 22 l st w := za_n.at zcc_126 dX11_stepSum_22 rfl
theorem f_126_24 (l : za_L) (st : List Value) (w : za_W) : za_n 126 (24, l, st, w) = za_x 126 (.ixor) 24 l st w := za_n.at zcc_126 dX11_stepSum_24 rfl
theorem f_126_25 (l : za_L) (st : List Value) (w : za_W) : za_n 126 (25, l, st, w) = za_go 31 l st w := (za_n.at zcc_126 dX11_stepSum_25 rfl).trans (za_jp.at (by decide))
theorem f_126_28 (l : za_L) (st : List Value) (w : za_W) : za_n 126 (28, l, st, w) = za_x 126 (.iload_n 2) 28 l st w := za_n.at zcc_126 dX11_stepSum_28 rfl
theorem f_126_29 (l : za_L) (st : List Value) (w : za_W) : za_n 126 (29, l, st, w) = za_go 30 l (.int (1) :: st) w := (za_n.at zcc_126 dX11_stepSum_29 rfl).trans (congrArg (fun x => za_go 30 l (.int x :: st) w) (by decide))
theorem f_126_30 (l : za_L) (st : List Value) (w : za_W) : za_n 126 (30, l, st, w) = za_x 126 (.ishl) 30 l st w := za_n.at zcc_126 dX11_stepSum_30 rfl
theorem f_126_31 (l : za_L) (st : List Value) (w : za_W) : za_n 126 (31, l, st, w) = za_x 126 (.istore_n 2) 31 l st w := za_n.at zcc_126 dX11_stepSum_31 rfl
theorem f_126_32 (l : za_L) (st : List Value) (w : za_W) : za_n 126 (32, l, st, w) = za_x 126 (.iinc 3 1) 32 l st w := za_n.at zcc_126 dX11_stepSum_32 rfl
theorem f_126_35 (l : za_L) (st : List Value) (w : za_W) : za_n 126 (35, l, st, w) = za_go 9 l st w := (za_n.at zcc_126 dX11_stepSum_35 rfl).trans (za_jp.at (by decide))
theorem f_126_38 (l : za_L) (st : List Value) (w : za_W) : za_n 126 (38, l, st, w) = za_x 126 (.iload_n 2) 38 l st w := za_n.at zcc_126 dX11_stepSum_38 rfl
theorem f_126_39 (l : za_L) (st : List Value) (w : za_W) : za_n 126 (39, l, st, w) = za_x 126 (.ireturn) 39 l st w := za_n.at zcc_126 dX11_stepSum_39 rfl
theorem f_127_0 (l : za_L) (st : List Value) (w : za_W) : za_n 127 (0, l, st, w) = za_x 127 (.iload_n 0) 0 l st w := za_n.at zcc_127 dX11_joinSums_0 rfl
theorem f_127_1 (l : za_L) (st : List Value) (w : za_W) : za_n 127 (1, l, st, w) = za_go 2 l (.int (1) :: st) w := (za_n.at zcc_127 dX11_joinSums_1 rfl).trans (congrArg (fun x => za_go 2 l (.int x :: st) w) (by decide))
theorem f_127_2 (l : za_L) (st : List Value) (w : za_W) : za_n 127 (2, l, st, w) = za_x 127 (.ishl) 2 l st w := za_n.at zcc_127 dX11_joinSums_2 rfl
theorem f_127_3 (l : za_L) (st : List Value) (w : za_W) : za_n 127 (3, l, st, w) = za_x 127 (.iload_n 0) 3 l st w := za_n.at zcc_127 dX11_joinSums_3 rfl
theorem f_127_4 (l : za_L) (st : List Value) (w : za_W) : za_n 127 (4, l, st, w) = za_go 6 l (.int (31) :: st) w := (za_n.at zcc_127 dX11_joinSums_4 rfl).trans (congrArg (fun x => za_go 6 l (.int x :: st) w) (by decide))
theorem f_127_6 (l : za_L) (st : List Value) (w : za_W) : za_n 127 (6, l, st, w) = za_x 127 (.iushr) 6 l st w := za_n.at zcc_127 dX11_joinSums_6 rfl
theorem f_127_7 (l : za_L) (st : List Value) (w : za_W) : za_n 127 (7, l, st, w) = za_x 127 (.ior) 7 l st w := za_n.at zcc_127 dX11_joinSums_7 rfl
theorem f_127_8 (l : za_L) (st : List Value) (w : za_W) : za_n 127 (8, l, st, w) = za_x 127 (.iload_n 1) 8 l st w := za_n.at zcc_127 dX11_joinSums_8 rfl
theorem f_127_9 (l : za_L) (st : List Value) (w : za_W) : za_n 127 (9, l, st, w) = za_x 127 (.ixor) 9 l st w := za_n.at zcc_127 dX11_joinSums_9 rfl
theorem f_127_10 (l : za_L) (st : List Value) (w : za_W) : za_n 127 (10, l, st, w) = za_x 127 (.ireturn) 10 l st w := za_n.at zcc_127 dX11_joinSums_10 rfl
theorem f_128_0 (l : za_L) (st : List Value) (w : za_W) : za_n 128 (0, l, st, w) = za_x 128 (.aload_n 0) 0 l st w := za_n.at zcc_128 dX12_init_0 rfl
theorem f_128_1 (l : za_L) (st : List Value) (w : za_W) : za_n 128 (1, l, st, w) = za_x 128 (.aconst_null) 1 l st w := za_n.at zcc_128 dX12_init_1 rfl
theorem f_128_2 (l : za_L) (st : List Value) (w : za_W) : za_n 128 (2, l, st, w) = za_x 128 (.aconst_null) 2 l st w := za_n.at zcc_128 dX12_init_2 rfl
theorem f_128_3 (l : za_L) (st : List Value) (w : za_W) : za_n 128 (3, l, st, w) = za_go 4 l (.int (0) :: st) w := (za_n.at zcc_128 dX12_init_3 rfl).trans (congrArg (fun x => za_go 4 l (.int x :: st) w) (by decide))
theorem f_128_4 (l : za_L) (st : List Value) (w : za_W) : za_n 128 (4, l, st, w) = za_go 5 l (.int (0) :: st) w := (za_n.at zcc_128 dX12_init_4 rfl).trans (congrArg (fun x => za_go 5 l (.int x :: st) w) (by decide))
theorem f_128_5 (l : za_L) (st : List Value) (w : za_W) : za_n 128 (5, l, st, w) = za_x 128 (.invokespecial 1) 5 l st w := za_n.at zcc_128 dX12_init_5 rfl
theorem f_128_8 (l : za_L) (st : List Value) (w : za_W) : za_n 128 (8, l, st, w) = za_x 128 (.return_) 8 l st w := za_n.at zcc_128 dX12_init_8 rfl
theorem f_129_0 (l : za_L) (st : List Value) (w : za_W) : za_n 129 (0, l, st, w) = za_x 129 (.aload_n 0) 0 l st w := za_n.at zcc_129 dX13_thrown_0 rfl
theorem f_129_1 (l : za_L) (st : List Value) (w : za_W) : za_n 129 (1, l, st, w) = za_x 129 (.getfield 1) 1 l st w := za_n.at zcc_129 dX13_thrown_1 rfl
theorem f_129_4 (l : za_L) (st : List Value) (w : za_W) : za_n 129 (4, l, st, w) = za_x 129 (.ireturn) 4 l st w := za_n.at zcc_129 dX13_thrown_4 rfl
theorem f_130_0 (l : za_L) (st : List Value) (w : za_W) : za_n 130 (0, l, st, w) = za_x 130 (.lload_n 0) 0 l st w := za_n.at zcc_130 dX13_in_0 rfl
theorem f_130_1 (l : za_L) (st : List Value) (w : za_W) : za_n 130 (1, l, st, w) = za_x 130 (.lload_n 2) 1 l st w := za_n.at zcc_130 dX13_in_1 rfl
theorem f_130_2 (l : za_L) (st : List Value) (w : za_W) : za_n 130 (2, l, st, w) = za_x 130 (.lcmp) 2 l st w := za_n.at zcc_130 dX13_in_2 rfl
theorem f_130_3 (l : za_L) (st : List Value) (w : za_W) : za_n 130 (3, l, st, w) = za_x 130 (.ifCond .lt 14) 3 l st w := za_n.at zcc_130 dX13_in_3 rfl
theorem f_130_6 (l : za_L) (st : List Value) (w : za_W) : za_n 130 (6, l, st, w) = za_x 130 (.lload_n 0) 6 l st w := za_n.at zcc_130 dX13_in_6 rfl
theorem f_130_7 (l : za_L) (st : List Value) (w : za_W) : za_n 130 (7, l, st, w) = za_x 130 (.lload 4) 7 l st w := za_n.at zcc_130 dX13_in_7 rfl
theorem f_130_9 (l : za_L) (st : List Value) (w : za_W) : za_n 130 (9, l, st, w) = za_x 130 (.lcmp) 9 l st w := za_n.at zcc_130 dX13_in_9 rfl
theorem f_130_10 (l : za_L) (st : List Value) (w : za_W) : za_n 130 (10, l, st, w) = za_x 130 (.ifCond .gt 7) 10 l st w := za_n.at zcc_130 dX13_in_10 rfl
theorem f_130_13 (l : za_L) (st : List Value) (w : za_W) : za_n 130 (13, l, st, w) = za_go 14 l (.int (1) :: st) w := (za_n.at zcc_130 dX13_in_13 rfl).trans (congrArg (fun x => za_go 14 l (.int x :: st) w) (by decide))
theorem f_130_14 (l : za_L) (st : List Value) (w : za_W) : za_n 130 (14, l, st, w) = za_go 18 l st w := (za_n.at zcc_130 dX13_in_14 rfl).trans (za_jp.at (by decide))
theorem f_130_17 (l : za_L) (st : List Value) (w : za_W) : za_n 130 (17, l, st, w) = za_go 18 l (.int (0) :: st) w := (za_n.at zcc_130 dX13_in_17 rfl).trans (congrArg (fun x => za_go 18 l (.int x :: st) w) (by decide))
theorem f_130_18 (l : za_L) (st : List Value) (w : za_W) : za_n 130 (18, l, st, w) = za_x 130 (.ireturn) 18 l st w := za_n.at zcc_130 dX13_in_18 rfl
theorem f_131_0 (l : za_L) (st : List Value) (w : za_W) : za_n 131 (0, l, st, w) = za_x 131 (.aload_n 0) 0 l st w := za_n.at zcc_131 dX13_init_0 rfl
theorem f_131_1 (l : za_L) (st : List Value) (w : za_W) : za_n 131 (1, l, st, w) = za_x 131 (.invokespecial 7) 1 l st w := za_n.at zcc_131 dX13_init_1 rfl
theorem f_131_4 (l : za_L) (st : List Value) (w : za_W) : za_n 131 (4, l, st, w) = za_x 131 (.aload_n 0) 4 l st w := za_n.at zcc_131 dX13_init_4 rfl
theorem f_131_5 (l : za_L) (st : List Value) (w : za_W) : za_n 131 (5, l, st, w) = za_x 131 (.new 13) 5 l st w := za_n.at zcc_131 dX13_init_5 rfl
theorem f_131_8 (l : za_L) (st : List Value) (w : za_W) : za_n 131 (8, l, st, w) = za_x 131 (.dup) 8 l st w := za_n.at zcc_131 dX13_init_8 rfl
theorem f_131_9 (l : za_L) (st : List Value) (w : za_W) : za_n 131 (9, l, st, w) = za_x 131 (.invokespecial 15) 9 l st w := za_n.at zcc_131 dX13_init_9 rfl
theorem f_131_12 (l : za_L) (st : List Value) (w : za_W) : za_n 131 (12, l, st, w) = za_x 131 (.putfield 16) 12 l st w := za_n.at zcc_131 dX13_init_12 rfl
theorem f_131_15 (l : za_L) (st : List Value) (w : za_W) : za_n 131 (15, l, st, w) = za_x 131 (.aload_n 0) 15 l st w := za_n.at zcc_131 dX13_init_15 rfl
theorem f_131_16 (l : za_L) (st : List Value) (w : za_W) : za_n 131 (16, l, st, w) = za_go 19 l (.int (1500) :: st) w := (za_n.at zcc_131 dX13_init_16 rfl).trans (congrArg (fun x => za_go 19 l (.int x :: st) w) (by decide))
theorem f_131_19 (l : za_L) (st : List Value) (w : za_W) : za_n 131 (19, l, st, w) = za_x 131 (.newarray .byte) 19 l st w := za_n.at zcc_131 dX13_init_19 rfl
theorem f_131_21 (l : za_L) (st : List Value) (w : za_W) : za_n 131 (21, l, st, w) = za_x 131 (.putfield 20) 21 l st w := za_n.at zcc_131 dX13_init_21 rfl
theorem f_131_24 (l : za_L) (st : List Value) (w : za_W) : za_n 131 (24, l, st, w) = za_x 131 (.aload_n 0) 24 l st w := za_n.at zcc_131 dX13_init_24 rfl
theorem f_131_25 (l : za_L) (st : List Value) (w : za_W) : za_n 131 (25, l, st, w) = za_go 28 l (.int (4100) :: st) w := (za_n.at zcc_131 dX13_init_25 rfl).trans (congrArg (fun x => za_go 28 l (.int x :: st) w) (by decide))
theorem f_131_28 (l : za_L) (st : List Value) (w : za_W) : za_n 131 (28, l, st, w) = za_x 131 (.newarray .byte) 28 l st w := za_n.at zcc_131 dX13_init_28 rfl
theorem f_131_30 (l : za_L) (st : List Value) (w : za_W) : za_n 131 (30, l, st, w) = za_x 131 (.putfield 24) 30 l st w := za_n.at zcc_131 dX13_init_30 rfl
theorem f_131_33 (l : za_L) (st : List Value) (w : za_W) : za_n 131 (33, l, st, w) = za_x 131 (.aload_n 0) 33 l st w := za_n.at zcc_131 dX13_init_33 rfl
theorem f_131_34 (l : za_L) (st : List Value) (w : za_W) : za_n 131 (34, l, st, w) = za_go 37 l (.int (1500) :: st) w := (za_n.at zcc_131 dX13_init_34 rfl).trans (congrArg (fun x => za_go 37 l (.int x :: st) w) (by decide))
theorem f_131_37 (l : za_L) (st : List Value) (w : za_W) : za_n 131 (37, l, st, w) = za_x 131 (.newarray .byte) 37 l st w := za_n.at zcc_131 dX13_init_37 rfl
theorem f_131_39 (l : za_L) (st : List Value) (w : za_W) : za_n 131 (39, l, st, w) = za_x 131 (.putfield 27) 39 l st w := za_n.at zcc_131 dX13_init_39 rfl
theorem f_131_42 (l : za_L) (st : List Value) (w : za_W) : za_n 131 (42, l, st, w) = za_x 131 (.aload_n 0) 42 l st w := za_n.at zcc_131 dX13_init_42 rfl
theorem f_131_43 (l : za_L) (st : List Value) (w : za_W) : za_n 131 (43, l, st, w) = za_go 46 l (.int (540) :: st) w := (za_n.at zcc_131 dX13_init_43 rfl).trans (congrArg (fun x => za_go 46 l (.int x :: st) w) (by decide))
theorem f_131_46 (l : za_L) (st : List Value) (w : za_W) : za_n 131 (46, l, st, w) = za_x 131 (.newarray .int) 46 l st w := za_n.at zcc_131 dX13_init_46 rfl
theorem f_131_48 (l : za_L) (st : List Value) (w : za_W) : za_n 131 (48, l, st, w) = za_x 131 (.putfield 30) 48 l st w := za_n.at zcc_131 dX13_init_48 rfl
theorem f_131_51 (l : za_L) (st : List Value) (w : za_W) : za_n 131 (51, l, st, w) = za_x 131 (.aload_n 0) 51 l st w := za_n.at zcc_131 dX13_init_51 rfl
theorem f_131_52 (l : za_L) (st : List Value) (w : za_W) : za_n 131 (52, l, st, w) = za_go 54 l (.int (60) :: st) w := (za_n.at zcc_131 dX13_init_52 rfl).trans (congrArg (fun x => za_go 54 l (.int x :: st) w) (by decide))
theorem f_131_54 (l : za_L) (st : List Value) (w : za_W) : za_n 131 (54, l, st, w) = za_x 131 (.newarray .int) 54 l st w := za_n.at zcc_131 dX13_init_54 rfl
theorem f_131_56 (l : za_L) (st : List Value) (w : za_W) : za_n 131 (56, l, st, w) = za_x 131 (.putfield 34) 56 l st w := za_n.at zcc_131 dX13_init_56 rfl
theorem f_131_59 (l : za_L) (st : List Value) (w : za_W) : za_n 131 (59, l, st, w) = za_x 131 (.aload_n 0) 59 l st w := za_n.at zcc_131 dX13_init_59 rfl
theorem f_131_60 (l : za_L) (st : List Value) (w : za_W) : za_n 131 (60, l, st, w) = za_x 131 (.ldc 37) 60 l st w := za_n.at zcc_131 dX13_init_60 rfl
theorem f_131_62 (l : za_L) (st : List Value) (w : za_W) : za_n 131 (62, l, st, w) = za_x 131 (.newarray .int) 62 l st w := za_n.at zcc_131 dX13_init_62 rfl
theorem f_131_64 (l : za_L) (st : List Value) (w : za_W) : za_n 131 (64, l, st, w) = za_x 131 (.putfield 38) 64 l st w := za_n.at zcc_131 dX13_init_64 rfl
theorem f_131_67 (l : za_L) (st : List Value) (w : za_W) : za_n 131 (67, l, st, w) = za_x 131 (.aload_n 0) 67 l st w := za_n.at zcc_131 dX13_init_67 rfl
theorem f_131_68 (l : za_L) (st : List Value) (w : za_W) : za_n 131 (68, l, st, w) = za_go 71 l (.int (1560) :: st) w := (za_n.at zcc_131 dX13_init_68 rfl).trans (congrArg (fun x => za_go 71 l (.int x :: st) w) (by decide))
theorem f_131_71 (l : za_L) (st : List Value) (w : za_W) : za_n 131 (71, l, st, w) = za_x 131 (.newarray .int) 71 l st w := za_n.at zcc_131 dX13_init_71 rfl
theorem f_131_73 (l : za_L) (st : List Value) (w : za_W) : za_n 131 (73, l, st, w) = za_x 131 (.putfield 41) 73 l st w := za_n.at zcc_131 dX13_init_73 rfl
theorem f_131_76 (l : za_L) (st : List Value) (w : za_W) : za_n 131 (76, l, st, w) = za_x 131 (.aload_n 0) 76 l st w := za_n.at zcc_131 dX13_init_76 rfl
theorem f_131_77 (l : za_L) (st : List Value) (w : za_W) : za_n 131 (77, l, st, w) = za_go 80 l (.int (1900) :: st) w := (za_n.at zcc_131 dX13_init_77 rfl).trans (congrArg (fun x => za_go 80 l (.int x :: st) w) (by decide))
theorem f_131_80 (l : za_L) (st : List Value) (w : za_W) : za_n 131 (80, l, st, w) = za_x 131 (.newarray .byte) 80 l st w := za_n.at zcc_131 dX13_init_80 rfl
theorem f_131_82 (l : za_L) (st : List Value) (w : za_W) : za_n 131 (82, l, st, w) = za_x 131 (.putfield 44) 82 l st w := za_n.at zcc_131 dX13_init_82 rfl
theorem f_131_85 (l : za_L) (st : List Value) (w : za_W) : za_n 131 (85, l, st, w) = za_x 131 (.aload_n 0) 85 l st w := za_n.at zcc_131 dX13_init_85 rfl
theorem f_131_86 (l : za_L) (st : List Value) (w : za_W) : za_n 131 (86, l, st, w) = za_go 89 l (.int (1900) :: st) w := (za_n.at zcc_131 dX13_init_86 rfl).trans (congrArg (fun x => za_go 89 l (.int x :: st) w) (by decide))
theorem f_131_89 (l : za_L) (st : List Value) (w : za_W) : za_n 131 (89, l, st, w) = za_x 131 (.newarray .int) 89 l st w := za_n.at zcc_131 dX13_init_89 rfl
theorem f_131_91 (l : za_L) (st : List Value) (w : za_W) : za_n 131 (91, l, st, w) = za_x 131 (.putfield 47) 91 l st w := za_n.at zcc_131 dX13_init_91 rfl
theorem f_131_94 (l : za_L) (st : List Value) (w : za_W) : za_n 131 (94, l, st, w) = za_x 131 (.aload_n 0) 94 l st w := za_n.at zcc_131 dX13_init_94 rfl
theorem f_131_95 (l : za_L) (st : List Value) (w : za_W) : za_n 131 (95, l, st, w) = za_go 98 l (.int (1900) :: st) w := (za_n.at zcc_131 dX13_init_95 rfl).trans (congrArg (fun x => za_go 98 l (.int x :: st) w) (by decide))
theorem f_131_98 (l : za_L) (st : List Value) (w : za_W) : za_n 131 (98, l, st, w) = za_x 131 (.newarray .int) 98 l st w := za_n.at zcc_131 dX13_init_98 rfl
theorem f_131_100 (l : za_L) (st : List Value) (w : za_W) : za_n 131 (100, l, st, w) = za_x 131 (.putfield 50) 100 l st w := za_n.at zcc_131 dX13_init_100 rfl
theorem f_131_103 (l : za_L) (st : List Value) (w : za_W) : za_n 131 (103, l, st, w) = za_x 131 (.aload_n 0) 103 l st w := za_n.at zcc_131 dX13_init_103 rfl
theorem f_131_104 (l : za_L) (st : List Value) (w : za_W) : za_n 131 (104, l, st, w) = za_go 107 l (.int (2000) :: st) w := (za_n.at zcc_131 dX13_init_104 rfl).trans (congrArg (fun x => za_go 107 l (.int x :: st) w) (by decide))
theorem f_131_107 (l : za_L) (st : List Value) (w : za_W) : za_n 131 (107, l, st, w) = za_x 131 (.newarray .int) 107 l st w := za_n.at zcc_131 dX13_init_107 rfl
theorem f_131_109 (l : za_L) (st : List Value) (w : za_W) : za_n 131 (109, l, st, w) = za_x 131 (.putfield 53) 109 l st w := za_n.at zcc_131 dX13_init_109 rfl
theorem f_131_112 (l : za_L) (st : List Value) (w : za_W) : za_n 131 (112, l, st, w) = za_x 131 (.aload_n 0) 112 l st w := za_n.at zcc_131 dX13_init_112 rfl
theorem f_131_113 (l : za_L) (st : List Value) (w : za_W) : za_n 131 (113, l, st, w) = za_go 116 l (.int (256) :: st) w := (za_n.at zcc_131 dX13_init_113 rfl).trans (congrArg (fun x => za_go 116 l (.int x :: st) w) (by decide))
theorem f_131_116 (l : za_L) (st : List Value) (w : za_W) : za_n 131 (116, l, st, w) = za_x 131 (.newarray .int) 116 l st w := za_n.at zcc_131 dX13_init_116 rfl
theorem f_131_118 (l : za_L) (st : List Value) (w : za_W) : za_n 131 (118, l, st, w) = za_x 131 (.putfield 56) 118 l st w := za_n.at zcc_131 dX13_init_118 rfl
theorem f_131_121 (l : za_L) (st : List Value) (w : za_W) : za_n 131 (121, l, st, w) = za_x 131 (.aload_n 0) 121 l st w := za_n.at zcc_131 dX13_init_121 rfl
theorem f_131_122 (l : za_L) (st : List Value) (w : za_W) : za_n 131 (122, l, st, w) = za_go 125 l (.int (256) :: st) w := (za_n.at zcc_131 dX13_init_122 rfl).trans (congrArg (fun x => za_go 125 l (.int x :: st) w) (by decide))
theorem f_131_125 (l : za_L) (st : List Value) (w : za_W) : za_n 131 (125, l, st, w) = za_x 131 (.newarray .boolean) 125 l st w := za_n.at zcc_131 dX13_init_125 rfl
theorem f_131_127 (l : za_L) (st : List Value) (w : za_W) : za_n 131 (127, l, st, w) = za_x 131 (.putfield 59) 127 l st w := za_n.at zcc_131 dX13_init_127 rfl
theorem f_131_130 (l : za_L) (st : List Value) (w : za_W) : za_n 131 (130, l, st, w) = za_x 131 (.aload_n 0) 130 l st w := za_n.at zcc_131 dX13_init_130 rfl
theorem f_131_131 (l : za_L) (st : List Value) (w : za_W) : za_n 131 (131, l, st, w) = za_go 134 l (.int (1560) :: st) w := (za_n.at zcc_131 dX13_init_131 rfl).trans (congrArg (fun x => za_go 134 l (.int x :: st) w) (by decide))
theorem f_131_134 (l : za_L) (st : List Value) (w : za_W) : za_n 131 (134, l, st, w) = za_x 131 (.newarray .int) 134 l st w := za_n.at zcc_131 dX13_init_134 rfl
theorem f_131_136 (l : za_L) (st : List Value) (w : za_W) : za_n 131 (136, l, st, w) = za_x 131 (.putfield 63) 136 l st w := za_n.at zcc_131 dX13_init_136 rfl
theorem f_131_139 (l : za_L) (st : List Value) (w : za_W) : za_n 131 (139, l, st, w) = za_x 131 (.aload_n 0) 139 l st w := za_n.at zcc_131 dX13_init_139 rfl
theorem f_131_140 (l : za_L) (st : List Value) (w : za_W) : za_n 131 (140, l, st, w) = za_go 143 l (.int (1560) :: st) w := (za_n.at zcc_131 dX13_init_140 rfl).trans (congrArg (fun x => za_go 143 l (.int x :: st) w) (by decide))
theorem f_131_143 (l : za_L) (st : List Value) (w : za_W) : za_n 131 (143, l, st, w) = za_x 131 (.newarray .int) 143 l st w := za_n.at zcc_131 dX13_init_143 rfl
theorem f_131_145 (l : za_L) (st : List Value) (w : za_W) : za_n 131 (145, l, st, w) = za_x 131 (.putfield 66) 145 l st w := za_n.at zcc_131 dX13_init_145 rfl
theorem f_131_148 (l : za_L) (st : List Value) (w : za_W) : za_n 131 (148, l, st, w) = za_x 131 (.aload_n 0) 148 l st w := za_n.at zcc_131 dX13_init_148 rfl
theorem f_131_149 (l : za_L) (st : List Value) (w : za_W) : za_n 131 (149, l, st, w) = za_go 152 l (.int (1560) :: st) w := (za_n.at zcc_131 dX13_init_149 rfl).trans (congrArg (fun x => za_go 152 l (.int x :: st) w) (by decide))
theorem f_131_152 (l : za_L) (st : List Value) (w : za_W) : za_n 131 (152, l, st, w) = za_x 131 (.newarray .int) 152 l st w := za_n.at zcc_131 dX13_init_152 rfl
theorem f_131_154 (l : za_L) (st : List Value) (w : za_W) : za_n 131 (154, l, st, w) = za_x 131 (.putfield 69) 154 l st w := za_n.at zcc_131 dX13_init_154 rfl
theorem f_131_157 (l : za_L) (st : List Value) (w : za_W) : za_n 131 (157, l, st, w) = za_x 131 (.aload_n 0) 157 l st w := za_n.at zcc_131 dX13_init_157 rfl
theorem f_131_158 (l : za_L) (st : List Value) (w : za_W) : za_n 131 (158, l, st, w) = za_x 131 (.ldc 37) 158 l st w := za_n.at zcc_131 dX13_init_158 rfl
theorem f_131_160 (l : za_L) (st : List Value) (w : za_W) : za_n 131 (160, l, st, w) = za_x 131 (.newarray .int) 160 l st w := za_n.at zcc_131 dX13_init_160 rfl
theorem f_131_162 (l : za_L) (st : List Value) (w : za_W) : za_n 131 (162, l, st, w) = za_x 131 (.putfield 72) 162 l st w := za_n.at zcc_131 dX13_init_162 rfl
theorem f_131_165 (l : za_L) (st : List Value) (w : za_W) : za_n 131 (165, l, st, w) = za_x 131 (.aload_n 0) 165 l st w := za_n.at zcc_131 dX13_init_165 rfl
theorem f_131_166 (l : za_L) (st : List Value) (w : za_W) : za_n 131 (166, l, st, w) = za_go 169 l (.int (600) :: st) w := (za_n.at zcc_131 dX13_init_166 rfl).trans (congrArg (fun x => za_go 169 l (.int x :: st) w) (by decide))
theorem f_131_169 (l : za_L) (st : List Value) (w : za_W) : za_n 131 (169, l, st, w) = za_x 131 (.newarray .long) 169 l st w := za_n.at zcc_131 dX13_init_169 rfl
theorem f_131_171 (l : za_L) (st : List Value) (w : za_W) : za_n 131 (171, l, st, w) = za_x 131 (.putfield 75) 171 l st w := za_n.at zcc_131 dX13_init_171 rfl
theorem f_131_174 (l : za_L) (st : List Value) (w : za_W) : za_n 131 (174, l, st, w) = za_x 131 (.aload_n 0) 174 l st w := za_n.at zcc_131 dX13_init_174 rfl
theorem f_131_175 (l : za_L) (st : List Value) (w : za_W) : za_n 131 (175, l, st, w) = za_go 178 l (.int (600) :: st) w := (za_n.at zcc_131 dX13_init_175 rfl).trans (congrArg (fun x => za_go 178 l (.int x :: st) w) (by decide))
theorem f_131_178 (l : za_L) (st : List Value) (w : za_W) : za_n 131 (178, l, st, w) = za_x 131 (.newarray .int) 178 l st w := za_n.at zcc_131 dX13_init_178 rfl
theorem f_131_180 (l : za_L) (st : List Value) (w : za_W) : za_n 131 (180, l, st, w) = za_x 131 (.putfield 79) 180 l st w := za_n.at zcc_131 dX13_init_180 rfl
theorem f_131_183 (l : za_L) (st : List Value) (w : za_W) : za_n 131 (183, l, st, w) = za_x 131 (.aload_n 0) 183 l st w := za_n.at zcc_131 dX13_init_183 rfl
theorem f_131_184 (l : za_L) (st : List Value) (w : za_W) : za_n 131 (184, l, st, w) = za_go 187 l (.int (300) :: st) w := (za_n.at zcc_131 dX13_init_184 rfl).trans (congrArg (fun x => za_go 187 l (.int x :: st) w) (by decide))
theorem f_131_187 (l : za_L) (st : List Value) (w : za_W) : za_n 131 (187, l, st, w) = za_x 131 (.newarray .long) 187 l st w := za_n.at zcc_131 dX13_init_187 rfl
theorem f_131_189 (l : za_L) (st : List Value) (w : za_W) : za_n 131 (189, l, st, w) = za_x 131 (.putfield 82) 189 l st w := za_n.at zcc_131 dX13_init_189 rfl
theorem f_131_192 (l : za_L) (st : List Value) (w : za_W) : za_n 131 (192, l, st, w) = za_x 131 (.aload_n 0) 192 l st w := za_n.at zcc_131 dX13_init_192 rfl
theorem f_131_193 (l : za_L) (st : List Value) (w : za_W) : za_n 131 (193, l, st, w) = za_go 196 l (.int (1560) :: st) w := (za_n.at zcc_131 dX13_init_193 rfl).trans (congrArg (fun x => za_go 196 l (.int x :: st) w) (by decide))
theorem f_131_196 (l : za_L) (st : List Value) (w : za_W) : za_n 131 (196, l, st, w) = za_x 131 (.newarray .int) 196 l st w := za_n.at zcc_131 dX13_init_196 rfl
theorem f_131_198 (l : za_L) (st : List Value) (w : za_W) : za_n 131 (198, l, st, w) = za_x 131 (.putfield 85) 198 l st w := za_n.at zcc_131 dX13_init_198 rfl
theorem f_131_201 (l : za_L) (st : List Value) (w : za_W) : za_n 131 (201, l, st, w) = za_x 131 (.aload_n 0) 201 l st w := za_n.at zcc_131 dX13_init_201 rfl
theorem f_131_202 (l : za_L) (st : List Value) (w : za_W) : za_n 131 (202, l, st, w) = za_go 205 l (.int (132) :: st) w := (za_n.at zcc_131 dX13_init_202 rfl).trans (congrArg (fun x => za_go 205 l (.int x :: st) w) (by decide))
theorem f_131_205 (l : za_L) (st : List Value) (w : za_W) : za_n 131 (205, l, st, w) = za_x 131 (.newarray .int) 205 l st w := za_n.at zcc_131 dX13_init_205 rfl
theorem f_131_207 (l : za_L) (st : List Value) (w : za_W) : za_n 131 (207, l, st, w) = za_x 131 (.putfield 88) 207 l st w := za_n.at zcc_131 dX13_init_207 rfl
theorem f_131_210 (l : za_L) (st : List Value) (w : za_W) : za_n 131 (210, l, st, w) = za_x 131 (.aload_n 0) 210 l st w := za_n.at zcc_131 dX13_init_210 rfl
theorem f_131_211 (l : za_L) (st : List Value) (w : za_W) : za_n 131 (211, l, st, w) = za_go 214 l (.int (132) :: st) w := (za_n.at zcc_131 dX13_init_211 rfl).trans (congrArg (fun x => za_go 214 l (.int x :: st) w) (by decide))
theorem f_131_214 (l : za_L) (st : List Value) (w : za_W) : za_n 131 (214, l, st, w) = za_x 131 (.newarray .int) 214 l st w := za_n.at zcc_131 dX13_init_214 rfl
theorem f_131_216 (l : za_L) (st : List Value) (w : za_W) : za_n 131 (216, l, st, w) = za_x 131 (.putfield 91) 216 l st w := za_n.at zcc_131 dX13_init_216 rfl
theorem f_131_219 (l : za_L) (st : List Value) (w : za_W) : za_n 131 (219, l, st, w) = za_x 131 (.aload_n 0) 219 l st w := za_n.at zcc_131 dX13_init_219 rfl
theorem f_131_220 (l : za_L) (st : List Value) (w : za_W) : za_n 131 (220, l, st, w) = za_go 222 l (.int (6) :: st) w := (za_n.at zcc_131 dX13_init_220 rfl).trans (congrArg (fun x => za_go 222 l (.int x :: st) w) (by decide))
theorem f_131_222 (l : za_L) (st : List Value) (w : za_W) : za_n 131 (222, l, st, w) = za_x 131 (.newarray .int) 222 l st w := za_n.at zcc_131 dX13_init_222 rfl
theorem f_131_224 (l : za_L) (st : List Value) (w : za_W) : za_n 131 (224, l, st, w) = za_x 131 (.putfield 94) 224 l st w := za_n.at zcc_131 dX13_init_224 rfl
theorem f_131_227 (l : za_L) (st : List Value) (w : za_W) : za_n 131 (227, l, st, w) = za_x 131 (.aload_n 0) 227 l st w := za_n.at zcc_131 dX13_init_227 rfl
theorem f_131_228 (l : za_L) (st : List Value) (w : za_W) : za_n 131 (228, l, st, w) = za_go 231 l (.int (257) :: st) w := (za_n.at zcc_131 dX13_init_228 rfl).trans (congrArg (fun x => za_go 231 l (.int x :: st) w) (by decide))
theorem f_131_231 (l : za_L) (st : List Value) (w : za_W) : za_n 131 (231, l, st, w) = za_x 131 (.newarray .int) 231 l st w := za_n.at zcc_131 dX13_init_231 rfl
theorem f_131_233 (l : za_L) (st : List Value) (w : za_W) : za_n 131 (233, l, st, w) = za_x 131 (.putfield 97) 233 l st w := za_n.at zcc_131 dX13_init_233 rfl
theorem f_131_236 (l : za_L) (st : List Value) (w : za_W) : za_n 131 (236, l, st, w) = za_x 131 (.aload_n 0) 236 l st w := za_n.at zcc_131 dX13_init_236 rfl
theorem f_131_237 (l : za_L) (st : List Value) (w : za_W) : za_n 131 (237, l, st, w) = za_go 240 l (.int (1900) :: st) w := (za_n.at zcc_131 dX13_init_237 rfl).trans (congrArg (fun x => za_go 240 l (.int x :: st) w) (by decide))
theorem f_131_240 (l : za_L) (st : List Value) (w : za_W) : za_n 131 (240, l, st, w) = za_x 131 (.newarray .byte) 240 l st w := za_n.at zcc_131 dX13_init_240 rfl
theorem f_131_242 (l : za_L) (st : List Value) (w : za_W) : za_n 131 (242, l, st, w) = za_x 131 (.putfield 100) 242 l st w := za_n.at zcc_131 dX13_init_242 rfl
theorem f_131_245 (l : za_L) (st : List Value) (w : za_W) : za_n 131 (245, l, st, w) = za_x 131 (.aload_n 0) 245 l st w := za_n.at zcc_131 dX13_init_245 rfl
theorem f_131_246 (l : za_L) (st : List Value) (w : za_W) : za_n 131 (246, l, st, w) = za_go 249 l (.int (3000) :: st) w := (za_n.at zcc_131 dX13_init_246 rfl).trans (congrArg (fun x => za_go 249 l (.int x :: st) w) (by decide))
theorem f_131_249 (l : za_L) (st : List Value) (w : za_W) : za_n 131 (249, l, st, w) = za_x 131 (.newarray .byte) 249 l st w := za_n.at zcc_131 dX13_init_249 rfl
theorem f_131_251 (l : za_L) (st : List Value) (w : za_W) : za_n 131 (251, l, st, w) = za_x 131 (.putfield 103) 251 l st w := za_n.at zcc_131 dX13_init_251 rfl
theorem f_131_254 (l : za_L) (st : List Value) (w : za_W) : za_n 131 (254, l, st, w) = za_x 131 (.aload_n 0) 254 l st w := za_n.at zcc_131 dX13_init_254 rfl
theorem f_131_255 (l : za_L) (st : List Value) (w : za_W) : za_n 131 (255, l, st, w) = za_go 256 l (.int (0) :: st) w := (za_n.at zcc_131 dX13_init_255 rfl).trans (congrArg (fun x => za_go 256 l (.int x :: st) w) (by decide))
theorem f_131_256 (l : za_L) (st : List Value) (w : za_W) : za_n 131 (256, l, st, w) = za_x 131 (.putfield 1) 256 l st w := za_n.at zcc_131 dX13_init_256 rfl
theorem f_131_259 (l : za_L) (st : List Value) (w : za_W) : za_n 131 (259, l, st, w) = za_x 131 (.aload_n 0) 259 l st w := za_n.at zcc_131 dX13_init_259 rfl
theorem f_131_260 (l : za_L) (st : List Value) (w : za_W) : za_n 131 (260, l, st, w) = za_x 131 (.iload_n 1) 260 l st w := za_n.at zcc_131 dX13_init_260 rfl
theorem f_131_261 (l : za_L) (st : List Value) (w : za_W) : za_n 131 (261, l, st, w) = za_go 262 l (.int (1) :: st) w := (za_n.at zcc_131 dX13_init_261 rfl).trans (congrArg (fun x => za_go 262 l (.int x :: st) w) (by decide))
theorem f_131_262 (l : za_L) (st : List Value) (w : za_W) : za_n 131 (262, l, st, w) = za_x 131 (.if_icmp .ge 7) 262 l st w := za_n.at zcc_131 dX13_init_262 rfl
theorem f_131_265 (l : za_L) (st : List Value) (w : za_W) : za_n 131 (265, l, st, w) = za_go 266 l (.int (1) :: st) w := (za_n.at zcc_131 dX13_init_265 rfl).trans (congrArg (fun x => za_go 266 l (.int x :: st) w) (by decide))
theorem f_131_266 (l : za_L) (st : List Value) (w : za_W) : za_n 131 (266, l, st, w) = za_go 281 l st w := (za_n.at zcc_131 dX13_init_266 rfl).trans (za_jp.at (by decide))
theorem f_131_269 (l : za_L) (st : List Value) (w : za_W) : za_n 131 (269, l, st, w) = za_x 131 (.iload_n 1) 269 l st w := za_n.at zcc_131 dX13_init_269 rfl
theorem f_131_270 (l : za_L) (st : List Value) (w : za_W) : za_n 131 (270, l, st, w) = za_go 272 l (.int (9) :: st) w := (za_n.at zcc_131 dX13_init_270 rfl).trans (congrArg (fun x => za_go 272 l (.int x :: st) w) (by decide))
theorem f_131_272 (l : za_L) (st : List Value) (w : za_W) : za_n 131 (272, l, st, w) = za_x 131 (.if_icmp .le 8) 272 l st w := za_n.at zcc_131 dX13_init_272 rfl
theorem f_131_275 (l : za_L) (st : List Value) (w : za_W) : za_n 131 (275, l, st, w) = za_go 277 l (.int (9) :: st) w := (za_n.at zcc_131 dX13_init_275 rfl).trans (congrArg (fun x => za_go 277 l (.int x :: st) w) (by decide))
theorem f_131_277 (l : za_L) (st : List Value) (w : za_W) : za_n 131 (277, l, st, w) = za_go 281 l st w := (za_n.at zcc_131 dX13_init_277 rfl).trans (za_jp.at (by decide))
theorem f_131_280 (l : za_L) (st : List Value) (w : za_W) : za_n 131 (280, l, st, w) = za_x 131 (.iload_n 1) 280 l st w := za_n.at zcc_131 dX13_init_280 rfl
theorem f_131_281 (l : za_L) (st : List Value) (w : za_W) : za_n 131 (281, l, st, w) = za_x 131 (.putfield 106) 281 l st w := za_n.at zcc_131 dX13_init_281 rfl
theorem f_131_284 (l : za_L) (st : List Value) (w : za_W) : za_n 131 (284, l, st, w) = za_x 131 (.return_) 284 l st w := za_n.at zcc_131 dX13_init_284 rfl
theorem f_132_0 (l : za_L) (st : List Value) (w : za_W) : za_n 132 (0, l, st, w) = za_x 132 (.aload_n 0) 0 l st w := za_n.at zcc_132 dX13_feed_0 rfl
theorem f_132_1 (l : za_L) (st : List Value) (w : za_W) : za_n 132 (1, l, st, w) = za_go 2 l (.int (0) :: st) w := (za_n.at zcc_132 dX13_feed_1 rfl).trans (congrArg (fun x => za_go 2 l (.int x :: st) w) (by decide))
theorem f_132_2 (l : za_L) (st : List Value) (w : za_W) : za_n 132 (2, l, st, w) = za_x 132 (.putfield 1) 2 l st w := za_n.at zcc_132 dX13_feed_2 rfl
theorem f_132_5 (l : za_L) (st : List Value) (w : za_W) : za_n 132 (5, l, st, w) = za_x 132 (.aload_n 0) 5 l st w := za_n.at zcc_132 dX13_feed_5 rfl
theorem f_132_6 (l : za_L) (st : List Value) (w : za_W) : za_n 132 (6, l, st, w) = za_x 132 (.getfield 109) 6 l st w := za_n.at zcc_132 dX13_feed_6 rfl
theorem f_132_9 (l : za_L) (st : List Value) (w : za_W) : za_n 132 (9, l, st, w) = za_go 11 l (.int (20) :: st) w := (za_n.at zcc_132 dX13_feed_9 rfl).trans (congrArg (fun x => za_go 11 l (.int x :: st) w) (by decide))
theorem f_132_11 (l : za_L) (st : List Value) (w : za_W) : za_n 132 (11, l, st, w) = za_x 132 (.iadd) 11 l st w := za_n.at zcc_132 dX13_feed_11 rfl
theorem f_132_12 (l : za_L) (st : List Value) (w : za_W) : za_n 132 (12, l, st, w) = za_go 15 l (.int (1500) :: st) w := (za_n.at zcc_132 dX13_feed_12 rfl).trans (congrArg (fun x => za_go 15 l (.int x :: st) w) (by decide))
theorem f_132_15 (l : za_L) (st : List Value) (w : za_W) : za_n 132 (15, l, st, w) = za_x 132 (.if_icmp .le 6) 15 l st w := za_n.at zcc_132 dX13_feed_15 rfl
theorem f_132_18 (l : za_L) (st : List Value) (w : za_W) : za_n 132 (18, l, st, w) = za_go 20 l (.int (-3) :: st) w := (za_n.at zcc_132 dX13_feed_18 rfl).trans (congrArg (fun x => za_go 20 l (.int x :: st) w) (by decide))
theorem f_132_20 (l : za_L) (st : List Value) (w : za_W) : za_n 132 (20, l, st, w) = za_x 132 (.ireturn) 20 l st w := za_n.at zcc_132 dX13_feed_20 rfl
theorem f_132_21 (l : za_L) (st : List Value) (w : za_W) : za_n 132 (21, l, st, w) = za_go 22 l (.int (0) :: st) w := (za_n.at zcc_132 dX13_feed_21 rfl).trans (congrArg (fun x => za_go 22 l (.int x :: st) w) (by decide))
theorem f_132_22 (l : za_L) (st : List Value) (w : za_W) : za_n 132 (22, l, st, w) = za_x 132 (.istore 6) 22 l st w := za_n.at zcc_132 dX13_feed_22 rfl
theorem f_132_24 (l : za_L) (st : List Value) (w : za_W) : za_n 132 (24, l, st, w) = za_x 132 (.iload 6) 24 l st w := za_n.at zcc_132 dX13_feed_24 rfl
theorem f_132_26 (l : za_L) (st : List Value) (w : za_W) : za_n 132 (26, l, st, w) = za_go 28 l (.int (20) :: st) w := (za_n.at zcc_132 dX13_feed_26 rfl).trans (congrArg (fun x => za_go 28 l (.int x :: st) w) (by decide))
theorem f_132_28 (l : za_L) (st : List Value) (w : za_W) : za_n 132 (28, l, st, w) = za_x 132 (.if_icmp .ge 83) 28 l st w := za_n.at zcc_132 dX13_feed_28 rfl
theorem f_132_31 (l : za_L) (st : List Value) (w : za_W) : za_n 132 (31, l, st, w) = za_x 132 (.iload 6) 31 l st w := za_n.at zcc_132 dX13_feed_31 rfl
theorem f_132_33 (l : za_L) (st : List Value) (w : za_W) : za_n 132 (33, l, st, w) = za_go 34 l (.int (4) :: st) w := (za_n.at zcc_132 dX13_feed_33 rfl).trans (congrArg (fun x => za_go 34 l (.int x :: st) w) (by decide))
theorem f_132_34 (l : za_L) (st : List Value) (w : za_W) : za_n 132 (34, l, st, w) = za_x 132 (.if_icmp .ge 7) 34 l st w := za_n.at zcc_132 dX13_feed_34 rfl
theorem f_132_37 (l : za_L) (st : List Value) (w : za_W) : za_n 132 (37, l, st, w) = za_x 132 (.iload_n 1) 37 l st w := za_n.at zcc_132 dX13_feed_37 rfl
theorem f_132_38 (l : za_L) (st : List Value) (w : za_W) : za_n 132 (38, l, st, w) = za_go 77 l st w := (za_n.at zcc_132 dX13_feed_38 rfl).trans (za_jp.at (by decide))
theorem f_132_41 (l : za_L) (st : List Value) (w : za_W) : za_n 132 (41, l, st, w) = za_x 132 (.iload 6) 41 l st w := za_n.at zcc_132 dX13_feed_41 rfl
theorem f_132_43 (l : za_L) (st : List Value) (w : za_W) : za_n 132 (43, l, st, w) = za_go 45 l (.int (8) :: st) w := (za_n.at zcc_132 dX13_feed_43 rfl).trans (congrArg (fun x => za_go 45 l (.int x :: st) w) (by decide))
theorem f_132_45 (l : za_L) (st : List Value) (w : za_W) : za_n 132 (45, l, st, w) = za_x 132 (.if_icmp .ge 7) 45 l st w := za_n.at zcc_132 dX13_feed_45 rfl
theorem f_132_48 (l : za_L) (st : List Value) (w : za_W) : za_n 132 (48, l, st, w) = za_x 132 (.iload_n 2) 48 l st w := za_n.at zcc_132 dX13_feed_48 rfl
theorem f_132_49 (l : za_L) (st : List Value) (w : za_W) : za_n 132 (49, l, st, w) = za_go 77 l st w := (za_n.at zcc_132 dX13_feed_49 rfl).trans (za_jp.at (by decide))
theorem f_132_52 (l : za_L) (st : List Value) (w : za_W) : za_n 132 (52, l, st, w) = za_x 132 (.iload 6) 52 l st w := za_n.at zcc_132 dX13_feed_52 rfl
theorem f_132_54 (l : za_L) (st : List Value) (w : za_W) : za_n 132 (54, l, st, w) = za_go 56 l (.int (12) :: st) w := (za_n.at zcc_132 dX13_feed_54 rfl).trans (congrArg (fun x => za_go 56 l (.int x :: st) w) (by decide))
theorem f_132_56 (l : za_L) (st : List Value) (w : za_W) : za_n 132 (56, l, st, w) = za_x 132 (.if_icmp .ge 7) 56 l st w := za_n.at zcc_132 dX13_feed_56 rfl
theorem f_132_59 (l : za_L) (st : List Value) (w : za_W) : za_n 132 (59, l, st, w) = za_x 132 (.iload_n 3) 59 l st w := za_n.at zcc_132 dX13_feed_59 rfl
theorem f_132_60 (l : za_L) (st : List Value) (w : za_W) : za_n 132 (60, l, st, w) = za_go 77 l st w := (za_n.at zcc_132 dX13_feed_60 rfl).trans (za_jp.at (by decide))
theorem f_132_63 (l : za_L) (st : List Value) (w : za_W) : za_n 132 (63, l, st, w) = za_x 132 (.iload 6) 63 l st w := za_n.at zcc_132 dX13_feed_63 rfl
theorem f_132_65 (l : za_L) (st : List Value) (w : za_W) : za_n 132 (65, l, st, w) = za_go 67 l (.int (16) :: st) w := (za_n.at zcc_132 dX13_feed_65 rfl).trans (congrArg (fun x => za_go 67 l (.int x :: st) w) (by decide))
theorem f_132_67 (l : za_L) (st : List Value) (w : za_W) : za_n 132 (67, l, st, w) = za_x 132 (.if_icmp .ge 8) 67 l st w := za_n.at zcc_132 dX13_feed_67 rfl
theorem f_132_70 (l : za_L) (st : List Value) (w : za_W) : za_n 132 (70, l, st, w) = za_x 132 (.iload 4) 70 l st w := za_n.at zcc_132 dX13_feed_70 rfl
theorem f_132_72 (l : za_L) (st : List Value) (w : za_W) : za_n 132 (72, l, st, w) = za_go 77 l st w := (za_n.at zcc_132 dX13_feed_72 rfl).trans (za_jp.at (by decide))
theorem f_132_75 (l : za_L) (st : List Value) (w : za_W) : za_n 132 (75, l, st, w) = za_x 132 (.iload 5) 75 l st w := za_n.at zcc_132 dX13_feed_75 rfl
theorem f_132_77 (l : za_L) (st : List Value) (w : za_W) : za_n 132 (77, l, st, w) = za_x 132 (.istore 7) 77 l st w := za_n.at zcc_132 dX13_feed_77 rfl
theorem f_132_79 (l : za_L) (st : List Value) (w : za_W) : za_n 132 (79, l, st, w) = za_x 132 (.aload_n 0) 79 l st w := za_n.at zcc_132 dX13_feed_79 rfl
theorem f_132_80 (l : za_L) (st : List Value) (w : za_W) : za_n 132 (80, l, st, w) = za_x 132 (.getfield 20) 80 l st w := za_n.at zcc_132 dX13_feed_80 rfl
theorem f_132_83 (l : za_L) (st : List Value) (w : za_W) : za_n 132 (83, l, st, w) = za_x 132 (.aload_n 0) 83 l st w := za_n.at zcc_132 dX13_feed_83 rfl
theorem f_132_84 (l : za_L) (st : List Value) (w : za_W) : za_n 132 (84, l, st, w) = za_x 132 (.getfield 109) 84 l st w := za_n.at zcc_132 dX13_feed_84 rfl
theorem f_132_87 (l : za_L) (st : List Value) (w : za_W) : za_n 132 (87, l, st, w) = za_x 132 (.iload 6) 87 l st w := za_n.at zcc_132 dX13_feed_87 rfl
theorem f_132_89 (l : za_L) (st : List Value) (w : za_W) : za_n 132 (89, l, st, w) = za_x 132 (.iadd) 89 l st w := za_n.at zcc_132 dX13_feed_89 rfl
theorem f_132_90 (l : za_L) (st : List Value) (w : za_W) : za_n 132 (90, l, st, w) = za_x 132 (.iload 7) 90 l st w := za_n.at zcc_132 dX13_feed_90 rfl
theorem f_132_92 (l : za_L) (st : List Value) (w : za_W) : za_n 132 (92, l, st, w) = za_go 94 l (.int (24) :: st) w := (za_n.at zcc_132 dX13_feed_92 rfl).trans (congrArg (fun x => za_go 94 l (.int x :: st) w) (by decide))
theorem f_132_94 (l : za_L) (st : List Value) (w : za_W) : za_n 132 (94, l, st, w) = za_go 96 l (.int (8) :: st) w := (za_n.at zcc_132 dX13_feed_94 rfl).trans (congrArg (fun x => za_go 96 l (.int x :: st) w) (by decide))
theorem f_132_96 (l : za_L) (st : List Value) (w : za_W) : za_n 132 (96, l, st, w) = za_x 132 (.iload 6) 96 l st w := za_n.at zcc_132 dX13_feed_96 rfl
theorem f_132_98 (l : za_L) (st : List Value) (w : za_W) : za_n 132 (98, l, st, w) = za_go 99 l (.int (4) :: st) w := (za_n.at zcc_132 dX13_feed_98 rfl).trans (congrArg (fun x => za_go 99 l (.int x :: st) w) (by decide))
theorem f_132_99 (l : za_L) (st : List Value) (w : za_W) : za_n 132 (99, l, st, w) = za_x 132 (.irem) 99 l st w := za_n.at zcc_132 dX13_feed_99 rfl
theorem f_132_100 (l : za_L) (st : List Value) (w : za_W) : za_n 132 (100, l, st, w) = za_x 132 (.imul) 100 l st w := za_n.at zcc_132 dX13_feed_100 rfl
theorem f_132_101 (l : za_L) (st : List Value) (w : za_W) : za_n 132 (101, l, st, w) = za_x 132 (.isub) 101 l st w := za_n.at zcc_132 dX13_feed_101 rfl
theorem f_132_102 (l : za_L) (st : List Value) (w : za_W) : za_n 132 (102, l, st, w) = za_x 132 (.iushr) 102 l st w := za_n.at zcc_132 dX13_feed_102 rfl
theorem f_132_103 (l : za_L) (st : List Value) (w : za_W) : za_n 132 (103, l, st, w) = za_x 132 (.i2b) 103 l st w := za_n.at zcc_132 dX13_feed_103 rfl
theorem f_132_104 (l : za_L) (st : List Value) (w : za_W) : za_n 132 (104, l, st, w) = za_x 132 (.bastore) 104 l st w := za_n.at zcc_132 dX13_feed_104 rfl
theorem f_132_105 (l : za_L) (st : List Value) (w : za_W) : za_n 132 (105, l, st, w) = za_x 132 (.iinc 6 1) 105 l st w := za_n.at zcc_132 dX13_feed_105 rfl
theorem f_132_108 (l : za_L) (st : List Value) (w : za_W) : za_n 132 (108, l, st, w) = za_go 24 l st w := (za_n.at zcc_132 dX13_feed_108 rfl).trans (za_jp.at (by decide))
theorem f_132_111 (l : za_L) (st : List Value) (w : za_W) : za_n 132 (111, l, st, w) = za_x 132 (.aload_n 0) 111 l st w := za_n.at zcc_132 dX13_feed_111 rfl
theorem f_132_112 (l : za_L) (st : List Value) (w : za_W) : za_n 132 (112, l, st, w) = za_x 132 (.aload_n 0) 112 l st w := za_n.at zcc_132 dX13_feed_112 rfl
theorem f_132_113 (l : za_L) (st : List Value) (w : za_W) : za_n 132 (113, l, st, w) = za_x 132 (.getfield 109) 113 l st w := za_n.at zcc_132 dX13_feed_113 rfl
theorem f_132_116 (l : za_L) (st : List Value) (w : za_W) : za_n 132 (116, l, st, w) = za_go 118 l (.int (20) :: st) w := (za_n.at zcc_132 dX13_feed_116 rfl).trans (congrArg (fun x => za_go 118 l (.int x :: st) w) (by decide))
theorem f_132_118 (l : za_L) (st : List Value) (w : za_W) : za_n 132 (118, l, st, w) = za_x 132 (.iadd) 118 l st w := za_n.at zcc_132 dX13_feed_118 rfl
theorem f_132_119 (l : za_L) (st : List Value) (w : za_W) : za_n 132 (119, l, st, w) = za_x 132 (.putfield 109) 119 l st w := za_n.at zcc_132 dX13_feed_119 rfl
theorem f_132_122 (l : za_L) (st : List Value) (w : za_W) : za_n 132 (122, l, st, w) = za_x 132 (.aload_n 0) 122 l st w := za_n.at zcc_132 dX13_feed_122 rfl
theorem f_132_123 (l : za_L) (st : List Value) (w : za_W) : za_n 132 (123, l, st, w) = za_x 132 (.getfield 109) 123 l st w := za_n.at zcc_132 dX13_feed_123 rfl
theorem f_132_126 (l : za_L) (st : List Value) (w : za_W) : za_n 132 (126, l, st, w) = za_x 132 (.ireturn) 126 l st w := za_n.at zcc_132 dX13_feed_126 rfl
theorem f_133_0 (l : za_L) (st : List Value) (w : za_W) : za_n 133 (0, l, st, w) = za_x 133 (.aload_n 0) 0 l st w := za_n.at zcc_133 dX13_end_0 rfl
theorem f_133_1 (l : za_L) (st : List Value) (w : za_W) : za_n 133 (1, l, st, w) = za_go 2 l (.int (0) :: st) w := (za_n.at zcc_133 dX13_end_1 rfl).trans (congrArg (fun x => za_go 2 l (.int x :: st) w) (by decide))
theorem f_133_2 (l : za_L) (st : List Value) (w : za_W) : za_n 133 (2, l, st, w) = za_x 133 (.putfield 1) 2 l st w := za_n.at zcc_133 dX13_end_2 rfl
theorem f_133_5 (l : za_L) (st : List Value) (w : za_W) : za_n 133 (5, l, st, w) = za_x 133 (.iload_n 1) 5 l st w := za_n.at zcc_133 dX13_end_5 rfl
theorem f_133_6 (l : za_L) (st : List Value) (w : za_W) : za_n 133 (6, l, st, w) = za_x 133 (.i2l) 6 l st w := za_n.at zcc_133 dX13_end_6 rfl
theorem f_133_7 (l : za_L) (st : List Value) (w : za_W) : za_n 133 (7, l, st, w) = za_x 133 (.lconst 0) 7 l st w := za_n.at zcc_133 dX13_end_7 rfl
theorem f_133_8 (l : za_L) (st : List Value) (w : za_W) : za_n 133 (8, l, st, w) = za_x 133 (.ldc2_w 112) 8 l st w := za_n.at zcc_133 dX13_end_8 rfl
theorem f_133_11 (l : za_L) (st : List Value) (w : za_W) : za_n 133 (11, l, st, w) = za_x 133 (.invokestatic 114) 11 l st w := za_n.at zcc_133 dX13_end_11 rfl
theorem f_133_14 (l : za_L) (st : List Value) (w : za_W) : za_n 133 (14, l, st, w) = za_x 133 (.ifCond .eq 12) 14 l st w := za_n.at zcc_133 dX13_end_14 rfl
theorem f_133_17 (l : za_L) (st : List Value) (w : za_W) : za_n 133 (17, l, st, w) = za_x 133 (.aload_n 0) 17 l st w := za_n.at zcc_133 dX13_end_17 rfl
theorem f_133_18 (l : za_L) (st : List Value) (w : za_W) : za_n 133 (18, l, st, w) = za_x 133 (.getfield 109) 18 l st w := za_n.at zcc_133 dX13_end_18 rfl
theorem f_133_21 (l : za_L) (st : List Value) (w : za_W) : za_n 133 (21, l, st, w) = za_go 23 l (.int (20) :: st) w := (za_n.at zcc_133 dX13_end_21 rfl).trans (congrArg (fun x => za_go 23 l (.int x :: st) w) (by decide))
theorem f_133_23 (l : za_L) (st : List Value) (w : za_W) : za_n 133 (23, l, st, w) = za_x 133 (.if_icmp .ge 5) 23 l st w := za_n.at zcc_133 dX13_end_23 rfl
theorem f_133_26 (l : za_L) (st : List Value) (w : za_W) : za_n 133 (26, l, st, w) = za_go 27 l (.int (-1) :: st) w := (za_n.at zcc_133 dX13_end_26 rfl).trans (congrArg (fun x => za_go 27 l (.int x :: st) w) (by decide))
theorem f_133_27 (l : za_L) (st : List Value) (w : za_W) : za_n 133 (27, l, st, w) = za_x 133 (.ireturn) 27 l st w := za_n.at zcc_133 dX13_end_27 rfl
theorem f_133_28 (l : za_L) (st : List Value) (w : za_W) : za_n 133 (28, l, st, w) = za_x 133 (.aload_n 0) 28 l st w := za_n.at zcc_133 dX13_end_28 rfl
theorem f_133_29 (l : za_L) (st : List Value) (w : za_W) : za_n 133 (29, l, st, w) = za_x 133 (.aload_n 0) 29 l st w := za_n.at zcc_133 dX13_end_29 rfl
theorem f_133_30 (l : za_L) (st : List Value) (w : za_W) : za_n 133 (30, l, st, w) = za_x 133 (.getfield 109) 30 l st w := za_n.at zcc_133 dX13_end_30 rfl
theorem f_133_33 (l : za_L) (st : List Value) (w : za_W) : za_n 133 (33, l, st, w) = za_x 133 (.iload_n 1) 33 l st w := za_n.at zcc_133 dX13_end_33 rfl
theorem f_133_34 (l : za_L) (st : List Value) (w : za_W) : za_n 133 (34, l, st, w) = za_x 133 (.iadd) 34 l st w := za_n.at zcc_133 dX13_end_34 rfl
theorem f_133_35 (l : za_L) (st : List Value) (w : za_W) : za_n 133 (35, l, st, w) = za_go 37 l (.int (20) :: st) w := (za_n.at zcc_133 dX13_end_35 rfl).trans (congrArg (fun x => za_go 37 l (.int x :: st) w) (by decide))
theorem f_133_37 (l : za_L) (st : List Value) (w : za_W) : za_n 133 (37, l, st, w) = za_x 133 (.isub) 37 l st w := za_n.at zcc_133 dX13_end_37 rfl
theorem f_133_38 (l : za_L) (st : List Value) (w : za_W) : za_n 133 (38, l, st, w) = za_x 133 (.putfield 109) 38 l st w := za_n.at zcc_133 dX13_end_38 rfl
theorem f_133_41 (l : za_L) (st : List Value) (w : za_W) : za_n 133 (41, l, st, w) = za_x 133 (.aload_n 0) 41 l st w := za_n.at zcc_133 dX13_end_41 rfl
theorem f_133_42 (l : za_L) (st : List Value) (w : za_W) : za_n 133 (42, l, st, w) = za_x 133 (.getfield 109) 42 l st w := za_n.at zcc_133 dX13_end_42 rfl
theorem f_133_45 (l : za_L) (st : List Value) (w : za_W) : za_n 133 (45, l, st, w) = za_x 133 (.ireturn) 45 l st w := za_n.at zcc_133 dX13_end_45 rfl
theorem f_134_0 (l : za_L) (st : List Value) (w : za_W) : za_n 134 (0, l, st, w) = za_x 134 (.aload_n 0) 0 l st w := za_n.at zcc_134 dX13_octets_0 rfl
theorem f_134_1 (l : za_L) (st : List Value) (w : za_W) : za_n 134 (1, l, st, w) = za_go 2 l (.int (0) :: st) w := (za_n.at zcc_134 dX13_octets_1 rfl).trans (congrArg (fun x => za_go 2 l (.int x :: st) w) (by decide))
theorem f_134_2 (l : za_L) (st : List Value) (w : za_W) : za_n 134 (2, l, st, w) = za_x 134 (.putfield 1) 2 l st w := za_n.at zcc_134 dX13_octets_2 rfl
theorem f_134_5 (l : za_L) (st : List Value) (w : za_W) : za_n 134 (5, l, st, w) = za_x 134 (.iload_n 2) 5 l st w := za_n.at zcc_134 dX13_octets_5 rfl
theorem f_134_6 (l : za_L) (st : List Value) (w : za_W) : za_n 134 (6, l, st, w) = za_x 134 (.i2l) 6 l st w := za_n.at zcc_134 dX13_octets_6 rfl
theorem f_134_7 (l : za_L) (st : List Value) (w : za_W) : za_n 134 (7, l, st, w) = za_x 134 (.lconst 1) 7 l st w := za_n.at zcc_134 dX13_octets_7 rfl
theorem f_134_8 (l : za_L) (st : List Value) (w : za_W) : za_n 134 (8, l, st, w) = za_x 134 (.ldc2_w 118) 8 l st w := za_n.at zcc_134 dX13_octets_8 rfl
theorem f_134_11 (l : za_L) (st : List Value) (w : za_W) : za_n 134 (11, l, st, w) = za_x 134 (.invokestatic 114) 11 l st w := za_n.at zcc_134 dX13_octets_11 rfl
theorem f_134_14 (l : za_L) (st : List Value) (w : za_W) : za_n 134 (14, l, st, w) = za_x 134 (.ifCond .ne 5) 14 l st w := za_n.at zcc_134 dX13_octets_14 rfl
theorem f_134_17 (l : za_L) (st : List Value) (w : za_W) : za_n 134 (17, l, st, w) = za_go 18 l (.int (-1) :: st) w := (za_n.at zcc_134 dX13_octets_17 rfl).trans (congrArg (fun x => za_go 18 l (.int x :: st) w) (by decide))
theorem f_134_18 (l : za_L) (st : List Value) (w : za_W) : za_n 134 (18, l, st, w) = za_x 134 (.ireturn) 18 l st w := za_n.at zcc_134 dX13_octets_18 rfl
theorem f_134_19 (l : za_L) (st : List Value) (w : za_W) : za_n 134 (19, l, st, w) = za_x 134 (.aload_n 0) 19 l st w := za_n.at zcc_134 dX13_octets_19 rfl
theorem f_134_20 (l : za_L) (st : List Value) (w : za_W) : za_n 134 (20, l, st, w) = za_x 134 (.getfield 109) 20 l st w := za_n.at zcc_134 dX13_octets_20 rfl
theorem f_134_23 (l : za_L) (st : List Value) (w : za_W) : za_n 134 (23, l, st, w) = za_x 134 (.iload_n 2) 23 l st w := za_n.at zcc_134 dX13_octets_23 rfl
theorem f_134_24 (l : za_L) (st : List Value) (w : za_W) : za_n 134 (24, l, st, w) = za_x 134 (.iadd) 24 l st w := za_n.at zcc_134 dX13_octets_24 rfl
theorem f_134_25 (l : za_L) (st : List Value) (w : za_W) : za_n 134 (25, l, st, w) = za_go 28 l (.int (1500) :: st) w := (za_n.at zcc_134 dX13_octets_25 rfl).trans (congrArg (fun x => za_go 28 l (.int x :: st) w) (by decide))
theorem f_134_28 (l : za_L) (st : List Value) (w : za_W) : za_n 134 (28, l, st, w) = za_x 134 (.if_icmp .le 6) 28 l st w := za_n.at zcc_134 dX13_octets_28 rfl
theorem f_134_31 (l : za_L) (st : List Value) (w : za_W) : za_n 134 (31, l, st, w) = za_go 33 l (.int (-3) :: st) w := (za_n.at zcc_134 dX13_octets_31 rfl).trans (congrArg (fun x => za_go 33 l (.int x :: st) w) (by decide))
theorem f_134_33 (l : za_L) (st : List Value) (w : za_W) : za_n 134 (33, l, st, w) = za_x 134 (.ireturn) 33 l st w := za_n.at zcc_134 dX13_octets_33 rfl
theorem f_134_34 (l : za_L) (st : List Value) (w : za_W) : za_n 134 (34, l, st, w) = za_go 35 l (.int (0) :: st) w := (za_n.at zcc_134 dX13_octets_34 rfl).trans (congrArg (fun x => za_go 35 l (.int x :: st) w) (by decide))
theorem f_134_35 (l : za_L) (st : List Value) (w : za_W) : za_n 134 (35, l, st, w) = za_x 134 (.istore_n 3) 35 l st w := za_n.at zcc_134 dX13_octets_35 rfl
theorem f_134_36 (l : za_L) (st : List Value) (w : za_W) : za_n 134 (36, l, st, w) = za_x 134 (.iload_n 3) 36 l st w := za_n.at zcc_134 dX13_octets_36 rfl
theorem f_134_37 (l : za_L) (st : List Value) (w : za_W) : za_n 134 (37, l, st, w) = za_x 134 (.iload_n 2) 37 l st w := za_n.at zcc_134 dX13_octets_37 rfl
theorem f_134_38 (l : za_L) (st : List Value) (w : za_W) : za_n 134 (38, l, st, w) = za_x 134 (.if_icmp .ge 22) 38 l st w := za_n.at zcc_134 dX13_octets_38 rfl
theorem f_134_41 (l : za_L) (st : List Value) (w : za_W) : za_n 134 (41, l, st, w) = za_x 134 (.aload_n 0) 41 l st w := za_n.at zcc_134 dX13_octets_41 rfl
theorem f_134_42 (l : za_L) (st : List Value) (w : za_W) : za_n 134 (42, l, st, w) = za_x 134 (.getfield 20) 42 l st w := za_n.at zcc_134 dX13_octets_42 rfl
theorem f_134_45 (l : za_L) (st : List Value) (w : za_W) : za_n 134 (45, l, st, w) = za_x 134 (.aload_n 0) 45 l st w := za_n.at zcc_134 dX13_octets_45 rfl
theorem f_134_46 (l : za_L) (st : List Value) (w : za_W) : za_n 134 (46, l, st, w) = za_x 134 (.getfield 109) 46 l st w := za_n.at zcc_134 dX13_octets_46 rfl
theorem f_134_49 (l : za_L) (st : List Value) (w : za_W) : za_n 134 (49, l, st, w) = za_x 134 (.iload_n 3) 49 l st w := za_n.at zcc_134 dX13_octets_49 rfl
theorem f_134_50 (l : za_L) (st : List Value) (w : za_W) : za_n 134 (50, l, st, w) = za_x 134 (.iadd) 50 l st w := za_n.at zcc_134 dX13_octets_50 rfl
theorem f_134_51 (l : za_L) (st : List Value) (w : za_W) : za_n 134 (51, l, st, w) = za_x 134 (.iload_n 1) 51 l st w := za_n.at zcc_134 dX13_octets_51 rfl
theorem f_134_52 (l : za_L) (st : List Value) (w : za_W) : za_n 134 (52, l, st, w) = za_x 134 (.i2b) 52 l st w := za_n.at zcc_134 dX13_octets_52 rfl
theorem f_134_53 (l : za_L) (st : List Value) (w : za_W) : za_n 134 (53, l, st, w) = za_x 134 (.bastore) 53 l st w := za_n.at zcc_134 dX13_octets_53 rfl
theorem f_134_54 (l : za_L) (st : List Value) (w : za_W) : za_n 134 (54, l, st, w) = za_x 134 (.iinc 3 1) 54 l st w := za_n.at zcc_134 dX13_octets_54 rfl
theorem f_134_57 (l : za_L) (st : List Value) (w : za_W) : za_n 134 (57, l, st, w) = za_go 36 l st w := (za_n.at zcc_134 dX13_octets_57 rfl).trans (za_jp.at (by decide))
theorem f_134_60 (l : za_L) (st : List Value) (w : za_W) : za_n 134 (60, l, st, w) = za_x 134 (.aload_n 0) 60 l st w := za_n.at zcc_134 dX13_octets_60 rfl
theorem f_134_61 (l : za_L) (st : List Value) (w : za_W) : za_n 134 (61, l, st, w) = za_x 134 (.aload_n 0) 61 l st w := za_n.at zcc_134 dX13_octets_61 rfl
theorem f_134_62 (l : za_L) (st : List Value) (w : za_W) : za_n 134 (62, l, st, w) = za_x 134 (.getfield 109) 62 l st w := za_n.at zcc_134 dX13_octets_62 rfl
theorem f_134_65 (l : za_L) (st : List Value) (w : za_W) : za_n 134 (65, l, st, w) = za_x 134 (.iload_n 2) 65 l st w := za_n.at zcc_134 dX13_octets_65 rfl
theorem f_134_66 (l : za_L) (st : List Value) (w : za_W) : za_n 134 (66, l, st, w) = za_x 134 (.iadd) 66 l st w := za_n.at zcc_134 dX13_octets_66 rfl
theorem f_134_67 (l : za_L) (st : List Value) (w : za_W) : za_n 134 (67, l, st, w) = za_x 134 (.putfield 109) 67 l st w := za_n.at zcc_134 dX13_octets_67 rfl
theorem f_134_70 (l : za_L) (st : List Value) (w : za_W) : za_n 134 (70, l, st, w) = za_x 134 (.aload_n 0) 70 l st w := za_n.at zcc_134 dX13_octets_70 rfl
theorem f_134_71 (l : za_L) (st : List Value) (w : za_W) : za_n 134 (71, l, st, w) = za_x 134 (.getfield 109) 71 l st w := za_n.at zcc_134 dX13_octets_71 rfl
theorem f_134_74 (l : za_L) (st : List Value) (w : za_W) : za_n 134 (74, l, st, w) = za_x 134 (.ireturn) 74 l st w := za_n.at zcc_134 dX13_octets_74 rfl
theorem f_135_0 (l : za_L) (st : List Value) (w : za_W) : za_n 135 (0, l, st, w) = za_x 135 (.aload_n 0) 0 l st w := za_n.at zcc_135 dX13_rule_0 rfl
theorem f_135_1 (l : za_L) (st : List Value) (w : za_W) : za_n 135 (1, l, st, w) = za_go 2 l (.int (0) :: st) w := (za_n.at zcc_135 dX13_rule_1 rfl).trans (congrArg (fun x => za_go 2 l (.int x :: st) w) (by decide))
theorem f_135_2 (l : za_L) (st : List Value) (w : za_W) : za_n 135 (2, l, st, w) = za_x 135 (.putfield 1) 2 l st w := za_n.at zcc_135 dX13_rule_2 rfl
theorem f_135_5 (l : za_L) (st : List Value) (w : za_W) : za_n 135 (5, l, st, w) = za_x 135 (.aload_n 0) 5 l st w := za_n.at zcc_135 dX13_rule_5 rfl
theorem f_135_6 (l : za_L) (st : List Value) (w : za_W) : za_n 135 (6, l, st, w) = za_x 135 (.getfield 120) 6 l st w := za_n.at zcc_135 dX13_rule_6 rfl
theorem f_135_9 (l : za_L) (st : List Value) (w : za_W) : za_n 135 (9, l, st, w) = za_x 135 (.ireturn) 9 l st w := za_n.at zcc_135 dX13_rule_9 rfl
theorem f_136_0 (l : za_L) (st : List Value) (w : za_W) : za_n 136 (0, l, st, w) = za_x 136 (.aload_n 0) 0 l st w := za_n.at zcc_136 dX13_pass_0 rfl
theorem f_136_1 (l : za_L) (st : List Value) (w : za_W) : za_n 136 (1, l, st, w) = za_go 2 l (.int (0) :: st) w := (za_n.at zcc_136 dX13_pass_1 rfl).trans (congrArg (fun x => za_go 2 l (.int x :: st) w) (by decide))
theorem f_136_2 (l : za_L) (st : List Value) (w : za_W) : za_n 136 (2, l, st, w) = za_x 136 (.putfield 1) 2 l st w := za_n.at zcc_136 dX13_pass_2 rfl
theorem f_136_5 (l : za_L) (st : List Value) (w : za_W) : za_n 136 (5, l, st, w) = za_x 136 (.aload_n 0) 5 l st w := za_n.at zcc_136 dX13_pass_5 rfl
theorem f_136_6 (l : za_L) (st : List Value) (w : za_W) : za_n 136 (6, l, st, w) = za_x 136 (.getfield 109) 6 l st w := za_n.at zcc_136 dX13_pass_6 rfl
theorem f_136_9 (l : za_L) (st : List Value) (w : za_W) : za_n 136 (9, l, st, w) = za_x 136 (.aload_n 0) 9 l st w := za_n.at zcc_136 dX13_pass_9 rfl
theorem f_136_10 (l : za_L) (st : List Value) (w : za_W) : za_n 136 (10, l, st, w) = za_x 136 (.getfield 123) 10 l st w := za_n.at zcc_136 dX13_pass_10 rfl
theorem f_136_13 (l : za_L) (st : List Value) (w : za_W) : za_n 136 (13, l, st, w) = za_x 136 (.iadd) 13 l st w := za_n.at zcc_136 dX13_pass_13 rfl
theorem f_136_14 (l : za_L) (st : List Value) (w : za_W) : za_n 136 (14, l, st, w) = za_go 17 l (.int (1500) :: st) w := (za_n.at zcc_136 dX13_pass_14 rfl).trans (congrArg (fun x => za_go 17 l (.int x :: st) w) (by decide))
theorem f_136_17 (l : za_L) (st : List Value) (w : za_W) : za_n 136 (17, l, st, w) = za_x 136 (.if_icmp .le 6) 17 l st w := za_n.at zcc_136 dX13_pass_17 rfl
theorem f_136_20 (l : za_L) (st : List Value) (w : za_W) : za_n 136 (20, l, st, w) = za_go 22 l (.int (-3) :: st) w := (za_n.at zcc_136 dX13_pass_20 rfl).trans (congrArg (fun x => za_go 22 l (.int x :: st) w) (by decide))
theorem f_136_22 (l : za_L) (st : List Value) (w : za_W) : za_n 136 (22, l, st, w) = za_x 136 (.ireturn) 22 l st w := za_n.at zcc_136 dX13_pass_22 rfl
theorem f_136_23 (l : za_L) (st : List Value) (w : za_W) : za_n 136 (23, l, st, w) = za_go 24 l (.int (0) :: st) w := (za_n.at zcc_136 dX13_pass_23 rfl).trans (congrArg (fun x => za_go 24 l (.int x :: st) w) (by decide))
theorem f_136_24 (l : za_L) (st : List Value) (w : za_W) : za_n 136 (24, l, st, w) = za_x 136 (.istore_n 1) 24 l st w := za_n.at zcc_136 dX13_pass_24 rfl
theorem f_136_25 (l : za_L) (st : List Value) (w : za_W) : za_n 136 (25, l, st, w) = za_x 136 (.iload_n 1) 25 l st w := za_n.at zcc_136 dX13_pass_25 rfl
theorem f_136_26 (l : za_L) (st : List Value) (w : za_W) : za_n 136 (26, l, st, w) = za_x 136 (.aload_n 0) 26 l st w := za_n.at zcc_136 dX13_pass_26 rfl
theorem f_136_27 (l : za_L) (st : List Value) (w : za_W) : za_n 136 (27, l, st, w) = za_x 136 (.getfield 123) 27 l st w := za_n.at zcc_136 dX13_pass_27 rfl
theorem f_136_30 (l : za_L) (st : List Value) (w : za_W) : za_n 136 (30, l, st, w) = za_x 136 (.if_icmp .ge 26) 30 l st w := za_n.at zcc_136 dX13_pass_30 rfl
theorem f_136_33 (l : za_L) (st : List Value) (w : za_W) : za_n 136 (33, l, st, w) = za_x 136 (.aload_n 0) 33 l st w := za_n.at zcc_136 dX13_pass_33 rfl
theorem f_136_34 (l : za_L) (st : List Value) (w : za_W) : za_n 136 (34, l, st, w) = za_x 136 (.getfield 20) 34 l st w := za_n.at zcc_136 dX13_pass_34 rfl
theorem f_136_37 (l : za_L) (st : List Value) (w : za_W) : za_n 136 (37, l, st, w) = za_x 136 (.aload_n 0) 37 l st w := za_n.at zcc_136 dX13_pass_37 rfl
theorem f_136_38 (l : za_L) (st : List Value) (w : za_W) : za_n 136 (38, l, st, w) = za_x 136 (.getfield 109) 38 l st w := za_n.at zcc_136 dX13_pass_38 rfl
theorem f_136_41 (l : za_L) (st : List Value) (w : za_W) : za_n 136 (41, l, st, w) = za_x 136 (.iload_n 1) 41 l st w := za_n.at zcc_136 dX13_pass_41 rfl
theorem f_136_42 (l : za_L) (st : List Value) (w : za_W) : za_n 136 (42, l, st, w) = za_x 136 (.iadd) 42 l st w := za_n.at zcc_136 dX13_pass_42 rfl
theorem f_136_43 (l : za_L) (st : List Value) (w : za_W) : za_n 136 (43, l, st, w) = za_x 136 (.aload_n 0) 43 l st w := za_n.at zcc_136 dX13_pass_43 rfl
theorem f_136_44 (l : za_L) (st : List Value) (w : za_W) : za_n 136 (44, l, st, w) = za_x 136 (.getfield 24) 44 l st w := za_n.at zcc_136 dX13_pass_44 rfl
theorem f_136_47 (l : za_L) (st : List Value) (w : za_W) : za_n 136 (47, l, st, w) = za_x 136 (.iload_n 1) 47 l st w := za_n.at zcc_136 dX13_pass_47 rfl
theorem f_136_48 (l : za_L) (st : List Value) (w : za_W) : za_n 136 (48, l, st, w) = za_x 136 (.baload) 48 l st w := za_n.at zcc_136 dX13_pass_48 rfl
theorem f_136_49 (l : za_L) (st : List Value) (w : za_W) : za_n 136 (49, l, st, w) = za_x 136 (.bastore) 49 l st w := za_n.at zcc_136 dX13_pass_49 rfl
theorem f_136_50 (l : za_L) (st : List Value) (w : za_W) : za_n 136 (50, l, st, w) = za_x 136 (.iinc 1 1) 50 l st w := za_n.at zcc_136 dX13_pass_50 rfl
theorem f_136_53 (l : za_L) (st : List Value) (w : za_W) : za_n 136 (53, l, st, w) = za_go 25 l st w := (za_n.at zcc_136 dX13_pass_53 rfl).trans (za_jp.at (by decide))
theorem f_136_56 (l : za_L) (st : List Value) (w : za_W) : za_n 136 (56, l, st, w) = za_x 136 (.aload_n 0) 56 l st w := za_n.at zcc_136 dX13_pass_56 rfl
theorem f_136_57 (l : za_L) (st : List Value) (w : za_W) : za_n 136 (57, l, st, w) = za_x 136 (.aload_n 0) 57 l st w := za_n.at zcc_136 dX13_pass_57 rfl
theorem f_136_58 (l : za_L) (st : List Value) (w : za_W) : za_n 136 (58, l, st, w) = za_x 136 (.getfield 109) 58 l st w := za_n.at zcc_136 dX13_pass_58 rfl
theorem f_136_61 (l : za_L) (st : List Value) (w : za_W) : za_n 136 (61, l, st, w) = za_x 136 (.aload_n 0) 61 l st w := za_n.at zcc_136 dX13_pass_61 rfl
theorem f_136_62 (l : za_L) (st : List Value) (w : za_W) : za_n 136 (62, l, st, w) = za_x 136 (.getfield 123) 62 l st w := za_n.at zcc_136 dX13_pass_62 rfl
theorem f_136_65 (l : za_L) (st : List Value) (w : za_W) : za_n 136 (65, l, st, w) = za_x 136 (.iadd) 65 l st w := za_n.at zcc_136 dX13_pass_65 rfl
theorem f_136_66 (l : za_L) (st : List Value) (w : za_W) : za_n 136 (66, l, st, w) = za_x 136 (.putfield 109) 66 l st w := za_n.at zcc_136 dX13_pass_66 rfl
theorem f_136_69 (l : za_L) (st : List Value) (w : za_W) : za_n 136 (69, l, st, w) = za_x 136 (.aload_n 0) 69 l st w := za_n.at zcc_136 dX13_pass_69 rfl
theorem f_136_70 (l : za_L) (st : List Value) (w : za_W) : za_n 136 (70, l, st, w) = za_x 136 (.getfield 109) 70 l st w := za_n.at zcc_136 dX13_pass_70 rfl
theorem f_136_73 (l : za_L) (st : List Value) (w : za_W) : za_n 136 (73, l, st, w) = za_x 136 (.ireturn) 73 l st w := za_n.at zcc_136 dX13_pass_73 rfl
theorem f_137_0 (l : za_L) (st : List Value) (w : za_W) : za_n 137 (0, l, st, w) = za_x 137 (.aload_n 0) 0 l st w := za_n.at zcc_137 dX13_spoil_0 rfl
theorem f_137_1 (l : za_L) (st : List Value) (w : za_W) : za_n 137 (1, l, st, w) = za_go 2 l (.int (0) :: st) w := (za_n.at zcc_137 dX13_spoil_1 rfl).trans (congrArg (fun x => za_go 2 l (.int x :: st) w) (by decide))
theorem f_137_2 (l : za_L) (st : List Value) (w : za_W) : za_n 137 (2, l, st, w) = za_x 137 (.putfield 1) 2 l st w := za_n.at zcc_137 dX13_spoil_2 rfl
theorem f_137_5 (l : za_L) (st : List Value) (w : za_W) : za_n 137 (5, l, st, w) = za_x 137 (.iload_n 1) 5 l st w := za_n.at zcc_137 dX13_spoil_5 rfl
theorem f_137_6 (l : za_L) (st : List Value) (w : za_W) : za_n 137 (6, l, st, w) = za_x 137 (.i2l) 6 l st w := za_n.at zcc_137 dX13_spoil_6 rfl
theorem f_137_7 (l : za_L) (st : List Value) (w : za_W) : za_n 137 (7, l, st, w) = za_x 137 (.lconst 0) 7 l st w := za_n.at zcc_137 dX13_spoil_7 rfl
theorem f_137_8 (l : za_L) (st : List Value) (w : za_W) : za_n 137 (8, l, st, w) = za_x 137 (.aload_n 0) 8 l st w := za_n.at zcc_137 dX13_spoil_8 rfl
theorem f_137_9 (l : za_L) (st : List Value) (w : za_W) : za_n 137 (9, l, st, w) = za_x 137 (.getfield 109) 9 l st w := za_n.at zcc_137 dX13_spoil_9 rfl
theorem f_137_12 (l : za_L) (st : List Value) (w : za_W) : za_n 137 (12, l, st, w) = za_go 13 l (.int (1) :: st) w := (za_n.at zcc_137 dX13_spoil_12 rfl).trans (congrArg (fun x => za_go 13 l (.int x :: st) w) (by decide))
theorem f_137_13 (l : za_L) (st : List Value) (w : za_W) : za_n 137 (13, l, st, w) = za_x 137 (.isub) 13 l st w := za_n.at zcc_137 dX13_spoil_13 rfl
theorem f_137_14 (l : za_L) (st : List Value) (w : za_W) : za_n 137 (14, l, st, w) = za_x 137 (.i2l) 14 l st w := za_n.at zcc_137 dX13_spoil_14 rfl
theorem f_137_15 (l : za_L) (st : List Value) (w : za_W) : za_n 137 (15, l, st, w) = za_x 137 (.invokestatic 114) 15 l st w := za_n.at zcc_137 dX13_spoil_15 rfl
theorem f_137_18 (l : za_L) (st : List Value) (w : za_W) : za_n 137 (18, l, st, w) = za_x 137 (.ifCond .eq 15) 18 l st w := za_n.at zcc_137 dX13_spoil_18 rfl
theorem f_137_21 (l : za_L) (st : List Value) (w : za_W) : za_n 137 (21, l, st, w) = za_x 137 (.iload_n 2) 21 l st w := za_n.at zcc_137 dX13_spoil_21 rfl
theorem f_137_22 (l : za_L) (st : List Value) (w : za_W) : za_n 137 (22, l, st, w) = za_x 137 (.i2l) 22 l st w := za_n.at zcc_137 dX13_spoil_22 rfl
theorem f_137_23 (l : za_L) (st : List Value) (w : za_W) : za_n 137 (23, l, st, w) = za_x 137 (.lconst 1) 23 l st w := za_n.at zcc_137 dX13_spoil_23 rfl
theorem f_137_24 (l : za_L) (st : List Value) (w : za_W) : za_n 137 (24, l, st, w) = za_x 137 (.ldc2_w 126) 24 l st w := za_n.at zcc_137 dX13_spoil_24 rfl
theorem f_137_27 (l : za_L) (st : List Value) (w : za_W) : za_n 137 (27, l, st, w) = za_x 137 (.invokestatic 114) 27 l st w := za_n.at zcc_137 dX13_spoil_27 rfl
theorem f_137_30 (l : za_L) (st : List Value) (w : za_W) : za_n 137 (30, l, st, w) = za_x 137 (.ifCond .ne 5) 30 l st w := za_n.at zcc_137 dX13_spoil_30 rfl
theorem f_137_33 (l : za_L) (st : List Value) (w : za_W) : za_n 137 (33, l, st, w) = za_go 34 l (.int (-1) :: st) w := (za_n.at zcc_137 dX13_spoil_33 rfl).trans (congrArg (fun x => za_go 34 l (.int x :: st) w) (by decide))
theorem f_137_34 (l : za_L) (st : List Value) (w : za_W) : za_n 137 (34, l, st, w) = za_x 137 (.ireturn) 34 l st w := za_n.at zcc_137 dX13_spoil_34 rfl
theorem f_137_35 (l : za_L) (st : List Value) (w : za_W) : za_n 137 (35, l, st, w) = za_x 137 (.aload_n 0) 35 l st w := za_n.at zcc_137 dX13_spoil_35 rfl
theorem f_137_36 (l : za_L) (st : List Value) (w : za_W) : za_n 137 (36, l, st, w) = za_x 137 (.getfield 20) 36 l st w := za_n.at zcc_137 dX13_spoil_36 rfl
theorem f_137_39 (l : za_L) (st : List Value) (w : za_W) : za_n 137 (39, l, st, w) = za_x 137 (.iload_n 1) 39 l st w := za_n.at zcc_137 dX13_spoil_39 rfl
theorem f_137_40 (l : za_L) (st : List Value) (w : za_W) : za_n 137 (40, l, st, w) = za_x 137 (.aload_n 0) 40 l st w := za_n.at zcc_137 dX13_spoil_40 rfl
theorem f_137_41 (l : za_L) (st : List Value) (w : za_W) : za_n 137 (41, l, st, w) = za_x 137 (.getfield 20) 41 l st w := za_n.at zcc_137 dX13_spoil_41 rfl
theorem f_137_44 (l : za_L) (st : List Value) (w : za_W) : za_n 137 (44, l, st, w) = za_x 137 (.iload_n 1) 44 l st w := za_n.at zcc_137 dX13_spoil_44 rfl
theorem f_137_45 (l : za_L) (st : List Value) (w : za_W) : za_n 137 (45, l, st, w) = za_x 137 (.baload) 45 l st w := za_n.at zcc_137 dX13_spoil_45 rfl
theorem f_137_46 (l : za_L) (st : List Value) (w : za_W) : za_n 137 (46, l, st, w) = za_x 137 (.iload_n 2) 46 l st w := za_n.at zcc_137 dX13_spoil_46 rfl
theorem f_137_47 (l : za_L) (st : List Value) (w : za_W) : za_n 137 (47, l, st, w) = za_x 137 (.ixor) 47 l st w := za_n.at zcc_137 dX13_spoil_47 rfl
theorem f_137_48 (l : za_L) (st : List Value) (w : za_W) : za_n 137 (48, l, st, w) = za_x 137 (.i2b) 48 l st w := za_n.at zcc_137 dX13_spoil_48 rfl
theorem f_137_49 (l : za_L) (st : List Value) (w : za_W) : za_n 137 (49, l, st, w) = za_x 137 (.bastore) 49 l st w := za_n.at zcc_137 dX13_spoil_49 rfl
theorem f_137_50 (l : za_L) (st : List Value) (w : za_W) : za_n 137 (50, l, st, w) = za_x 137 (.aload_n 0) 50 l st w := za_n.at zcc_137 dX13_spoil_50 rfl
theorem f_137_51 (l : za_L) (st : List Value) (w : za_W) : za_n 137 (51, l, st, w) = za_x 137 (.getfield 20) 51 l st w := za_n.at zcc_137 dX13_spoil_51 rfl
theorem f_137_54 (l : za_L) (st : List Value) (w : za_W) : za_n 137 (54, l, st, w) = za_x 137 (.iload_n 1) 54 l st w := za_n.at zcc_137 dX13_spoil_54 rfl
theorem f_137_55 (l : za_L) (st : List Value) (w : za_W) : za_n 137 (55, l, st, w) = za_x 137 (.baload) 55 l st w := za_n.at zcc_137 dX13_spoil_55 rfl
theorem f_137_56 (l : za_L) (st : List Value) (w : za_W) : za_n 137 (56, l, st, w) = za_go 59 l (.int (255) :: st) w := (za_n.at zcc_137 dX13_spoil_56 rfl).trans (congrArg (fun x => za_go 59 l (.int x :: st) w) (by decide))
theorem f_137_59 (l : za_L) (st : List Value) (w : za_W) : za_n 137 (59, l, st, w) = za_x 137 (.iand) 59 l st w := za_n.at zcc_137 dX13_spoil_59 rfl
theorem f_137_60 (l : za_L) (st : List Value) (w : za_W) : za_n 137 (60, l, st, w) = za_x 137 (.ireturn) 60 l st w := za_n.at zcc_137 dX13_spoil_60 rfl
theorem f_138_0 (l : za_L) (st : List Value) (w : za_W) : za_n 138 (0, l, st, w) = za_x 138 (.aload_n 0) 0 l st w := za_n.at zcc_138 dX13_drop_0 rfl
theorem f_138_1 (l : za_L) (st : List Value) (w : za_W) : za_n 138 (1, l, st, w) = za_go 2 l (.int (0) :: st) w := (za_n.at zcc_138 dX13_drop_1 rfl).trans (congrArg (fun x => za_go 2 l (.int x :: st) w) (by decide))
theorem f_138_2 (l : za_L) (st : List Value) (w : za_W) : za_n 138 (2, l, st, w) = za_x 138 (.putfield 1) 2 l st w := za_n.at zcc_138 dX13_drop_2 rfl
theorem f_138_5 (l : za_L) (st : List Value) (w : za_W) : za_n 138 (5, l, st, w) = za_x 138 (.iload_n 1) 5 l st w := za_n.at zcc_138 dX13_drop_5 rfl
theorem f_138_6 (l : za_L) (st : List Value) (w : za_W) : za_n 138 (6, l, st, w) = za_x 138 (.i2l) 6 l st w := za_n.at zcc_138 dX13_drop_6 rfl
theorem f_138_7 (l : za_L) (st : List Value) (w : za_W) : za_n 138 (7, l, st, w) = za_x 138 (.lconst 0) 7 l st w := za_n.at zcc_138 dX13_drop_7 rfl
theorem f_138_8 (l : za_L) (st : List Value) (w : za_W) : za_n 138 (8, l, st, w) = za_x 138 (.aload_n 0) 8 l st w := za_n.at zcc_138 dX13_drop_8 rfl
theorem f_138_9 (l : za_L) (st : List Value) (w : za_W) : za_n 138 (9, l, st, w) = za_x 138 (.getfield 109) 9 l st w := za_n.at zcc_138 dX13_drop_9 rfl
theorem f_138_12 (l : za_L) (st : List Value) (w : za_W) : za_n 138 (12, l, st, w) = za_x 138 (.i2l) 12 l st w := za_n.at zcc_138 dX13_drop_12 rfl
theorem f_138_13 (l : za_L) (st : List Value) (w : za_W) : za_n 138 (13, l, st, w) = za_x 138 (.invokestatic 114) 13 l st w := za_n.at zcc_138 dX13_drop_13 rfl
theorem f_138_16 (l : za_L) (st : List Value) (w : za_W) : za_n 138 (16, l, st, w) = za_x 138 (.ifCond .ne 5) 16 l st w := za_n.at zcc_138 dX13_drop_16 rfl
theorem f_138_19 (l : za_L) (st : List Value) (w : za_W) : za_n 138 (19, l, st, w) = za_go 20 l (.int (-1) :: st) w := (za_n.at zcc_138 dX13_drop_19 rfl).trans (congrArg (fun x => za_go 20 l (.int x :: st) w) (by decide))
theorem f_138_20 (l : za_L) (st : List Value) (w : za_W) : za_n 138 (20, l, st, w) = za_x 138 (.ireturn) 20 l st w := za_n.at zcc_138 dX13_drop_20 rfl
theorem f_138_21 (l : za_L) (st : List Value) (w : za_W) : za_n 138 (21, l, st, w) = za_x 138 (.iload_n 1) 21 l st w := za_n.at zcc_138 dX13_drop_21 rfl
theorem f_138_22 (l : za_L) (st : List Value) (w : za_W) : za_n 138 (22, l, st, w) = za_x 138 (.istore_n 2) 22 l st w := za_n.at zcc_138 dX13_drop_22 rfl
theorem f_138_23 (l : za_L) (st : List Value) (w : za_W) : za_n 138 (23, l, st, w) = za_x 138 (.iload_n 2) 23 l st w := za_n.at zcc_138 dX13_drop_23 rfl
theorem f_138_24 (l : za_L) (st : List Value) (w : za_W) : za_n 138 (24, l, st, w) = za_x 138 (.aload_n 0) 24 l st w := za_n.at zcc_138 dX13_drop_24 rfl
theorem f_138_25 (l : za_L) (st : List Value) (w : za_W) : za_n 138 (25, l, st, w) = za_x 138 (.getfield 109) 25 l st w := za_n.at zcc_138 dX13_drop_25 rfl
theorem f_138_28 (l : za_L) (st : List Value) (w : za_W) : za_n 138 (28, l, st, w) = za_x 138 (.if_icmp .ge 23) 28 l st w := za_n.at zcc_138 dX13_drop_28 rfl
theorem f_138_31 (l : za_L) (st : List Value) (w : za_W) : za_n 138 (31, l, st, w) = za_x 138 (.aload_n 0) 31 l st w := za_n.at zcc_138 dX13_drop_31 rfl
theorem f_138_32 (l : za_L) (st : List Value) (w : za_W) : za_n 138 (32, l, st, w) = za_x 138 (.getfield 20) 32 l st w := za_n.at zcc_138 dX13_drop_32 rfl
theorem f_138_35 (l : za_L) (st : List Value) (w : za_W) : za_n 138 (35, l, st, w) = za_x 138 (.iload_n 2) 35 l st w := za_n.at zcc_138 dX13_drop_35 rfl
theorem f_138_36 (l : za_L) (st : List Value) (w : za_W) : za_n 138 (36, l, st, w) = za_x 138 (.iload_n 1) 36 l st w := za_n.at zcc_138 dX13_drop_36 rfl
theorem f_138_37 (l : za_L) (st : List Value) (w : za_W) : za_n 138 (37, l, st, w) = za_x 138 (.isub) 37 l st w := za_n.at zcc_138 dX13_drop_37 rfl
theorem f_138_38 (l : za_L) (st : List Value) (w : za_W) : za_n 138 (38, l, st, w) = za_x 138 (.aload_n 0) 38 l st w := za_n.at zcc_138 dX13_drop_38 rfl
theorem f_138_39 (l : za_L) (st : List Value) (w : za_W) : za_n 138 (39, l, st, w) = za_x 138 (.getfield 20) 39 l st w := za_n.at zcc_138 dX13_drop_39 rfl
theorem f_138_42 (l : za_L) (st : List Value) (w : za_W) : za_n 138 (42, l, st, w) = za_x 138 (.iload_n 2) 42 l st w := za_n.at zcc_138 dX13_drop_42 rfl
theorem f_138_43 (l : za_L) (st : List Value) (w : za_W) : za_n 138 (43, l, st, w) = za_x 138 (.baload) 43 l st w := za_n.at zcc_138 dX13_drop_43 rfl
theorem f_138_44 (l : za_L) (st : List Value) (w : za_W) : za_n 138 (44, l, st, w) = za_x 138 (.bastore) 44 l st w := za_n.at zcc_138 dX13_drop_44 rfl
theorem f_138_45 (l : za_L) (st : List Value) (w : za_W) : za_n 138 (45, l, st, w) = za_x 138 (.iinc 2 1) 45 l st w := za_n.at zcc_138 dX13_drop_45 rfl
theorem f_138_48 (l : za_L) (st : List Value) (w : za_W) : za_n 138 (48, l, st, w) = za_go 23 l st w := (za_n.at zcc_138 dX13_drop_48 rfl).trans (za_jp.at (by decide))
theorem f_138_51 (l : za_L) (st : List Value) (w : za_W) : za_n 138 (51, l, st, w) = za_x 138 (.aload_n 0) 51 l st w := za_n.at zcc_138 dX13_drop_51 rfl
theorem f_138_52 (l : za_L) (st : List Value) (w : za_W) : za_n 138 (52, l, st, w) = za_x 138 (.aload_n 0) 52 l st w := za_n.at zcc_138 dX13_drop_52 rfl
theorem f_138_53 (l : za_L) (st : List Value) (w : za_W) : za_n 138 (53, l, st, w) = za_x 138 (.getfield 109) 53 l st w := za_n.at zcc_138 dX13_drop_53 rfl
theorem f_138_56 (l : za_L) (st : List Value) (w : za_W) : za_n 138 (56, l, st, w) = za_x 138 (.iload_n 1) 56 l st w := za_n.at zcc_138 dX13_drop_56 rfl
theorem f_138_57 (l : za_L) (st : List Value) (w : za_W) : za_n 138 (57, l, st, w) = za_x 138 (.isub) 57 l st w := za_n.at zcc_138 dX13_drop_57 rfl
theorem f_138_58 (l : za_L) (st : List Value) (w : za_W) : za_n 138 (58, l, st, w) = za_x 138 (.putfield 109) 58 l st w := za_n.at zcc_138 dX13_drop_58 rfl
theorem f_138_61 (l : za_L) (st : List Value) (w : za_W) : za_n 138 (61, l, st, w) = za_x 138 (.aload_n 0) 61 l st w := za_n.at zcc_138 dX13_drop_61 rfl
theorem f_138_62 (l : za_L) (st : List Value) (w : za_W) : za_n 138 (62, l, st, w) = za_x 138 (.getfield 109) 62 l st w := za_n.at zcc_138 dX13_drop_62 rfl
theorem f_138_65 (l : za_L) (st : List Value) (w : za_W) : za_n 138 (65, l, st, w) = za_x 138 (.ireturn) 65 l st w := za_n.at zcc_138 dX13_drop_65 rfl
theorem f_139_0 (l : za_L) (st : List Value) (w : za_W) : za_n 139 (0, l, st, w) = za_x 139 (.aload_n 0) 0 l st w := za_n.at zcc_139 dX13_out_0 rfl
theorem f_139_1 (l : za_L) (st : List Value) (w : za_W) : za_n 139 (1, l, st, w) = za_x 139 (.iload_n 1) 1 l st w := za_n.at zcc_139 dX13_out_1 rfl
theorem f_139_2 (l : za_L) (st : List Value) (w : za_W) : za_n 139 (2, l, st, w) = za_x 139 (.i2l) 2 l st w := za_n.at zcc_139 dX13_out_2 rfl
theorem f_139_3 (l : za_L) (st : List Value) (w : za_W) : za_n 139 (3, l, st, w) = za_x 139 (.lconst 0) 3 l st w := za_n.at zcc_139 dX13_out_3 rfl
theorem f_139_4 (l : za_L) (st : List Value) (w : za_W) : za_n 139 (4, l, st, w) = za_x 139 (.aload_n 0) 4 l st w := za_n.at zcc_139 dX13_out_4 rfl
theorem f_139_5 (l : za_L) (st : List Value) (w : za_W) : za_n 139 (5, l, st, w) = za_x 139 (.getfield 123) 5 l st w := za_n.at zcc_139 dX13_out_5 rfl
theorem f_139_8 (l : za_L) (st : List Value) (w : za_W) : za_n 139 (8, l, st, w) = za_go 9 l (.int (1) :: st) w := (za_n.at zcc_139 dX13_out_8 rfl).trans (congrArg (fun x => za_go 9 l (.int x :: st) w) (by decide))
theorem f_139_9 (l : za_L) (st : List Value) (w : za_W) : za_n 139 (9, l, st, w) = za_x 139 (.isub) 9 l st w := za_n.at zcc_139 dX13_out_9 rfl
theorem f_139_10 (l : za_L) (st : List Value) (w : za_W) : za_n 139 (10, l, st, w) = za_x 139 (.i2l) 10 l st w := za_n.at zcc_139 dX13_out_10 rfl
theorem f_139_11 (l : za_L) (st : List Value) (w : za_W) : za_n 139 (11, l, st, w) = za_x 139 (.invokestatic 114) 11 l st w := za_n.at zcc_139 dX13_out_11 rfl
theorem f_139_14 (l : za_L) (st : List Value) (w : za_W) : za_n 139 (14, l, st, w) = za_x 139 (.ifCond .eq 7) 14 l st w := za_n.at zcc_139 dX13_out_14 rfl
theorem f_139_17 (l : za_L) (st : List Value) (w : za_W) : za_n 139 (17, l, st, w) = za_go 18 l (.int (0) :: st) w := (za_n.at zcc_139 dX13_out_17 rfl).trans (congrArg (fun x => za_go 18 l (.int x :: st) w) (by decide))
theorem f_139_18 (l : za_L) (st : List Value) (w : za_W) : za_n 139 (18, l, st, w) = za_go 22 l st w := (za_n.at zcc_139 dX13_out_18 rfl).trans (za_jp.at (by decide))
theorem f_139_21 (l : za_L) (st : List Value) (w : za_W) : za_n 139 (21, l, st, w) = za_go 22 l (.int (1) :: st) w := (za_n.at zcc_139 dX13_out_21 rfl).trans (congrArg (fun x => za_go 22 l (.int x :: st) w) (by decide))
theorem f_139_22 (l : za_L) (st : List Value) (w : za_W) : za_n 139 (22, l, st, w) = za_x 139 (.putfield 1) 22 l st w := za_n.at zcc_139 dX13_out_22 rfl
theorem f_139_25 (l : za_L) (st : List Value) (w : za_W) : za_n 139 (25, l, st, w) = za_x 139 (.aload_n 0) 25 l st w := za_n.at zcc_139 dX13_out_25 rfl
theorem f_139_26 (l : za_L) (st : List Value) (w : za_W) : za_n 139 (26, l, st, w) = za_x 139 (.getfield 1) 26 l st w := za_n.at zcc_139 dX13_out_26 rfl
theorem f_139_29 (l : za_L) (st : List Value) (w : za_W) : za_n 139 (29, l, st, w) = za_x 139 (.ifCond .le 7) 29 l st w := za_n.at zcc_139 dX13_out_29 rfl
theorem f_139_32 (l : za_L) (st : List Value) (w : za_W) : za_n 139 (32, l, st, w) = za_go 33 l (.int (0) :: st) w := (za_n.at zcc_139 dX13_out_32 rfl).trans (congrArg (fun x => za_go 33 l (.int x :: st) w) (by decide))
theorem f_139_33 (l : za_L) (st : List Value) (w : za_W) : za_n 139 (33, l, st, w) = za_go 46 l st w := (za_n.at zcc_139 dX13_out_33 rfl).trans (za_jp.at (by decide))
theorem f_139_36 (l : za_L) (st : List Value) (w : za_W) : za_n 139 (36, l, st, w) = za_x 139 (.aload_n 0) 36 l st w := za_n.at zcc_139 dX13_out_36 rfl
theorem f_139_37 (l : za_L) (st : List Value) (w : za_W) : za_n 139 (37, l, st, w) = za_x 139 (.getfield 24) 37 l st w := za_n.at zcc_139 dX13_out_37 rfl
theorem f_139_40 (l : za_L) (st : List Value) (w : za_W) : za_n 139 (40, l, st, w) = za_x 139 (.iload_n 1) 40 l st w := za_n.at zcc_139 dX13_out_40 rfl
theorem f_139_41 (l : za_L) (st : List Value) (w : za_W) : za_n 139 (41, l, st, w) = za_x 139 (.baload) 41 l st w := za_n.at zcc_139 dX13_out_41 rfl
theorem f_139_42 (l : za_L) (st : List Value) (w : za_W) : za_n 139 (42, l, st, w) = za_go 45 l (.int (255) :: st) w := (za_n.at zcc_139 dX13_out_42 rfl).trans (congrArg (fun x => za_go 45 l (.int x :: st) w) (by decide))
theorem f_139_45 (l : za_L) (st : List Value) (w : za_W) : za_n 139 (45, l, st, w) = za_x 139 (.iand) 45 l st w := za_n.at zcc_139 dX13_out_45 rfl
theorem f_139_46 (l : za_L) (st : List Value) (w : za_W) : za_n 139 (46, l, st, w) = za_x 139 (.ireturn) 46 l st w := za_n.at zcc_139 dX13_out_46 rfl
theorem f_140_0 (l : za_L) (st : List Value) (w : za_W) : za_n 140 (0, l, st, w) = za_x 140 (.aload_n 0) 0 l st w := za_n.at zcc_140 dX13_count_0 rfl
theorem f_140_1 (l : za_L) (st : List Value) (w : za_W) : za_n 140 (1, l, st, w) = za_go 2 l (.int (0) :: st) w := (za_n.at zcc_140 dX13_count_1 rfl).trans (congrArg (fun x => za_go 2 l (.int x :: st) w) (by decide))
theorem f_140_2 (l : za_L) (st : List Value) (w : za_W) : za_n 140 (2, l, st, w) = za_x 140 (.putfield 1) 2 l st w := za_n.at zcc_140 dX13_count_2 rfl
theorem f_140_5 (l : za_L) (st : List Value) (w : za_W) : za_n 140 (5, l, st, w) = za_x 140 (.iload_n 1) 5 l st w := za_n.at zcc_140 dX13_count_5 rfl
theorem f_140_6 (l : za_L) (st : List Value) (w : za_W) : za_n 140 (6, l, st, w) = za_x 140 (.ifCond .ne 10) 6 l st w := za_n.at zcc_140 dX13_count_6 rfl
theorem f_140_9 (l : za_L) (st : List Value) (w : za_W) : za_n 140 (9, l, st, w) = za_x 140 (.aload_n 0) 9 l st w := za_n.at zcc_140 dX13_count_9 rfl
theorem f_140_10 (l : za_L) (st : List Value) (w : za_W) : za_n 140 (10, l, st, w) = za_x 140 (.getfield 109) 10 l st w := za_n.at zcc_140 dX13_count_10 rfl
theorem f_140_13 (l : za_L) (st : List Value) (w : za_W) : za_n 140 (13, l, st, w) = za_go 53 l st w := (za_n.at zcc_140 dX13_count_13 rfl).trans (za_jp.at (by decide))
theorem f_140_16 (l : za_L) (st : List Value) (w : za_W) : za_n 140 (16, l, st, w) = za_x 140 (.iload_n 1) 16 l st w := za_n.at zcc_140 dX13_count_16 rfl
theorem f_140_17 (l : za_L) (st : List Value) (w : za_W) : za_n 140 (17, l, st, w) = za_go 18 l (.int (1) :: st) w := (za_n.at zcc_140 dX13_count_17 rfl).trans (congrArg (fun x => za_go 18 l (.int x :: st) w) (by decide))
theorem f_140_18 (l : za_L) (st : List Value) (w : za_W) : za_n 140 (18, l, st, w) = za_x 140 (.if_icmp .ne 10) 18 l st w := za_n.at zcc_140 dX13_count_18 rfl
theorem f_140_21 (l : za_L) (st : List Value) (w : za_W) : za_n 140 (21, l, st, w) = za_x 140 (.aload_n 0) 21 l st w := za_n.at zcc_140 dX13_count_21 rfl
theorem f_140_22 (l : za_L) (st : List Value) (w : za_W) : za_n 140 (22, l, st, w) = za_x 140 (.getfield 123) 22 l st w := za_n.at zcc_140 dX13_count_22 rfl
theorem f_140_25 (l : za_L) (st : List Value) (w : za_W) : za_n 140 (25, l, st, w) = za_go 53 l st w := (za_n.at zcc_140 dX13_count_25 rfl).trans (za_jp.at (by decide))
theorem f_140_28 (l : za_L) (st : List Value) (w : za_W) : za_n 140 (28, l, st, w) = za_x 140 (.iload_n 1) 28 l st w := za_n.at zcc_140 dX13_count_28 rfl
theorem f_140_29 (l : za_L) (st : List Value) (w : za_W) : za_n 140 (29, l, st, w) = za_go 30 l (.int (2) :: st) w := (za_n.at zcc_140 dX13_count_29 rfl).trans (congrArg (fun x => za_go 30 l (.int x :: st) w) (by decide))
theorem f_140_30 (l : za_L) (st : List Value) (w : za_W) : za_n 140 (30, l, st, w) = za_x 140 (.if_icmp .ne 10) 30 l st w := za_n.at zcc_140 dX13_count_30 rfl
theorem f_140_33 (l : za_L) (st : List Value) (w : za_W) : za_n 140 (33, l, st, w) = za_x 140 (.aload_n 0) 33 l st w := za_n.at zcc_140 dX13_count_33 rfl
theorem f_140_34 (l : za_L) (st : List Value) (w : za_W) : za_n 140 (34, l, st, w) = za_x 140 (.getfield 128) 34 l st w := za_n.at zcc_140 dX13_count_34 rfl
theorem f_140_37 (l : za_L) (st : List Value) (w : za_W) : za_n 140 (37, l, st, w) = za_go 53 l st w := (za_n.at zcc_140 dX13_count_37 rfl).trans (za_jp.at (by decide))
theorem f_140_40 (l : za_L) (st : List Value) (w : za_W) : za_n 140 (40, l, st, w) = za_x 140 (.iload_n 1) 40 l st w := za_n.at zcc_140 dX13_count_40 rfl
theorem f_140_41 (l : za_L) (st : List Value) (w : za_W) : za_n 140 (41, l, st, w) = za_go 42 l (.int (3) :: st) w := (za_n.at zcc_140 dX13_count_41 rfl).trans (congrArg (fun x => za_go 42 l (.int x :: st) w) (by decide))
theorem f_140_42 (l : za_L) (st : List Value) (w : za_W) : za_n 140 (42, l, st, w) = za_x 140 (.if_icmp .ne 10) 42 l st w := za_n.at zcc_140 dX13_count_42 rfl
theorem f_140_45 (l : za_L) (st : List Value) (w : za_W) : za_n 140 (45, l, st, w) = za_x 140 (.aload_n 0) 45 l st w := za_n.at zcc_140 dX13_count_45 rfl
theorem f_140_46 (l : za_L) (st : List Value) (w : za_W) : za_n 140 (46, l, st, w) = za_x 140 (.getfield 106) 46 l st w := za_n.at zcc_140 dX13_count_46 rfl
theorem f_140_49 (l : za_L) (st : List Value) (w : za_W) : za_n 140 (49, l, st, w) = za_go 53 l st w := (za_n.at zcc_140 dX13_count_49 rfl).trans (za_jp.at (by decide))
theorem f_140_52 (l : za_L) (st : List Value) (w : za_W) : za_n 140 (52, l, st, w) = za_go 53 l (.int (-1) :: st) w := (za_n.at zcc_140 dX13_count_52 rfl).trans (congrArg (fun x => za_go 53 l (.int x :: st) w) (by decide))
theorem f_140_53 (l : za_L) (st : List Value) (w : za_W) : za_n 140 (53, l, st, w) = za_x 140 (.ireturn) 53 l st w := za_n.at zcc_140 dX13_count_53 rfl
theorem f_141_0 (l : za_L) (st : List Value) (w : za_W) : za_n 141 (0, l, st, w) = za_x 141 (.aload_n 0) 0 l st w := za_n.at zcc_141 dX13_note_0 rfl
theorem f_141_1 (l : za_L) (st : List Value) (w : za_W) : za_n 141 (1, l, st, w) = za_x 141 (.getfield 131) 1 l st w := za_n.at zcc_141 dX13_note_1 rfl
theorem f_141_4 (l : za_L) (st : List Value) (w : za_W) : za_n 141 (4, l, st, w) = za_go 6 l (.int (60) :: st) w := (za_n.at zcc_141 dX13_note_4 rfl).trans (congrArg (fun x => za_go 6 l (.int x :: st) w) (by decide))
theorem f_141_6 (l : za_L) (st : List Value) (w : za_W) : za_n 141 (6, l, st, w) = za_x 141 (.if_icmp .ge 120) 6 l st w := za_n.at zcc_141 dX13_note_6 rfl
theorem f_141_9 (l : za_L) (st : List Value) (w : za_W) : za_n 141 (9, l, st, w) = za_go 11 l (.int (9) :: st) w := (za_n.at zcc_141 dX13_note_9 rfl).trans (congrArg (fun x => za_go 11 l (.int x :: st) w) (by decide))
theorem f_141_11 (l : za_L) (st : List Value) (w : za_W) : za_n 141 (11, l, st, w) = za_x 141 (.aload_n 0) 11 l st w := za_n.at zcc_141 dX13_note_11 rfl
theorem f_141_12 (l : za_L) (st : List Value) (w : za_W) : za_n 141 (12, l, st, w) = za_x 141 (.getfield 131) 12 l st w := za_n.at zcc_141 dX13_note_12 rfl
theorem f_141_15 (l : za_L) (st : List Value) (w : za_W) : za_n 141 (15, l, st, w) = za_x 141 (.imul) 15 l st w := za_n.at zcc_141 dX13_note_15 rfl
theorem f_141_16 (l : za_L) (st : List Value) (w : za_W) : za_n 141 (16, l, st, w) = za_x 141 (.istore 11) 16 l st w := za_n.at zcc_141 dX13_note_16 rfl
theorem f_141_18 (l : za_L) (st : List Value) (w : za_W) : za_n 141 (18, l, st, w) = za_x 141 (.aload_n 0) 18 l st w := za_n.at zcc_141 dX13_note_18 rfl
theorem f_141_19 (l : za_L) (st : List Value) (w : za_W) : za_n 141 (19, l, st, w) = za_x 141 (.getfield 30) 19 l st w := za_n.at zcc_141 dX13_note_19 rfl
theorem f_141_22 (l : za_L) (st : List Value) (w : za_W) : za_n 141 (22, l, st, w) = za_x 141 (.iload 11) 22 l st w := za_n.at zcc_141 dX13_note_22 rfl
theorem f_141_24 (l : za_L) (st : List Value) (w : za_W) : za_n 141 (24, l, st, w) = za_x 141 (.iload_n 1) 24 l st w := za_n.at zcc_141 dX13_note_24 rfl
theorem f_141_25 (l : za_L) (st : List Value) (w : za_W) : za_n 141 (25, l, st, w) = za_x 141 (.iastore) 25 l st w := za_n.at zcc_141 dX13_note_25 rfl
theorem f_141_26 (l : za_L) (st : List Value) (w : za_W) : za_n 141 (26, l, st, w) = za_x 141 (.aload_n 0) 26 l st w := za_n.at zcc_141 dX13_note_26 rfl
theorem f_141_27 (l : za_L) (st : List Value) (w : za_W) : za_n 141 (27, l, st, w) = za_x 141 (.getfield 30) 27 l st w := za_n.at zcc_141 dX13_note_27 rfl
theorem f_141_30 (l : za_L) (st : List Value) (w : za_W) : za_n 141 (30, l, st, w) = za_x 141 (.iload 11) 30 l st w := za_n.at zcc_141 dX13_note_30 rfl
theorem f_141_32 (l : za_L) (st : List Value) (w : za_W) : za_n 141 (32, l, st, w) = za_go 33 l (.int (1) :: st) w := (za_n.at zcc_141 dX13_note_32 rfl).trans (congrArg (fun x => za_go 33 l (.int x :: st) w) (by decide))
theorem f_141_33 (l : za_L) (st : List Value) (w : za_W) : za_n 141 (33, l, st, w) = za_x 141 (.iadd) 33 l st w := za_n.at zcc_141 dX13_note_33 rfl
theorem f_141_34 (l : za_L) (st : List Value) (w : za_W) : za_n 141 (34, l, st, w) = za_x 141 (.iload_n 2) 34 l st w := za_n.at zcc_141 dX13_note_34 rfl
theorem f_141_35 (l : za_L) (st : List Value) (w : za_W) : za_n 141 (35, l, st, w) = za_x 141 (.iastore) 35 l st w := za_n.at zcc_141 dX13_note_35 rfl
theorem f_141_36 (l : za_L) (st : List Value) (w : za_W) : za_n 141 (36, l, st, w) = za_x 141 (.aload_n 0) 36 l st w := za_n.at zcc_141 dX13_note_36 rfl
theorem f_141_37 (l : za_L) (st : List Value) (w : za_W) : za_n 141 (37, l, st, w) = za_x 141 (.getfield 30) 37 l st w := za_n.at zcc_141 dX13_note_37 rfl
theorem f_141_40 (l : za_L) (st : List Value) (w : za_W) : za_n 141 (40, l, st, w) = za_x 141 (.iload 11) 40 l st w := za_n.at zcc_141 dX13_note_40 rfl
theorem f_141_42 (l : za_L) (st : List Value) (w : za_W) : za_n 141 (42, l, st, w) = za_go 43 l (.int (2) :: st) w := (za_n.at zcc_141 dX13_note_42 rfl).trans (congrArg (fun x => za_go 43 l (.int x :: st) w) (by decide))
theorem f_141_43 (l : za_L) (st : List Value) (w : za_W) : za_n 141 (43, l, st, w) = za_x 141 (.iadd) 43 l st w := za_n.at zcc_141 dX13_note_43 rfl
theorem f_141_44 (l : za_L) (st : List Value) (w : za_W) : za_n 141 (44, l, st, w) = za_x 141 (.iload_n 3) 44 l st w := za_n.at zcc_141 dX13_note_44 rfl
theorem f_141_45 (l : za_L) (st : List Value) (w : za_W) : za_n 141 (45, l, st, w) = za_x 141 (.iastore) 45 l st w := za_n.at zcc_141 dX13_note_45 rfl
theorem f_141_46 (l : za_L) (st : List Value) (w : za_W) : za_n 141 (46, l, st, w) = za_x 141 (.aload_n 0) 46 l st w := za_n.at zcc_141 dX13_note_46 rfl
theorem f_141_47 (l : za_L) (st : List Value) (w : za_W) : za_n 141 (47, l, st, w) = za_x 141 (.getfield 30) 47 l st w := za_n.at zcc_141 dX13_note_47 rfl
theorem f_141_50 (l : za_L) (st : List Value) (w : za_W) : za_n 141 (50, l, st, w) = za_x 141 (.iload 11) 50 l st w := za_n.at zcc_141 dX13_note_50 rfl
theorem f_141_52 (l : za_L) (st : List Value) (w : za_W) : za_n 141 (52, l, st, w) = za_go 53 l (.int (3) :: st) w := (za_n.at zcc_141 dX13_note_52 rfl).trans (congrArg (fun x => za_go 53 l (.int x :: st) w) (by decide))
theorem f_141_53 (l : za_L) (st : List Value) (w : za_W) : za_n 141 (53, l, st, w) = za_x 141 (.iadd) 53 l st w := za_n.at zcc_141 dX13_note_53 rfl
theorem f_141_54 (l : za_L) (st : List Value) (w : za_W) : za_n 141 (54, l, st, w) = za_x 141 (.iload 4) 54 l st w := za_n.at zcc_141 dX13_note_54 rfl
theorem f_141_56 (l : za_L) (st : List Value) (w : za_W) : za_n 141 (56, l, st, w) = za_x 141 (.iastore) 56 l st w := za_n.at zcc_141 dX13_note_56 rfl
theorem f_141_57 (l : za_L) (st : List Value) (w : za_W) : za_n 141 (57, l, st, w) = za_x 141 (.aload_n 0) 57 l st w := za_n.at zcc_141 dX13_note_57 rfl
theorem f_141_58 (l : za_L) (st : List Value) (w : za_W) : za_n 141 (58, l, st, w) = za_x 141 (.getfield 30) 58 l st w := za_n.at zcc_141 dX13_note_58 rfl
theorem f_141_61 (l : za_L) (st : List Value) (w : za_W) : za_n 141 (61, l, st, w) = za_x 141 (.iload 11) 61 l st w := za_n.at zcc_141 dX13_note_61 rfl
theorem f_141_63 (l : za_L) (st : List Value) (w : za_W) : za_n 141 (63, l, st, w) = za_go 64 l (.int (4) :: st) w := (za_n.at zcc_141 dX13_note_63 rfl).trans (congrArg (fun x => za_go 64 l (.int x :: st) w) (by decide))
theorem f_141_64 (l : za_L) (st : List Value) (w : za_W) : za_n 141 (64, l, st, w) = za_x 141 (.iadd) 64 l st w := za_n.at zcc_141 dX13_note_64 rfl
theorem f_141_65 (l : za_L) (st : List Value) (w : za_W) : za_n 141 (65, l, st, w) = za_x 141 (.iload 5) 65 l st w := za_n.at zcc_141 dX13_note_65 rfl
theorem f_141_67 (l : za_L) (st : List Value) (w : za_W) : za_n 141 (67, l, st, w) = za_x 141 (.iastore) 67 l st w := za_n.at zcc_141 dX13_note_67 rfl
theorem f_141_68 (l : za_L) (st : List Value) (w : za_W) : za_n 141 (68, l, st, w) = za_x 141 (.aload_n 0) 68 l st w := za_n.at zcc_141 dX13_note_68 rfl
theorem f_141_69 (l : za_L) (st : List Value) (w : za_W) : za_n 141 (69, l, st, w) = za_x 141 (.getfield 30) 69 l st w := za_n.at zcc_141 dX13_note_69 rfl
theorem f_141_72 (l : za_L) (st : List Value) (w : za_W) : za_n 141 (72, l, st, w) = za_x 141 (.iload 11) 72 l st w := za_n.at zcc_141 dX13_note_72 rfl
theorem f_141_74 (l : za_L) (st : List Value) (w : za_W) : za_n 141 (74, l, st, w) = za_go 75 l (.int (5) :: st) w := (za_n.at zcc_141 dX13_note_74 rfl).trans (congrArg (fun x => za_go 75 l (.int x :: st) w) (by decide))
theorem f_141_75 (l : za_L) (st : List Value) (w : za_W) : za_n 141 (75, l, st, w) = za_x 141 (.iadd) 75 l st w := za_n.at zcc_141 dX13_note_75 rfl
theorem f_141_76 (l : za_L) (st : List Value) (w : za_W) : za_n 141 (76, l, st, w) = za_x 141 (.iload 6) 76 l st w := za_n.at zcc_141 dX13_note_76 rfl
theorem f_141_78 (l : za_L) (st : List Value) (w : za_W) : za_n 141 (78, l, st, w) = za_x 141 (.iastore) 78 l st w := za_n.at zcc_141 dX13_note_78 rfl
theorem f_141_79 (l : za_L) (st : List Value) (w : za_W) : za_n 141 (79, l, st, w) = za_x 141 (.aload_n 0) 79 l st w := za_n.at zcc_141 dX13_note_79 rfl
theorem f_141_80 (l : za_L) (st : List Value) (w : za_W) : za_n 141 (80, l, st, w) = za_x 141 (.getfield 30) 80 l st w := za_n.at zcc_141 dX13_note_80 rfl
theorem f_141_83 (l : za_L) (st : List Value) (w : za_W) : za_n 141 (83, l, st, w) = za_x 141 (.iload 11) 83 l st w := za_n.at zcc_141 dX13_note_83 rfl
theorem f_141_85 (l : za_L) (st : List Value) (w : za_W) : za_n 141 (85, l, st, w) = za_go 87 l (.int (6) :: st) w := (za_n.at zcc_141 dX13_note_85 rfl).trans (congrArg (fun x => za_go 87 l (.int x :: st) w) (by decide))
theorem f_141_87 (l : za_L) (st : List Value) (w : za_W) : za_n 141 (87, l, st, w) = za_x 141 (.iadd) 87 l st w := za_n.at zcc_141 dX13_note_87 rfl
theorem f_141_88 (l : za_L) (st : List Value) (w : za_W) : za_n 141 (88, l, st, w) = za_x 141 (.iload 7) 88 l st w := za_n.at zcc_141 dX13_note_88 rfl
theorem f_141_90 (l : za_L) (st : List Value) (w : za_W) : za_n 141 (90, l, st, w) = za_x 141 (.iastore) 90 l st w := za_n.at zcc_141 dX13_note_90 rfl
theorem f_141_91 (l : za_L) (st : List Value) (w : za_W) : za_n 141 (91, l, st, w) = za_x 141 (.aload_n 0) 91 l st w := za_n.at zcc_141 dX13_note_91 rfl
theorem f_141_92 (l : za_L) (st : List Value) (w : za_W) : za_n 141 (92, l, st, w) = za_x 141 (.getfield 30) 92 l st w := za_n.at zcc_141 dX13_note_92 rfl
theorem f_141_95 (l : za_L) (st : List Value) (w : za_W) : za_n 141 (95, l, st, w) = za_x 141 (.iload 11) 95 l st w := za_n.at zcc_141 dX13_note_95 rfl
theorem f_141_97 (l : za_L) (st : List Value) (w : za_W) : za_n 141 (97, l, st, w) = za_go 99 l (.int (7) :: st) w := (za_n.at zcc_141 dX13_note_97 rfl).trans (congrArg (fun x => za_go 99 l (.int x :: st) w) (by decide))
theorem f_141_99 (l : za_L) (st : List Value) (w : za_W) : za_n 141 (99, l, st, w) = za_x 141 (.iadd) 99 l st w := za_n.at zcc_141 dX13_note_99 rfl
theorem f_141_100 (l : za_L) (st : List Value) (w : za_W) : za_n 141 (100, l, st, w) = za_x 141 (.iload 8) 100 l st w := za_n.at zcc_141 dX13_note_100 rfl
theorem f_141_102 (l : za_L) (st : List Value) (w : za_W) : za_n 141 (102, l, st, w) = za_x 141 (.iastore) 102 l st w := za_n.at zcc_141 dX13_note_102 rfl
theorem f_141_103 (l : za_L) (st : List Value) (w : za_W) : za_n 141 (103, l, st, w) = za_x 141 (.aload_n 0) 103 l st w := za_n.at zcc_141 dX13_note_103 rfl
theorem f_141_104 (l : za_L) (st : List Value) (w : za_W) : za_n 141 (104, l, st, w) = za_x 141 (.getfield 30) 104 l st w := za_n.at zcc_141 dX13_note_104 rfl
theorem f_141_107 (l : za_L) (st : List Value) (w : za_W) : za_n 141 (107, l, st, w) = za_x 141 (.iload 11) 107 l st w := za_n.at zcc_141 dX13_note_107 rfl
theorem f_141_109 (l : za_L) (st : List Value) (w : za_W) : za_n 141 (109, l, st, w) = za_go 111 l (.int (8) :: st) w := (za_n.at zcc_141 dX13_note_109 rfl).trans (congrArg (fun x => za_go 111 l (.int x :: st) w) (by decide))
theorem f_141_111 (l : za_L) (st : List Value) (w : za_W) : za_n 141 (111, l, st, w) = za_x 141 (.iadd) 111 l st w := za_n.at zcc_141 dX13_note_111 rfl
theorem f_141_112 (l : za_L) (st : List Value) (w : za_W) : za_n 141 (112, l, st, w) = za_x 141 (.iload 9) 112 l st w := za_n.at zcc_141 dX13_note_112 rfl
theorem f_141_114 (l : za_L) (st : List Value) (w : za_W) : za_n 141 (114, l, st, w) = za_x 141 (.iastore) 114 l st w := za_n.at zcc_141 dX13_note_114 rfl
theorem f_141_115 (l : za_L) (st : List Value) (w : za_W) : za_n 141 (115, l, st, w) = za_x 141 (.aload_n 0) 115 l st w := za_n.at zcc_141 dX13_note_115 rfl
theorem f_141_116 (l : za_L) (st : List Value) (w : za_W) : za_n 141 (116, l, st, w) = za_x 141 (.getfield 34) 116 l st w := za_n.at zcc_141 dX13_note_116 rfl
theorem f_141_119 (l : za_L) (st : List Value) (w : za_W) : za_n 141 (119, l, st, w) = za_x 141 (.aload_n 0) 119 l st w := za_n.at zcc_141 dX13_note_119 rfl
theorem f_141_120 (l : za_L) (st : List Value) (w : za_W) : za_n 141 (120, l, st, w) = za_x 141 (.getfield 131) 120 l st w := za_n.at zcc_141 dX13_note_120 rfl
theorem f_141_123 (l : za_L) (st : List Value) (w : za_W) : za_n 141 (123, l, st, w) = za_x 141 (.iload 10) 123 l st w := za_n.at zcc_141 dX13_note_123 rfl
theorem f_141_125 (l : za_L) (st : List Value) (w : za_W) : za_n 141 (125, l, st, w) = za_x 141 (.iastore) 125 l st w := za_n.at zcc_141 dX13_note_125 rfl
theorem f_141_126 (l : za_L) (st : List Value) (w : za_W) : za_n 141 (126, l, st, w) = za_x 141 (.aload_n 0) 126 l st w := za_n.at zcc_141 dX13_note_126 rfl
theorem f_141_127 (l : za_L) (st : List Value) (w : za_W) : za_n 141 (127, l, st, w) = za_x 141 (.dup) 127 l st w := za_n.at zcc_141 dX13_note_127 rfl
theorem f_141_128 (l : za_L) (st : List Value) (w : za_W) : za_n 141 (128, l, st, w) = za_x 141 (.getfield 131) 128 l st w := za_n.at zcc_141 dX13_note_128 rfl
theorem f_141_131 (l : za_L) (st : List Value) (w : za_W) : za_n 141 (131, l, st, w) = za_go 132 l (.int (1) :: st) w := (za_n.at zcc_141 dX13_note_131 rfl).trans (congrArg (fun x => za_go 132 l (.int x :: st) w) (by decide))
theorem f_141_132 (l : za_L) (st : List Value) (w : za_W) : za_n 141 (132, l, st, w) = za_x 141 (.iadd) 132 l st w := za_n.at zcc_141 dX13_note_132 rfl
theorem f_141_133 (l : za_L) (st : List Value) (w : za_W) : za_n 141 (133, l, st, w) = za_x 141 (.putfield 131) 133 l st w := za_n.at zcc_141 dX13_note_133 rfl
theorem f_141_136 (l : za_L) (st : List Value) (w : za_W) : za_n 141 (136, l, st, w) = za_x 141 (.return_) 136 l st w := za_n.at zcc_141 dX13_note_136 rfl
theorem f_142_0 (l : za_L) (st : List Value) (w : za_W) : za_n 142 (0, l, st, w) = za_x 142 (.aload_n 0) 0 l st w := za_n.at zcc_142 dX13_toldBlocks_0 rfl
theorem f_142_1 (l : za_L) (st : List Value) (w : za_W) : za_n 142 (1, l, st, w) = za_x 142 (.getfield 131) 1 l st w := za_n.at zcc_142 dX13_toldBlocks_1 rfl
theorem f_142_4 (l : za_L) (st : List Value) (w : za_W) : za_n 142 (4, l, st, w) = za_go 6 l (.int (60) :: st) w := (za_n.at zcc_142 dX13_toldBlocks_4 rfl).trans (congrArg (fun x => za_go 6 l (.int x :: st) w) (by decide))
theorem f_142_6 (l : za_L) (st : List Value) (w : za_W) : za_n 142 (6, l, st, w) = za_x 142 (.if_icmp .ge 10) 6 l st w := za_n.at zcc_142 dX13_toldBlocks_6 rfl
theorem f_142_9 (l : za_L) (st : List Value) (w : za_W) : za_n 142 (9, l, st, w) = za_x 142 (.aload_n 0) 9 l st w := za_n.at zcc_142 dX13_toldBlocks_9 rfl
theorem f_142_10 (l : za_L) (st : List Value) (w : za_W) : za_n 142 (10, l, st, w) = za_x 142 (.getfield 131) 10 l st w := za_n.at zcc_142 dX13_toldBlocks_10 rfl
theorem f_142_13 (l : za_L) (st : List Value) (w : za_W) : za_n 142 (13, l, st, w) = za_go 18 l st w := (za_n.at zcc_142 dX13_toldBlocks_13 rfl).trans (za_jp.at (by decide))
theorem f_142_16 (l : za_L) (st : List Value) (w : za_W) : za_n 142 (16, l, st, w) = za_go 18 l (.int (60) :: st) w := (za_n.at zcc_142 dX13_toldBlocks_16 rfl).trans (congrArg (fun x => za_go 18 l (.int x :: st) w) (by decide))
theorem f_142_18 (l : za_L) (st : List Value) (w : za_W) : za_n 142 (18, l, st, w) = za_x 142 (.ireturn) 18 l st w := za_n.at zcc_142 dX13_toldBlocks_18 rfl
theorem f_143_0 (l : za_L) (st : List Value) (w : za_W) : za_n 143 (0, l, st, w) = za_x 143 (.aload_n 0) 0 l st w := za_n.at zcc_143 dX13_block_0 rfl
theorem f_143_1 (l : za_L) (st : List Value) (w : za_W) : za_n 143 (1, l, st, w) = za_go 2 l (.int (0) :: st) w := (za_n.at zcc_143 dX13_block_1 rfl).trans (congrArg (fun x => za_go 2 l (.int x :: st) w) (by decide))
theorem f_143_2 (l : za_L) (st : List Value) (w : za_W) : za_n 143 (2, l, st, w) = za_x 143 (.putfield 1) 2 l st w := za_n.at zcc_143 dX13_block_2 rfl
theorem f_143_5 (l : za_L) (st : List Value) (w : za_W) : za_n 143 (5, l, st, w) = za_x 143 (.iload_n 1) 5 l st w := za_n.at zcc_143 dX13_block_5 rfl
theorem f_143_6 (l : za_L) (st : List Value) (w : za_W) : za_n 143 (6, l, st, w) = za_go 7 l (.int (-1) :: st) w := (za_n.at zcc_143 dX13_block_6 rfl).trans (congrArg (fun x => za_go 7 l (.int x :: st) w) (by decide))
theorem f_143_7 (l : za_L) (st : List Value) (w : za_W) : za_n 143 (7, l, st, w) = za_x 143 (.if_icmp .ne 12) 7 l st w := za_n.at zcc_143 dX13_block_7 rfl
theorem f_143_10 (l : za_L) (st : List Value) (w : za_W) : za_n 143 (10, l, st, w) = za_x 143 (.iload_n 2) 10 l st w := za_n.at zcc_143 dX13_block_10 rfl
theorem f_143_11 (l : za_L) (st : List Value) (w : za_W) : za_n 143 (11, l, st, w) = za_x 143 (.ifCond .ne 8) 11 l st w := za_n.at zcc_143 dX13_block_11 rfl
theorem f_143_14 (l : za_L) (st : List Value) (w : za_W) : za_n 143 (14, l, st, w) = za_x 143 (.aload_n 0) 14 l st w := za_n.at zcc_143 dX13_block_14 rfl
theorem f_143_15 (l : za_L) (st : List Value) (w : za_W) : za_n 143 (15, l, st, w) = za_x 143 (.getfield 131) 15 l st w := za_n.at zcc_143 dX13_block_15 rfl
theorem f_143_18 (l : za_L) (st : List Value) (w : za_W) : za_n 143 (18, l, st, w) = za_x 143 (.ireturn) 18 l st w := za_n.at zcc_143 dX13_block_18 rfl
theorem f_143_19 (l : za_L) (st : List Value) (w : za_W) : za_n 143 (19, l, st, w) = za_x 143 (.iload_n 1) 19 l st w := za_n.at zcc_143 dX13_block_19 rfl
theorem f_143_20 (l : za_L) (st : List Value) (w : za_W) : za_n 143 (20, l, st, w) = za_x 143 (.i2l) 20 l st w := za_n.at zcc_143 dX13_block_20 rfl
theorem f_143_21 (l : za_L) (st : List Value) (w : za_W) : za_n 143 (21, l, st, w) = za_x 143 (.lconst 0) 21 l st w := za_n.at zcc_143 dX13_block_21 rfl
theorem f_143_22 (l : za_L) (st : List Value) (w : za_W) : za_n 143 (22, l, st, w) = za_x 143 (.aload_n 0) 22 l st w := za_n.at zcc_143 dX13_block_22 rfl
theorem f_143_23 (l : za_L) (st : List Value) (w : za_W) : za_n 143 (23, l, st, w) = za_x 143 (.invokevirtual 134) 23 l st w := za_n.at zcc_143 dX13_block_23 rfl
theorem f_143_26 (l : za_L) (st : List Value) (w : za_W) : za_n 143 (26, l, st, w) = za_go 27 l (.int (1) :: st) w := (za_n.at zcc_143 dX13_block_26 rfl).trans (congrArg (fun x => za_go 27 l (.int x :: st) w) (by decide))
theorem f_143_27 (l : za_L) (st : List Value) (w : za_W) : za_n 143 (27, l, st, w) = za_x 143 (.isub) 27 l st w := za_n.at zcc_143 dX13_block_27 rfl
theorem f_143_28 (l : za_L) (st : List Value) (w : za_W) : za_n 143 (28, l, st, w) = za_x 143 (.i2l) 28 l st w := za_n.at zcc_143 dX13_block_28 rfl
theorem f_143_29 (l : za_L) (st : List Value) (w : za_W) : za_n 143 (29, l, st, w) = za_x 143 (.invokestatic 114) 29 l st w := za_n.at zcc_143 dX13_block_29 rfl
theorem f_143_32 (l : za_L) (st : List Value) (w : za_W) : za_n 143 (32, l, st, w) = za_x 143 (.ifCond .eq 15) 32 l st w := za_n.at zcc_143 dX13_block_32 rfl
theorem f_143_35 (l : za_L) (st : List Value) (w : za_W) : za_n 143 (35, l, st, w) = za_x 143 (.iload_n 2) 35 l st w := za_n.at zcc_143 dX13_block_35 rfl
theorem f_143_36 (l : za_L) (st : List Value) (w : za_W) : za_n 143 (36, l, st, w) = za_x 143 (.i2l) 36 l st w := za_n.at zcc_143 dX13_block_36 rfl
theorem f_143_37 (l : za_L) (st : List Value) (w : za_W) : za_n 143 (37, l, st, w) = za_x 143 (.lconst 0) 37 l st w := za_n.at zcc_143 dX13_block_37 rfl
theorem f_143_38 (l : za_L) (st : List Value) (w : za_W) : za_n 143 (38, l, st, w) = za_x 143 (.ldc2_w 138) 38 l st w := za_n.at zcc_143 dX13_block_38 rfl
theorem f_143_41 (l : za_L) (st : List Value) (w : za_W) : za_n 143 (41, l, st, w) = za_x 143 (.invokestatic 114) 41 l st w := za_n.at zcc_143 dX13_block_41 rfl
theorem f_143_44 (l : za_L) (st : List Value) (w : za_W) : za_n 143 (44, l, st, w) = za_x 143 (.ifCond .ne 7) 44 l st w := za_n.at zcc_143 dX13_block_44 rfl
theorem f_143_47 (l : za_L) (st : List Value) (w : za_W) : za_n 143 (47, l, st, w) = za_go 48 l (.int (-1) :: st) w := (za_n.at zcc_143 dX13_block_47 rfl).trans (congrArg (fun x => za_go 48 l (.int x :: st) w) (by decide))
theorem f_143_48 (l : za_L) (st : List Value) (w : za_W) : za_n 143 (48, l, st, w) = za_go 62 l st w := (za_n.at zcc_143 dX13_block_48 rfl).trans (za_jp.at (by decide))
theorem f_143_51 (l : za_L) (st : List Value) (w : za_W) : za_n 143 (51, l, st, w) = za_x 143 (.aload_n 0) 51 l st w := za_n.at zcc_143 dX13_block_51 rfl
theorem f_143_52 (l : za_L) (st : List Value) (w : za_W) : za_n 143 (52, l, st, w) = za_x 143 (.getfield 30) 52 l st w := za_n.at zcc_143 dX13_block_52 rfl
theorem f_143_55 (l : za_L) (st : List Value) (w : za_W) : za_n 143 (55, l, st, w) = za_go 57 l (.int (9) :: st) w := (za_n.at zcc_143 dX13_block_55 rfl).trans (congrArg (fun x => za_go 57 l (.int x :: st) w) (by decide))
theorem f_143_57 (l : za_L) (st : List Value) (w : za_W) : za_n 143 (57, l, st, w) = za_x 143 (.iload_n 1) 57 l st w := za_n.at zcc_143 dX13_block_57 rfl
theorem f_143_58 (l : za_L) (st : List Value) (w : za_W) : za_n 143 (58, l, st, w) = za_x 143 (.imul) 58 l st w := za_n.at zcc_143 dX13_block_58 rfl
theorem f_143_59 (l : za_L) (st : List Value) (w : za_W) : za_n 143 (59, l, st, w) = za_x 143 (.iload_n 2) 59 l st w := za_n.at zcc_143 dX13_block_59 rfl
theorem f_143_60 (l : za_L) (st : List Value) (w : za_W) : za_n 143 (60, l, st, w) = za_x 143 (.iadd) 60 l st w := za_n.at zcc_143 dX13_block_60 rfl
theorem f_143_61 (l : za_L) (st : List Value) (w : za_W) : za_n 143 (61, l, st, w) = za_x 143 (.iaload) 61 l st w := za_n.at zcc_143 dX13_block_61 rfl
theorem f_143_62 (l : za_L) (st : List Value) (w : za_W) : za_n 143 (62, l, st, w) = za_x 143 (.ireturn) 62 l st w := za_n.at zcc_143 dX13_block_62 rfl
theorem f_144_0 (l : za_L) (st : List Value) (w : za_W) : za_n 144 (0, l, st, w) = za_x 144 (.aload_n 0) 0 l st w := za_n.at zcc_144 dX13_sum_0 rfl
theorem f_144_1 (l : za_L) (st : List Value) (w : za_W) : za_n 144 (1, l, st, w) = za_go 2 l (.int (0) :: st) w := (za_n.at zcc_144 dX13_sum_1 rfl).trans (congrArg (fun x => za_go 2 l (.int x :: st) w) (by decide))
theorem f_144_2 (l : za_L) (st : List Value) (w : za_W) : za_n 144 (2, l, st, w) = za_x 144 (.putfield 1) 2 l st w := za_n.at zcc_144 dX13_sum_2 rfl
theorem f_144_5 (l : za_L) (st : List Value) (w : za_W) : za_n 144 (5, l, st, w) = za_x 144 (.iload_n 1) 5 l st w := za_n.at zcc_144 dX13_sum_5 rfl
theorem f_144_6 (l : za_L) (st : List Value) (w : za_W) : za_n 144 (6, l, st, w) = za_x 144 (.i2l) 6 l st w := za_n.at zcc_144 dX13_sum_6 rfl
theorem f_144_7 (l : za_L) (st : List Value) (w : za_W) : za_n 144 (7, l, st, w) = za_x 144 (.lconst 0) 7 l st w := za_n.at zcc_144 dX13_sum_7 rfl
theorem f_144_8 (l : za_L) (st : List Value) (w : za_W) : za_n 144 (8, l, st, w) = za_x 144 (.aload_n 0) 8 l st w := za_n.at zcc_144 dX13_sum_8 rfl
theorem f_144_9 (l : za_L) (st : List Value) (w : za_W) : za_n 144 (9, l, st, w) = za_x 144 (.invokevirtual 134) 9 l st w := za_n.at zcc_144 dX13_sum_9 rfl
theorem f_144_12 (l : za_L) (st : List Value) (w : za_W) : za_n 144 (12, l, st, w) = za_go 13 l (.int (1) :: st) w := (za_n.at zcc_144 dX13_sum_12 rfl).trans (congrArg (fun x => za_go 13 l (.int x :: st) w) (by decide))
theorem f_144_13 (l : za_L) (st : List Value) (w : za_W) : za_n 144 (13, l, st, w) = za_x 144 (.isub) 13 l st w := za_n.at zcc_144 dX13_sum_13 rfl
theorem f_144_14 (l : za_L) (st : List Value) (w : za_W) : za_n 144 (14, l, st, w) = za_x 144 (.i2l) 14 l st w := za_n.at zcc_144 dX13_sum_14 rfl
theorem f_144_15 (l : za_L) (st : List Value) (w : za_W) : za_n 144 (15, l, st, w) = za_x 144 (.invokestatic 114) 15 l st w := za_n.at zcc_144 dX13_sum_15 rfl
theorem f_144_18 (l : za_L) (st : List Value) (w : za_W) : za_n 144 (18, l, st, w) = za_x 144 (.ifCond .eq 12) 18 l st w := za_n.at zcc_144 dX13_sum_18 rfl
theorem f_144_21 (l : za_L) (st : List Value) (w : za_W) : za_n 144 (21, l, st, w) = za_x 144 (.aload_n 0) 21 l st w := za_n.at zcc_144 dX13_sum_21 rfl
theorem f_144_22 (l : za_L) (st : List Value) (w : za_W) : za_n 144 (22, l, st, w) = za_x 144 (.getfield 34) 22 l st w := za_n.at zcc_144 dX13_sum_22 rfl
theorem f_144_25 (l : za_L) (st : List Value) (w : za_W) : za_n 144 (25, l, st, w) = za_x 144 (.iload_n 1) 25 l st w := za_n.at zcc_144 dX13_sum_25 rfl
theorem f_144_26 (l : za_L) (st : List Value) (w : za_W) : za_n 144 (26, l, st, w) = za_x 144 (.iaload) 26 l st w := za_n.at zcc_144 dX13_sum_26 rfl
theorem f_144_27 (l : za_L) (st : List Value) (w : za_W) : za_n 144 (27, l, st, w) = za_go 31 l st w := (za_n.at zcc_144 dX13_sum_27 rfl).trans (za_jp.at (by decide))
theorem f_144_30 (l : za_L) (st : List Value) (w : za_W) : za_n 144 (30, l, st, w) = za_go 31 l (.int (0) :: st) w := (za_n.at zcc_144 dX13_sum_30 rfl).trans (congrArg (fun x => za_go 31 l (.int x :: st) w) (by decide))
theorem f_144_31 (l : za_L) (st : List Value) (w : za_W) : za_n 144 (31, l, st, w) = za_x 144 (.ireturn) 31 l st w := za_n.at zcc_144 dX13_sum_31 rfl
theorem f_145_0 (l : za_L) (st : List Value) (w : za_W) : za_n 145 (0, l, st, w) = za_x 145 (.aload_n 0) 0 l st w := za_n.at zcc_145 dX13_keepTables_0 rfl
theorem f_145_1 (l : za_L) (st : List Value) (w : za_W) : za_n 145 (1, l, st, w) = za_x 145 (.iload_n 1) 1 l st w := za_n.at zcc_145 dX13_keepTables_1 rfl
theorem f_145_2 (l : za_L) (st : List Value) (w : za_W) : za_n 145 (2, l, st, w) = za_x 145 (.putfield 140) 2 l st w := za_n.at zcc_145 dX13_keepTables_2 rfl
theorem f_145_5 (l : za_L) (st : List Value) (w : za_W) : za_n 145 (5, l, st, w) = za_x 145 (.aload_n 0) 5 l st w := za_n.at zcc_145 dX13_keepTables_5 rfl
theorem f_145_6 (l : za_L) (st : List Value) (w : za_W) : za_n 145 (6, l, st, w) = za_x 145 (.iload_n 2) 6 l st w := za_n.at zcc_145 dX13_keepTables_6 rfl
theorem f_145_7 (l : za_L) (st : List Value) (w : za_W) : za_n 145 (7, l, st, w) = za_x 145 (.putfield 143) 7 l st w := za_n.at zcc_145 dX13_keepTables_7 rfl
theorem f_145_10 (l : za_L) (st : List Value) (w : za_W) : za_n 145 (10, l, st, w) = za_x 145 (.aload_n 0) 10 l st w := za_n.at zcc_145 dX13_keepTables_10 rfl
theorem f_145_11 (l : za_L) (st : List Value) (w : za_W) : za_n 145 (11, l, st, w) = za_x 145 (.iload_n 3) 11 l st w := za_n.at zcc_145 dX13_keepTables_11 rfl
theorem f_145_12 (l : za_L) (st : List Value) (w : za_W) : za_n 145 (12, l, st, w) = za_x 145 (.putfield 146) 12 l st w := za_n.at zcc_145 dX13_keepTables_12 rfl
theorem f_145_15 (l : za_L) (st : List Value) (w : za_W) : za_n 145 (15, l, st, w) = za_go 16 l (.int (0) :: st) w := (za_n.at zcc_145 dX13_keepTables_15 rfl).trans (congrArg (fun x => za_go 16 l (.int x :: st) w) (by decide))
theorem f_145_16 (l : za_L) (st : List Value) (w : za_W) : za_n 145 (16, l, st, w) = za_x 145 (.istore 4) 16 l st w := za_n.at zcc_145 dX13_keepTables_16 rfl
theorem f_145_18 (l : za_L) (st : List Value) (w : za_W) : za_n 145 (18, l, st, w) = za_x 145 (.iload 4) 18 l st w := za_n.at zcc_145 dX13_keepTables_18 rfl
theorem f_145_20 (l : za_L) (st : List Value) (w : za_W) : za_n 145 (20, l, st, w) = za_x 145 (.iload_n 3) 20 l st w := za_n.at zcc_145 dX13_keepTables_20 rfl
theorem f_145_21 (l : za_L) (st : List Value) (w : za_W) : za_n 145 (21, l, st, w) = za_x 145 (.if_icmp .ge 23) 21 l st w := za_n.at zcc_145 dX13_keepTables_21 rfl
theorem f_145_24 (l : za_L) (st : List Value) (w : za_W) : za_n 145 (24, l, st, w) = za_x 145 (.aload_n 0) 24 l st w := za_n.at zcc_145 dX13_keepTables_24 rfl
theorem f_145_25 (l : za_L) (st : List Value) (w : za_W) : za_n 145 (25, l, st, w) = za_x 145 (.getfield 38) 25 l st w := za_n.at zcc_145 dX13_keepTables_25 rfl
theorem f_145_28 (l : za_L) (st : List Value) (w : za_W) : za_n 145 (28, l, st, w) = za_x 145 (.iload 4) 28 l st w := za_n.at zcc_145 dX13_keepTables_28 rfl
theorem f_145_30 (l : za_L) (st : List Value) (w : za_W) : za_n 145 (30, l, st, w) = za_x 145 (.aload_n 0) 30 l st w := za_n.at zcc_145 dX13_keepTables_30 rfl
theorem f_145_31 (l : za_L) (st : List Value) (w : za_W) : za_n 145 (31, l, st, w) = za_x 145 (.getfield 72) 31 l st w := za_n.at zcc_145 dX13_keepTables_31 rfl
theorem f_145_34 (l : za_L) (st : List Value) (w : za_W) : za_n 145 (34, l, st, w) = za_x 145 (.iload 4) 34 l st w := za_n.at zcc_145 dX13_keepTables_34 rfl
theorem f_145_36 (l : za_L) (st : List Value) (w : za_W) : za_n 145 (36, l, st, w) = za_x 145 (.iaload) 36 l st w := za_n.at zcc_145 dX13_keepTables_36 rfl
theorem f_145_37 (l : za_L) (st : List Value) (w : za_W) : za_n 145 (37, l, st, w) = za_x 145 (.iastore) 37 l st w := za_n.at zcc_145 dX13_keepTables_37 rfl
theorem f_145_38 (l : za_L) (st : List Value) (w : za_W) : za_n 145 (38, l, st, w) = za_x 145 (.iinc 4 1) 38 l st w := za_n.at zcc_145 dX13_keepTables_38 rfl
theorem f_145_41 (l : za_L) (st : List Value) (w : za_W) : za_n 145 (41, l, st, w) = za_go 18 l st w := (za_n.at zcc_145 dX13_keepTables_41 rfl).trans (za_jp.at (by decide))
theorem f_145_44 (l : za_L) (st : List Value) (w : za_W) : za_n 145 (44, l, st, w) = za_go 45 l (.int (0) :: st) w := (za_n.at zcc_145 dX13_keepTables_44 rfl).trans (congrArg (fun x => za_go 45 l (.int x :: st) w) (by decide))
theorem f_145_45 (l : za_L) (st : List Value) (w : za_W) : za_n 145 (45, l, st, w) = za_x 145 (.istore 4) 45 l st w := za_n.at zcc_145 dX13_keepTables_45 rfl
theorem f_145_47 (l : za_L) (st : List Value) (w : za_W) : za_n 145 (47, l, st, w) = za_x 145 (.iload 4) 47 l st w := za_n.at zcc_145 dX13_keepTables_47 rfl
theorem f_145_49 (l : za_L) (st : List Value) (w : za_W) : za_n 145 (49, l, st, w) = za_go 52 l (.int (1560) :: st) w := (za_n.at zcc_145 dX13_keepTables_49 rfl).trans (congrArg (fun x => za_go 52 l (.int x :: st) w) (by decide))
theorem f_145_52 (l : za_L) (st : List Value) (w : za_W) : za_n 145 (52, l, st, w) = za_x 145 (.if_icmp .ge 23) 52 l st w := za_n.at zcc_145 dX13_keepTables_52 rfl
theorem f_145_55 (l : za_L) (st : List Value) (w : za_W) : za_n 145 (55, l, st, w) = za_x 145 (.aload_n 0) 55 l st w := za_n.at zcc_145 dX13_keepTables_55 rfl
theorem f_145_56 (l : za_L) (st : List Value) (w : za_W) : za_n 145 (56, l, st, w) = za_x 145 (.getfield 41) 56 l st w := za_n.at zcc_145 dX13_keepTables_56 rfl
theorem f_145_59 (l : za_L) (st : List Value) (w : za_W) : za_n 145 (59, l, st, w) = za_x 145 (.iload 4) 59 l st w := za_n.at zcc_145 dX13_keepTables_59 rfl
theorem f_145_61 (l : za_L) (st : List Value) (w : za_W) : za_n 145 (61, l, st, w) = za_x 145 (.aload_n 0) 61 l st w := za_n.at zcc_145 dX13_keepTables_61 rfl
theorem f_145_62 (l : za_L) (st : List Value) (w : za_W) : za_n 145 (62, l, st, w) = za_x 145 (.getfield 63) 62 l st w := za_n.at zcc_145 dX13_keepTables_62 rfl
theorem f_145_65 (l : za_L) (st : List Value) (w : za_W) : za_n 145 (65, l, st, w) = za_x 145 (.iload 4) 65 l st w := za_n.at zcc_145 dX13_keepTables_65 rfl
theorem f_145_67 (l : za_L) (st : List Value) (w : za_W) : za_n 145 (67, l, st, w) = za_x 145 (.iaload) 67 l st w := za_n.at zcc_145 dX13_keepTables_67 rfl
theorem f_145_68 (l : za_L) (st : List Value) (w : za_W) : za_n 145 (68, l, st, w) = za_x 145 (.iastore) 68 l st w := za_n.at zcc_145 dX13_keepTables_68 rfl
theorem f_145_69 (l : za_L) (st : List Value) (w : za_W) : za_n 145 (69, l, st, w) = za_x 145 (.iinc 4 1) 69 l st w := za_n.at zcc_145 dX13_keepTables_69 rfl
theorem f_145_72 (l : za_L) (st : List Value) (w : za_W) : za_n 145 (72, l, st, w) = za_go 47 l st w := (za_n.at zcc_145 dX13_keepTables_72 rfl).trans (za_jp.at (by decide))
theorem f_145_75 (l : za_L) (st : List Value) (w : za_W) : za_n 145 (75, l, st, w) = za_x 145 (.return_) 75 l st w := za_n.at zcc_145 dX13_keepTables_75 rfl
theorem f_146_0 (l : za_L) (st : List Value) (w : za_W) : za_n 146 (0, l, st, w) = za_x 146 (.aload_n 0) 0 l st w := za_n.at zcc_146 dX13_choice_0 rfl
theorem f_146_1 (l : za_L) (st : List Value) (w : za_W) : za_n 146 (1, l, st, w) = za_go 2 l (.int (0) :: st) w := (za_n.at zcc_146 dX13_choice_1 rfl).trans (congrArg (fun x => za_go 2 l (.int x :: st) w) (by decide))
theorem f_146_2 (l : za_L) (st : List Value) (w : za_W) : za_n 146 (2, l, st, w) = za_x 146 (.putfield 1) 2 l st w := za_n.at zcc_146 dX13_choice_2 rfl
theorem f_146_5 (l : za_L) (st : List Value) (w : za_W) : za_n 146 (5, l, st, w) = za_x 146 (.iload_n 1) 5 l st w := za_n.at zcc_146 dX13_choice_5 rfl
theorem f_146_6 (l : za_L) (st : List Value) (w : za_W) : za_n 146 (6, l, st, w) = za_x 146 (.i2l) 6 l st w := za_n.at zcc_146 dX13_choice_6 rfl
theorem f_146_7 (l : za_L) (st : List Value) (w : za_W) : za_n 146 (7, l, st, w) = za_x 146 (.lconst 0) 7 l st w := za_n.at zcc_146 dX13_choice_7 rfl
theorem f_146_8 (l : za_L) (st : List Value) (w : za_W) : za_n 146 (8, l, st, w) = za_x 146 (.aload_n 0) 8 l st w := za_n.at zcc_146 dX13_choice_8 rfl
theorem f_146_9 (l : za_L) (st : List Value) (w : za_W) : za_n 146 (9, l, st, w) = za_x 146 (.getfield 146) 9 l st w := za_n.at zcc_146 dX13_choice_9 rfl
theorem f_146_12 (l : za_L) (st : List Value) (w : za_W) : za_n 146 (12, l, st, w) = za_go 13 l (.int (1) :: st) w := (za_n.at zcc_146 dX13_choice_12 rfl).trans (congrArg (fun x => za_go 13 l (.int x :: st) w) (by decide))
theorem f_146_13 (l : za_L) (st : List Value) (w : za_W) : za_n 146 (13, l, st, w) = za_x 146 (.isub) 13 l st w := za_n.at zcc_146 dX13_choice_13 rfl
theorem f_146_14 (l : za_L) (st : List Value) (w : za_W) : za_n 146 (14, l, st, w) = za_x 146 (.i2l) 14 l st w := za_n.at zcc_146 dX13_choice_14 rfl
theorem f_146_15 (l : za_L) (st : List Value) (w : za_W) : za_n 146 (15, l, st, w) = za_x 146 (.invokestatic 114) 15 l st w := za_n.at zcc_146 dX13_choice_15 rfl
theorem f_146_18 (l : za_L) (st : List Value) (w : za_W) : za_n 146 (18, l, st, w) = za_x 146 (.ifCond .eq 12) 18 l st w := za_n.at zcc_146 dX13_choice_18 rfl
theorem f_146_21 (l : za_L) (st : List Value) (w : za_W) : za_n 146 (21, l, st, w) = za_x 146 (.aload_n 0) 21 l st w := za_n.at zcc_146 dX13_choice_21 rfl
theorem f_146_22 (l : za_L) (st : List Value) (w : za_W) : za_n 146 (22, l, st, w) = za_x 146 (.getfield 38) 22 l st w := za_n.at zcc_146 dX13_choice_22 rfl
theorem f_146_25 (l : za_L) (st : List Value) (w : za_W) : za_n 146 (25, l, st, w) = za_x 146 (.iload_n 1) 25 l st w := za_n.at zcc_146 dX13_choice_25 rfl
theorem f_146_26 (l : za_L) (st : List Value) (w : za_W) : za_n 146 (26, l, st, w) = za_x 146 (.iaload) 26 l st w := za_n.at zcc_146 dX13_choice_26 rfl
theorem f_146_27 (l : za_L) (st : List Value) (w : za_W) : za_n 146 (27, l, st, w) = za_go 31 l st w := (za_n.at zcc_146 dX13_choice_27 rfl).trans (za_jp.at (by decide))
theorem f_146_30 (l : za_L) (st : List Value) (w : za_W) : za_n 146 (30, l, st, w) = za_go 31 l (.int (-1) :: st) w := (za_n.at zcc_146 dX13_choice_30 rfl).trans (congrArg (fun x => za_go 31 l (.int x :: st) w) (by decide))
theorem f_146_31 (l : za_L) (st : List Value) (w : za_W) : za_n 146 (31, l, st, w) = za_x 146 (.ireturn) 31 l st w := za_n.at zcc_146 dX13_choice_31 rfl
theorem f_147_0 (l : za_L) (st : List Value) (w : za_W) : za_n 147 (0, l, st, w) = za_x 147 (.aload_n 0) 0 l st w := za_n.at zcc_147 dX13_length_0 rfl
theorem f_147_1 (l : za_L) (st : List Value) (w : za_W) : za_n 147 (1, l, st, w) = za_go 2 l (.int (0) :: st) w := (za_n.at zcc_147 dX13_length_1 rfl).trans (congrArg (fun x => za_go 2 l (.int x :: st) w) (by decide))
theorem f_147_2 (l : za_L) (st : List Value) (w : za_W) : za_n 147 (2, l, st, w) = za_x 147 (.putfield 1) 2 l st w := za_n.at zcc_147 dX13_length_2 rfl
theorem f_147_5 (l : za_L) (st : List Value) (w : za_W) : za_n 147 (5, l, st, w) = za_x 147 (.iload_n 1) 5 l st w := za_n.at zcc_147 dX13_length_5 rfl
theorem f_147_6 (l : za_L) (st : List Value) (w : za_W) : za_n 147 (6, l, st, w) = za_x 147 (.i2l) 6 l st w := za_n.at zcc_147 dX13_length_6 rfl
theorem f_147_7 (l : za_L) (st : List Value) (w : za_W) : za_n 147 (7, l, st, w) = za_x 147 (.lconst 0) 7 l st w := za_n.at zcc_147 dX13_length_7 rfl
theorem f_147_8 (l : za_L) (st : List Value) (w : za_W) : za_n 147 (8, l, st, w) = za_x 147 (.aload_n 0) 8 l st w := za_n.at zcc_147 dX13_length_8 rfl
theorem f_147_9 (l : za_L) (st : List Value) (w : za_W) : za_n 147 (9, l, st, w) = za_x 147 (.getfield 140) 9 l st w := za_n.at zcc_147 dX13_length_9 rfl
theorem f_147_12 (l : za_L) (st : List Value) (w : za_W) : za_n 147 (12, l, st, w) = za_go 13 l (.int (1) :: st) w := (za_n.at zcc_147 dX13_length_12 rfl).trans (congrArg (fun x => za_go 13 l (.int x :: st) w) (by decide))
theorem f_147_13 (l : za_L) (st : List Value) (w : za_W) : za_n 147 (13, l, st, w) = za_x 147 (.isub) 13 l st w := za_n.at zcc_147 dX13_length_13 rfl
theorem f_147_14 (l : za_L) (st : List Value) (w : za_W) : za_n 147 (14, l, st, w) = za_x 147 (.i2l) 14 l st w := za_n.at zcc_147 dX13_length_14 rfl
theorem f_147_15 (l : za_L) (st : List Value) (w : za_W) : za_n 147 (15, l, st, w) = za_x 147 (.invokestatic 114) 15 l st w := za_n.at zcc_147 dX13_length_15 rfl
theorem f_147_18 (l : za_L) (st : List Value) (w : za_W) : za_n 147 (18, l, st, w) = za_x 147 (.ifCond .eq 19) 18 l st w := za_n.at zcc_147 dX13_length_18 rfl
theorem f_147_21 (l : za_L) (st : List Value) (w : za_W) : za_n 147 (21, l, st, w) = za_x 147 (.iload_n 2) 21 l st w := za_n.at zcc_147 dX13_length_21 rfl
theorem f_147_22 (l : za_L) (st : List Value) (w : za_W) : za_n 147 (22, l, st, w) = za_x 147 (.i2l) 22 l st w := za_n.at zcc_147 dX13_length_22 rfl
theorem f_147_23 (l : za_L) (st : List Value) (w : za_W) : za_n 147 (23, l, st, w) = za_x 147 (.lconst 0) 23 l st w := za_n.at zcc_147 dX13_length_23 rfl
theorem f_147_24 (l : za_L) (st : List Value) (w : za_W) : za_n 147 (24, l, st, w) = za_x 147 (.aload_n 0) 24 l st w := za_n.at zcc_147 dX13_length_24 rfl
theorem f_147_25 (l : za_L) (st : List Value) (w : za_W) : za_n 147 (25, l, st, w) = za_x 147 (.getfield 143) 25 l st w := za_n.at zcc_147 dX13_length_25 rfl
theorem f_147_28 (l : za_L) (st : List Value) (w : za_W) : za_n 147 (28, l, st, w) = za_go 29 l (.int (1) :: st) w := (za_n.at zcc_147 dX13_length_28 rfl).trans (congrArg (fun x => za_go 29 l (.int x :: st) w) (by decide))
theorem f_147_29 (l : za_L) (st : List Value) (w : za_W) : za_n 147 (29, l, st, w) = za_x 147 (.isub) 29 l st w := za_n.at zcc_147 dX13_length_29 rfl
theorem f_147_30 (l : za_L) (st : List Value) (w : za_W) : za_n 147 (30, l, st, w) = za_x 147 (.i2l) 30 l st w := za_n.at zcc_147 dX13_length_30 rfl
theorem f_147_31 (l : za_L) (st : List Value) (w : za_W) : za_n 147 (31, l, st, w) = za_x 147 (.invokestatic 114) 31 l st w := za_n.at zcc_147 dX13_length_31 rfl
theorem f_147_34 (l : za_L) (st : List Value) (w : za_W) : za_n 147 (34, l, st, w) = za_x 147 (.ifCond .ne 7) 34 l st w := za_n.at zcc_147 dX13_length_34 rfl
theorem f_147_37 (l : za_L) (st : List Value) (w : za_W) : za_n 147 (37, l, st, w) = za_go 38 l (.int (-1) :: st) w := (za_n.at zcc_147 dX13_length_37 rfl).trans (congrArg (fun x => za_go 38 l (.int x :: st) w) (by decide))
theorem f_147_38 (l : za_L) (st : List Value) (w : za_W) : za_n 147 (38, l, st, w) = za_go 53 l st w := (za_n.at zcc_147 dX13_length_38 rfl).trans (za_jp.at (by decide))
theorem f_147_41 (l : za_L) (st : List Value) (w : za_W) : za_n 147 (41, l, st, w) = za_x 147 (.aload_n 0) 41 l st w := za_n.at zcc_147 dX13_length_41 rfl
theorem f_147_42 (l : za_L) (st : List Value) (w : za_W) : za_n 147 (42, l, st, w) = za_x 147 (.getfield 41) 42 l st w := za_n.at zcc_147 dX13_length_42 rfl
theorem f_147_45 (l : za_L) (st : List Value) (w : za_W) : za_n 147 (45, l, st, w) = za_go 48 l (.int (260) :: st) w := (za_n.at zcc_147 dX13_length_45 rfl).trans (congrArg (fun x => za_go 48 l (.int x :: st) w) (by decide))
theorem f_147_48 (l : za_L) (st : List Value) (w : za_W) : za_n 147 (48, l, st, w) = za_x 147 (.iload_n 1) 48 l st w := za_n.at zcc_147 dX13_length_48 rfl
theorem f_147_49 (l : za_L) (st : List Value) (w : za_W) : za_n 147 (49, l, st, w) = za_x 147 (.imul) 49 l st w := za_n.at zcc_147 dX13_length_49 rfl
theorem f_147_50 (l : za_L) (st : List Value) (w : za_W) : za_n 147 (50, l, st, w) = za_x 147 (.iload_n 2) 50 l st w := za_n.at zcc_147 dX13_length_50 rfl
theorem f_147_51 (l : za_L) (st : List Value) (w : za_W) : za_n 147 (51, l, st, w) = za_x 147 (.iadd) 51 l st w := za_n.at zcc_147 dX13_length_51 rfl
theorem f_147_52 (l : za_L) (st : List Value) (w : za_W) : za_n 147 (52, l, st, w) = za_x 147 (.iaload) 52 l st w := za_n.at zcc_147 dX13_length_52 rfl
theorem f_147_53 (l : za_L) (st : List Value) (w : za_W) : za_n 147 (53, l, st, w) = za_x 147 (.ireturn) 53 l st w := za_n.at zcc_147 dX13_length_53 rfl
theorem f_148_0 (l : za_L) (st : List Value) (w : za_W) : za_n 148 (0, l, st, w) = za_go 1 l (.int (-1) :: st) w := (za_n.at zcc_148 dX13_sumOf_0 rfl).trans (congrArg (fun x => za_go 1 l (.int x :: st) w) (by decide))
theorem f_148_1 (l : za_L) (st : List Value) (w : za_W) : za_n 148 (1, l, st, w) = za_x 148 (.istore_n 3) 1 l st w := za_n.at zcc_148 dX13_sumOf_1 rfl
theorem f_148_2 (l : za_L) (st : List Value) (w : za_W) : za_n 148 (2, l, st, w) = za_go 3 l (.int (0) :: st) w := (za_n.at zcc_148 dX13_sumOf_2 rfl).trans (congrArg (fun x => za_go 3 l (.int x :: st) w) (by decide))
theorem f_148_3 (l : za_L) (st : List Value) (w : za_W) : za_n 148 (3, l, st, w) = za_x 148 (.istore 4) 3 l st w := za_n.at zcc_148 dX13_sumOf_3 rfl
theorem f_148_5 (l : za_L) (st : List Value) (w : za_W) : za_n 148 (5, l, st, w) = za_x 148 (.iload 4) 5 l st w := za_n.at zcc_148 dX13_sumOf_5 rfl
theorem f_148_7 (l : za_L) (st : List Value) (w : za_W) : za_n 148 (7, l, st, w) = za_x 148 (.iload_n 2) 7 l st w := za_n.at zcc_148 dX13_sumOf_7 rfl
theorem f_148_8 (l : za_L) (st : List Value) (w : za_W) : za_n 148 (8, l, st, w) = za_x 148 (.if_icmp .ge 58) 8 l st w := za_n.at zcc_148 dX13_sumOf_8 rfl
theorem f_148_11 (l : za_L) (st : List Value) (w : za_W) : za_n 148 (11, l, st, w) = za_x 148 (.iload_n 3) 11 l st w := za_n.at zcc_148 dX13_sumOf_11 rfl
theorem f_148_12 (l : za_L) (st : List Value) (w : za_W) : za_n 148 (12, l, st, w) = za_x 148 (.aload_n 0) 12 l st w := za_n.at zcc_148 dX13_sumOf_12 rfl
theorem f_148_13 (l : za_L) (st : List Value) (w : za_W) : za_n 148 (13, l, st, w) = za_x 148 (.iload_n 1) 13 l st w := za_n.at zcc_148 dX13_sumOf_13 rfl
theorem f_148_14 (l : za_L) (st : List Value) (w : za_W) : za_n 148 (14, l, st, w) = za_x 148 (.iload 4) 14 l st w := za_n.at zcc_148 dX13_sumOf_14 rfl
theorem f_148_16 (l : za_L) (st : List Value) (w : za_W) : za_n 148 (16, l, st, w) = za_x 148 (.iadd) 16 l st w := za_n.at zcc_148 dX13_sumOf_16 rfl
theorem f_148_17 (l : za_L) (st : List Value) (w : za_W) : za_n 148 (17, l, st, w) = za_x 148 (.baload) 17 l st w := za_n.at zcc_148 dX13_sumOf_17 rfl
theorem f_148_18 (l : za_L) (st : List Value) (w : za_W) : za_n 148 (18, l, st, w) = za_go 21 l (.int (255) :: st) w := (za_n.at zcc_148 dX13_sumOf_18 rfl).trans (congrArg (fun x => za_go 21 l (.int x :: st) w) (by decide))
theorem f_148_21 (l : za_L) (st : List Value) (w : za_W) : za_n 148 (21, l, st, w) = za_x 148 (.iand) 21 l st w := za_n.at zcc_148 dX13_sumOf_21 rfl
theorem f_148_22 (l : za_L) (st : List Value) (w : za_W) : za_n 148 (22, l, st, w) = za_go 24 l (.int (24) :: st) w := (za_n.at zcc_148 dX13_sumOf_22 rfl).trans (congrArg (fun x => za_go 24 l (.int x :: st) w) (by decide))
theorem f_148_24 (l : za_L) (st : List Value) (w : za_W) : za_n 148 (24, l, st, w) = za_x 148 (.ishl) 24 l st w := za_n.at zcc_148 dX13_sumOf_24 rfl
theorem f_148_25 (l : za_L) (st : List Value) (w : za_W) : za_n 148 (25, l, st, w) = za_x 148 (.ixor) 25 l st w := za_n.at zcc_148 dX13_sumOf_25 rfl
theorem f_148_26 (l : za_L) (st : List Value) (w : za_W) : za_n 148 (26, l, st, w) = za_x 148 (.istore_n 3) 26 l st w := za_n.at zcc_148 dX13_sumOf_26 rfl
theorem f_148_27 (l : za_L) (st : List Value) (w : za_W) : za_n 148 (27, l, st, w) = za_go 28 l (.int (0) :: st) w := (za_n.at zcc_148 dX13_sumOf_27 rfl).trans (congrArg (fun x => za_go 28 l (.int x :: st) w) (by decide))
theorem f_148_28 (l : za_L) (st : List Value) (w : za_W) : za_n 148 (28, l, st, w) = za_x 148 (.istore 5) 28 l st w := za_n.at zcc_148 dX13_sumOf_28 rfl
theorem f_148_30 (l : za_L) (st : List Value) (w : za_W) : za_n 148 (30, l, st, w) = za_x 148 (.iload 5) 30 l st w := za_n.at zcc_148 dX13_sumOf_30 rfl
theorem f_148_32 (l : za_L) (st : List Value) (w : za_W) : za_n 148 (32, l, st, w) = za_go 34 l (.int (8) :: st) w := (za_n.at zcc_148 dX13_sumOf_32 rfl).trans (congrArg (fun x => za_go 34 l (.int x :: st) w) (by decide))
theorem f_148_34 (l : za_L) (st : List Value) (w : za_W) : za_n 148 (34, l, st, w) = za_x 148 (.if_icmp .ge 26) 34 l st w := za_n.at zcc_148 dX13_sumOf_34 rfl
theorem f_148_37 (l : za_L) (st : List Value) (w : za_W) : za_n 148 (37, l, st, w) = za_x 148 (.iload_n 3) 37 l st w := za_n.at zcc_148 dX13_sumOf_37 rfl
theorem f_148_38 (l : za_L) (st : List Value) (w : za_W) : za_n 148 (38, l, st, w) = za_x 148 (.ifCond .ge 12) 38 l st w := za_n.at zcc_148 dX13_sumOf_38 rfl
theorem f_148_41 (l : za_L) (st : List Value) (w : za_W) : za_n 148 (41, l, st, w) = za_x 148 (.iload_n 3) 41 l st w := za_n.at zcc_148 dX13_sumOf_41 rfl
theorem f_148_42 (l : za_L) (st : List Value) (w : za_W) : za_n 148 (42, l, st, w) = za_go 43 l (.int (1) :: st) w := (za_n.at zcc_148 dX13_sumOf_42 rfl).trans (congrArg (fun x => za_go 43 l (.int x :: st) w) (by decide))
theorem f_148_43 (l : za_L) (st : List Value) (w : za_W) : za_n 148 (43, l, st, w) = za_x 148 (.ishl) 43 l st w := za_n.at zcc_148 dX13_sumOf_43 rfl
theorem f_148_44 (l : za_L) (st : List Value) (w : za_W) : za_n 148 (44, l, st, w) = za_x 148 (.ldc 149) 44 l st w := za_n.at zcc_148 dX13_sumOf_44 rfl
theorem f_148_46 (l : za_L) (st : List Value) (w : za_W) : za_n 148 (46, l, st, w) = za_x 148 (.ixor) 46 l st w := za_n.at zcc_148 dX13_sumOf_46 rfl
theorem f_148_47 (l : za_L) (st : List Value) (w : za_W) : za_n 148 (47, l, st, w) = za_go 53 l st w := (za_n.at zcc_148 dX13_sumOf_47 rfl).trans (za_jp.at (by decide))
theorem f_148_50 (l : za_L) (st : List Value) (w : za_W) : za_n 148 (50, l, st, w) = za_x 148 (.iload_n 3) 50 l st w := za_n.at zcc_148 dX13_sumOf_50 rfl
theorem f_148_51 (l : za_L) (st : List Value) (w : za_W) : za_n 148 (51, l, st, w) = za_go 52 l (.int (1) :: st) w := (za_n.at zcc_148 dX13_sumOf_51 rfl).trans (congrArg (fun x => za_go 52 l (.int x :: st) w) (by decide))
theorem f_148_52 (l : za_L) (st : List Value) (w : za_W) : za_n 148 (52, l, st, w) = za_x 148 (.ishl) 52 l st w := za_n.at zcc_148 dX13_sumOf_52 rfl
theorem f_148_53 (l : za_L) (st : List Value) (w : za_W) : za_n 148 (53, l, st, w) = za_x 148 (.istore_n 3) 53 l st w := za_n.at zcc_148 dX13_sumOf_53 rfl
theorem f_148_54 (l : za_L) (st : List Value) (w : za_W) : za_n 148 (54, l, st, w) = za_x 148 (.iinc 5 1) 54 l st w := za_n.at zcc_148 dX13_sumOf_54 rfl
theorem f_148_57 (l : za_L) (st : List Value) (w : za_W) : za_n 148 (57, l, st, w) = za_go 30 l st w := (za_n.at zcc_148 dX13_sumOf_57 rfl).trans (za_jp.at (by decide))
theorem f_148_60 (l : za_L) (st : List Value) (w : za_W) : za_n 148 (60, l, st, w) = za_x 148 (.iinc 4 1) 60 l st w := za_n.at zcc_148 dX13_sumOf_60 rfl
theorem f_148_63 (l : za_L) (st : List Value) (w : za_W) : za_n 148 (63, l, st, w) = za_go 5 l st w := (za_n.at zcc_148 dX13_sumOf_63 rfl).trans (za_jp.at (by decide))
theorem f_148_66 (l : za_L) (st : List Value) (w : za_W) : za_n 148 (66, l, st, w) = za_x 148 (.iload_n 3) 66 l st w := za_n.at zcc_148 dX13_sumOf_66 rfl
theorem f_148_67 (l : za_L) (st : List Value) (w : za_W) : za_n 148 (67, l, st, w) = za_go 68 l (.int (-1) :: st) w := (za_n.at zcc_148 dX13_sumOf_67 rfl).trans (congrArg (fun x => za_go 68 l (.int x :: st) w) (by decide))
theorem f_148_68 (l : za_L) (st : List Value) (w : za_W) : za_n 148 (68, l, st, w) = za_x 148 (.ixor) 68 l st w := za_n.at zcc_148 dX13_sumOf_68 rfl
theorem f_148_69 (l : za_L) (st : List Value) (w : za_W) : za_n 148 (69, l, st, w) = za_x 148 (.ireturn) 69 l st w := za_n.at zcc_148 dX13_sumOf_69 rfl
theorem f_149_0 (l : za_L) (st : List Value) (w : za_W) : za_n 149 (0, l, st, w) = za_x 149 (.iload_n 0) 0 l st w := za_n.at zcc_149 dX13_joined_0 rfl
theorem f_149_1 (l : za_L) (st : List Value) (w : za_W) : za_n 149 (1, l, st, w) = za_go 2 l (.int (1) :: st) w := (za_n.at zcc_149 dX13_joined_1 rfl).trans (congrArg (fun x => za_go 2 l (.int x :: st) w) (by decide))
theorem f_149_2 (l : za_L) (st : List Value) (w : za_W) : za_n 149 (2, l, st, w) = za_x 149 (.ishl) 2 l st w := za_n.at zcc_149 dX13_joined_2 rfl
theorem f_149_3 (l : za_L) (st : List Value) (w : za_W) : za_n 149 (3, l, st, w) = za_x 149 (.iload_n 0) 3 l st w := za_n.at zcc_149 dX13_joined_3 rfl
theorem f_149_4 (l : za_L) (st : List Value) (w : za_W) : za_n 149 (4, l, st, w) = za_go 6 l (.int (31) :: st) w := (za_n.at zcc_149 dX13_joined_4 rfl).trans (congrArg (fun x => za_go 6 l (.int x :: st) w) (by decide))
theorem f_149_6 (l : za_L) (st : List Value) (w : za_W) : za_n 149 (6, l, st, w) = za_x 149 (.iushr) 6 l st w := za_n.at zcc_149 dX13_joined_6 rfl
theorem f_149_7 (l : za_L) (st : List Value) (w : za_W) : za_n 149 (7, l, st, w) = za_x 149 (.ior) 7 l st w := za_n.at zcc_149 dX13_joined_7 rfl
theorem f_149_8 (l : za_L) (st : List Value) (w : za_W) : za_n 149 (8, l, st, w) = za_x 149 (.iload_n 1) 8 l st w := za_n.at zcc_149 dX13_joined_8 rfl
theorem f_149_9 (l : za_L) (st : List Value) (w : za_W) : za_n 149 (9, l, st, w) = za_x 149 (.ixor) 9 l st w := za_n.at zcc_149 dX13_joined_9 rfl
theorem f_149_10 (l : za_L) (st : List Value) (w : za_W) : za_n 149 (10, l, st, w) = za_x 149 (.ireturn) 10 l st w := za_n.at zcc_149 dX13_joined_10 rfl
theorem f_150_0 (l : za_L) (st : List Value) (w : za_W) : za_n 150 (0, l, st, w) = za_x 150 (.aload_n 0) 0 l st w := za_n.at zcc_150 dX13_putBit_0 rfl
theorem f_150_1 (l : za_L) (st : List Value) (w : za_W) : za_n 150 (1, l, st, w) = za_x 150 (.getfield 150) 1 l st w := za_n.at zcc_150 dX13_putBit_1 rfl
theorem f_150_4 (l : za_L) (st : List Value) (w : za_W) : za_n 150 (4, l, st, w) = za_go 7 l (.int (32000) :: st) w := (za_n.at zcc_150 dX13_putBit_4 rfl).trans (congrArg (fun x => za_go 7 l (.int x :: st) w) (by decide))
theorem f_150_7 (l : za_L) (st : List Value) (w : za_W) : za_n 150 (7, l, st, w) = za_x 150 (.if_icmp .lt 9) 7 l st w := za_n.at zcc_150 dX13_putBit_7 rfl
theorem f_150_10 (l : za_L) (st : List Value) (w : za_W) : za_n 150 (10, l, st, w) = za_x 150 (.aload_n 0) 10 l st w := za_n.at zcc_150 dX13_putBit_10 rfl
theorem f_150_11 (l : za_L) (st : List Value) (w : za_W) : za_n 150 (11, l, st, w) = za_go 12 l (.int (1) :: st) w := (za_n.at zcc_150 dX13_putBit_11 rfl).trans (congrArg (fun x => za_go 12 l (.int x :: st) w) (by decide))
theorem f_150_12 (l : za_L) (st : List Value) (w : za_W) : za_n 150 (12, l, st, w) = za_x 150 (.putfield 153) 12 l st w := za_n.at zcc_150 dX13_putBit_12 rfl
theorem f_150_15 (l : za_L) (st : List Value) (w : za_W) : za_n 150 (15, l, st, w) = za_x 150 (.return_) 15 l st w := za_n.at zcc_150 dX13_putBit_15 rfl
theorem f_150_16 (l : za_L) (st : List Value) (w : za_W) : za_n 150 (16, l, st, w) = za_x 150 (.aload_n 0) 16 l st w := za_n.at zcc_150 dX13_putBit_16 rfl
theorem f_150_17 (l : za_L) (st : List Value) (w : za_W) : za_n 150 (17, l, st, w) = za_x 150 (.getfield 150) 17 l st w := za_n.at zcc_150 dX13_putBit_17 rfl
theorem f_150_20 (l : za_L) (st : List Value) (w : za_W) : za_n 150 (20, l, st, w) = za_go 22 l (.int (8) :: st) w := (za_n.at zcc_150 dX13_putBit_20 rfl).trans (congrArg (fun x => za_go 22 l (.int x :: st) w) (by decide))
theorem f_150_22 (l : za_L) (st : List Value) (w : za_W) : za_n 150 (22, l, st, w) = za_x 150 (.idiv) 22 l st w := za_n.at zcc_150 dX13_putBit_22 rfl
theorem f_150_23 (l : za_L) (st : List Value) (w : za_W) : za_n 150 (23, l, st, w) = za_x 150 (.istore_n 2) 23 l st w := za_n.at zcc_150 dX13_putBit_23 rfl
theorem f_150_24 (l : za_L) (st : List Value) (w : za_W) : za_n 150 (24, l, st, w) = za_x 150 (.aload_n 0) 24 l st w := za_n.at zcc_150 dX13_putBit_24 rfl
theorem f_150_25 (l : za_L) (st : List Value) (w : za_W) : za_n 150 (25, l, st, w) = za_x 150 (.getfield 150) 25 l st w := za_n.at zcc_150 dX13_putBit_25 rfl
theorem f_150_28 (l : za_L) (st : List Value) (w : za_W) : za_n 150 (28, l, st, w) = za_go 30 l (.int (8) :: st) w := (za_n.at zcc_150 dX13_putBit_28 rfl).trans (congrArg (fun x => za_go 30 l (.int x :: st) w) (by decide))
theorem f_150_30 (l : za_L) (st : List Value) (w : za_W) : za_n 150 (30, l, st, w) = za_x 150 (.irem) 30 l st w := za_n.at zcc_150 dX13_putBit_30 rfl
theorem f_150_31 (l : za_L) (st : List Value) (w : za_W) : za_n 150 (31, l, st, w) = za_x 150 (.ifCond .ne 10) 31 l st w := za_n.at zcc_150 dX13_putBit_31 rfl
theorem f_150_34 (l : za_L) (st : List Value) (w : za_W) : za_n 150 (34, l, st, w) = za_x 150 (.aload_n 0) 34 l st w := za_n.at zcc_150 dX13_putBit_34 rfl
theorem f_150_35 (l : za_L) (st : List Value) (w : za_W) : za_n 150 (35, l, st, w) = za_x 150 (.getfield 24) 35 l st w := za_n.at zcc_150 dX13_putBit_35 rfl
theorem f_150_38 (l : za_L) (st : List Value) (w : za_W) : za_n 150 (38, l, st, w) = za_x 150 (.iload_n 2) 38 l st w := za_n.at zcc_150 dX13_putBit_38 rfl
theorem f_150_39 (l : za_L) (st : List Value) (w : za_W) : za_n 150 (39, l, st, w) = za_go 40 l (.int (0) :: st) w := (za_n.at zcc_150 dX13_putBit_39 rfl).trans (congrArg (fun x => za_go 40 l (.int x :: st) w) (by decide))
theorem f_150_40 (l : za_L) (st : List Value) (w : za_W) : za_n 150 (40, l, st, w) = za_x 150 (.bastore) 40 l st w := za_n.at zcc_150 dX13_putBit_40 rfl
theorem f_150_41 (l : za_L) (st : List Value) (w : za_W) : za_n 150 (41, l, st, w) = za_x 150 (.aload_n 0) 41 l st w := za_n.at zcc_150 dX13_putBit_41 rfl
theorem f_150_42 (l : za_L) (st : List Value) (w : za_W) : za_n 150 (42, l, st, w) = za_x 150 (.getfield 24) 42 l st w := za_n.at zcc_150 dX13_putBit_42 rfl
theorem f_150_45 (l : za_L) (st : List Value) (w : za_W) : za_n 150 (45, l, st, w) = za_x 150 (.iload_n 2) 45 l st w := za_n.at zcc_150 dX13_putBit_45 rfl
theorem f_150_46 (l : za_L) (st : List Value) (w : za_W) : za_n 150 (46, l, st, w) = za_x 150 (.aload_n 0) 46 l st w := za_n.at zcc_150 dX13_putBit_46 rfl
theorem f_150_47 (l : za_L) (st : List Value) (w : za_W) : za_n 150 (47, l, st, w) = za_x 150 (.getfield 24) 47 l st w := za_n.at zcc_150 dX13_putBit_47 rfl
theorem f_150_50 (l : za_L) (st : List Value) (w : za_W) : za_n 150 (50, l, st, w) = za_x 150 (.iload_n 2) 50 l st w := za_n.at zcc_150 dX13_putBit_50 rfl
theorem f_150_51 (l : za_L) (st : List Value) (w : za_W) : za_n 150 (51, l, st, w) = za_x 150 (.baload) 51 l st w := za_n.at zcc_150 dX13_putBit_51 rfl
theorem f_150_52 (l : za_L) (st : List Value) (w : za_W) : za_n 150 (52, l, st, w) = za_x 150 (.iload_n 1) 52 l st w := za_n.at zcc_150 dX13_putBit_52 rfl
theorem f_150_53 (l : za_L) (st : List Value) (w : za_W) : za_n 150 (53, l, st, w) = za_go 55 l (.int (7) :: st) w := (za_n.at zcc_150 dX13_putBit_53 rfl).trans (congrArg (fun x => za_go 55 l (.int x :: st) w) (by decide))
theorem f_150_55 (l : za_L) (st : List Value) (w : za_W) : za_n 150 (55, l, st, w) = za_x 150 (.aload_n 0) 55 l st w := za_n.at zcc_150 dX13_putBit_55 rfl
theorem f_150_56 (l : za_L) (st : List Value) (w : za_W) : za_n 150 (56, l, st, w) = za_x 150 (.getfield 150) 56 l st w := za_n.at zcc_150 dX13_putBit_56 rfl
theorem f_150_59 (l : za_L) (st : List Value) (w : za_W) : za_n 150 (59, l, st, w) = za_go 61 l (.int (8) :: st) w := (za_n.at zcc_150 dX13_putBit_59 rfl).trans (congrArg (fun x => za_go 61 l (.int x :: st) w) (by decide))
theorem f_150_61 (l : za_L) (st : List Value) (w : za_W) : za_n 150 (61, l, st, w) = za_x 150 (.irem) 61 l st w := za_n.at zcc_150 dX13_putBit_61 rfl
theorem f_150_62 (l : za_L) (st : List Value) (w : za_W) : za_n 150 (62, l, st, w) = za_x 150 (.isub) 62 l st w := za_n.at zcc_150 dX13_putBit_62 rfl
theorem f_150_63 (l : za_L) (st : List Value) (w : za_W) : za_n 150 (63, l, st, w) = za_x 150 (.ishl) 63 l st w := za_n.at zcc_150 dX13_putBit_63 rfl
theorem f_150_64 (l : za_L) (st : List Value) (w : za_W) : za_n 150 (64, l, st, w) = za_x 150 (.ior) 64 l st w := za_n.at zcc_150 dX13_putBit_64 rfl
theorem f_150_65 (l : za_L) (st : List Value) (w : za_W) : za_n 150 (65, l, st, w) = za_x 150 (.i2b) 65 l st w := za_n.at zcc_150 dX13_putBit_65 rfl
theorem f_150_66 (l : za_L) (st : List Value) (w : za_W) : za_n 150 (66, l, st, w) = za_x 150 (.bastore) 66 l st w := za_n.at zcc_150 dX13_putBit_66 rfl
theorem f_150_67 (l : za_L) (st : List Value) (w : za_W) : za_n 150 (67, l, st, w) = za_x 150 (.aload_n 0) 67 l st w := za_n.at zcc_150 dX13_putBit_67 rfl
theorem f_150_68 (l : za_L) (st : List Value) (w : za_W) : za_n 150 (68, l, st, w) = za_x 150 (.dup) 68 l st w := za_n.at zcc_150 dX13_putBit_68 rfl
theorem f_150_69 (l : za_L) (st : List Value) (w : za_W) : za_n 150 (69, l, st, w) = za_x 150 (.getfield 150) 69 l st w := za_n.at zcc_150 dX13_putBit_69 rfl
theorem f_150_72 (l : za_L) (st : List Value) (w : za_W) : za_n 150 (72, l, st, w) = za_go 73 l (.int (1) :: st) w := (za_n.at zcc_150 dX13_putBit_72 rfl).trans (congrArg (fun x => za_go 73 l (.int x :: st) w) (by decide))
theorem f_150_73 (l : za_L) (st : List Value) (w : za_W) : za_n 150 (73, l, st, w) = za_x 150 (.iadd) 73 l st w := za_n.at zcc_150 dX13_putBit_73 rfl
theorem f_150_74 (l : za_L) (st : List Value) (w : za_W) : za_n 150 (74, l, st, w) = za_x 150 (.putfield 150) 74 l st w := za_n.at zcc_150 dX13_putBit_74 rfl
theorem f_150_77 (l : za_L) (st : List Value) (w : za_W) : za_n 150 (77, l, st, w) = za_x 150 (.return_) 77 l st w := za_n.at zcc_150 dX13_putBit_77 rfl
theorem f_151_0 (l : za_L) (st : List Value) (w : za_W) : za_n 151 (0, l, st, w) = za_x 151 (.iload_n 3) 0 l st w := za_n.at zcc_151 dX13_put_0 rfl
theorem f_151_1 (l : za_L) (st : List Value) (w : za_W) : za_n 151 (1, l, st, w) = za_go 2 l (.int (1) :: st) w := (za_n.at zcc_151 dX13_put_1 rfl).trans (congrArg (fun x => za_go 2 l (.int x :: st) w) (by decide))
theorem f_151_2 (l : za_L) (st : List Value) (w : za_W) : za_n 151 (2, l, st, w) = za_x 151 (.isub) 2 l st w := za_n.at zcc_151 dX13_put_2 rfl
theorem f_151_3 (l : za_L) (st : List Value) (w : za_W) : za_n 151 (3, l, st, w) = za_x 151 (.istore 4) 3 l st w := za_n.at zcc_151 dX13_put_3 rfl
theorem f_151_5 (l : za_L) (st : List Value) (w : za_W) : za_n 151 (5, l, st, w) = za_x 151 (.iload 4) 5 l st w := za_n.at zcc_151 dX13_put_5 rfl
theorem f_151_7 (l : za_L) (st : List Value) (w : za_W) : za_n 151 (7, l, st, w) = za_x 151 (.ifCond .lt 20) 7 l st w := za_n.at zcc_151 dX13_put_7 rfl
theorem f_151_10 (l : za_L) (st : List Value) (w : za_W) : za_n 151 (10, l, st, w) = za_x 151 (.aload_n 0) 10 l st w := za_n.at zcc_151 dX13_put_10 rfl
theorem f_151_11 (l : za_L) (st : List Value) (w : za_W) : za_n 151 (11, l, st, w) = za_x 151 (.lload_n 1) 11 l st w := za_n.at zcc_151 dX13_put_11 rfl
theorem f_151_12 (l : za_L) (st : List Value) (w : za_W) : za_n 151 (12, l, st, w) = za_x 151 (.iload 4) 12 l st w := za_n.at zcc_151 dX13_put_12 rfl
theorem f_151_14 (l : za_L) (st : List Value) (w : za_W) : za_n 151 (14, l, st, w) = za_x 151 (.lushr) 14 l st w := za_n.at zcc_151 dX13_put_14 rfl
theorem f_151_15 (l : za_L) (st : List Value) (w : za_W) : za_n 151 (15, l, st, w) = za_x 151 (.lconst 1) 15 l st w := za_n.at zcc_151 dX13_put_15 rfl
theorem f_151_16 (l : za_L) (st : List Value) (w : za_W) : za_n 151 (16, l, st, w) = za_x 151 (.land) 16 l st w := za_n.at zcc_151 dX13_put_16 rfl
theorem f_151_17 (l : za_L) (st : List Value) (w : za_W) : za_n 151 (17, l, st, w) = za_x 151 (.l2i) 17 l st w := za_n.at zcc_151 dX13_put_17 rfl
theorem f_151_18 (l : za_L) (st : List Value) (w : za_W) : za_n 151 (18, l, st, w) = za_x 151 (.invokevirtual 157) 18 l st w := za_n.at zcc_151 dX13_put_18 rfl
theorem f_151_21 (l : za_L) (st : List Value) (w : za_W) : za_n 151 (21, l, st, w) = za_x 151 (.iinc 4 (-1)) 21 l st w := za_n.at zcc_151 dX13_put_21 rfl
theorem f_151_24 (l : za_L) (st : List Value) (w : za_W) : za_n 151 (24, l, st, w) = za_go 5 l st w := (za_n.at zcc_151 dX13_put_24 rfl).trans (za_jp.at (by decide))
theorem f_151_27 (l : za_L) (st : List Value) (w : za_W) : za_n 151 (27, l, st, w) = za_x 151 (.return_) 27 l st w := za_n.at zcc_151 dX13_put_27 rfl
theorem f_152_0 (l : za_L) (st : List Value) (w : za_W) : za_n 152 (0, l, st, w) = za_x 152 (.iload_n 1) 0 l st w := za_n.at zcc_152 dX13_isAhead_0 rfl
theorem f_152_1 (l : za_L) (st : List Value) (w : za_W) : za_n 152 (1, l, st, w) = za_x 152 (.istore_n 3) 1 l st w := za_n.at zcc_152 dX13_isAhead_1 rfl
theorem f_152_2 (l : za_L) (st : List Value) (w : za_W) : za_n 152 (2, l, st, w) = za_x 152 (.iload_n 2) 2 l st w := za_n.at zcc_152 dX13_isAhead_2 rfl
theorem f_152_3 (l : za_L) (st : List Value) (w : za_W) : za_n 152 (3, l, st, w) = za_x 152 (.istore 4) 3 l st w := za_n.at zcc_152 dX13_isAhead_3 rfl
theorem f_152_5 (l : za_L) (st : List Value) (w : za_W) : za_n 152 (5, l, st, w) = za_go 6 l (.int (0) :: st) w := (za_n.at zcc_152 dX13_isAhead_5 rfl).trans (congrArg (fun x => za_go 6 l (.int x :: st) w) (by decide))
theorem f_152_6 (l : za_L) (st : List Value) (w : za_W) : za_n 152 (6, l, st, w) = za_x 152 (.istore 5) 6 l st w := za_n.at zcc_152 dX13_isAhead_6 rfl
theorem f_152_8 (l : za_L) (st : List Value) (w : za_W) : za_n 152 (8, l, st, w) = za_x 152 (.iload 5) 8 l st w := za_n.at zcc_152 dX13_isAhead_8 rfl
theorem f_152_10 (l : za_L) (st : List Value) (w : za_W) : za_n 152 (10, l, st, w) = za_x 152 (.aload_n 0) 10 l st w := za_n.at zcc_152 dX13_isAhead_10 rfl
theorem f_152_11 (l : za_L) (st : List Value) (w : za_W) : za_n 152 (11, l, st, w) = za_x 152 (.getfield 161) 11 l st w := za_n.at zcc_152 dX13_isAhead_11 rfl
theorem f_152_14 (l : za_L) (st : List Value) (w : za_W) : za_n 152 (14, l, st, w) = za_x 152 (.if_icmp .ge 93) 14 l st w := za_n.at zcc_152 dX13_isAhead_14 rfl
theorem f_152_17 (l : za_L) (st : List Value) (w : za_W) : za_n 152 (17, l, st, w) = za_x 152 (.aload_n 0) 17 l st w := za_n.at zcc_152 dX13_isAhead_17 rfl
theorem f_152_18 (l : za_L) (st : List Value) (w : za_W) : za_n 152 (18, l, st, w) = za_x 152 (.getfield 44) 18 l st w := za_n.at zcc_152 dX13_isAhead_18 rfl
theorem f_152_21 (l : za_L) (st : List Value) (w : za_W) : za_n 152 (21, l, st, w) = za_x 152 (.iload_n 3) 21 l st w := za_n.at zcc_152 dX13_isAhead_21 rfl
theorem f_152_22 (l : za_L) (st : List Value) (w : za_W) : za_n 152 (22, l, st, w) = za_x 152 (.baload) 22 l st w := za_n.at zcc_152 dX13_isAhead_22 rfl
theorem f_152_23 (l : za_L) (st : List Value) (w : za_W) : za_n 152 (23, l, st, w) = za_go 26 l (.int (255) :: st) w := (za_n.at zcc_152 dX13_isAhead_23 rfl).trans (congrArg (fun x => za_go 26 l (.int x :: st) w) (by decide))
theorem f_152_26 (l : za_L) (st : List Value) (w : za_W) : za_n 152 (26, l, st, w) = za_x 152 (.iand) 26 l st w := za_n.at zcc_152 dX13_isAhead_26 rfl
theorem f_152_27 (l : za_L) (st : List Value) (w : za_W) : za_n 152 (27, l, st, w) = za_x 152 (.istore 6) 27 l st w := za_n.at zcc_152 dX13_isAhead_27 rfl
theorem f_152_29 (l : za_L) (st : List Value) (w : za_W) : za_n 152 (29, l, st, w) = za_x 152 (.aload_n 0) 29 l st w := za_n.at zcc_152 dX13_isAhead_29 rfl
theorem f_152_30 (l : za_L) (st : List Value) (w : za_W) : za_n 152 (30, l, st, w) = za_x 152 (.getfield 44) 30 l st w := za_n.at zcc_152 dX13_isAhead_30 rfl
theorem f_152_33 (l : za_L) (st : List Value) (w : za_W) : za_n 152 (33, l, st, w) = za_x 152 (.iload 4) 33 l st w := za_n.at zcc_152 dX13_isAhead_33 rfl
theorem f_152_35 (l : za_L) (st : List Value) (w : za_W) : za_n 152 (35, l, st, w) = za_x 152 (.baload) 35 l st w := za_n.at zcc_152 dX13_isAhead_35 rfl
theorem f_152_36 (l : za_L) (st : List Value) (w : za_W) : za_n 152 (36, l, st, w) = za_go 39 l (.int (255) :: st) w := (za_n.at zcc_152 dX13_isAhead_36 rfl).trans (congrArg (fun x => za_go 39 l (.int x :: st) w) (by decide))
theorem f_152_39 (l : za_L) (st : List Value) (w : za_W) : za_n 152 (39, l, st, w) = za_x 152 (.iand) 39 l st w := za_n.at zcc_152 dX13_isAhead_39 rfl
theorem f_152_40 (l : za_L) (st : List Value) (w : za_W) : za_n 152 (40, l, st, w) = za_x 152 (.istore 7) 40 l st w := za_n.at zcc_152 dX13_isAhead_40 rfl
theorem f_152_42 (l : za_L) (st : List Value) (w : za_W) : za_n 152 (42, l, st, w) = za_x 152 (.iload 6) 42 l st w := za_n.at zcc_152 dX13_isAhead_42 rfl
theorem f_152_44 (l : za_L) (st : List Value) (w : za_W) : za_n 152 (44, l, st, w) = za_x 152 (.iload 7) 44 l st w := za_n.at zcc_152 dX13_isAhead_44 rfl
theorem f_152_46 (l : za_L) (st : List Value) (w : za_W) : za_n 152 (46, l, st, w) = za_x 152 (.if_icmp .eq 16) 46 l st w := za_n.at zcc_152 dX13_isAhead_46 rfl
theorem f_152_49 (l : za_L) (st : List Value) (w : za_W) : za_n 152 (49, l, st, w) = za_x 152 (.iload 6) 49 l st w := za_n.at zcc_152 dX13_isAhead_49 rfl
theorem f_152_51 (l : za_L) (st : List Value) (w : za_W) : za_n 152 (51, l, st, w) = za_x 152 (.iload 7) 51 l st w := za_n.at zcc_152 dX13_isAhead_51 rfl
theorem f_152_53 (l : za_L) (st : List Value) (w : za_W) : za_n 152 (53, l, st, w) = za_x 152 (.if_icmp .ge 7) 53 l st w := za_n.at zcc_152 dX13_isAhead_53 rfl
theorem f_152_56 (l : za_L) (st : List Value) (w : za_W) : za_n 152 (56, l, st, w) = za_go 57 l (.int (1) :: st) w := (za_n.at zcc_152 dX13_isAhead_56 rfl).trans (congrArg (fun x => za_go 57 l (.int x :: st) w) (by decide))
theorem f_152_57 (l : za_L) (st : List Value) (w : za_W) : za_n 152 (57, l, st, w) = za_go 61 l st w := (za_n.at zcc_152 dX13_isAhead_57 rfl).trans (za_jp.at (by decide))
theorem f_152_60 (l : za_L) (st : List Value) (w : za_W) : za_n 152 (60, l, st, w) = za_go 61 l (.int (0) :: st) w := (za_n.at zcc_152 dX13_isAhead_60 rfl).trans (congrArg (fun x => za_go 61 l (.int x :: st) w) (by decide))
theorem f_152_61 (l : za_L) (st : List Value) (w : za_W) : za_n 152 (61, l, st, w) = za_x 152 (.ireturn) 61 l st w := za_n.at zcc_152 dX13_isAhead_61 rfl
theorem f_152_62 (l : za_L) (st : List Value) (w : za_W) : za_n 152 (62, l, st, w) = za_x 152 (.iload_n 3) 62 l st w := za_n.at zcc_152 dX13_isAhead_62 rfl
theorem f_152_63 (l : za_L) (st : List Value) (w : za_W) : za_n 152 (63, l, st, w) = za_go 64 l (.int (1) :: st) w := (za_n.at zcc_152 dX13_isAhead_63 rfl).trans (congrArg (fun x => za_go 64 l (.int x :: st) w) (by decide))
theorem f_152_64 (l : za_L) (st : List Value) (w : za_W) : za_n 152 (64, l, st, w) = za_x 152 (.iadd) 64 l st w := za_n.at zcc_152 dX13_isAhead_64 rfl
theorem f_152_65 (l : za_L) (st : List Value) (w : za_W) : za_n 152 (65, l, st, w) = za_x 152 (.aload_n 0) 65 l st w := za_n.at zcc_152 dX13_isAhead_65 rfl
theorem f_152_66 (l : za_L) (st : List Value) (w : za_W) : za_n 152 (66, l, st, w) = za_x 152 (.getfield 161) 66 l st w := za_n.at zcc_152 dX13_isAhead_66 rfl
theorem f_152_69 (l : za_L) (st : List Value) (w : za_W) : za_n 152 (69, l, st, w) = za_x 152 (.if_icmp .ne 7) 69 l st w := za_n.at zcc_152 dX13_isAhead_69 rfl
theorem f_152_72 (l : za_L) (st : List Value) (w : za_W) : za_n 152 (72, l, st, w) = za_go 73 l (.int (0) :: st) w := (za_n.at zcc_152 dX13_isAhead_72 rfl).trans (congrArg (fun x => za_go 73 l (.int x :: st) w) (by decide))
theorem f_152_73 (l : za_L) (st : List Value) (w : za_W) : za_n 152 (73, l, st, w) = za_go 79 l st w := (za_n.at zcc_152 dX13_isAhead_73 rfl).trans (za_jp.at (by decide))
theorem f_152_76 (l : za_L) (st : List Value) (w : za_W) : za_n 152 (76, l, st, w) = za_x 152 (.iload_n 3) 76 l st w := za_n.at zcc_152 dX13_isAhead_76 rfl
theorem f_152_77 (l : za_L) (st : List Value) (w : za_W) : za_n 152 (77, l, st, w) = za_go 78 l (.int (1) :: st) w := (za_n.at zcc_152 dX13_isAhead_77 rfl).trans (congrArg (fun x => za_go 78 l (.int x :: st) w) (by decide))
theorem f_152_78 (l : za_L) (st : List Value) (w : za_W) : za_n 152 (78, l, st, w) = za_x 152 (.iadd) 78 l st w := za_n.at zcc_152 dX13_isAhead_78 rfl
theorem f_152_79 (l : za_L) (st : List Value) (w : za_W) : za_n 152 (79, l, st, w) = za_x 152 (.istore_n 3) 79 l st w := za_n.at zcc_152 dX13_isAhead_79 rfl
theorem f_152_80 (l : za_L) (st : List Value) (w : za_W) : za_n 152 (80, l, st, w) = za_x 152 (.iload 4) 80 l st w := za_n.at zcc_152 dX13_isAhead_80 rfl
theorem f_152_82 (l : za_L) (st : List Value) (w : za_W) : za_n 152 (82, l, st, w) = za_go 83 l (.int (1) :: st) w := (za_n.at zcc_152 dX13_isAhead_82 rfl).trans (congrArg (fun x => za_go 83 l (.int x :: st) w) (by decide))
theorem f_152_83 (l : za_L) (st : List Value) (w : za_W) : za_n 152 (83, l, st, w) = za_x 152 (.iadd) 83 l st w := za_n.at zcc_152 dX13_isAhead_83 rfl
theorem f_152_84 (l : za_L) (st : List Value) (w : za_W) : za_n 152 (84, l, st, w) = za_x 152 (.aload_n 0) 84 l st w := za_n.at zcc_152 dX13_isAhead_84 rfl
theorem f_152_85 (l : za_L) (st : List Value) (w : za_W) : za_n 152 (85, l, st, w) = za_x 152 (.getfield 161) 85 l st w := za_n.at zcc_152 dX13_isAhead_85 rfl
theorem f_152_88 (l : za_L) (st : List Value) (w : za_W) : za_n 152 (88, l, st, w) = za_x 152 (.if_icmp .ne 7) 88 l st w := za_n.at zcc_152 dX13_isAhead_88 rfl
theorem f_152_91 (l : za_L) (st : List Value) (w : za_W) : za_n 152 (91, l, st, w) = za_go 92 l (.int (0) :: st) w := (za_n.at zcc_152 dX13_isAhead_91 rfl).trans (congrArg (fun x => za_go 92 l (.int x :: st) w) (by decide))
theorem f_152_92 (l : za_L) (st : List Value) (w : za_W) : za_n 152 (92, l, st, w) = za_go 99 l st w := (za_n.at zcc_152 dX13_isAhead_92 rfl).trans (za_jp.at (by decide))
theorem f_152_95 (l : za_L) (st : List Value) (w : za_W) : za_n 152 (95, l, st, w) = za_x 152 (.iload 4) 95 l st w := za_n.at zcc_152 dX13_isAhead_95 rfl
theorem f_152_97 (l : za_L) (st : List Value) (w : za_W) : za_n 152 (97, l, st, w) = za_go 98 l (.int (1) :: st) w := (za_n.at zcc_152 dX13_isAhead_97 rfl).trans (congrArg (fun x => za_go 98 l (.int x :: st) w) (by decide))
theorem f_152_98 (l : za_L) (st : List Value) (w : za_W) : za_n 152 (98, l, st, w) = za_x 152 (.iadd) 98 l st w := za_n.at zcc_152 dX13_isAhead_98 rfl
theorem f_152_99 (l : za_L) (st : List Value) (w : za_W) : za_n 152 (99, l, st, w) = za_x 152 (.istore 4) 99 l st w := za_n.at zcc_152 dX13_isAhead_99 rfl
theorem f_152_101 (l : za_L) (st : List Value) (w : za_W) : za_n 152 (101, l, st, w) = za_x 152 (.iinc 5 1) 101 l st w := za_n.at zcc_152 dX13_isAhead_101 rfl
theorem f_152_104 (l : za_L) (st : List Value) (w : za_W) : za_n 152 (104, l, st, w) = za_go 8 l st w := (za_n.at zcc_152 dX13_isAhead_104 rfl).trans (za_jp.at (by decide))
theorem f_152_107 (l : za_L) (st : List Value) (w : za_W) : za_n 152 (107, l, st, w) = za_x 152 (.iload_n 1) 107 l st w := za_n.at zcc_152 dX13_isAhead_107 rfl
theorem f_152_108 (l : za_L) (st : List Value) (w : za_W) : za_n 152 (108, l, st, w) = za_x 152 (.iload_n 2) 108 l st w := za_n.at zcc_152 dX13_isAhead_108 rfl
theorem f_152_109 (l : za_L) (st : List Value) (w : za_W) : za_n 152 (109, l, st, w) = za_x 152 (.if_icmp .ge 7) 109 l st w := za_n.at zcc_152 dX13_isAhead_109 rfl
theorem f_152_112 (l : za_L) (st : List Value) (w : za_W) : za_n 152 (112, l, st, w) = za_go 113 l (.int (1) :: st) w := (za_n.at zcc_152 dX13_isAhead_112 rfl).trans (congrArg (fun x => za_go 113 l (.int x :: st) w) (by decide))
theorem f_152_113 (l : za_L) (st : List Value) (w : za_W) : za_n 152 (113, l, st, w) = za_go 117 l st w := (za_n.at zcc_152 dX13_isAhead_113 rfl).trans (za_jp.at (by decide))
theorem f_152_116 (l : za_L) (st : List Value) (w : za_W) : za_n 152 (116, l, st, w) = za_go 117 l (.int (0) :: st) w := (za_n.at zcc_152 dX13_isAhead_116 rfl).trans (congrArg (fun x => za_go 117 l (.int x :: st) w) (by decide))
theorem f_152_117 (l : za_L) (st : List Value) (w : za_W) : za_n 152 (117, l, st, w) = za_x 152 (.ireturn) 117 l st w := za_n.at zcc_152 dX13_isAhead_117 rfl
theorem f_153_0 (l : za_L) (st : List Value) (w : za_W) : za_n 153 (0, l, st, w) = za_go 1 l (.int (0) :: st) w := (za_n.at zcc_153 dX13_sortTurns_0 rfl).trans (congrArg (fun x => za_go 1 l (.int x :: st) w) (by decide))
theorem f_153_1 (l : za_L) (st : List Value) (w : za_W) : za_n 153 (1, l, st, w) = za_x 153 (.istore_n 1) 1 l st w := za_n.at zcc_153 dX13_sortTurns_1 rfl
theorem f_153_2 (l : za_L) (st : List Value) (w : za_W) : za_n 153 (2, l, st, w) = za_x 153 (.iload_n 1) 2 l st w := za_n.at zcc_153 dX13_sortTurns_2 rfl
theorem f_153_3 (l : za_L) (st : List Value) (w : za_W) : za_n 153 (3, l, st, w) = za_x 153 (.aload_n 0) 3 l st w := za_n.at zcc_153 dX13_sortTurns_3 rfl
theorem f_153_4 (l : za_L) (st : List Value) (w : za_W) : za_n 153 (4, l, st, w) = za_x 153 (.getfield 161) 4 l st w := za_n.at zcc_153 dX13_sortTurns_4 rfl
theorem f_153_7 (l : za_L) (st : List Value) (w : za_W) : za_n 153 (7, l, st, w) = za_x 153 (.if_icmp .ge 16) 7 l st w := za_n.at zcc_153 dX13_sortTurns_7 rfl
theorem f_153_10 (l : za_L) (st : List Value) (w : za_W) : za_n 153 (10, l, st, w) = za_x 153 (.aload_n 0) 10 l st w := za_n.at zcc_153 dX13_sortTurns_10 rfl
theorem f_153_11 (l : za_L) (st : List Value) (w : za_W) : za_n 153 (11, l, st, w) = za_x 153 (.getfield 47) 11 l st w := za_n.at zcc_153 dX13_sortTurns_11 rfl
theorem f_153_14 (l : za_L) (st : List Value) (w : za_W) : za_n 153 (14, l, st, w) = za_x 153 (.iload_n 1) 14 l st w := za_n.at zcc_153 dX13_sortTurns_14 rfl
theorem f_153_15 (l : za_L) (st : List Value) (w : za_W) : za_n 153 (15, l, st, w) = za_x 153 (.iload_n 1) 15 l st w := za_n.at zcc_153 dX13_sortTurns_15 rfl
theorem f_153_16 (l : za_L) (st : List Value) (w : za_W) : za_n 153 (16, l, st, w) = za_x 153 (.iastore) 16 l st w := za_n.at zcc_153 dX13_sortTurns_16 rfl
theorem f_153_17 (l : za_L) (st : List Value) (w : za_W) : za_n 153 (17, l, st, w) = za_x 153 (.iinc 1 1) 17 l st w := za_n.at zcc_153 dX13_sortTurns_17 rfl
theorem f_153_20 (l : za_L) (st : List Value) (w : za_W) : za_n 153 (20, l, st, w) = za_go 2 l st w := (za_n.at zcc_153 dX13_sortTurns_20 rfl).trans (za_jp.at (by decide))
theorem f_153_23 (l : za_L) (st : List Value) (w : za_W) : za_n 153 (23, l, st, w) = za_go 24 l (.int (1) :: st) w := (za_n.at zcc_153 dX13_sortTurns_23 rfl).trans (congrArg (fun x => za_go 24 l (.int x :: st) w) (by decide))
theorem f_153_24 (l : za_L) (st : List Value) (w : za_W) : za_n 153 (24, l, st, w) = za_x 153 (.istore_n 1) 24 l st w := za_n.at zcc_153 dX13_sortTurns_24 rfl
theorem f_153_25 (l : za_L) (st : List Value) (w : za_W) : za_n 153 (25, l, st, w) = za_x 153 (.iload_n 1) 25 l st w := za_n.at zcc_153 dX13_sortTurns_25 rfl
theorem f_153_26 (l : za_L) (st : List Value) (w : za_W) : za_n 153 (26, l, st, w) = za_x 153 (.aload_n 0) 26 l st w := za_n.at zcc_153 dX13_sortTurns_26 rfl
theorem f_153_27 (l : za_L) (st : List Value) (w : za_W) : za_n 153 (27, l, st, w) = za_x 153 (.getfield 161) 27 l st w := za_n.at zcc_153 dX13_sortTurns_27 rfl
theorem f_153_30 (l : za_L) (st : List Value) (w : za_W) : za_n 153 (30, l, st, w) = za_x 153 (.if_icmp .ge 228) 30 l st w := za_n.at zcc_153 dX13_sortTurns_30 rfl
theorem f_153_33 (l : za_L) (st : List Value) (w : za_W) : za_n 153 (33, l, st, w) = za_go 34 l (.int (0) :: st) w := (za_n.at zcc_153 dX13_sortTurns_33 rfl).trans (congrArg (fun x => za_go 34 l (.int x :: st) w) (by decide))
theorem f_153_34 (l : za_L) (st : List Value) (w : za_W) : za_n 153 (34, l, st, w) = za_x 153 (.istore_n 2) 34 l st w := za_n.at zcc_153 dX13_sortTurns_34 rfl
theorem f_153_35 (l : za_L) (st : List Value) (w : za_W) : za_n 153 (35, l, st, w) = za_x 153 (.iload_n 2) 35 l st w := za_n.at zcc_153 dX13_sortTurns_35 rfl
theorem f_153_36 (l : za_L) (st : List Value) (w : za_W) : za_n 153 (36, l, st, w) = za_x 153 (.aload_n 0) 36 l st w := za_n.at zcc_153 dX13_sortTurns_36 rfl
theorem f_153_37 (l : za_L) (st : List Value) (w : za_W) : za_n 153 (37, l, st, w) = za_x 153 (.getfield 161) 37 l st w := za_n.at zcc_153 dX13_sortTurns_37 rfl
theorem f_153_40 (l : za_L) (st : List Value) (w : za_W) : za_n 153 (40, l, st, w) = za_x 153 (.if_icmp .ge 183) 40 l st w := za_n.at zcc_153 dX13_sortTurns_40 rfl
theorem f_153_43 (l : za_L) (st : List Value) (w : za_W) : za_n 153 (43, l, st, w) = za_x 153 (.iload_n 2) 43 l st w := za_n.at zcc_153 dX13_sortTurns_43 rfl
theorem f_153_44 (l : za_L) (st : List Value) (w : za_W) : za_n 153 (44, l, st, w) = za_x 153 (.iload_n 1) 44 l st w := za_n.at zcc_153 dX13_sortTurns_44 rfl
theorem f_153_45 (l : za_L) (st : List Value) (w : za_W) : za_n 153 (45, l, st, w) = za_x 153 (.iadd) 45 l st w := za_n.at zcc_153 dX13_sortTurns_45 rfl
theorem f_153_46 (l : za_L) (st : List Value) (w : za_W) : za_n 153 (46, l, st, w) = za_x 153 (.aload_n 0) 46 l st w := za_n.at zcc_153 dX13_sortTurns_46 rfl
theorem f_153_47 (l : za_L) (st : List Value) (w : za_W) : za_n 153 (47, l, st, w) = za_x 153 (.getfield 161) 47 l st w := za_n.at zcc_153 dX13_sortTurns_47 rfl
theorem f_153_50 (l : za_L) (st : List Value) (w : za_W) : za_n 153 (50, l, st, w) = za_x 153 (.if_icmp .ge 9) 50 l st w := za_n.at zcc_153 dX13_sortTurns_50 rfl
theorem f_153_53 (l : za_L) (st : List Value) (w : za_W) : za_n 153 (53, l, st, w) = za_x 153 (.iload_n 2) 53 l st w := za_n.at zcc_153 dX13_sortTurns_53 rfl
theorem f_153_54 (l : za_L) (st : List Value) (w : za_W) : za_n 153 (54, l, st, w) = za_x 153 (.iload_n 1) 54 l st w := za_n.at zcc_153 dX13_sortTurns_54 rfl
theorem f_153_55 (l : za_L) (st : List Value) (w : za_W) : za_n 153 (55, l, st, w) = za_x 153 (.iadd) 55 l st w := za_n.at zcc_153 dX13_sortTurns_55 rfl
theorem f_153_56 (l : za_L) (st : List Value) (w : za_W) : za_n 153 (56, l, st, w) = za_go 63 l st w := (za_n.at zcc_153 dX13_sortTurns_56 rfl).trans (za_jp.at (by decide))
theorem f_153_59 (l : za_L) (st : List Value) (w : za_W) : za_n 153 (59, l, st, w) = za_x 153 (.aload_n 0) 59 l st w := za_n.at zcc_153 dX13_sortTurns_59 rfl
theorem f_153_60 (l : za_L) (st : List Value) (w : za_W) : za_n 153 (60, l, st, w) = za_x 153 (.getfield 161) 60 l st w := za_n.at zcc_153 dX13_sortTurns_60 rfl
theorem f_153_63 (l : za_L) (st : List Value) (w : za_W) : za_n 153 (63, l, st, w) = za_x 153 (.istore_n 3) 63 l st w := za_n.at zcc_153 dX13_sortTurns_63 rfl
theorem f_153_64 (l : za_L) (st : List Value) (w : za_W) : za_n 153 (64, l, st, w) = za_x 153 (.iload_n 2) 64 l st w := za_n.at zcc_153 dX13_sortTurns_64 rfl
theorem f_153_65 (l : za_L) (st : List Value) (w : za_W) : za_n 153 (65, l, st, w) = za_go 66 l (.int (2) :: st) w := (za_n.at zcc_153 dX13_sortTurns_65 rfl).trans (congrArg (fun x => za_go 66 l (.int x :: st) w) (by decide))
theorem f_153_66 (l : za_L) (st : List Value) (w : za_W) : za_n 153 (66, l, st, w) = za_x 153 (.iload_n 1) 66 l st w := za_n.at zcc_153 dX13_sortTurns_66 rfl
theorem f_153_67 (l : za_L) (st : List Value) (w : za_W) : za_n 153 (67, l, st, w) = za_x 153 (.imul) 67 l st w := za_n.at zcc_153 dX13_sortTurns_67 rfl
theorem f_153_68 (l : za_L) (st : List Value) (w : za_W) : za_n 153 (68, l, st, w) = za_x 153 (.iadd) 68 l st w := za_n.at zcc_153 dX13_sortTurns_68 rfl
theorem f_153_69 (l : za_L) (st : List Value) (w : za_W) : za_n 153 (69, l, st, w) = za_x 153 (.aload_n 0) 69 l st w := za_n.at zcc_153 dX13_sortTurns_69 rfl
theorem f_153_70 (l : za_L) (st : List Value) (w : za_W) : za_n 153 (70, l, st, w) = za_x 153 (.getfield 161) 70 l st w := za_n.at zcc_153 dX13_sortTurns_70 rfl
theorem f_153_73 (l : za_L) (st : List Value) (w : za_W) : za_n 153 (73, l, st, w) = za_x 153 (.if_icmp .ge 11) 73 l st w := za_n.at zcc_153 dX13_sortTurns_73 rfl
theorem f_153_76 (l : za_L) (st : List Value) (w : za_W) : za_n 153 (76, l, st, w) = za_x 153 (.iload_n 2) 76 l st w := za_n.at zcc_153 dX13_sortTurns_76 rfl
theorem f_153_77 (l : za_L) (st : List Value) (w : za_W) : za_n 153 (77, l, st, w) = za_go 78 l (.int (2) :: st) w := (za_n.at zcc_153 dX13_sortTurns_77 rfl).trans (congrArg (fun x => za_go 78 l (.int x :: st) w) (by decide))
theorem f_153_78 (l : za_L) (st : List Value) (w : za_W) : za_n 153 (78, l, st, w) = za_x 153 (.iload_n 1) 78 l st w := za_n.at zcc_153 dX13_sortTurns_78 rfl
theorem f_153_79 (l : za_L) (st : List Value) (w : za_W) : za_n 153 (79, l, st, w) = za_x 153 (.imul) 79 l st w := za_n.at zcc_153 dX13_sortTurns_79 rfl
theorem f_153_80 (l : za_L) (st : List Value) (w : za_W) : za_n 153 (80, l, st, w) = za_x 153 (.iadd) 80 l st w := za_n.at zcc_153 dX13_sortTurns_80 rfl
theorem f_153_81 (l : za_L) (st : List Value) (w : za_W) : za_n 153 (81, l, st, w) = za_go 88 l st w := (za_n.at zcc_153 dX13_sortTurns_81 rfl).trans (za_jp.at (by decide))
theorem f_153_84 (l : za_L) (st : List Value) (w : za_W) : za_n 153 (84, l, st, w) = za_x 153 (.aload_n 0) 84 l st w := za_n.at zcc_153 dX13_sortTurns_84 rfl
theorem f_153_85 (l : za_L) (st : List Value) (w : za_W) : za_n 153 (85, l, st, w) = za_x 153 (.getfield 161) 85 l st w := za_n.at zcc_153 dX13_sortTurns_85 rfl
theorem f_153_88 (l : za_L) (st : List Value) (w : za_W) : za_n 153 (88, l, st, w) = za_x 153 (.istore 4) 88 l st w := za_n.at zcc_153 dX13_sortTurns_88 rfl
theorem f_153_90 (l : za_L) (st : List Value) (w : za_W) : za_n 153 (90, l, st, w) = za_x 153 (.iload_n 2) 90 l st w := za_n.at zcc_153 dX13_sortTurns_90 rfl
theorem f_153_91 (l : za_L) (st : List Value) (w : za_W) : za_n 153 (91, l, st, w) = za_x 153 (.istore 5) 91 l st w := za_n.at zcc_153 dX13_sortTurns_91 rfl
theorem f_153_93 (l : za_L) (st : List Value) (w : za_W) : za_n 153 (93, l, st, w) = za_x 153 (.iload_n 3) 93 l st w := za_n.at zcc_153 dX13_sortTurns_93 rfl
theorem f_153_94 (l : za_L) (st : List Value) (w : za_W) : za_n 153 (94, l, st, w) = za_x 153 (.istore 6) 94 l st w := za_n.at zcc_153 dX13_sortTurns_94 rfl
theorem f_153_96 (l : za_L) (st : List Value) (w : za_W) : za_n 153 (96, l, st, w) = za_x 153 (.iload_n 2) 96 l st w := za_n.at zcc_153 dX13_sortTurns_96 rfl
theorem f_153_97 (l : za_L) (st : List Value) (w : za_W) : za_n 153 (97, l, st, w) = za_x 153 (.istore 7) 97 l st w := za_n.at zcc_153 dX13_sortTurns_97 rfl
theorem f_153_99 (l : za_L) (st : List Value) (w : za_W) : za_n 153 (99, l, st, w) = za_x 153 (.iload 7) 99 l st w := za_n.at zcc_153 dX13_sortTurns_99 rfl
theorem f_153_101 (l : za_L) (st : List Value) (w : za_W) : za_n 153 (101, l, st, w) = za_x 153 (.iload 4) 101 l st w := za_n.at zcc_153 dX13_sortTurns_101 rfl
theorem f_153_103 (l : za_L) (st : List Value) (w : za_W) : za_n 153 (103, l, st, w) = za_x 153 (.if_icmp .ge 111) 103 l st w := za_n.at zcc_153 dX13_sortTurns_103 rfl
theorem f_153_106 (l : za_L) (st : List Value) (w : za_W) : za_n 153 (106, l, st, w) = za_x 153 (.iload 5) 106 l st w := za_n.at zcc_153 dX13_sortTurns_106 rfl
theorem f_153_108 (l : za_L) (st : List Value) (w : za_W) : za_n 153 (108, l, st, w) = za_x 153 (.iload_n 3) 108 l st w := za_n.at zcc_153 dX13_sortTurns_108 rfl
theorem f_153_109 (l : za_L) (st : List Value) (w : za_W) : za_n 153 (109, l, st, w) = za_x 153 (.if_icmp .ge 35) 109 l st w := za_n.at zcc_153 dX13_sortTurns_109 rfl
theorem f_153_112 (l : za_L) (st : List Value) (w : za_W) : za_n 153 (112, l, st, w) = za_x 153 (.iload 6) 112 l st w := za_n.at zcc_153 dX13_sortTurns_112 rfl
theorem f_153_114 (l : za_L) (st : List Value) (w : za_W) : za_n 153 (114, l, st, w) = za_x 153 (.iload 4) 114 l st w := za_n.at zcc_153 dX13_sortTurns_114 rfl
theorem f_153_116 (l : za_L) (st : List Value) (w : za_W) : za_n 153 (116, l, st, w) = za_x 153 (.if_icmp .ge 24) 116 l st w := za_n.at zcc_153 dX13_sortTurns_116 rfl
theorem f_153_119 (l : za_L) (st : List Value) (w : za_W) : za_n 153 (119, l, st, w) = za_x 153 (.aload_n 0) 119 l st w := za_n.at zcc_153 dX13_sortTurns_119 rfl
theorem f_153_120 (l : za_L) (st : List Value) (w : za_W) : za_n 153 (120, l, st, w) = za_x 153 (.aload_n 0) 120 l st w := za_n.at zcc_153 dX13_sortTurns_120 rfl
theorem f_153_121 (l : za_L) (st : List Value) (w : za_W) : za_n 153 (121, l, st, w) = za_x 153 (.getfield 47) 121 l st w := za_n.at zcc_153 dX13_sortTurns_121 rfl
theorem f_153_124 (l : za_L) (st : List Value) (w : za_W) : za_n 153 (124, l, st, w) = za_x 153 (.iload 6) 124 l st w := za_n.at zcc_153 dX13_sortTurns_124 rfl
theorem f_153_126 (l : za_L) (st : List Value) (w : za_W) : za_n 153 (126, l, st, w) = za_x 153 (.iaload) 126 l st w := za_n.at zcc_153 dX13_sortTurns_126 rfl
theorem f_153_127 (l : za_L) (st : List Value) (w : za_W) : za_n 153 (127, l, st, w) = za_x 153 (.aload_n 0) 127 l st w := za_n.at zcc_153 dX13_sortTurns_127 rfl
theorem f_153_128 (l : za_L) (st : List Value) (w : za_W) : za_n 153 (128, l, st, w) = za_x 153 (.getfield 47) 128 l st w := za_n.at zcc_153 dX13_sortTurns_128 rfl
theorem f_153_131 (l : za_L) (st : List Value) (w : za_W) : za_n 153 (131, l, st, w) = za_x 153 (.iload 5) 131 l st w := za_n.at zcc_153 dX13_sortTurns_131 rfl
theorem f_153_133 (l : za_L) (st : List Value) (w : za_W) : za_n 153 (133, l, st, w) = za_x 153 (.iaload) 133 l st w := za_n.at zcc_153 dX13_sortTurns_133 rfl
theorem f_153_134 (l : za_L) (st : List Value) (w : za_W) : za_n 153 (134, l, st, w) = za_x 153 (.invokevirtual 164) 134 l st w := za_n.at zcc_153 dX13_sortTurns_134 rfl
theorem f_153_137 (l : za_L) (st : List Value) (w : za_W) : za_n 153 (137, l, st, w) = za_x 153 (.ifCond .ne 7) 137 l st w := za_n.at zcc_153 dX13_sortTurns_137 rfl
theorem f_153_140 (l : za_L) (st : List Value) (w : za_W) : za_n 153 (140, l, st, w) = za_go 141 l (.int (1) :: st) w := (za_n.at zcc_153 dX13_sortTurns_140 rfl).trans (congrArg (fun x => za_go 141 l (.int x :: st) w) (by decide))
theorem f_153_141 (l : za_L) (st : List Value) (w : za_W) : za_n 153 (141, l, st, w) = za_go 145 l st w := (za_n.at zcc_153 dX13_sortTurns_141 rfl).trans (za_jp.at (by decide))
theorem f_153_144 (l : za_L) (st : List Value) (w : za_W) : za_n 153 (144, l, st, w) = za_go 145 l (.int (0) :: st) w := (za_n.at zcc_153 dX13_sortTurns_144 rfl).trans (congrArg (fun x => za_go 145 l (.int x :: st) w) (by decide))
theorem f_153_145 (l : za_L) (st : List Value) (w : za_W) : za_n 153 (145, l, st, w) = za_x 153 (.istore 8) 145 l st w := za_n.at zcc_153 dX13_sortTurns_145 rfl
theorem f_153_147 (l : za_L) (st : List Value) (w : za_W) : za_n 153 (147, l, st, w) = za_x 153 (.aload_n 0) 147 l st w := za_n.at zcc_153 dX13_sortTurns_147 rfl
theorem f_153_148 (l : za_L) (st : List Value) (w : za_W) : za_n 153 (148, l, st, w) = za_x 153 (.getfield 50) 148 l st w := za_n.at zcc_153 dX13_sortTurns_148 rfl
theorem f_153_151 (l : za_L) (st : List Value) (w : za_W) : za_n 153 (151, l, st, w) = za_x 153 (.iload 7) 151 l st w := za_n.at zcc_153 dX13_sortTurns_151 rfl
theorem f_153_153 (l : za_L) (st : List Value) (w : za_W) : za_n 153 (153, l, st, w) = za_x 153 (.iload 8) 153 l st w := za_n.at zcc_153 dX13_sortTurns_153 rfl
theorem f_153_155 (l : za_L) (st : List Value) (w : za_W) : za_n 153 (155, l, st, w) = za_x 153 (.ifCond .eq 13) 155 l st w := za_n.at zcc_153 dX13_sortTurns_155 rfl
theorem f_153_158 (l : za_L) (st : List Value) (w : za_W) : za_n 153 (158, l, st, w) = za_x 153 (.aload_n 0) 158 l st w := za_n.at zcc_153 dX13_sortTurns_158 rfl
theorem f_153_159 (l : za_L) (st : List Value) (w : za_W) : za_n 153 (159, l, st, w) = za_x 153 (.getfield 47) 159 l st w := za_n.at zcc_153 dX13_sortTurns_159 rfl
theorem f_153_162 (l : za_L) (st : List Value) (w : za_W) : za_n 153 (162, l, st, w) = za_x 153 (.iload 5) 162 l st w := za_n.at zcc_153 dX13_sortTurns_162 rfl
theorem f_153_164 (l : za_L) (st : List Value) (w : za_W) : za_n 153 (164, l, st, w) = za_x 153 (.iaload) 164 l st w := za_n.at zcc_153 dX13_sortTurns_164 rfl
theorem f_153_165 (l : za_L) (st : List Value) (w : za_W) : za_n 153 (165, l, st, w) = za_go 175 l st w := (za_n.at zcc_153 dX13_sortTurns_165 rfl).trans (za_jp.at (by decide))
theorem f_153_168 (l : za_L) (st : List Value) (w : za_W) : za_n 153 (168, l, st, w) = za_x 153 (.aload_n 0) 168 l st w := za_n.at zcc_153 dX13_sortTurns_168 rfl
theorem f_153_169 (l : za_L) (st : List Value) (w : za_W) : za_n 153 (169, l, st, w) = za_x 153 (.getfield 47) 169 l st w := za_n.at zcc_153 dX13_sortTurns_169 rfl
theorem f_153_172 (l : za_L) (st : List Value) (w : za_W) : za_n 153 (172, l, st, w) = za_x 153 (.iload 6) 172 l st w := za_n.at zcc_153 dX13_sortTurns_172 rfl
theorem f_153_174 (l : za_L) (st : List Value) (w : za_W) : za_n 153 (174, l, st, w) = za_x 153 (.iaload) 174 l st w := za_n.at zcc_153 dX13_sortTurns_174 rfl
theorem f_153_175 (l : za_L) (st : List Value) (w : za_W) : za_n 153 (175, l, st, w) = za_x 153 (.iastore) 175 l st w := za_n.at zcc_153 dX13_sortTurns_175 rfl
theorem f_153_176 (l : za_L) (st : List Value) (w : za_W) : za_n 153 (176, l, st, w) = za_x 153 (.iload 8) 176 l st w := za_n.at zcc_153 dX13_sortTurns_176 rfl
theorem f_153_178 (l : za_L) (st : List Value) (w : za_W) : za_n 153 (178, l, st, w) = za_x 153 (.ifCond .eq 10) 178 l st w := za_n.at zcc_153 dX13_sortTurns_178 rfl
theorem f_153_181 (l : za_L) (st : List Value) (w : za_W) : za_n 153 (181, l, st, w) = za_x 153 (.iload 5) 181 l st w := za_n.at zcc_153 dX13_sortTurns_181 rfl
theorem f_153_183 (l : za_L) (st : List Value) (w : za_W) : za_n 153 (183, l, st, w) = za_go 184 l (.int (1) :: st) w := (za_n.at zcc_153 dX13_sortTurns_183 rfl).trans (congrArg (fun x => za_go 184 l (.int x :: st) w) (by decide))
theorem f_153_184 (l : za_L) (st : List Value) (w : za_W) : za_n 153 (184, l, st, w) = za_x 153 (.iadd) 184 l st w := za_n.at zcc_153 dX13_sortTurns_184 rfl
theorem f_153_185 (l : za_L) (st : List Value) (w : za_W) : za_n 153 (185, l, st, w) = za_go 190 l st w := (za_n.at zcc_153 dX13_sortTurns_185 rfl).trans (za_jp.at (by decide))
theorem f_153_188 (l : za_L) (st : List Value) (w : za_W) : za_n 153 (188, l, st, w) = za_x 153 (.iload 5) 188 l st w := za_n.at zcc_153 dX13_sortTurns_188 rfl
theorem f_153_190 (l : za_L) (st : List Value) (w : za_W) : za_n 153 (190, l, st, w) = za_x 153 (.istore 5) 190 l st w := za_n.at zcc_153 dX13_sortTurns_190 rfl
theorem f_153_192 (l : za_L) (st : List Value) (w : za_W) : za_n 153 (192, l, st, w) = za_x 153 (.iload 8) 192 l st w := za_n.at zcc_153 dX13_sortTurns_192 rfl
theorem f_153_194 (l : za_L) (st : List Value) (w : za_W) : za_n 153 (194, l, st, w) = za_x 153 (.ifCond .eq 8) 194 l st w := za_n.at zcc_153 dX13_sortTurns_194 rfl
theorem f_153_197 (l : za_L) (st : List Value) (w : za_W) : za_n 153 (197, l, st, w) = za_x 153 (.iload 6) 197 l st w := za_n.at zcc_153 dX13_sortTurns_197 rfl
theorem f_153_199 (l : za_L) (st : List Value) (w : za_W) : za_n 153 (199, l, st, w) = za_go 206 l st w := (za_n.at zcc_153 dX13_sortTurns_199 rfl).trans (za_jp.at (by decide))
theorem f_153_202 (l : za_L) (st : List Value) (w : za_W) : za_n 153 (202, l, st, w) = za_x 153 (.iload 6) 202 l st w := za_n.at zcc_153 dX13_sortTurns_202 rfl
theorem f_153_204 (l : za_L) (st : List Value) (w : za_W) : za_n 153 (204, l, st, w) = za_go 205 l (.int (1) :: st) w := (za_n.at zcc_153 dX13_sortTurns_204 rfl).trans (congrArg (fun x => za_go 205 l (.int x :: st) w) (by decide))
theorem f_153_205 (l : za_L) (st : List Value) (w : za_W) : za_n 153 (205, l, st, w) = za_x 153 (.iadd) 205 l st w := za_n.at zcc_153 dX13_sortTurns_205 rfl
theorem f_153_206 (l : za_L) (st : List Value) (w : za_W) : za_n 153 (206, l, st, w) = za_x 153 (.istore 6) 206 l st w := za_n.at zcc_153 dX13_sortTurns_206 rfl
theorem f_153_208 (l : za_L) (st : List Value) (w : za_W) : za_n 153 (208, l, st, w) = za_x 153 (.iinc 7 1) 208 l st w := za_n.at zcc_153 dX13_sortTurns_208 rfl
theorem f_153_211 (l : za_L) (st : List Value) (w : za_W) : za_n 153 (211, l, st, w) = za_go 99 l st w := (za_n.at zcc_153 dX13_sortTurns_211 rfl).trans (za_jp.at (by decide))
theorem f_153_214 (l : za_L) (st : List Value) (w : za_W) : za_n 153 (214, l, st, w) = za_x 153 (.iload_n 2) 214 l st w := za_n.at zcc_153 dX13_sortTurns_214 rfl
theorem f_153_215 (l : za_L) (st : List Value) (w : za_W) : za_n 153 (215, l, st, w) = za_go 216 l (.int (2) :: st) w := (za_n.at zcc_153 dX13_sortTurns_215 rfl).trans (congrArg (fun x => za_go 216 l (.int x :: st) w) (by decide))
theorem f_153_216 (l : za_L) (st : List Value) (w : za_W) : za_n 153 (216, l, st, w) = za_x 153 (.iload_n 1) 216 l st w := za_n.at zcc_153 dX13_sortTurns_216 rfl
theorem f_153_217 (l : za_L) (st : List Value) (w : za_W) : za_n 153 (217, l, st, w) = za_x 153 (.imul) 217 l st w := za_n.at zcc_153 dX13_sortTurns_217 rfl
theorem f_153_218 (l : za_L) (st : List Value) (w : za_W) : za_n 153 (218, l, st, w) = za_x 153 (.iadd) 218 l st w := za_n.at zcc_153 dX13_sortTurns_218 rfl
theorem f_153_219 (l : za_L) (st : List Value) (w : za_W) : za_n 153 (219, l, st, w) = za_x 153 (.istore_n 2) 219 l st w := za_n.at zcc_153 dX13_sortTurns_219 rfl
theorem f_153_220 (l : za_L) (st : List Value) (w : za_W) : za_n 153 (220, l, st, w) = za_go 35 l st w := (za_n.at zcc_153 dX13_sortTurns_220 rfl).trans (za_jp.at (by decide))
theorem f_153_223 (l : za_L) (st : List Value) (w : za_W) : za_n 153 (223, l, st, w) = za_go 224 l (.int (0) :: st) w := (za_n.at zcc_153 dX13_sortTurns_223 rfl).trans (congrArg (fun x => za_go 224 l (.int x :: st) w) (by decide))
theorem f_153_224 (l : za_L) (st : List Value) (w : za_W) : za_n 153 (224, l, st, w) = za_x 153 (.istore_n 2) 224 l st w := za_n.at zcc_153 dX13_sortTurns_224 rfl
theorem f_153_225 (l : za_L) (st : List Value) (w : za_W) : za_n 153 (225, l, st, w) = za_x 153 (.iload_n 2) 225 l st w := za_n.at zcc_153 dX13_sortTurns_225 rfl
theorem f_153_226 (l : za_L) (st : List Value) (w : za_W) : za_n 153 (226, l, st, w) = za_x 153 (.aload_n 0) 226 l st w := za_n.at zcc_153 dX13_sortTurns_226 rfl
theorem f_153_227 (l : za_L) (st : List Value) (w : za_W) : za_n 153 (227, l, st, w) = za_x 153 (.getfield 161) 227 l st w := za_n.at zcc_153 dX13_sortTurns_227 rfl
theorem f_153_230 (l : za_L) (st : List Value) (w : za_W) : za_n 153 (230, l, st, w) = za_x 153 (.if_icmp .ge 21) 230 l st w := za_n.at zcc_153 dX13_sortTurns_230 rfl
theorem f_153_233 (l : za_L) (st : List Value) (w : za_W) : za_n 153 (233, l, st, w) = za_x 153 (.aload_n 0) 233 l st w := za_n.at zcc_153 dX13_sortTurns_233 rfl
theorem f_153_234 (l : za_L) (st : List Value) (w : za_W) : za_n 153 (234, l, st, w) = za_x 153 (.getfield 47) 234 l st w := za_n.at zcc_153 dX13_sortTurns_234 rfl
theorem f_153_237 (l : za_L) (st : List Value) (w : za_W) : za_n 153 (237, l, st, w) = za_x 153 (.iload_n 2) 237 l st w := za_n.at zcc_153 dX13_sortTurns_237 rfl
theorem f_153_238 (l : za_L) (st : List Value) (w : za_W) : za_n 153 (238, l, st, w) = za_x 153 (.aload_n 0) 238 l st w := za_n.at zcc_153 dX13_sortTurns_238 rfl
theorem f_153_239 (l : za_L) (st : List Value) (w : za_W) : za_n 153 (239, l, st, w) = za_x 153 (.getfield 50) 239 l st w := za_n.at zcc_153 dX13_sortTurns_239 rfl
theorem f_153_242 (l : za_L) (st : List Value) (w : za_W) : za_n 153 (242, l, st, w) = za_x 153 (.iload_n 2) 242 l st w := za_n.at zcc_153 dX13_sortTurns_242 rfl
theorem f_153_243 (l : za_L) (st : List Value) (w : za_W) : za_n 153 (243, l, st, w) = za_x 153 (.iaload) 243 l st w := za_n.at zcc_153 dX13_sortTurns_243 rfl
theorem f_153_244 (l : za_L) (st : List Value) (w : za_W) : za_n 153 (244, l, st, w) = za_x 153 (.iastore) 244 l st w := za_n.at zcc_153 dX13_sortTurns_244 rfl
theorem f_153_245 (l : za_L) (st : List Value) (w : za_W) : za_n 153 (245, l, st, w) = za_x 153 (.iinc 2 1) 245 l st w := za_n.at zcc_153 dX13_sortTurns_245 rfl
theorem f_153_248 (l : za_L) (st : List Value) (w : za_W) : za_n 153 (248, l, st, w) = za_go 225 l st w := (za_n.at zcc_153 dX13_sortTurns_248 rfl).trans (za_jp.at (by decide))
theorem f_153_251 (l : za_L) (st : List Value) (w : za_W) : za_n 153 (251, l, st, w) = za_go 252 l (.int (2) :: st) w := (za_n.at zcc_153 dX13_sortTurns_251 rfl).trans (congrArg (fun x => za_go 252 l (.int x :: st) w) (by decide))
theorem f_153_252 (l : za_L) (st : List Value) (w : za_W) : za_n 153 (252, l, st, w) = za_x 153 (.iload_n 1) 252 l st w := za_n.at zcc_153 dX13_sortTurns_252 rfl
theorem f_153_253 (l : za_L) (st : List Value) (w : za_W) : za_n 153 (253, l, st, w) = za_x 153 (.imul) 253 l st w := za_n.at zcc_153 dX13_sortTurns_253 rfl
theorem f_153_254 (l : za_L) (st : List Value) (w : za_W) : za_n 153 (254, l, st, w) = za_x 153 (.istore_n 1) 254 l st w := za_n.at zcc_153 dX13_sortTurns_254 rfl
theorem f_153_255 (l : za_L) (st : List Value) (w : za_W) : za_n 153 (255, l, st, w) = za_go 25 l st w := (za_n.at zcc_153 dX13_sortTurns_255 rfl).trans (za_jp.at (by decide))
theorem f_153_258 (l : za_L) (st : List Value) (w : za_W) : za_n 153 (258, l, st, w) = za_x 153 (.return_) 258 l st w := za_n.at zcc_153 dX13_sortTurns_258 rfl
theorem f_154_0 (l : za_L) (st : List Value) (w : za_W) : za_n 154 (0, l, st, w) = za_go 1 l (.int (0) :: st) w := (za_n.at zcc_154 dX13_findSigns_0 rfl).trans (congrArg (fun x => za_go 1 l (.int x :: st) w) (by decide))
theorem f_154_1 (l : za_L) (st : List Value) (w : za_W) : za_n 154 (1, l, st, w) = za_x 154 (.istore_n 1) 1 l st w := za_n.at zcc_154 dX13_findSigns_1 rfl
theorem f_154_2 (l : za_L) (st : List Value) (w : za_W) : za_n 154 (2, l, st, w) = za_x 154 (.iload_n 1) 2 l st w := za_n.at zcc_154 dX13_findSigns_2 rfl
theorem f_154_3 (l : za_L) (st : List Value) (w : za_W) : za_n 154 (3, l, st, w) = za_go 6 l (.int (256) :: st) w := (za_n.at zcc_154 dX13_findSigns_3 rfl).trans (congrArg (fun x => za_go 6 l (.int x :: st) w) (by decide))
theorem f_154_6 (l : za_L) (st : List Value) (w : za_W) : za_n 154 (6, l, st, w) = za_x 154 (.if_icmp .ge 16) 6 l st w := za_n.at zcc_154 dX13_findSigns_6 rfl
theorem f_154_9 (l : za_L) (st : List Value) (w : za_W) : za_n 154 (9, l, st, w) = za_x 154 (.aload_n 0) 9 l st w := za_n.at zcc_154 dX13_findSigns_9 rfl
theorem f_154_10 (l : za_L) (st : List Value) (w : za_W) : za_n 154 (10, l, st, w) = za_x 154 (.getfield 59) 10 l st w := za_n.at zcc_154 dX13_findSigns_10 rfl
theorem f_154_13 (l : za_L) (st : List Value) (w : za_W) : za_n 154 (13, l, st, w) = za_x 154 (.iload_n 1) 13 l st w := za_n.at zcc_154 dX13_findSigns_13 rfl
theorem f_154_14 (l : za_L) (st : List Value) (w : za_W) : za_n 154 (14, l, st, w) = za_go 15 l (.int (0) :: st) w := (za_n.at zcc_154 dX13_findSigns_14 rfl).trans (congrArg (fun x => za_go 15 l (.int x :: st) w) (by decide))
theorem f_154_15 (l : za_L) (st : List Value) (w : za_W) : za_n 154 (15, l, st, w) = za_x 154 (.bastore) 15 l st w := za_n.at zcc_154 dX13_findSigns_15 rfl
theorem f_154_16 (l : za_L) (st : List Value) (w : za_W) : za_n 154 (16, l, st, w) = za_x 154 (.iinc 1 1) 16 l st w := za_n.at zcc_154 dX13_findSigns_16 rfl
theorem f_154_19 (l : za_L) (st : List Value) (w : za_W) : za_n 154 (19, l, st, w) = za_go 2 l st w := (za_n.at zcc_154 dX13_findSigns_19 rfl).trans (za_jp.at (by decide))
theorem f_154_22 (l : za_L) (st : List Value) (w : za_W) : za_n 154 (22, l, st, w) = za_go 23 l (.int (0) :: st) w := (za_n.at zcc_154 dX13_findSigns_22 rfl).trans (congrArg (fun x => za_go 23 l (.int x :: st) w) (by decide))
theorem f_154_23 (l : za_L) (st : List Value) (w : za_W) : za_n 154 (23, l, st, w) = za_x 154 (.istore_n 1) 23 l st w := za_n.at zcc_154 dX13_findSigns_23 rfl
theorem f_154_24 (l : za_L) (st : List Value) (w : za_W) : za_n 154 (24, l, st, w) = za_x 154 (.iload_n 1) 24 l st w := za_n.at zcc_154 dX13_findSigns_24 rfl
theorem f_154_25 (l : za_L) (st : List Value) (w : za_W) : za_n 154 (25, l, st, w) = za_x 154 (.aload_n 0) 25 l st w := za_n.at zcc_154 dX13_findSigns_25 rfl
theorem f_154_26 (l : za_L) (st : List Value) (w : za_W) : za_n 154 (26, l, st, w) = za_x 154 (.getfield 161) 26 l st w := za_n.at zcc_154 dX13_findSigns_26 rfl
theorem f_154_29 (l : za_L) (st : List Value) (w : za_W) : za_n 154 (29, l, st, w) = za_x 154 (.if_icmp .ge 25) 29 l st w := za_n.at zcc_154 dX13_findSigns_29 rfl
theorem f_154_32 (l : za_L) (st : List Value) (w : za_W) : za_n 154 (32, l, st, w) = za_x 154 (.aload_n 0) 32 l st w := za_n.at zcc_154 dX13_findSigns_32 rfl
theorem f_154_33 (l : za_L) (st : List Value) (w : za_W) : za_n 154 (33, l, st, w) = za_x 154 (.getfield 59) 33 l st w := za_n.at zcc_154 dX13_findSigns_33 rfl
theorem f_154_36 (l : za_L) (st : List Value) (w : za_W) : za_n 154 (36, l, st, w) = za_x 154 (.aload_n 0) 36 l st w := za_n.at zcc_154 dX13_findSigns_36 rfl
theorem f_154_37 (l : za_L) (st : List Value) (w : za_W) : za_n 154 (37, l, st, w) = za_x 154 (.getfield 44) 37 l st w := za_n.at zcc_154 dX13_findSigns_37 rfl
theorem f_154_40 (l : za_L) (st : List Value) (w : za_W) : za_n 154 (40, l, st, w) = za_x 154 (.iload_n 1) 40 l st w := za_n.at zcc_154 dX13_findSigns_40 rfl
theorem f_154_41 (l : za_L) (st : List Value) (w : za_W) : za_n 154 (41, l, st, w) = za_x 154 (.baload) 41 l st w := za_n.at zcc_154 dX13_findSigns_41 rfl
theorem f_154_42 (l : za_L) (st : List Value) (w : za_W) : za_n 154 (42, l, st, w) = za_go 45 l (.int (255) :: st) w := (za_n.at zcc_154 dX13_findSigns_42 rfl).trans (congrArg (fun x => za_go 45 l (.int x :: st) w) (by decide))
theorem f_154_45 (l : za_L) (st : List Value) (w : za_W) : za_n 154 (45, l, st, w) = za_x 154 (.iand) 45 l st w := za_n.at zcc_154 dX13_findSigns_45 rfl
theorem f_154_46 (l : za_L) (st : List Value) (w : za_W) : za_n 154 (46, l, st, w) = za_go 47 l (.int (1) :: st) w := (za_n.at zcc_154 dX13_findSigns_46 rfl).trans (congrArg (fun x => za_go 47 l (.int x :: st) w) (by decide))
theorem f_154_47 (l : za_L) (st : List Value) (w : za_W) : za_n 154 (47, l, st, w) = za_x 154 (.bastore) 47 l st w := za_n.at zcc_154 dX13_findSigns_47 rfl
theorem f_154_48 (l : za_L) (st : List Value) (w : za_W) : za_n 154 (48, l, st, w) = za_x 154 (.iinc 1 1) 48 l st w := za_n.at zcc_154 dX13_findSigns_48 rfl
theorem f_154_51 (l : za_L) (st : List Value) (w : za_W) : za_n 154 (51, l, st, w) = za_go 24 l st w := (za_n.at zcc_154 dX13_findSigns_51 rfl).trans (za_jp.at (by decide))
theorem f_154_54 (l : za_L) (st : List Value) (w : za_W) : za_n 154 (54, l, st, w) = za_x 154 (.aload_n 0) 54 l st w := za_n.at zcc_154 dX13_findSigns_54 rfl
theorem f_154_55 (l : za_L) (st : List Value) (w : za_W) : za_n 154 (55, l, st, w) = za_x 154 (.invokevirtual 168) 55 l st w := za_n.at zcc_154 dX13_findSigns_55 rfl
theorem f_154_58 (l : za_L) (st : List Value) (w : za_W) : za_n 154 (58, l, st, w) = za_x 154 (.return_) 58 l st w := za_n.at zcc_154 dX13_findSigns_58 rfl
theorem f_155_0 (l : za_L) (st : List Value) (w : za_W) : za_n 155 (0, l, st, w) = za_x 155 (.aload_n 0) 0 l st w := za_n.at zcc_155 dX13_takeSigns_0 rfl
theorem f_155_1 (l : za_L) (st : List Value) (w : za_W) : za_n 155 (1, l, st, w) = za_go 2 l (.int (0) :: st) w := (za_n.at zcc_155 dX13_takeSigns_1 rfl).trans (congrArg (fun x => za_go 2 l (.int x :: st) w) (by decide))
theorem f_155_2 (l : za_L) (st : List Value) (w : za_W) : za_n 155 (2, l, st, w) = za_x 155 (.putfield 171) 2 l st w := za_n.at zcc_155 dX13_takeSigns_2 rfl
theorem f_155_5 (l : za_L) (st : List Value) (w : za_W) : za_n 155 (5, l, st, w) = za_go 6 l (.int (0) :: st) w := (za_n.at zcc_155 dX13_takeSigns_5 rfl).trans (congrArg (fun x => za_go 6 l (.int x :: st) w) (by decide))
theorem f_155_6 (l : za_L) (st : List Value) (w : za_W) : za_n 155 (6, l, st, w) = za_x 155 (.istore_n 1) 6 l st w := za_n.at zcc_155 dX13_takeSigns_6 rfl
theorem f_155_7 (l : za_L) (st : List Value) (w : za_W) : za_n 155 (7, l, st, w) = za_x 155 (.iload_n 1) 7 l st w := za_n.at zcc_155 dX13_takeSigns_7 rfl
theorem f_155_8 (l : za_L) (st : List Value) (w : za_W) : za_n 155 (8, l, st, w) = za_go 11 l (.int (256) :: st) w := (za_n.at zcc_155 dX13_takeSigns_8 rfl).trans (congrArg (fun x => za_go 11 l (.int x :: st) w) (by decide))
theorem f_155_11 (l : za_L) (st : List Value) (w : za_W) : za_n 155 (11, l, st, w) = za_x 155 (.if_icmp .ge 38) 11 l st w := za_n.at zcc_155 dX13_takeSigns_11 rfl
theorem f_155_14 (l : za_L) (st : List Value) (w : za_W) : za_n 155 (14, l, st, w) = za_x 155 (.aload_n 0) 14 l st w := za_n.at zcc_155 dX13_takeSigns_14 rfl
theorem f_155_15 (l : za_L) (st : List Value) (w : za_W) : za_n 155 (15, l, st, w) = za_x 155 (.getfield 59) 15 l st w := za_n.at zcc_155 dX13_takeSigns_15 rfl
theorem f_155_18 (l : za_L) (st : List Value) (w : za_W) : za_n 155 (18, l, st, w) = za_x 155 (.iload_n 1) 18 l st w := za_n.at zcc_155 dX13_takeSigns_18 rfl
theorem f_155_19 (l : za_L) (st : List Value) (w : za_W) : za_n 155 (19, l, st, w) = za_x 155 (.baload) 19 l st w := za_n.at zcc_155 dX13_takeSigns_19 rfl
theorem f_155_20 (l : za_L) (st : List Value) (w : za_W) : za_n 155 (20, l, st, w) = za_x 155 (.ifCond .eq 23) 20 l st w := za_n.at zcc_155 dX13_takeSigns_20 rfl
theorem f_155_23 (l : za_L) (st : List Value) (w : za_W) : za_n 155 (23, l, st, w) = za_x 155 (.aload_n 0) 23 l st w := za_n.at zcc_155 dX13_takeSigns_23 rfl
theorem f_155_24 (l : za_L) (st : List Value) (w : za_W) : za_n 155 (24, l, st, w) = za_x 155 (.getfield 56) 24 l st w := za_n.at zcc_155 dX13_takeSigns_24 rfl
theorem f_155_27 (l : za_L) (st : List Value) (w : za_W) : za_n 155 (27, l, st, w) = za_x 155 (.aload_n 0) 27 l st w := za_n.at zcc_155 dX13_takeSigns_27 rfl
theorem f_155_28 (l : za_L) (st : List Value) (w : za_W) : za_n 155 (28, l, st, w) = za_x 155 (.getfield 171) 28 l st w := za_n.at zcc_155 dX13_takeSigns_28 rfl
theorem f_155_31 (l : za_L) (st : List Value) (w : za_W) : za_n 155 (31, l, st, w) = za_x 155 (.iload_n 1) 31 l st w := za_n.at zcc_155 dX13_takeSigns_31 rfl
theorem f_155_32 (l : za_L) (st : List Value) (w : za_W) : za_n 155 (32, l, st, w) = za_x 155 (.iastore) 32 l st w := za_n.at zcc_155 dX13_takeSigns_32 rfl
theorem f_155_33 (l : za_L) (st : List Value) (w : za_W) : za_n 155 (33, l, st, w) = za_x 155 (.aload_n 0) 33 l st w := za_n.at zcc_155 dX13_takeSigns_33 rfl
theorem f_155_34 (l : za_L) (st : List Value) (w : za_W) : za_n 155 (34, l, st, w) = za_x 155 (.dup) 34 l st w := za_n.at zcc_155 dX13_takeSigns_34 rfl
theorem f_155_35 (l : za_L) (st : List Value) (w : za_W) : za_n 155 (35, l, st, w) = za_x 155 (.getfield 171) 35 l st w := za_n.at zcc_155 dX13_takeSigns_35 rfl
theorem f_155_38 (l : za_L) (st : List Value) (w : za_W) : za_n 155 (38, l, st, w) = za_go 39 l (.int (1) :: st) w := (za_n.at zcc_155 dX13_takeSigns_38 rfl).trans (congrArg (fun x => za_go 39 l (.int x :: st) w) (by decide))
theorem f_155_39 (l : za_L) (st : List Value) (w : za_W) : za_n 155 (39, l, st, w) = za_x 155 (.iadd) 39 l st w := za_n.at zcc_155 dX13_takeSigns_39 rfl
theorem f_155_40 (l : za_L) (st : List Value) (w : za_W) : za_n 155 (40, l, st, w) = za_x 155 (.putfield 171) 40 l st w := za_n.at zcc_155 dX13_takeSigns_40 rfl
theorem f_155_43 (l : za_L) (st : List Value) (w : za_W) : za_n 155 (43, l, st, w) = za_x 155 (.iinc 1 1) 43 l st w := za_n.at zcc_155 dX13_takeSigns_43 rfl
theorem f_155_46 (l : za_L) (st : List Value) (w : za_W) : za_n 155 (46, l, st, w) = za_go 7 l st w := (za_n.at zcc_155 dX13_takeSigns_46 rfl).trans (za_jp.at (by decide))
theorem f_155_49 (l : za_L) (st : List Value) (w : za_W) : za_n 155 (49, l, st, w) = za_x 155 (.return_) 49 l st w := za_n.at zcc_155 dX13_takeSigns_49 rfl
theorem f_156_0 (l : za_L) (st : List Value) (w : za_W) : za_n 156 (0, l, st, w) = za_x 156 (.aload_n 0) 0 l st w := za_n.at zcc_156 dX13_number_0 rfl
theorem f_156_1 (l : za_L) (st : List Value) (w : za_W) : za_n 156 (1, l, st, w) = za_x 156 (.getfield 53) 1 l st w := za_n.at zcc_156 dX13_number_1 rfl
theorem f_156_4 (l : za_L) (st : List Value) (w : za_W) : za_n 156 (4, l, st, w) = za_x 156 (.aload_n 0) 4 l st w := za_n.at zcc_156 dX13_number_4 rfl
theorem f_156_5 (l : za_L) (st : List Value) (w : za_W) : za_n 156 (5, l, st, w) = za_x 156 (.getfield 174) 5 l st w := za_n.at zcc_156 dX13_number_5 rfl
theorem f_156_8 (l : za_L) (st : List Value) (w : za_W) : za_n 156 (8, l, st, w) = za_x 156 (.iload_n 1) 8 l st w := za_n.at zcc_156 dX13_number_8 rfl
theorem f_156_9 (l : za_L) (st : List Value) (w : za_W) : za_n 156 (9, l, st, w) = za_x 156 (.iastore) 9 l st w := za_n.at zcc_156 dX13_number_9 rfl
theorem f_156_10 (l : za_L) (st : List Value) (w : za_W) : za_n 156 (10, l, st, w) = za_x 156 (.aload_n 0) 10 l st w := za_n.at zcc_156 dX13_number_10 rfl
theorem f_156_11 (l : za_L) (st : List Value) (w : za_W) : za_n 156 (11, l, st, w) = za_x 156 (.dup) 11 l st w := za_n.at zcc_156 dX13_number_11 rfl
theorem f_156_12 (l : za_L) (st : List Value) (w : za_W) : za_n 156 (12, l, st, w) = za_x 156 (.getfield 174) 12 l st w := za_n.at zcc_156 dX13_number_12 rfl
theorem f_156_15 (l : za_L) (st : List Value) (w : za_W) : za_n 156 (15, l, st, w) = za_go 16 l (.int (1) :: st) w := (za_n.at zcc_156 dX13_number_15 rfl).trans (congrArg (fun x => za_go 16 l (.int x :: st) w) (by decide))
theorem f_156_16 (l : za_L) (st : List Value) (w : za_W) : za_n 156 (16, l, st, w) = za_x 156 (.iadd) 16 l st w := za_n.at zcc_156 dX13_number_16 rfl
theorem f_156_17 (l : za_L) (st : List Value) (w : za_W) : za_n 156 (17, l, st, w) = za_x 156 (.putfield 174) 17 l st w := za_n.at zcc_156 dX13_number_17 rfl
theorem f_156_20 (l : za_L) (st : List Value) (w : za_W) : za_n 156 (20, l, st, w) = za_x 156 (.return_) 20 l st w := za_n.at zcc_156 dX13_number_20 rfl
theorem f_157_0 (l : za_L) (st : List Value) (w : za_W) : za_n 157 (0, l, st, w) = za_x 157 (.iload_n 1) 0 l st w := za_n.at zcc_157 dX13_digits_0 rfl
theorem f_157_1 (l : za_L) (st : List Value) (w : za_W) : za_n 157 (1, l, st, w) = za_x 157 (.istore_n 2) 1 l st w := za_n.at zcc_157 dX13_digits_1 rfl
theorem f_157_2 (l : za_L) (st : List Value) (w : za_W) : za_n 157 (2, l, st, w) = za_x 157 (.iload_n 2) 2 l st w := za_n.at zcc_157 dX13_digits_2 rfl
theorem f_157_3 (l : za_L) (st : List Value) (w : za_W) : za_n 157 (3, l, st, w) = za_x 157 (.ifCond .le 32) 3 l st w := za_n.at zcc_157 dX13_digits_3 rfl
theorem f_157_6 (l : za_L) (st : List Value) (w : za_W) : za_n 157 (6, l, st, w) = za_x 157 (.iload_n 2) 6 l st w := za_n.at zcc_157 dX13_digits_6 rfl
theorem f_157_7 (l : za_L) (st : List Value) (w : za_W) : za_n 157 (7, l, st, w) = za_go 8 l (.int (2) :: st) w := (za_n.at zcc_157 dX13_digits_7 rfl).trans (congrArg (fun x => za_go 8 l (.int x :: st) w) (by decide))
theorem f_157_8 (l : za_L) (st : List Value) (w : za_W) : za_n 157 (8, l, st, w) = za_x 157 (.irem) 8 l st w := za_n.at zcc_157 dX13_digits_8 rfl
theorem f_157_9 (l : za_L) (st : List Value) (w : za_W) : za_n 157 (9, l, st, w) = za_go 10 l (.int (1) :: st) w := (za_n.at zcc_157 dX13_digits_9 rfl).trans (congrArg (fun x => za_go 10 l (.int x :: st) w) (by decide))
theorem f_157_10 (l : za_L) (st : List Value) (w : za_W) : za_n 157 (10, l, st, w) = za_x 157 (.if_icmp .ne 7) 10 l st w := za_n.at zcc_157 dX13_digits_10 rfl
theorem f_157_13 (l : za_L) (st : List Value) (w : za_W) : za_n 157 (13, l, st, w) = za_go 14 l (.int (1) :: st) w := (za_n.at zcc_157 dX13_digits_13 rfl).trans (congrArg (fun x => za_go 14 l (.int x :: st) w) (by decide))
theorem f_157_14 (l : za_L) (st : List Value) (w : za_W) : za_n 157 (14, l, st, w) = za_go 18 l st w := (za_n.at zcc_157 dX13_digits_14 rfl).trans (za_jp.at (by decide))
theorem f_157_17 (l : za_L) (st : List Value) (w : za_W) : za_n 157 (17, l, st, w) = za_go 18 l (.int (2) :: st) w := (za_n.at zcc_157 dX13_digits_17 rfl).trans (congrArg (fun x => za_go 18 l (.int x :: st) w) (by decide))
theorem f_157_18 (l : za_L) (st : List Value) (w : za_W) : za_n 157 (18, l, st, w) = za_x 157 (.istore_n 3) 18 l st w := za_n.at zcc_157 dX13_digits_18 rfl
theorem f_157_19 (l : za_L) (st : List Value) (w : za_W) : za_n 157 (19, l, st, w) = za_x 157 (.aload_n 0) 19 l st w := za_n.at zcc_157 dX13_digits_19 rfl
theorem f_157_20 (l : za_L) (st : List Value) (w : za_W) : za_n 157 (20, l, st, w) = za_x 157 (.iload_n 3) 20 l st w := za_n.at zcc_157 dX13_digits_20 rfl
theorem f_157_21 (l : za_L) (st : List Value) (w : za_W) : za_n 157 (21, l, st, w) = za_go 22 l (.int (1) :: st) w := (za_n.at zcc_157 dX13_digits_21 rfl).trans (congrArg (fun x => za_go 22 l (.int x :: st) w) (by decide))
theorem f_157_22 (l : za_L) (st : List Value) (w : za_W) : za_n 157 (22, l, st, w) = za_x 157 (.isub) 22 l st w := za_n.at zcc_157 dX13_digits_22 rfl
theorem f_157_23 (l : za_L) (st : List Value) (w : za_W) : za_n 157 (23, l, st, w) = za_x 157 (.invokevirtual 177) 23 l st w := za_n.at zcc_157 dX13_digits_23 rfl
theorem f_157_26 (l : za_L) (st : List Value) (w : za_W) : za_n 157 (26, l, st, w) = za_x 157 (.iload_n 2) 26 l st w := za_n.at zcc_157 dX13_digits_26 rfl
theorem f_157_27 (l : za_L) (st : List Value) (w : za_W) : za_n 157 (27, l, st, w) = za_x 157 (.iload_n 3) 27 l st w := za_n.at zcc_157 dX13_digits_27 rfl
theorem f_157_28 (l : za_L) (st : List Value) (w : za_W) : za_n 157 (28, l, st, w) = za_x 157 (.isub) 28 l st w := za_n.at zcc_157 dX13_digits_28 rfl
theorem f_157_29 (l : za_L) (st : List Value) (w : za_W) : za_n 157 (29, l, st, w) = za_go 30 l (.int (2) :: st) w := (za_n.at zcc_157 dX13_digits_29 rfl).trans (congrArg (fun x => za_go 30 l (.int x :: st) w) (by decide))
theorem f_157_30 (l : za_L) (st : List Value) (w : za_W) : za_n 157 (30, l, st, w) = za_x 157 (.idiv) 30 l st w := za_n.at zcc_157 dX13_digits_30 rfl
theorem f_157_31 (l : za_L) (st : List Value) (w : za_W) : za_n 157 (31, l, st, w) = za_x 157 (.istore_n 2) 31 l st w := za_n.at zcc_157 dX13_digits_31 rfl
theorem f_157_32 (l : za_L) (st : List Value) (w : za_W) : za_n 157 (32, l, st, w) = za_go 2 l st w := (za_n.at zcc_157 dX13_digits_32 rfl).trans (za_jp.at (by decide))
theorem f_157_35 (l : za_L) (st : List Value) (w : za_W) : za_n 157 (35, l, st, w) = za_x 157 (.return_) 35 l st w := za_n.at zcc_157 dX13_digits_35 rfl
theorem f_158_0 (l : za_L) (st : List Value) (w : za_W) : za_n 158 (0, l, st, w) = za_x 158 (.aload_n 0) 0 l st w := za_n.at zcc_158 dX13_makeNumbers_0 rfl
theorem f_158_1 (l : za_L) (st : List Value) (w : za_W) : za_n 158 (1, l, st, w) = za_go 2 l (.int (0) :: st) w := (za_n.at zcc_158 dX13_makeNumbers_1 rfl).trans (congrArg (fun x => za_go 2 l (.int x :: st) w) (by decide))
theorem f_158_2 (l : za_L) (st : List Value) (w : za_W) : za_n 158 (2, l, st, w) = za_x 158 (.putfield 174) 2 l st w := za_n.at zcc_158 dX13_makeNumbers_2 rfl
theorem f_158_5 (l : za_L) (st : List Value) (w : za_W) : za_n 158 (5, l, st, w) = za_go 6 l (.int (0) :: st) w := (za_n.at zcc_158 dX13_makeNumbers_5 rfl).trans (congrArg (fun x => za_go 6 l (.int x :: st) w) (by decide))
theorem f_158_6 (l : za_L) (st : List Value) (w : za_W) : za_n 158 (6, l, st, w) = za_x 158 (.istore_n 1) 6 l st w := za_n.at zcc_158 dX13_makeNumbers_6 rfl
theorem f_158_7 (l : za_L) (st : List Value) (w : za_W) : za_n 158 (7, l, st, w) = za_go 8 l (.int (0) :: st) w := (za_n.at zcc_158 dX13_makeNumbers_7 rfl).trans (congrArg (fun x => za_go 8 l (.int x :: st) w) (by decide))
theorem f_158_8 (l : za_L) (st : List Value) (w : za_W) : za_n 158 (8, l, st, w) = za_x 158 (.istore_n 2) 8 l st w := za_n.at zcc_158 dX13_makeNumbers_8 rfl
theorem f_158_9 (l : za_L) (st : List Value) (w : za_W) : za_n 158 (9, l, st, w) = za_x 158 (.iload_n 2) 9 l st w := za_n.at zcc_158 dX13_makeNumbers_9 rfl
theorem f_158_10 (l : za_L) (st : List Value) (w : za_W) : za_n 158 (10, l, st, w) = za_x 158 (.aload_n 0) 10 l st w := za_n.at zcc_158 dX13_makeNumbers_10 rfl
theorem f_158_11 (l : za_L) (st : List Value) (w : za_W) : za_n 158 (11, l, st, w) = za_x 158 (.getfield 161) 11 l st w := za_n.at zcc_158 dX13_makeNumbers_11 rfl
theorem f_158_14 (l : za_L) (st : List Value) (w : za_W) : za_n 158 (14, l, st, w) = za_x 158 (.if_icmp .ge 129) 14 l st w := za_n.at zcc_158 dX13_makeNumbers_14 rfl
theorem f_158_17 (l : za_L) (st : List Value) (w : za_W) : za_n 158 (17, l, st, w) = za_x 158 (.aload_n 0) 17 l st w := za_n.at zcc_158 dX13_makeNumbers_17 rfl
theorem f_158_18 (l : za_L) (st : List Value) (w : za_W) : za_n 158 (18, l, st, w) = za_x 158 (.getfield 44) 18 l st w := za_n.at zcc_158 dX13_makeNumbers_18 rfl
theorem f_158_21 (l : za_L) (st : List Value) (w : za_W) : za_n 158 (21, l, st, w) = za_x 158 (.aload_n 0) 21 l st w := za_n.at zcc_158 dX13_makeNumbers_21 rfl
theorem f_158_22 (l : za_L) (st : List Value) (w : za_W) : za_n 158 (22, l, st, w) = za_x 158 (.getfield 47) 22 l st w := za_n.at zcc_158 dX13_makeNumbers_22 rfl
theorem f_158_25 (l : za_L) (st : List Value) (w : za_W) : za_n 158 (25, l, st, w) = za_x 158 (.iload_n 2) 25 l st w := za_n.at zcc_158 dX13_makeNumbers_25 rfl
theorem f_158_26 (l : za_L) (st : List Value) (w : za_W) : za_n 158 (26, l, st, w) = za_x 158 (.iaload) 26 l st w := za_n.at zcc_158 dX13_makeNumbers_26 rfl
theorem f_158_27 (l : za_L) (st : List Value) (w : za_W) : za_n 158 (27, l, st, w) = za_x 158 (.ifCond .ne 12) 27 l st w := za_n.at zcc_158 dX13_makeNumbers_27 rfl
theorem f_158_30 (l : za_L) (st : List Value) (w : za_W) : za_n 158 (30, l, st, w) = za_x 158 (.aload_n 0) 30 l st w := za_n.at zcc_158 dX13_makeNumbers_30 rfl
theorem f_158_31 (l : za_L) (st : List Value) (w : za_W) : za_n 158 (31, l, st, w) = za_x 158 (.getfield 161) 31 l st w := za_n.at zcc_158 dX13_makeNumbers_31 rfl
theorem f_158_34 (l : za_L) (st : List Value) (w : za_W) : za_n 158 (34, l, st, w) = za_go 35 l (.int (1) :: st) w := (za_n.at zcc_158 dX13_makeNumbers_34 rfl).trans (congrArg (fun x => za_go 35 l (.int x :: st) w) (by decide))
theorem f_158_35 (l : za_L) (st : List Value) (w : za_W) : za_n 158 (35, l, st, w) = za_x 158 (.isub) 35 l st w := za_n.at zcc_158 dX13_makeNumbers_35 rfl
theorem f_158_36 (l : za_L) (st : List Value) (w : za_W) : za_n 158 (36, l, st, w) = za_go 47 l st w := (za_n.at zcc_158 dX13_makeNumbers_36 rfl).trans (za_jp.at (by decide))
theorem f_158_39 (l : za_L) (st : List Value) (w : za_W) : za_n 158 (39, l, st, w) = za_x 158 (.aload_n 0) 39 l st w := za_n.at zcc_158 dX13_makeNumbers_39 rfl
theorem f_158_40 (l : za_L) (st : List Value) (w : za_W) : za_n 158 (40, l, st, w) = za_x 158 (.getfield 47) 40 l st w := za_n.at zcc_158 dX13_makeNumbers_40 rfl
theorem f_158_43 (l : za_L) (st : List Value) (w : za_W) : za_n 158 (43, l, st, w) = za_x 158 (.iload_n 2) 43 l st w := za_n.at zcc_158 dX13_makeNumbers_43 rfl
theorem f_158_44 (l : za_L) (st : List Value) (w : za_W) : za_n 158 (44, l, st, w) = za_x 158 (.iaload) 44 l st w := za_n.at zcc_158 dX13_makeNumbers_44 rfl
theorem f_158_45 (l : za_L) (st : List Value) (w : za_W) : za_n 158 (45, l, st, w) = za_go 46 l (.int (1) :: st) w := (za_n.at zcc_158 dX13_makeNumbers_45 rfl).trans (congrArg (fun x => za_go 46 l (.int x :: st) w) (by decide))
theorem f_158_46 (l : za_L) (st : List Value) (w : za_W) : za_n 158 (46, l, st, w) = za_x 158 (.isub) 46 l st w := za_n.at zcc_158 dX13_makeNumbers_46 rfl
theorem f_158_47 (l : za_L) (st : List Value) (w : za_W) : za_n 158 (47, l, st, w) = za_x 158 (.baload) 47 l st w := za_n.at zcc_158 dX13_makeNumbers_47 rfl
theorem f_158_48 (l : za_L) (st : List Value) (w : za_W) : za_n 158 (48, l, st, w) = za_go 51 l (.int (255) :: st) w := (za_n.at zcc_158 dX13_makeNumbers_48 rfl).trans (congrArg (fun x => za_go 51 l (.int x :: st) w) (by decide))
theorem f_158_51 (l : za_L) (st : List Value) (w : za_W) : za_n 158 (51, l, st, w) = za_x 158 (.iand) 51 l st w := za_n.at zcc_158 dX13_makeNumbers_51 rfl
theorem f_158_52 (l : za_L) (st : List Value) (w : za_W) : za_n 158 (52, l, st, w) = za_x 158 (.istore_n 3) 52 l st w := za_n.at zcc_158 dX13_makeNumbers_52 rfl
theorem f_158_53 (l : za_L) (st : List Value) (w : za_W) : za_n 158 (53, l, st, w) = za_go 54 l (.int (0) :: st) w := (za_n.at zcc_158 dX13_makeNumbers_53 rfl).trans (congrArg (fun x => za_go 54 l (.int x :: st) w) (by decide))
theorem f_158_54 (l : za_L) (st : List Value) (w : za_W) : za_n 158 (54, l, st, w) = za_x 158 (.istore 4) 54 l st w := za_n.at zcc_158 dX13_makeNumbers_54 rfl
theorem f_158_56 (l : za_L) (st : List Value) (w : za_W) : za_n 158 (56, l, st, w) = za_x 158 (.aload_n 0) 56 l st w := za_n.at zcc_158 dX13_makeNumbers_56 rfl
theorem f_158_57 (l : za_L) (st : List Value) (w : za_W) : za_n 158 (57, l, st, w) = za_x 158 (.getfield 56) 57 l st w := za_n.at zcc_158 dX13_makeNumbers_57 rfl
theorem f_158_60 (l : za_L) (st : List Value) (w : za_W) : za_n 158 (60, l, st, w) = za_x 158 (.iload 4) 60 l st w := za_n.at zcc_158 dX13_makeNumbers_60 rfl
theorem f_158_62 (l : za_L) (st : List Value) (w : za_W) : za_n 158 (62, l, st, w) = za_x 158 (.iaload) 62 l st w := za_n.at zcc_158 dX13_makeNumbers_62 rfl
theorem f_158_63 (l : za_L) (st : List Value) (w : za_W) : za_n 158 (63, l, st, w) = za_x 158 (.iload_n 3) 63 l st w := za_n.at zcc_158 dX13_makeNumbers_63 rfl
theorem f_158_64 (l : za_L) (st : List Value) (w : za_W) : za_n 158 (64, l, st, w) = za_x 158 (.if_icmp .eq 9) 64 l st w := za_n.at zcc_158 dX13_makeNumbers_64 rfl
theorem f_158_67 (l : za_L) (st : List Value) (w : za_W) : za_n 158 (67, l, st, w) = za_x 158 (.iinc 4 1) 67 l st w := za_n.at zcc_158 dX13_makeNumbers_67 rfl
theorem f_158_70 (l : za_L) (st : List Value) (w : za_W) : za_n 158 (70, l, st, w) = za_go 56 l st w := (za_n.at zcc_158 dX13_makeNumbers_70 rfl).trans (za_jp.at (by decide))
theorem f_158_73 (l : za_L) (st : List Value) (w : za_W) : za_n 158 (73, l, st, w) = za_x 158 (.iload 4) 73 l st w := za_n.at zcc_158 dX13_makeNumbers_73 rfl
theorem f_158_75 (l : za_L) (st : List Value) (w : za_W) : za_n 158 (75, l, st, w) = za_x 158 (.istore 5) 75 l st w := za_n.at zcc_158 dX13_makeNumbers_75 rfl
theorem f_158_77 (l : za_L) (st : List Value) (w : za_W) : za_n 158 (77, l, st, w) = za_x 158 (.iload 5) 77 l st w := za_n.at zcc_158 dX13_makeNumbers_77 rfl
theorem f_158_79 (l : za_L) (st : List Value) (w : za_W) : za_n 158 (79, l, st, w) = za_x 158 (.ifCond .le 25) 79 l st w := za_n.at zcc_158 dX13_makeNumbers_79 rfl
theorem f_158_82 (l : za_L) (st : List Value) (w : za_W) : za_n 158 (82, l, st, w) = za_x 158 (.aload_n 0) 82 l st w := za_n.at zcc_158 dX13_makeNumbers_82 rfl
theorem f_158_83 (l : za_L) (st : List Value) (w : za_W) : za_n 158 (83, l, st, w) = za_x 158 (.getfield 56) 83 l st w := za_n.at zcc_158 dX13_makeNumbers_83 rfl
theorem f_158_86 (l : za_L) (st : List Value) (w : za_W) : za_n 158 (86, l, st, w) = za_x 158 (.iload 5) 86 l st w := za_n.at zcc_158 dX13_makeNumbers_86 rfl
theorem f_158_88 (l : za_L) (st : List Value) (w : za_W) : za_n 158 (88, l, st, w) = za_x 158 (.aload_n 0) 88 l st w := za_n.at zcc_158 dX13_makeNumbers_88 rfl
theorem f_158_89 (l : za_L) (st : List Value) (w : za_W) : za_n 158 (89, l, st, w) = za_x 158 (.getfield 56) 89 l st w := za_n.at zcc_158 dX13_makeNumbers_89 rfl
theorem f_158_92 (l : za_L) (st : List Value) (w : za_W) : za_n 158 (92, l, st, w) = za_x 158 (.iload 5) 92 l st w := za_n.at zcc_158 dX13_makeNumbers_92 rfl
theorem f_158_94 (l : za_L) (st : List Value) (w : za_W) : za_n 158 (94, l, st, w) = za_go 95 l (.int (1) :: st) w := (za_n.at zcc_158 dX13_makeNumbers_94 rfl).trans (congrArg (fun x => za_go 95 l (.int x :: st) w) (by decide))
theorem f_158_95 (l : za_L) (st : List Value) (w : za_W) : za_n 158 (95, l, st, w) = za_x 158 (.isub) 95 l st w := za_n.at zcc_158 dX13_makeNumbers_95 rfl
theorem f_158_96 (l : za_L) (st : List Value) (w : za_W) : za_n 158 (96, l, st, w) = za_x 158 (.iaload) 96 l st w := za_n.at zcc_158 dX13_makeNumbers_96 rfl
theorem f_158_97 (l : za_L) (st : List Value) (w : za_W) : za_n 158 (97, l, st, w) = za_x 158 (.iastore) 97 l st w := za_n.at zcc_158 dX13_makeNumbers_97 rfl
theorem f_158_98 (l : za_L) (st : List Value) (w : za_W) : za_n 158 (98, l, st, w) = za_x 158 (.iinc 5 (-1)) 98 l st w := za_n.at zcc_158 dX13_makeNumbers_98 rfl
theorem f_158_101 (l : za_L) (st : List Value) (w : za_W) : za_n 158 (101, l, st, w) = za_go 77 l st w := (za_n.at zcc_158 dX13_makeNumbers_101 rfl).trans (za_jp.at (by decide))
theorem f_158_104 (l : za_L) (st : List Value) (w : za_W) : za_n 158 (104, l, st, w) = za_x 158 (.aload_n 0) 104 l st w := za_n.at zcc_158 dX13_makeNumbers_104 rfl
theorem f_158_105 (l : za_L) (st : List Value) (w : za_W) : za_n 158 (105, l, st, w) = za_x 158 (.getfield 56) 105 l st w := za_n.at zcc_158 dX13_makeNumbers_105 rfl
theorem f_158_108 (l : za_L) (st : List Value) (w : za_W) : za_n 158 (108, l, st, w) = za_go 109 l (.int (0) :: st) w := (za_n.at zcc_158 dX13_makeNumbers_108 rfl).trans (congrArg (fun x => za_go 109 l (.int x :: st) w) (by decide))
theorem f_158_109 (l : za_L) (st : List Value) (w : za_W) : za_n 158 (109, l, st, w) = za_x 158 (.iload_n 3) 109 l st w := za_n.at zcc_158 dX13_makeNumbers_109 rfl
theorem f_158_110 (l : za_L) (st : List Value) (w : za_W) : za_n 158 (110, l, st, w) = za_x 158 (.iastore) 110 l st w := za_n.at zcc_158 dX13_makeNumbers_110 rfl
theorem f_158_111 (l : za_L) (st : List Value) (w : za_W) : za_n 158 (111, l, st, w) = za_x 158 (.iload 4) 111 l st w := za_n.at zcc_158 dX13_makeNumbers_111 rfl
theorem f_158_113 (l : za_L) (st : List Value) (w : za_W) : za_n 158 (113, l, st, w) = za_x 158 (.ifCond .ne 9) 113 l st w := za_n.at zcc_158 dX13_makeNumbers_113 rfl
theorem f_158_116 (l : za_L) (st : List Value) (w : za_W) : za_n 158 (116, l, st, w) = za_x 158 (.iinc 1 1) 116 l st w := za_n.at zcc_158 dX13_makeNumbers_116 rfl
theorem f_158_119 (l : za_L) (st : List Value) (w : za_W) : za_n 158 (119, l, st, w) = za_go 137 l st w := (za_n.at zcc_158 dX13_makeNumbers_119 rfl).trans (za_jp.at (by decide))
theorem f_158_122 (l : za_L) (st : List Value) (w : za_W) : za_n 158 (122, l, st, w) = za_x 158 (.aload_n 0) 122 l st w := za_n.at zcc_158 dX13_makeNumbers_122 rfl
theorem f_158_123 (l : za_L) (st : List Value) (w : za_W) : za_n 158 (123, l, st, w) = za_x 158 (.iload_n 1) 123 l st w := za_n.at zcc_158 dX13_makeNumbers_123 rfl
theorem f_158_124 (l : za_L) (st : List Value) (w : za_W) : za_n 158 (124, l, st, w) = za_x 158 (.invokevirtual 180) 124 l st w := za_n.at zcc_158 dX13_makeNumbers_124 rfl
theorem f_158_127 (l : za_L) (st : List Value) (w : za_W) : za_n 158 (127, l, st, w) = za_go 128 l (.int (0) :: st) w := (za_n.at zcc_158 dX13_makeNumbers_127 rfl).trans (congrArg (fun x => za_go 128 l (.int x :: st) w) (by decide))
theorem f_158_128 (l : za_L) (st : List Value) (w : za_W) : za_n 158 (128, l, st, w) = za_x 158 (.istore_n 1) 128 l st w := za_n.at zcc_158 dX13_makeNumbers_128 rfl
theorem f_158_129 (l : za_L) (st : List Value) (w : za_W) : za_n 158 (129, l, st, w) = za_x 158 (.aload_n 0) 129 l st w := za_n.at zcc_158 dX13_makeNumbers_129 rfl
theorem f_158_130 (l : za_L) (st : List Value) (w : za_W) : za_n 158 (130, l, st, w) = za_x 158 (.iload 4) 130 l st w := za_n.at zcc_158 dX13_makeNumbers_130 rfl
theorem f_158_132 (l : za_L) (st : List Value) (w : za_W) : za_n 158 (132, l, st, w) = za_go 133 l (.int (1) :: st) w := (za_n.at zcc_158 dX13_makeNumbers_132 rfl).trans (congrArg (fun x => za_go 133 l (.int x :: st) w) (by decide))
theorem f_158_133 (l : za_L) (st : List Value) (w : za_W) : za_n 158 (133, l, st, w) = za_x 158 (.iadd) 133 l st w := za_n.at zcc_158 dX13_makeNumbers_133 rfl
theorem f_158_134 (l : za_L) (st : List Value) (w : za_W) : za_n 158 (134, l, st, w) = za_x 158 (.invokevirtual 177) 134 l st w := za_n.at zcc_158 dX13_makeNumbers_134 rfl
theorem f_158_137 (l : za_L) (st : List Value) (w : za_W) : za_n 158 (137, l, st, w) = za_x 158 (.iinc 2 1) 137 l st w := za_n.at zcc_158 dX13_makeNumbers_137 rfl
theorem f_158_140 (l : za_L) (st : List Value) (w : za_W) : za_n 158 (140, l, st, w) = za_go 9 l st w := (za_n.at zcc_158 dX13_makeNumbers_140 rfl).trans (za_jp.at (by decide))
theorem f_158_143 (l : za_L) (st : List Value) (w : za_W) : za_n 158 (143, l, st, w) = za_x 158 (.aload_n 0) 143 l st w := za_n.at zcc_158 dX13_makeNumbers_143 rfl
theorem f_158_144 (l : za_L) (st : List Value) (w : za_W) : za_n 158 (144, l, st, w) = za_x 158 (.iload_n 1) 144 l st w := za_n.at zcc_158 dX13_makeNumbers_144 rfl
theorem f_158_145 (l : za_L) (st : List Value) (w : za_W) : za_n 158 (145, l, st, w) = za_x 158 (.invokevirtual 180) 145 l st w := za_n.at zcc_158 dX13_makeNumbers_145 rfl
theorem f_158_148 (l : za_L) (st : List Value) (w : za_W) : za_n 158 (148, l, st, w) = za_x 158 (.aload_n 0) 148 l st w := za_n.at zcc_158 dX13_makeNumbers_148 rfl
theorem f_158_149 (l : za_L) (st : List Value) (w : za_W) : za_n 158 (149, l, st, w) = za_x 158 (.aload_n 0) 149 l st w := za_n.at zcc_158 dX13_makeNumbers_149 rfl
theorem f_158_150 (l : za_L) (st : List Value) (w : za_W) : za_n 158 (150, l, st, w) = za_x 158 (.getfield 171) 150 l st w := za_n.at zcc_158 dX13_makeNumbers_150 rfl
theorem f_158_153 (l : za_L) (st : List Value) (w : za_W) : za_n 158 (153, l, st, w) = za_go 154 l (.int (1) :: st) w := (za_n.at zcc_158 dX13_makeNumbers_153 rfl).trans (congrArg (fun x => za_go 154 l (.int x :: st) w) (by decide))
theorem f_158_154 (l : za_L) (st : List Value) (w : za_W) : za_n 158 (154, l, st, w) = za_x 158 (.iadd) 154 l st w := za_n.at zcc_158 dX13_makeNumbers_154 rfl
theorem f_158_155 (l : za_L) (st : List Value) (w : za_W) : za_n 158 (155, l, st, w) = za_x 158 (.invokevirtual 177) 155 l st w := za_n.at zcc_158 dX13_makeNumbers_155 rfl
theorem f_158_158 (l : za_L) (st : List Value) (w : za_W) : za_n 158 (158, l, st, w) = za_x 158 (.return_) 158 l st w := za_n.at zcc_158 dX13_makeNumbers_158 rfl
theorem f_159_0 (l : za_L) (st : List Value) (w : za_W) : za_n 159 (0, l, st, w) = za_go 1 l (.int (0) :: st) w := (za_n.at zcc_159 dX13_makeLengths_0 rfl).trans (congrArg (fun x => za_go 1 l (.int x :: st) w) (by decide))
theorem f_159_1 (l : za_L) (st : List Value) (w : za_W) : za_n 159 (1, l, st, w) = za_x 159 (.istore_n 3) 1 l st w := za_n.at zcc_159 dX13_makeLengths_1 rfl
theorem f_159_2 (l : za_L) (st : List Value) (w : za_W) : za_n 159 (2, l, st, w) = za_x 159 (.iload_n 3) 2 l st w := za_n.at zcc_159 dX13_makeLengths_2 rfl
theorem f_159_3 (l : za_L) (st : List Value) (w : za_W) : za_n 159 (3, l, st, w) = za_x 159 (.iload_n 2) 3 l st w := za_n.at zcc_159 dX13_makeLengths_3 rfl
theorem f_159_4 (l : za_L) (st : List Value) (w : za_W) : za_n 159 (4, l, st, w) = za_x 159 (.if_icmp .ge 48) 4 l st w := za_n.at zcc_159 dX13_makeLengths_4 rfl
theorem f_159_7 (l : za_L) (st : List Value) (w : za_W) : za_n 159 (7, l, st, w) = za_x 159 (.aload_n 0) 7 l st w := za_n.at zcc_159 dX13_makeLengths_7 rfl
theorem f_159_8 (l : za_L) (st : List Value) (w : za_W) : za_n 159 (8, l, st, w) = za_x 159 (.getfield 82) 8 l st w := za_n.at zcc_159 dX13_makeLengths_8 rfl
theorem f_159_11 (l : za_L) (st : List Value) (w : za_W) : za_n 159 (11, l, st, w) = za_x 159 (.iload_n 3) 11 l st w := za_n.at zcc_159 dX13_makeLengths_11 rfl
theorem f_159_12 (l : za_L) (st : List Value) (w : za_W) : za_n 159 (12, l, st, w) = za_x 159 (.aload_n 0) 12 l st w := za_n.at zcc_159 dX13_makeLengths_12 rfl
theorem f_159_13 (l : za_L) (st : List Value) (w : za_W) : za_n 159 (13, l, st, w) = za_x 159 (.getfield 69) 13 l st w := za_n.at zcc_159 dX13_makeLengths_13 rfl
theorem f_159_16 (l : za_L) (st : List Value) (w : za_W) : za_n 159 (16, l, st, w) = za_go 19 l (.int (260) :: st) w := (za_n.at zcc_159 dX13_makeLengths_16 rfl).trans (congrArg (fun x => za_go 19 l (.int x :: st) w) (by decide))
theorem f_159_19 (l : za_L) (st : List Value) (w : za_W) : za_n 159 (19, l, st, w) = za_x 159 (.iload_n 1) 19 l st w := za_n.at zcc_159 dX13_makeLengths_19 rfl
theorem f_159_20 (l : za_L) (st : List Value) (w : za_W) : za_n 159 (20, l, st, w) = za_x 159 (.imul) 20 l st w := za_n.at zcc_159 dX13_makeLengths_20 rfl
theorem f_159_21 (l : za_L) (st : List Value) (w : za_W) : za_n 159 (21, l, st, w) = za_x 159 (.iload_n 3) 21 l st w := za_n.at zcc_159 dX13_makeLengths_21 rfl
theorem f_159_22 (l : za_L) (st : List Value) (w : za_W) : za_n 159 (22, l, st, w) = za_x 159 (.iadd) 22 l st w := za_n.at zcc_159 dX13_makeLengths_22 rfl
theorem f_159_23 (l : za_L) (st : List Value) (w : za_W) : za_n 159 (23, l, st, w) = za_x 159 (.iaload) 23 l st w := za_n.at zcc_159 dX13_makeLengths_23 rfl
theorem f_159_24 (l : za_L) (st : List Value) (w : za_W) : za_n 159 (24, l, st, w) = za_go 25 l (.int (1) :: st) w := (za_n.at zcc_159 dX13_makeLengths_24 rfl).trans (congrArg (fun x => za_go 25 l (.int x :: st) w) (by decide))
theorem f_159_25 (l : za_L) (st : List Value) (w : za_W) : za_n 159 (25, l, st, w) = za_x 159 (.if_icmp .ge 7) 25 l st w := za_n.at zcc_159 dX13_makeLengths_25 rfl
theorem f_159_28 (l : za_L) (st : List Value) (w : za_W) : za_n 159 (28, l, st, w) = za_x 159 (.lconst 1) 28 l st w := za_n.at zcc_159 dX13_makeLengths_28 rfl
theorem f_159_29 (l : za_L) (st : List Value) (w : za_W) : za_n 159 (29, l, st, w) = za_go 45 l st w := (za_n.at zcc_159 dX13_makeLengths_29 rfl).trans (za_jp.at (by decide))
theorem f_159_32 (l : za_L) (st : List Value) (w : za_W) : za_n 159 (32, l, st, w) = za_x 159 (.aload_n 0) 32 l st w := za_n.at zcc_159 dX13_makeLengths_32 rfl
theorem f_159_33 (l : za_L) (st : List Value) (w : za_W) : za_n 159 (33, l, st, w) = za_x 159 (.getfield 69) 33 l st w := za_n.at zcc_159 dX13_makeLengths_33 rfl
theorem f_159_36 (l : za_L) (st : List Value) (w : za_W) : za_n 159 (36, l, st, w) = za_go 39 l (.int (260) :: st) w := (za_n.at zcc_159 dX13_makeLengths_36 rfl).trans (congrArg (fun x => za_go 39 l (.int x :: st) w) (by decide))
theorem f_159_39 (l : za_L) (st : List Value) (w : za_W) : za_n 159 (39, l, st, w) = za_x 159 (.iload_n 1) 39 l st w := za_n.at zcc_159 dX13_makeLengths_39 rfl
theorem f_159_40 (l : za_L) (st : List Value) (w : za_W) : za_n 159 (40, l, st, w) = za_x 159 (.imul) 40 l st w := za_n.at zcc_159 dX13_makeLengths_40 rfl
theorem f_159_41 (l : za_L) (st : List Value) (w : za_W) : za_n 159 (41, l, st, w) = za_x 159 (.iload_n 3) 41 l st w := za_n.at zcc_159 dX13_makeLengths_41 rfl
theorem f_159_42 (l : za_L) (st : List Value) (w : za_W) : za_n 159 (42, l, st, w) = za_x 159 (.iadd) 42 l st w := za_n.at zcc_159 dX13_makeLengths_42 rfl
theorem f_159_43 (l : za_L) (st : List Value) (w : za_W) : za_n 159 (43, l, st, w) = za_x 159 (.iaload) 43 l st w := za_n.at zcc_159 dX13_makeLengths_43 rfl
theorem f_159_44 (l : za_L) (st : List Value) (w : za_W) : za_n 159 (44, l, st, w) = za_x 159 (.i2l) 44 l st w := za_n.at zcc_159 dX13_makeLengths_44 rfl
theorem f_159_45 (l : za_L) (st : List Value) (w : za_W) : za_n 159 (45, l, st, w) = za_x 159 (.lastore) 45 l st w := za_n.at zcc_159 dX13_makeLengths_45 rfl
theorem f_159_46 (l : za_L) (st : List Value) (w : za_W) : za_n 159 (46, l, st, w) = za_x 159 (.iinc 3 1) 46 l st w := za_n.at zcc_159 dX13_makeLengths_46 rfl
theorem f_159_49 (l : za_L) (st : List Value) (w : za_W) : za_n 159 (49, l, st, w) = za_go 2 l st w := (za_n.at zcc_159 dX13_makeLengths_49 rfl).trans (za_jp.at (by decide))
theorem f_159_52 (l : za_L) (st : List Value) (w : za_W) : za_n 159 (52, l, st, w) = za_go 53 l (.int (1) :: st) w := (za_n.at zcc_159 dX13_makeLengths_52 rfl).trans (congrArg (fun x => za_go 53 l (.int x :: st) w) (by decide))
theorem f_159_53 (l : za_L) (st : List Value) (w : za_W) : za_n 159 (53, l, st, w) = za_x 159 (.istore_n 3) 53 l st w := za_n.at zcc_159 dX13_makeLengths_53 rfl
theorem f_159_54 (l : za_L) (st : List Value) (w : za_W) : za_n 159 (54, l, st, w) = za_x 159 (.iload_n 3) 54 l st w := za_n.at zcc_159 dX13_makeLengths_54 rfl
theorem f_159_55 (l : za_L) (st : List Value) (w : za_W) : za_n 159 (55, l, st, w) = za_x 159 (.ifCond .eq 260) 55 l st w := za_n.at zcc_159 dX13_makeLengths_55 rfl
theorem f_159_58 (l : za_L) (st : List Value) (w : za_W) : za_n 159 (58, l, st, w) = za_x 159 (.iload_n 2) 58 l st w := za_n.at zcc_159 dX13_makeLengths_58 rfl
theorem f_159_59 (l : za_L) (st : List Value) (w : za_W) : za_n 159 (59, l, st, w) = za_x 159 (.istore 4) 59 l st w := za_n.at zcc_159 dX13_makeLengths_59 rfl
theorem f_159_61 (l : za_L) (st : List Value) (w : za_W) : za_n 159 (61, l, st, w) = za_go 62 l (.int (0) :: st) w := (za_n.at zcc_159 dX13_makeLengths_61 rfl).trans (congrArg (fun x => za_go 62 l (.int x :: st) w) (by decide))
theorem f_159_62 (l : za_L) (st : List Value) (w : za_W) : za_n 159 (62, l, st, w) = za_x 159 (.istore 5) 62 l st w := za_n.at zcc_159 dX13_makeLengths_62 rfl
theorem f_159_64 (l : za_L) (st : List Value) (w : za_W) : za_n 159 (64, l, st, w) = za_x 159 (.iload 5) 64 l st w := za_n.at zcc_159 dX13_makeLengths_64 rfl
theorem f_159_66 (l : za_L) (st : List Value) (w : za_W) : za_n 159 (66, l, st, w) = za_x 159 (.iload_n 2) 66 l st w := za_n.at zcc_159 dX13_makeLengths_66 rfl
theorem f_159_67 (l : za_L) (st : List Value) (w : za_W) : za_n 159 (67, l, st, w) = za_x 159 (.if_icmp .ge 23) 67 l st w := za_n.at zcc_159 dX13_makeLengths_67 rfl
theorem f_159_70 (l : za_L) (st : List Value) (w : za_W) : za_n 159 (70, l, st, w) = za_x 159 (.aload_n 0) 70 l st w := za_n.at zcc_159 dX13_makeLengths_70 rfl
theorem f_159_71 (l : za_L) (st : List Value) (w : za_W) : za_n 159 (71, l, st, w) = za_x 159 (.getfield 75) 71 l st w := za_n.at zcc_159 dX13_makeLengths_71 rfl
theorem f_159_74 (l : za_L) (st : List Value) (w : za_W) : za_n 159 (74, l, st, w) = za_x 159 (.iload 5) 74 l st w := za_n.at zcc_159 dX13_makeLengths_74 rfl
theorem f_159_76 (l : za_L) (st : List Value) (w : za_W) : za_n 159 (76, l, st, w) = za_x 159 (.aload_n 0) 76 l st w := za_n.at zcc_159 dX13_makeLengths_76 rfl
theorem f_159_77 (l : za_L) (st : List Value) (w : za_W) : za_n 159 (77, l, st, w) = za_x 159 (.getfield 82) 77 l st w := za_n.at zcc_159 dX13_makeLengths_77 rfl
theorem f_159_80 (l : za_L) (st : List Value) (w : za_W) : za_n 159 (80, l, st, w) = za_x 159 (.iload 5) 80 l st w := za_n.at zcc_159 dX13_makeLengths_80 rfl
theorem f_159_82 (l : za_L) (st : List Value) (w : za_W) : za_n 159 (82, l, st, w) = za_x 159 (.laload) 82 l st w := za_n.at zcc_159 dX13_makeLengths_82 rfl
theorem f_159_83 (l : za_L) (st : List Value) (w : za_W) : za_n 159 (83, l, st, w) = za_x 159 (.lastore) 83 l st w := za_n.at zcc_159 dX13_makeLengths_83 rfl
theorem f_159_84 (l : za_L) (st : List Value) (w : za_W) : za_n 159 (84, l, st, w) = za_x 159 (.iinc 5 1) 84 l st w := za_n.at zcc_159 dX13_makeLengths_84 rfl
theorem f_159_87 (l : za_L) (st : List Value) (w : za_W) : za_n 159 (87, l, st, w) = za_go 64 l st w := (za_n.at zcc_159 dX13_makeLengths_87 rfl).trans (za_jp.at (by decide))
theorem f_159_90 (l : za_L) (st : List Value) (w : za_W) : za_n 159 (90, l, st, w) = za_go 91 l (.int (0) :: st) w := (za_n.at zcc_159 dX13_makeLengths_90 rfl).trans (congrArg (fun x => za_go 91 l (.int x :: st) w) (by decide))
theorem f_159_91 (l : za_L) (st : List Value) (w : za_W) : za_n 159 (91, l, st, w) = za_x 159 (.istore 5) 91 l st w := za_n.at zcc_159 dX13_makeLengths_91 rfl
theorem f_159_93 (l : za_L) (st : List Value) (w : za_W) : za_n 159 (93, l, st, w) = za_x 159 (.iload 5) 93 l st w := za_n.at zcc_159 dX13_makeLengths_93 rfl
theorem f_159_95 (l : za_L) (st : List Value) (w : za_W) : za_n 159 (95, l, st, w) = za_go 98 l (.int (600) :: st) w := (za_n.at zcc_159 dX13_makeLengths_95 rfl).trans (congrArg (fun x => za_go 98 l (.int x :: st) w) (by decide))
theorem f_159_98 (l : za_L) (st : List Value) (w : za_W) : za_n 159 (98, l, st, w) = za_x 159 (.if_icmp .ge 17) 98 l st w := za_n.at zcc_159 dX13_makeLengths_98 rfl
theorem f_159_101 (l : za_L) (st : List Value) (w : za_W) : za_n 159 (101, l, st, w) = za_x 159 (.aload_n 0) 101 l st w := za_n.at zcc_159 dX13_makeLengths_101 rfl
theorem f_159_102 (l : za_L) (st : List Value) (w : za_W) : za_n 159 (102, l, st, w) = za_x 159 (.getfield 79) 102 l st w := za_n.at zcc_159 dX13_makeLengths_102 rfl
theorem f_159_105 (l : za_L) (st : List Value) (w : za_W) : za_n 159 (105, l, st, w) = za_x 159 (.iload 5) 105 l st w := za_n.at zcc_159 dX13_makeLengths_105 rfl
theorem f_159_107 (l : za_L) (st : List Value) (w : za_W) : za_n 159 (107, l, st, w) = za_go 108 l (.int (-1) :: st) w := (za_n.at zcc_159 dX13_makeLengths_107 rfl).trans (congrArg (fun x => za_go 108 l (.int x :: st) w) (by decide))
theorem f_159_108 (l : za_L) (st : List Value) (w : za_W) : za_n 159 (108, l, st, w) = za_x 159 (.iastore) 108 l st w := za_n.at zcc_159 dX13_makeLengths_108 rfl
theorem f_159_109 (l : za_L) (st : List Value) (w : za_W) : za_n 159 (109, l, st, w) = za_x 159 (.iinc 5 1) 109 l st w := za_n.at zcc_159 dX13_makeLengths_109 rfl
theorem f_159_112 (l : za_L) (st : List Value) (w : za_W) : za_n 159 (112, l, st, w) = za_go 93 l st w := (za_n.at zcc_159 dX13_makeLengths_112 rfl).trans (za_jp.at (by decide))
theorem f_159_115 (l : za_L) (st : List Value) (w : za_W) : za_n 159 (115, l, st, w) = za_x 159 (.iload_n 2) 115 l st w := za_n.at zcc_159 dX13_makeLengths_115 rfl
theorem f_159_116 (l : za_L) (st : List Value) (w : za_W) : za_n 159 (116, l, st, w) = za_x 159 (.istore 5) 116 l st w := za_n.at zcc_159 dX13_makeLengths_116 rfl
theorem f_159_118 (l : za_L) (st : List Value) (w : za_W) : za_n 159 (118, l, st, w) = za_x 159 (.iload 5) 118 l st w := za_n.at zcc_159 dX13_makeLengths_118 rfl
theorem f_159_120 (l : za_L) (st : List Value) (w : za_W) : za_n 159 (120, l, st, w) = za_go 121 l (.int (1) :: st) w := (za_n.at zcc_159 dX13_makeLengths_120 rfl).trans (congrArg (fun x => za_go 121 l (.int x :: st) w) (by decide))
theorem f_159_121 (l : za_L) (st : List Value) (w : za_W) : za_n 159 (121, l, st, w) = za_x 159 (.if_icmp .le 71) 121 l st w := za_n.at zcc_159 dX13_makeLengths_121 rfl
theorem f_159_124 (l : za_L) (st : List Value) (w : za_W) : za_n 159 (124, l, st, w) = za_x 159 (.aload_n 0) 124 l st w := za_n.at zcc_159 dX13_makeLengths_124 rfl
theorem f_159_125 (l : za_L) (st : List Value) (w : za_W) : za_n 159 (125, l, st, w) = za_x 159 (.iload 4) 125 l st w := za_n.at zcc_159 dX13_makeLengths_125 rfl
theorem f_159_127 (l : za_L) (st : List Value) (w : za_W) : za_n 159 (127, l, st, w) = za_go 128 l (.int (-1) :: st) w := (za_n.at zcc_159 dX13_makeLengths_127 rfl).trans (congrArg (fun x => za_go 128 l (.int x :: st) w) (by decide))
theorem f_159_128 (l : za_L) (st : List Value) (w : za_W) : za_n 159 (128, l, st, w) = za_x 159 (.invokevirtual 183) 128 l st w := za_n.at zcc_159 dX13_makeLengths_128 rfl
theorem f_159_131 (l : za_L) (st : List Value) (w : za_W) : za_n 159 (131, l, st, w) = za_x 159 (.istore 6) 131 l st w := za_n.at zcc_159 dX13_makeLengths_131 rfl
theorem f_159_133 (l : za_L) (st : List Value) (w : za_W) : za_n 159 (133, l, st, w) = za_x 159 (.aload_n 0) 133 l st w := za_n.at zcc_159 dX13_makeLengths_133 rfl
theorem f_159_134 (l : za_L) (st : List Value) (w : za_W) : za_n 159 (134, l, st, w) = za_x 159 (.iload 4) 134 l st w := za_n.at zcc_159 dX13_makeLengths_134 rfl
theorem f_159_136 (l : za_L) (st : List Value) (w : za_W) : za_n 159 (136, l, st, w) = za_x 159 (.iload 6) 136 l st w := za_n.at zcc_159 dX13_makeLengths_136 rfl
theorem f_159_138 (l : za_L) (st : List Value) (w : za_W) : za_n 159 (138, l, st, w) = za_x 159 (.invokevirtual 183) 138 l st w := za_n.at zcc_159 dX13_makeLengths_138 rfl
theorem f_159_141 (l : za_L) (st : List Value) (w : za_W) : za_n 159 (141, l, st, w) = za_x 159 (.istore 7) 141 l st w := za_n.at zcc_159 dX13_makeLengths_141 rfl
theorem f_159_143 (l : za_L) (st : List Value) (w : za_W) : za_n 159 (143, l, st, w) = za_x 159 (.aload_n 0) 143 l st w := za_n.at zcc_159 dX13_makeLengths_143 rfl
theorem f_159_144 (l : za_L) (st : List Value) (w : za_W) : za_n 159 (144, l, st, w) = za_x 159 (.getfield 75) 144 l st w := za_n.at zcc_159 dX13_makeLengths_144 rfl
theorem f_159_147 (l : za_L) (st : List Value) (w : za_W) : za_n 159 (147, l, st, w) = za_x 159 (.iload 4) 147 l st w := za_n.at zcc_159 dX13_makeLengths_147 rfl
theorem f_159_149 (l : za_L) (st : List Value) (w : za_W) : za_n 159 (149, l, st, w) = za_x 159 (.aload_n 0) 149 l st w := za_n.at zcc_159 dX13_makeLengths_149 rfl
theorem f_159_150 (l : za_L) (st : List Value) (w : za_W) : za_n 159 (150, l, st, w) = za_x 159 (.getfield 75) 150 l st w := za_n.at zcc_159 dX13_makeLengths_150 rfl
theorem f_159_153 (l : za_L) (st : List Value) (w : za_W) : za_n 159 (153, l, st, w) = za_x 159 (.iload 6) 153 l st w := za_n.at zcc_159 dX13_makeLengths_153 rfl
theorem f_159_155 (l : za_L) (st : List Value) (w : za_W) : za_n 159 (155, l, st, w) = za_x 159 (.laload) 155 l st w := za_n.at zcc_159 dX13_makeLengths_155 rfl
theorem f_159_156 (l : za_L) (st : List Value) (w : za_W) : za_n 159 (156, l, st, w) = za_x 159 (.aload_n 0) 156 l st w := za_n.at zcc_159 dX13_makeLengths_156 rfl
theorem f_159_157 (l : za_L) (st : List Value) (w : za_W) : za_n 159 (157, l, st, w) = za_x 159 (.getfield 75) 157 l st w := za_n.at zcc_159 dX13_makeLengths_157 rfl
theorem f_159_160 (l : za_L) (st : List Value) (w : za_W) : za_n 159 (160, l, st, w) = za_x 159 (.iload 7) 160 l st w := za_n.at zcc_159 dX13_makeLengths_160 rfl
theorem f_159_162 (l : za_L) (st : List Value) (w : za_W) : za_n 159 (162, l, st, w) = za_x 159 (.laload) 162 l st w := za_n.at zcc_159 dX13_makeLengths_162 rfl
theorem f_159_163 (l : za_L) (st : List Value) (w : za_W) : za_n 159 (163, l, st, w) = za_x 159 (.ladd) 163 l st w := za_n.at zcc_159 dX13_makeLengths_163 rfl
theorem f_159_164 (l : za_L) (st : List Value) (w : za_W) : za_n 159 (164, l, st, w) = za_x 159 (.lastore) 164 l st w := za_n.at zcc_159 dX13_makeLengths_164 rfl
theorem f_159_165 (l : za_L) (st : List Value) (w : za_W) : za_n 159 (165, l, st, w) = za_x 159 (.aload_n 0) 165 l st w := za_n.at zcc_159 dX13_makeLengths_165 rfl
theorem f_159_166 (l : za_L) (st : List Value) (w : za_W) : za_n 159 (166, l, st, w) = za_x 159 (.getfield 79) 166 l st w := za_n.at zcc_159 dX13_makeLengths_166 rfl
theorem f_159_169 (l : za_L) (st : List Value) (w : za_W) : za_n 159 (169, l, st, w) = za_x 159 (.iload 6) 169 l st w := za_n.at zcc_159 dX13_makeLengths_169 rfl
theorem f_159_171 (l : za_L) (st : List Value) (w : za_W) : za_n 159 (171, l, st, w) = za_x 159 (.iload 4) 171 l st w := za_n.at zcc_159 dX13_makeLengths_171 rfl
theorem f_159_173 (l : za_L) (st : List Value) (w : za_W) : za_n 159 (173, l, st, w) = za_x 159 (.iastore) 173 l st w := za_n.at zcc_159 dX13_makeLengths_173 rfl
theorem f_159_174 (l : za_L) (st : List Value) (w : za_W) : za_n 159 (174, l, st, w) = za_x 159 (.aload_n 0) 174 l st w := za_n.at zcc_159 dX13_makeLengths_174 rfl
theorem f_159_175 (l : za_L) (st : List Value) (w : za_W) : za_n 159 (175, l, st, w) = za_x 159 (.getfield 79) 175 l st w := za_n.at zcc_159 dX13_makeLengths_175 rfl
theorem f_159_178 (l : za_L) (st : List Value) (w : za_W) : za_n 159 (178, l, st, w) = za_x 159 (.iload 7) 178 l st w := za_n.at zcc_159 dX13_makeLengths_178 rfl
theorem f_159_180 (l : za_L) (st : List Value) (w : za_W) : za_n 159 (180, l, st, w) = za_x 159 (.iload 4) 180 l st w := za_n.at zcc_159 dX13_makeLengths_180 rfl
theorem f_159_182 (l : za_L) (st : List Value) (w : za_W) : za_n 159 (182, l, st, w) = za_x 159 (.iastore) 182 l st w := za_n.at zcc_159 dX13_makeLengths_182 rfl
theorem f_159_183 (l : za_L) (st : List Value) (w : za_W) : za_n 159 (183, l, st, w) = za_x 159 (.iinc 4 1) 183 l st w := za_n.at zcc_159 dX13_makeLengths_183 rfl
theorem f_159_186 (l : za_L) (st : List Value) (w : za_W) : za_n 159 (186, l, st, w) = za_x 159 (.iinc 5 (-1)) 186 l st w := za_n.at zcc_159 dX13_makeLengths_186 rfl
theorem f_159_189 (l : za_L) (st : List Value) (w : za_W) : za_n 159 (189, l, st, w) = za_go 118 l st w := (za_n.at zcc_159 dX13_makeLengths_189 rfl).trans (za_jp.at (by decide))
theorem f_159_192 (l : za_L) (st : List Value) (w : za_W) : za_n 159 (192, l, st, w) = za_go 193 l (.int (0) :: st) w := (za_n.at zcc_159 dX13_makeLengths_192 rfl).trans (congrArg (fun x => za_go 193 l (.int x :: st) w) (by decide))
theorem f_159_193 (l : za_L) (st : List Value) (w : za_W) : za_n 159 (193, l, st, w) = za_x 159 (.istore_n 3) 193 l st w := za_n.at zcc_159 dX13_makeLengths_193 rfl
theorem f_159_194 (l : za_L) (st : List Value) (w : za_W) : za_n 159 (194, l, st, w) = za_go 195 l (.int (0) :: st) w := (za_n.at zcc_159 dX13_makeLengths_194 rfl).trans (congrArg (fun x => za_go 195 l (.int x :: st) w) (by decide))
theorem f_159_195 (l : za_L) (st : List Value) (w : za_W) : za_n 159 (195, l, st, w) = za_x 159 (.istore 5) 195 l st w := za_n.at zcc_159 dX13_makeLengths_195 rfl
theorem f_159_197 (l : za_L) (st : List Value) (w : za_W) : za_n 159 (197, l, st, w) = za_x 159 (.iload 5) 197 l st w := za_n.at zcc_159 dX13_makeLengths_197 rfl
theorem f_159_199 (l : za_L) (st : List Value) (w : za_W) : za_n 159 (199, l, st, w) = za_x 159 (.iload_n 2) 199 l st w := za_n.at zcc_159 dX13_makeLengths_199 rfl
theorem f_159_200 (l : za_L) (st : List Value) (w : za_W) : za_n 159 (200, l, st, w) = za_x 159 (.if_icmp .ge 73) 200 l st w := za_n.at zcc_159 dX13_makeLengths_200 rfl
theorem f_159_203 (l : za_L) (st : List Value) (w : za_W) : za_n 159 (203, l, st, w) = za_go 204 l (.int (0) :: st) w := (za_n.at zcc_159 dX13_makeLengths_203 rfl).trans (congrArg (fun x => za_go 204 l (.int x :: st) w) (by decide))
theorem f_159_204 (l : za_L) (st : List Value) (w : za_W) : za_n 159 (204, l, st, w) = za_x 159 (.istore 6) 204 l st w := za_n.at zcc_159 dX13_makeLengths_204 rfl
theorem f_159_206 (l : za_L) (st : List Value) (w : za_W) : za_n 159 (206, l, st, w) = za_x 159 (.iload 5) 206 l st w := za_n.at zcc_159 dX13_makeLengths_206 rfl
theorem f_159_208 (l : za_L) (st : List Value) (w : za_W) : za_n 159 (208, l, st, w) = za_x 159 (.istore 7) 208 l st w := za_n.at zcc_159 dX13_makeLengths_208 rfl
theorem f_159_210 (l : za_L) (st : List Value) (w : za_W) : za_n 159 (210, l, st, w) = za_x 159 (.aload_n 0) 210 l st w := za_n.at zcc_159 dX13_makeLengths_210 rfl
theorem f_159_211 (l : za_L) (st : List Value) (w : za_W) : za_n 159 (211, l, st, w) = za_x 159 (.getfield 79) 211 l st w := za_n.at zcc_159 dX13_makeLengths_211 rfl
theorem f_159_214 (l : za_L) (st : List Value) (w : za_W) : za_n 159 (214, l, st, w) = za_x 159 (.iload 7) 214 l st w := za_n.at zcc_159 dX13_makeLengths_214 rfl
theorem f_159_216 (l : za_L) (st : List Value) (w : za_W) : za_n 159 (216, l, st, w) = za_x 159 (.iaload) 216 l st w := za_n.at zcc_159 dX13_makeLengths_216 rfl
theorem f_159_217 (l : za_L) (st : List Value) (w : za_W) : za_n 159 (217, l, st, w) = za_x 159 (.ifCond .lt 18) 217 l st w := za_n.at zcc_159 dX13_makeLengths_217 rfl
theorem f_159_220 (l : za_L) (st : List Value) (w : za_W) : za_n 159 (220, l, st, w) = za_x 159 (.iinc 6 1) 220 l st w := za_n.at zcc_159 dX13_makeLengths_220 rfl
theorem f_159_223 (l : za_L) (st : List Value) (w : za_W) : za_n 159 (223, l, st, w) = za_x 159 (.aload_n 0) 223 l st w := za_n.at zcc_159 dX13_makeLengths_223 rfl
theorem f_159_224 (l : za_L) (st : List Value) (w : za_W) : za_n 159 (224, l, st, w) = za_x 159 (.getfield 79) 224 l st w := za_n.at zcc_159 dX13_makeLengths_224 rfl
theorem f_159_227 (l : za_L) (st : List Value) (w : za_W) : za_n 159 (227, l, st, w) = za_x 159 (.iload 7) 227 l st w := za_n.at zcc_159 dX13_makeLengths_227 rfl
theorem f_159_229 (l : za_L) (st : List Value) (w : za_W) : za_n 159 (229, l, st, w) = za_x 159 (.iaload) 229 l st w := za_n.at zcc_159 dX13_makeLengths_229 rfl
theorem f_159_230 (l : za_L) (st : List Value) (w : za_W) : za_n 159 (230, l, st, w) = za_x 159 (.istore 7) 230 l st w := za_n.at zcc_159 dX13_makeLengths_230 rfl
theorem f_159_232 (l : za_L) (st : List Value) (w : za_W) : za_n 159 (232, l, st, w) = za_go 210 l st w := (za_n.at zcc_159 dX13_makeLengths_232 rfl).trans (za_jp.at (by decide))
theorem f_159_235 (l : za_L) (st : List Value) (w : za_W) : za_n 159 (235, l, st, w) = za_x 159 (.aload_n 0) 235 l st w := za_n.at zcc_159 dX13_makeLengths_235 rfl
theorem f_159_236 (l : za_L) (st : List Value) (w : za_W) : za_n 159 (236, l, st, w) = za_x 159 (.getfield 63) 236 l st w := za_n.at zcc_159 dX13_makeLengths_236 rfl
theorem f_159_239 (l : za_L) (st : List Value) (w : za_W) : za_n 159 (239, l, st, w) = za_go 242 l (.int (260) :: st) w := (za_n.at zcc_159 dX13_makeLengths_239 rfl).trans (congrArg (fun x => za_go 242 l (.int x :: st) w) (by decide))
theorem f_159_242 (l : za_L) (st : List Value) (w : za_W) : za_n 159 (242, l, st, w) = za_x 159 (.iload_n 1) 242 l st w := za_n.at zcc_159 dX13_makeLengths_242 rfl
theorem f_159_243 (l : za_L) (st : List Value) (w : za_W) : za_n 159 (243, l, st, w) = za_x 159 (.imul) 243 l st w := za_n.at zcc_159 dX13_makeLengths_243 rfl
theorem f_159_244 (l : za_L) (st : List Value) (w : za_W) : za_n 159 (244, l, st, w) = za_x 159 (.iload 5) 244 l st w := za_n.at zcc_159 dX13_makeLengths_244 rfl
theorem f_159_246 (l : za_L) (st : List Value) (w : za_W) : za_n 159 (246, l, st, w) = za_x 159 (.iadd) 246 l st w := za_n.at zcc_159 dX13_makeLengths_246 rfl
theorem f_159_247 (l : za_L) (st : List Value) (w : za_W) : za_n 159 (247, l, st, w) = za_x 159 (.iload 6) 247 l st w := za_n.at zcc_159 dX13_makeLengths_247 rfl
theorem f_159_249 (l : za_L) (st : List Value) (w : za_W) : za_n 159 (249, l, st, w) = za_x 159 (.iastore) 249 l st w := za_n.at zcc_159 dX13_makeLengths_249 rfl
theorem f_159_250 (l : za_L) (st : List Value) (w : za_W) : za_n 159 (250, l, st, w) = za_x 159 (.iload_n 3) 250 l st w := za_n.at zcc_159 dX13_makeLengths_250 rfl
theorem f_159_251 (l : za_L) (st : List Value) (w : za_W) : za_n 159 (251, l, st, w) = za_x 159 (.ifCond .ne 10) 251 l st w := za_n.at zcc_159 dX13_makeLengths_251 rfl
theorem f_159_254 (l : za_L) (st : List Value) (w : za_W) : za_n 159 (254, l, st, w) = za_x 159 (.iload 6) 254 l st w := za_n.at zcc_159 dX13_makeLengths_254 rfl
theorem f_159_256 (l : za_L) (st : List Value) (w : za_W) : za_n 159 (256, l, st, w) = za_go 258 l (.int (17) :: st) w := (za_n.at zcc_159 dX13_makeLengths_256 rfl).trans (congrArg (fun x => za_go 258 l (.int x :: st) w) (by decide))
theorem f_159_258 (l : za_L) (st : List Value) (w : za_W) : za_n 159 (258, l, st, w) = za_x 159 (.if_icmp .le 7) 258 l st w := za_n.at zcc_159 dX13_makeLengths_258 rfl
theorem f_159_261 (l : za_L) (st : List Value) (w : za_W) : za_n 159 (261, l, st, w) = za_go 262 l (.int (1) :: st) w := (za_n.at zcc_159 dX13_makeLengths_261 rfl).trans (congrArg (fun x => za_go 262 l (.int x :: st) w) (by decide))
theorem f_159_262 (l : za_L) (st : List Value) (w : za_W) : za_n 159 (262, l, st, w) = za_go 266 l st w := (za_n.at zcc_159 dX13_makeLengths_262 rfl).trans (za_jp.at (by decide))
theorem f_159_265 (l : za_L) (st : List Value) (w : za_W) : za_n 159 (265, l, st, w) = za_go 266 l (.int (0) :: st) w := (za_n.at zcc_159 dX13_makeLengths_265 rfl).trans (congrArg (fun x => za_go 266 l (.int x :: st) w) (by decide))
theorem f_159_266 (l : za_L) (st : List Value) (w : za_W) : za_n 159 (266, l, st, w) = za_x 159 (.istore_n 3) 266 l st w := za_n.at zcc_159 dX13_makeLengths_266 rfl
theorem f_159_267 (l : za_L) (st : List Value) (w : za_W) : za_n 159 (267, l, st, w) = za_x 159 (.iinc 5 1) 267 l st w := za_n.at zcc_159 dX13_makeLengths_267 rfl
theorem f_159_270 (l : za_L) (st : List Value) (w : za_W) : za_n 159 (270, l, st, w) = za_go 197 l st w := (za_n.at zcc_159 dX13_makeLengths_270 rfl).trans (za_jp.at (by decide))
theorem f_159_273 (l : za_L) (st : List Value) (w : za_W) : za_n 159 (273, l, st, w) = za_go 274 l (.int (0) :: st) w := (za_n.at zcc_159 dX13_makeLengths_273 rfl).trans (congrArg (fun x => za_go 274 l (.int x :: st) w) (by decide))
theorem f_159_274 (l : za_L) (st : List Value) (w : za_W) : za_n 159 (274, l, st, w) = za_x 159 (.istore 5) 274 l st w := za_n.at zcc_159 dX13_makeLengths_274 rfl
theorem f_159_276 (l : za_L) (st : List Value) (w : za_W) : za_n 159 (276, l, st, w) = za_x 159 (.iload 5) 276 l st w := za_n.at zcc_159 dX13_makeLengths_276 rfl
theorem f_159_278 (l : za_L) (st : List Value) (w : za_W) : za_n 159 (278, l, st, w) = za_x 159 (.iload_n 2) 278 l st w := za_n.at zcc_159 dX13_makeLengths_278 rfl
theorem f_159_279 (l : za_L) (st : List Value) (w : za_W) : za_n 159 (279, l, st, w) = za_x 159 (.if_icmp .ge 33) 279 l st w := za_n.at zcc_159 dX13_makeLengths_279 rfl
theorem f_159_282 (l : za_L) (st : List Value) (w : za_W) : za_n 159 (282, l, st, w) = za_x 159 (.iload_n 3) 282 l st w := za_n.at zcc_159 dX13_makeLengths_282 rfl
theorem f_159_283 (l : za_L) (st : List Value) (w : za_W) : za_n 159 (283, l, st, w) = za_x 159 (.ifCond .eq 29) 283 l st w := za_n.at zcc_159 dX13_makeLengths_283 rfl
theorem f_159_286 (l : za_L) (st : List Value) (w : za_W) : za_n 159 (286, l, st, w) = za_x 159 (.aload_n 0) 286 l st w := za_n.at zcc_159 dX13_makeLengths_286 rfl
theorem f_159_287 (l : za_L) (st : List Value) (w : za_W) : za_n 159 (287, l, st, w) = za_x 159 (.getfield 82) 287 l st w := za_n.at zcc_159 dX13_makeLengths_287 rfl
theorem f_159_290 (l : za_L) (st : List Value) (w : za_W) : za_n 159 (290, l, st, w) = za_x 159 (.iload 5) 290 l st w := za_n.at zcc_159 dX13_makeLengths_290 rfl
theorem f_159_292 (l : za_L) (st : List Value) (w : za_W) : za_n 159 (292, l, st, w) = za_x 159 (.aload_n 0) 292 l st w := za_n.at zcc_159 dX13_makeLengths_292 rfl
theorem f_159_293 (l : za_L) (st : List Value) (w : za_W) : za_n 159 (293, l, st, w) = za_x 159 (.getfield 82) 293 l st w := za_n.at zcc_159 dX13_makeLengths_293 rfl
theorem f_159_296 (l : za_L) (st : List Value) (w : za_W) : za_n 159 (296, l, st, w) = za_x 159 (.iload 5) 296 l st w := za_n.at zcc_159 dX13_makeLengths_296 rfl
theorem f_159_298 (l : za_L) (st : List Value) (w : za_W) : za_n 159 (298, l, st, w) = za_x 159 (.laload) 298 l st w := za_n.at zcc_159 dX13_makeLengths_298 rfl
theorem f_159_299 (l : za_L) (st : List Value) (w : za_W) : za_n 159 (299, l, st, w) = za_x 159 (.ldc2_w 187) 299 l st w := za_n.at zcc_159 dX13_makeLengths_299 rfl
theorem f_159_302 (l : za_L) (st : List Value) (w : za_W) : za_n 159 (302, l, st, w) = za_x 159 (.ldiv) 302 l st w := za_n.at zcc_159 dX13_makeLengths_302 rfl
theorem f_159_303 (l : za_L) (st : List Value) (w : za_W) : za_n 159 (303, l, st, w) = za_x 159 (.lconst 1) 303 l st w := za_n.at zcc_159 dX13_makeLengths_303 rfl
theorem f_159_304 (l : za_L) (st : List Value) (w : za_W) : za_n 159 (304, l, st, w) = za_x 159 (.ladd) 304 l st w := za_n.at zcc_159 dX13_makeLengths_304 rfl
theorem f_159_305 (l : za_L) (st : List Value) (w : za_W) : za_n 159 (305, l, st, w) = za_x 159 (.lastore) 305 l st w := za_n.at zcc_159 dX13_makeLengths_305 rfl
theorem f_159_306 (l : za_L) (st : List Value) (w : za_W) : za_n 159 (306, l, st, w) = za_x 159 (.iinc 5 1) 306 l st w := za_n.at zcc_159 dX13_makeLengths_306 rfl
theorem f_159_309 (l : za_L) (st : List Value) (w : za_W) : za_n 159 (309, l, st, w) = za_go 276 l st w := (za_n.at zcc_159 dX13_makeLengths_309 rfl).trans (za_jp.at (by decide))
theorem f_159_312 (l : za_L) (st : List Value) (w : za_W) : za_n 159 (312, l, st, w) = za_go 54 l st w := (za_n.at zcc_159 dX13_makeLengths_312 rfl).trans (za_jp.at (by decide))
theorem f_159_315 (l : za_L) (st : List Value) (w : za_W) : za_n 159 (315, l, st, w) = za_x 159 (.return_) 315 l st w := za_n.at zcc_159 dX13_makeLengths_315 rfl
theorem f_160_0 (l : za_L) (st : List Value) (w : za_W) : za_n 160 (0, l, st, w) = za_go 1 l (.int (-1) :: st) w := (za_n.at zcc_160 dX13_leastOne_0 rfl).trans (congrArg (fun x => za_go 1 l (.int x :: st) w) (by decide))
theorem f_160_1 (l : za_L) (st : List Value) (w : za_W) : za_n 160 (1, l, st, w) = za_x 160 (.istore_n 3) 1 l st w := za_n.at zcc_160 dX13_leastOne_1 rfl
theorem f_160_2 (l : za_L) (st : List Value) (w : za_W) : za_n 160 (2, l, st, w) = za_go 3 l (.int (0) :: st) w := (za_n.at zcc_160 dX13_leastOne_2 rfl).trans (congrArg (fun x => za_go 3 l (.int x :: st) w) (by decide))
theorem f_160_3 (l : za_L) (st : List Value) (w : za_W) : za_n 160 (3, l, st, w) = za_x 160 (.istore 4) 3 l st w := za_n.at zcc_160 dX13_leastOne_3 rfl
theorem f_160_5 (l : za_L) (st : List Value) (w : za_W) : za_n 160 (5, l, st, w) = za_x 160 (.iload 4) 5 l st w := za_n.at zcc_160 dX13_leastOne_5 rfl
theorem f_160_7 (l : za_L) (st : List Value) (w : za_W) : za_n 160 (7, l, st, w) = za_x 160 (.iload_n 1) 7 l st w := za_n.at zcc_160 dX13_leastOne_7 rfl
theorem f_160_8 (l : za_L) (st : List Value) (w : za_W) : za_n 160 (8, l, st, w) = za_x 160 (.if_icmp .ge 65) 8 l st w := za_n.at zcc_160 dX13_leastOne_8 rfl
theorem f_160_11 (l : za_L) (st : List Value) (w : za_W) : za_n 160 (11, l, st, w) = za_x 160 (.aload_n 0) 11 l st w := za_n.at zcc_160 dX13_leastOne_11 rfl
theorem f_160_12 (l : za_L) (st : List Value) (w : za_W) : za_n 160 (12, l, st, w) = za_x 160 (.getfield 79) 12 l st w := za_n.at zcc_160 dX13_leastOne_12 rfl
theorem f_160_15 (l : za_L) (st : List Value) (w : za_W) : za_n 160 (15, l, st, w) = za_x 160 (.iload 4) 15 l st w := za_n.at zcc_160 dX13_leastOne_15 rfl
theorem f_160_17 (l : za_L) (st : List Value) (w : za_W) : za_n 160 (17, l, st, w) = za_x 160 (.iaload) 17 l st w := za_n.at zcc_160 dX13_leastOne_17 rfl
theorem f_160_18 (l : za_L) (st : List Value) (w : za_W) : za_n 160 (18, l, st, w) = za_x 160 (.ifCond .ge 13) 18 l st w := za_n.at zcc_160 dX13_leastOne_18 rfl
theorem f_160_21 (l : za_L) (st : List Value) (w : za_W) : za_n 160 (21, l, st, w) = za_x 160 (.iload 4) 21 l st w := za_n.at zcc_160 dX13_leastOne_21 rfl
theorem f_160_23 (l : za_L) (st : List Value) (w : za_W) : za_n 160 (23, l, st, w) = za_x 160 (.iload_n 2) 23 l st w := za_n.at zcc_160 dX13_leastOne_23 rfl
theorem f_160_24 (l : za_L) (st : List Value) (w : za_W) : za_n 160 (24, l, st, w) = za_x 160 (.if_icmp .eq 7) 24 l st w := za_n.at zcc_160 dX13_leastOne_24 rfl
theorem f_160_27 (l : za_L) (st : List Value) (w : za_W) : za_n 160 (27, l, st, w) = za_go 28 l (.int (1) :: st) w := (za_n.at zcc_160 dX13_leastOne_27 rfl).trans (congrArg (fun x => za_go 28 l (.int x :: st) w) (by decide))
theorem f_160_28 (l : za_L) (st : List Value) (w : za_W) : za_n 160 (28, l, st, w) = za_go 32 l st w := (za_n.at zcc_160 dX13_leastOne_28 rfl).trans (za_jp.at (by decide))
theorem f_160_31 (l : za_L) (st : List Value) (w : za_W) : za_n 160 (31, l, st, w) = za_go 32 l (.int (0) :: st) w := (za_n.at zcc_160 dX13_leastOne_31 rfl).trans (congrArg (fun x => za_go 32 l (.int x :: st) w) (by decide))
theorem f_160_32 (l : za_L) (st : List Value) (w : za_W) : za_n 160 (32, l, st, w) = za_x 160 (.istore 5) 32 l st w := za_n.at zcc_160 dX13_leastOne_32 rfl
theorem f_160_34 (l : za_L) (st : List Value) (w : za_W) : za_n 160 (34, l, st, w) = za_x 160 (.iload 5) 34 l st w := za_n.at zcc_160 dX13_leastOne_34 rfl
theorem f_160_36 (l : za_L) (st : List Value) (w : za_W) : za_n 160 (36, l, st, w) = za_x 160 (.ifCond .eq 29) 36 l st w := za_n.at zcc_160 dX13_leastOne_36 rfl
theorem f_160_39 (l : za_L) (st : List Value) (w : za_W) : za_n 160 (39, l, st, w) = za_x 160 (.iload_n 3) 39 l st w := za_n.at zcc_160 dX13_leastOne_39 rfl
theorem f_160_40 (l : za_L) (st : List Value) (w : za_W) : za_n 160 (40, l, st, w) = za_x 160 (.ifCond .lt 20) 40 l st w := za_n.at zcc_160 dX13_leastOne_40 rfl
theorem f_160_43 (l : za_L) (st : List Value) (w : za_W) : za_n 160 (43, l, st, w) = za_x 160 (.aload_n 0) 43 l st w := za_n.at zcc_160 dX13_leastOne_43 rfl
theorem f_160_44 (l : za_L) (st : List Value) (w : za_W) : za_n 160 (44, l, st, w) = za_x 160 (.getfield 75) 44 l st w := za_n.at zcc_160 dX13_leastOne_44 rfl
theorem f_160_47 (l : za_L) (st : List Value) (w : za_W) : za_n 160 (47, l, st, w) = za_x 160 (.iload 4) 47 l st w := za_n.at zcc_160 dX13_leastOne_47 rfl
theorem f_160_49 (l : za_L) (st : List Value) (w : za_W) : za_n 160 (49, l, st, w) = za_x 160 (.laload) 49 l st w := za_n.at zcc_160 dX13_leastOne_49 rfl
theorem f_160_50 (l : za_L) (st : List Value) (w : za_W) : za_n 160 (50, l, st, w) = za_x 160 (.aload_n 0) 50 l st w := za_n.at zcc_160 dX13_leastOne_50 rfl
theorem f_160_51 (l : za_L) (st : List Value) (w : za_W) : za_n 160 (51, l, st, w) = za_x 160 (.getfield 75) 51 l st w := za_n.at zcc_160 dX13_leastOne_51 rfl
theorem f_160_54 (l : za_L) (st : List Value) (w : za_W) : za_n 160 (54, l, st, w) = za_x 160 (.iload_n 3) 54 l st w := za_n.at zcc_160 dX13_leastOne_54 rfl
theorem f_160_55 (l : za_L) (st : List Value) (w : za_W) : za_n 160 (55, l, st, w) = za_x 160 (.laload) 55 l st w := za_n.at zcc_160 dX13_leastOne_55 rfl
theorem f_160_56 (l : za_L) (st : List Value) (w : za_W) : za_n 160 (56, l, st, w) = za_x 160 (.lcmp) 56 l st w := za_n.at zcc_160 dX13_leastOne_56 rfl
theorem f_160_57 (l : za_L) (st : List Value) (w : za_W) : za_n 160 (57, l, st, w) = za_x 160 (.ifCond .ge 8) 57 l st w := za_n.at zcc_160 dX13_leastOne_57 rfl
theorem f_160_60 (l : za_L) (st : List Value) (w : za_W) : za_n 160 (60, l, st, w) = za_x 160 (.iload 4) 60 l st w := za_n.at zcc_160 dX13_leastOne_60 rfl
theorem f_160_62 (l : za_L) (st : List Value) (w : za_W) : za_n 160 (62, l, st, w) = za_go 66 l st w := (za_n.at zcc_160 dX13_leastOne_62 rfl).trans (za_jp.at (by decide))
theorem f_160_65 (l : za_L) (st : List Value) (w : za_W) : za_n 160 (65, l, st, w) = za_x 160 (.iload_n 3) 65 l st w := za_n.at zcc_160 dX13_leastOne_65 rfl
theorem f_160_66 (l : za_L) (st : List Value) (w : za_W) : za_n 160 (66, l, st, w) = za_x 160 (.istore_n 3) 66 l st w := za_n.at zcc_160 dX13_leastOne_66 rfl
theorem f_160_67 (l : za_L) (st : List Value) (w : za_W) : za_n 160 (67, l, st, w) = za_x 160 (.iinc 4 1) 67 l st w := za_n.at zcc_160 dX13_leastOne_67 rfl
