theorem f_160_70 (l : za_L) (st : List Value) (w : za_W) : za_n 160 (70, l, st, w) = za_go 5 l st w := (za_n.at zcc_160 dX13_leastOne_70 rfl).trans (za_jp.at (by decide))
theorem f_160_73 (l : za_L) (st : List Value) (w : za_W) : za_n 160 (73, l, st, w) = za_x 160 (.iload_n 3) 73 l st w := za_n.at zcc_160 dX13_leastOne_73 rfl
theorem f_160_74 (l : za_L) (st : List Value) (w : za_W) : za_n 160 (74, l, st, w) = za_x 160 (.ireturn) 74 l st w := za_n.at zcc_160 dX13_leastOne_74 rfl
theorem f_161_0 (l : za_L) (st : List Value) (w : za_W) : za_n 161 (0, l, st, w) = za_go 1 l (.int (0) :: st) w := (za_n.at zcc_161 dX13_firstCosts_0 rfl).trans (congrArg (fun x => za_go 1 l (.int x :: st) w) (by decide))
theorem f_161_1 (l : za_L) (st : List Value) (w : za_W) : za_n 161 (1, l, st, w) = za_x 161 (.istore_n 2) 1 l st w := za_n.at zcc_161 dX13_firstCosts_1 rfl
theorem f_161_2 (l : za_L) (st : List Value) (w : za_W) : za_n 161 (2, l, st, w) = za_x 161 (.iload_n 2) 2 l st w := za_n.at zcc_161 dX13_firstCosts_2 rfl
theorem f_161_3 (l : za_L) (st : List Value) (w : za_W) : za_n 161 (3, l, st, w) = za_go 6 l (.int (1560) :: st) w := (za_n.at zcc_161 dX13_firstCosts_3 rfl).trans (congrArg (fun x => za_go 6 l (.int x :: st) w) (by decide))
theorem f_161_6 (l : za_L) (st : List Value) (w : za_W) : za_n 161 (6, l, st, w) = za_x 161 (.if_icmp .ge 16) 6 l st w := za_n.at zcc_161 dX13_firstCosts_6 rfl
theorem f_161_9 (l : za_L) (st : List Value) (w : za_W) : za_n 161 (9, l, st, w) = za_x 161 (.aload_n 0) 9 l st w := za_n.at zcc_161 dX13_firstCosts_9 rfl
theorem f_161_10 (l : za_L) (st : List Value) (w : za_W) : za_n 161 (10, l, st, w) = za_x 161 (.getfield 69) 10 l st w := za_n.at zcc_161 dX13_firstCosts_10 rfl
theorem f_161_13 (l : za_L) (st : List Value) (w : za_W) : za_n 161 (13, l, st, w) = za_x 161 (.iload_n 2) 13 l st w := za_n.at zcc_161 dX13_firstCosts_13 rfl
theorem f_161_14 (l : za_L) (st : List Value) (w : za_W) : za_n 161 (14, l, st, w) = za_go 15 l (.int (0) :: st) w := (za_n.at zcc_161 dX13_firstCosts_14 rfl).trans (congrArg (fun x => za_go 15 l (.int x :: st) w) (by decide))
theorem f_161_15 (l : za_L) (st : List Value) (w : za_W) : za_n 161 (15, l, st, w) = za_x 161 (.iastore) 15 l st w := za_n.at zcc_161 dX13_firstCosts_15 rfl
theorem f_161_16 (l : za_L) (st : List Value) (w : za_W) : za_n 161 (16, l, st, w) = za_x 161 (.iinc 2 1) 16 l st w := za_n.at zcc_161 dX13_firstCosts_16 rfl
theorem f_161_19 (l : za_L) (st : List Value) (w : za_W) : za_n 161 (19, l, st, w) = za_go 2 l st w := (za_n.at zcc_161 dX13_firstCosts_19 rfl).trans (za_jp.at (by decide))
theorem f_161_22 (l : za_L) (st : List Value) (w : za_W) : za_n 161 (22, l, st, w) = za_go 23 l (.int (0) :: st) w := (za_n.at zcc_161 dX13_firstCosts_22 rfl).trans (congrArg (fun x => za_go 23 l (.int x :: st) w) (by decide))
theorem f_161_23 (l : za_L) (st : List Value) (w : za_W) : za_n 161 (23, l, st, w) = za_x 161 (.istore_n 2) 23 l st w := za_n.at zcc_161 dX13_firstCosts_23 rfl
theorem f_161_24 (l : za_L) (st : List Value) (w : za_W) : za_n 161 (24, l, st, w) = za_x 161 (.iload_n 2) 24 l st w := za_n.at zcc_161 dX13_firstCosts_24 rfl
theorem f_161_25 (l : za_L) (st : List Value) (w : za_W) : za_n 161 (25, l, st, w) = za_x 161 (.aload_n 0) 25 l st w := za_n.at zcc_161 dX13_firstCosts_25 rfl
theorem f_161_26 (l : za_L) (st : List Value) (w : za_W) : za_n 161 (26, l, st, w) = za_x 161 (.getfield 174) 26 l st w := za_n.at zcc_161 dX13_firstCosts_26 rfl
theorem f_161_29 (l : za_L) (st : List Value) (w : za_W) : za_n 161 (29, l, st, w) = za_x 161 (.if_icmp .ge 24) 29 l st w := za_n.at zcc_161 dX13_firstCosts_29 rfl
theorem f_161_32 (l : za_L) (st : List Value) (w : za_W) : za_n 161 (32, l, st, w) = za_x 161 (.aload_n 0) 32 l st w := za_n.at zcc_161 dX13_firstCosts_32 rfl
theorem f_161_33 (l : za_L) (st : List Value) (w : za_W) : za_n 161 (33, l, st, w) = za_x 161 (.getfield 69) 33 l st w := za_n.at zcc_161 dX13_firstCosts_33 rfl
theorem f_161_36 (l : za_L) (st : List Value) (w : za_W) : za_n 161 (36, l, st, w) = za_x 161 (.aload_n 0) 36 l st w := za_n.at zcc_161 dX13_firstCosts_36 rfl
theorem f_161_37 (l : za_L) (st : List Value) (w : za_W) : za_n 161 (37, l, st, w) = za_x 161 (.getfield 53) 37 l st w := za_n.at zcc_161 dX13_firstCosts_37 rfl
theorem f_161_40 (l : za_L) (st : List Value) (w : za_W) : za_n 161 (40, l, st, w) = za_x 161 (.iload_n 2) 40 l st w := za_n.at zcc_161 dX13_firstCosts_40 rfl
theorem f_161_41 (l : za_L) (st : List Value) (w : za_W) : za_n 161 (41, l, st, w) = za_x 161 (.iaload) 41 l st w := za_n.at zcc_161 dX13_firstCosts_41 rfl
theorem f_161_42 (l : za_L) (st : List Value) (w : za_W) : za_n 161 (42, l, st, w) = za_x 161 (.dup2) 42 l st w := za_n.at zcc_161 dX13_firstCosts_42 rfl
theorem f_161_43 (l : za_L) (st : List Value) (w : za_W) : za_n 161 (43, l, st, w) = za_x 161 (.iaload) 43 l st w := za_n.at zcc_161 dX13_firstCosts_43 rfl
theorem f_161_44 (l : za_L) (st : List Value) (w : za_W) : za_n 161 (44, l, st, w) = za_go 45 l (.int (1) :: st) w := (za_n.at zcc_161 dX13_firstCosts_44 rfl).trans (congrArg (fun x => za_go 45 l (.int x :: st) w) (by decide))
theorem f_161_45 (l : za_L) (st : List Value) (w : za_W) : za_n 161 (45, l, st, w) = za_x 161 (.iadd) 45 l st w := za_n.at zcc_161 dX13_firstCosts_45 rfl
theorem f_161_46 (l : za_L) (st : List Value) (w : za_W) : za_n 161 (46, l, st, w) = za_x 161 (.iastore) 46 l st w := za_n.at zcc_161 dX13_firstCosts_46 rfl
theorem f_161_47 (l : za_L) (st : List Value) (w : za_W) : za_n 161 (47, l, st, w) = za_x 161 (.iinc 2 1) 47 l st w := za_n.at zcc_161 dX13_firstCosts_47 rfl
theorem f_161_50 (l : za_L) (st : List Value) (w : za_W) : za_n 161 (50, l, st, w) = za_go 24 l st w := (za_n.at zcc_161 dX13_firstCosts_50 rfl).trans (za_jp.at (by decide))
theorem f_161_53 (l : za_L) (st : List Value) (w : za_W) : za_n 161 (53, l, st, w) = za_x 161 (.aload_n 0) 53 l st w := za_n.at zcc_161 dX13_firstCosts_53 rfl
theorem f_161_54 (l : za_L) (st : List Value) (w : za_W) : za_n 161 (54, l, st, w) = za_x 161 (.getfield 174) 54 l st w := za_n.at zcc_161 dX13_firstCosts_54 rfl
theorem f_161_57 (l : za_L) (st : List Value) (w : za_W) : za_n 161 (57, l, st, w) = za_x 161 (.istore_n 2) 57 l st w := za_n.at zcc_161 dX13_firstCosts_57 rfl
theorem f_161_58 (l : za_L) (st : List Value) (w : za_W) : za_n 161 (58, l, st, w) = za_go 59 l (.int (0) :: st) w := (za_n.at zcc_161 dX13_firstCosts_58 rfl).trans (congrArg (fun x => za_go 59 l (.int x :: st) w) (by decide))
theorem f_161_59 (l : za_L) (st : List Value) (w : za_W) : za_n 161 (59, l, st, w) = za_x 161 (.istore_n 3) 59 l st w := za_n.at zcc_161 dX13_firstCosts_59 rfl
theorem f_161_60 (l : za_L) (st : List Value) (w : za_W) : za_n 161 (60, l, st, w) = za_x 161 (.aload_n 0) 60 l st w := za_n.at zcc_161 dX13_firstCosts_60 rfl
theorem f_161_61 (l : za_L) (st : List Value) (w : za_W) : za_n 161 (61, l, st, w) = za_x 161 (.getfield 189) 61 l st w := za_n.at zcc_161 dX13_firstCosts_61 rfl
theorem f_161_64 (l : za_L) (st : List Value) (w : za_W) : za_n 161 (64, l, st, w) = za_go 65 l (.int (1) :: st) w := (za_n.at zcc_161 dX13_firstCosts_64 rfl).trans (congrArg (fun x => za_go 65 l (.int x :: st) w) (by decide))
theorem f_161_65 (l : za_L) (st : List Value) (w : za_W) : za_n 161 (65, l, st, w) = za_x 161 (.isub) 65 l st w := za_n.at zcc_161 dX13_firstCosts_65 rfl
theorem f_161_66 (l : za_L) (st : List Value) (w : za_W) : za_n 161 (66, l, st, w) = za_x 161 (.istore 4) 66 l st w := za_n.at zcc_161 dX13_firstCosts_66 rfl
theorem f_161_68 (l : za_L) (st : List Value) (w : za_W) : za_n 161 (68, l, st, w) = za_x 161 (.iload 4) 68 l st w := za_n.at zcc_161 dX13_firstCosts_68 rfl
theorem f_161_70 (l : za_L) (st : List Value) (w : za_W) : za_n 161 (70, l, st, w) = za_x 161 (.ifCond .lt 164) 70 l st w := za_n.at zcc_161 dX13_firstCosts_70 rfl
theorem f_161_73 (l : za_L) (st : List Value) (w : za_W) : za_n 161 (73, l, st, w) = za_x 161 (.iload_n 2) 73 l st w := za_n.at zcc_161 dX13_firstCosts_73 rfl
theorem f_161_74 (l : za_L) (st : List Value) (w : za_W) : za_n 161 (74, l, st, w) = za_x 161 (.iload 4) 74 l st w := za_n.at zcc_161 dX13_firstCosts_74 rfl
theorem f_161_76 (l : za_L) (st : List Value) (w : za_W) : za_n 161 (76, l, st, w) = za_go 77 l (.int (1) :: st) w := (za_n.at zcc_161 dX13_firstCosts_76 rfl).trans (congrArg (fun x => za_go 77 l (.int x :: st) w) (by decide))
theorem f_161_77 (l : za_L) (st : List Value) (w : za_W) : za_n 161 (77, l, st, w) = za_x 161 (.iadd) 77 l st w := za_n.at zcc_161 dX13_firstCosts_77 rfl
theorem f_161_78 (l : za_L) (st : List Value) (w : za_W) : za_n 161 (78, l, st, w) = za_x 161 (.idiv) 78 l st w := za_n.at zcc_161 dX13_firstCosts_78 rfl
theorem f_161_79 (l : za_L) (st : List Value) (w : za_W) : za_n 161 (79, l, st, w) = za_x 161 (.istore 5) 79 l st w := za_n.at zcc_161 dX13_firstCosts_79 rfl
theorem f_161_81 (l : za_L) (st : List Value) (w : za_W) : za_n 161 (81, l, st, w) = za_x 161 (.iload_n 3) 81 l st w := za_n.at zcc_161 dX13_firstCosts_81 rfl
theorem f_161_82 (l : za_L) (st : List Value) (w : za_W) : za_n 161 (82, l, st, w) = za_x 161 (.istore 6) 82 l st w := za_n.at zcc_161 dX13_firstCosts_82 rfl
theorem f_161_84 (l : za_L) (st : List Value) (w : za_W) : za_n 161 (84, l, st, w) = za_go 85 l (.int (0) :: st) w := (za_n.at zcc_161 dX13_firstCosts_84 rfl).trans (congrArg (fun x => za_go 85 l (.int x :: st) w) (by decide))
theorem f_161_85 (l : za_L) (st : List Value) (w : za_W) : za_n 161 (85, l, st, w) = za_x 161 (.istore 7) 85 l st w := za_n.at zcc_161 dX13_firstCosts_85 rfl
theorem f_161_87 (l : za_L) (st : List Value) (w : za_W) : za_n 161 (87, l, st, w) = za_x 161 (.iload 7) 87 l st w := za_n.at zcc_161 dX13_firstCosts_87 rfl
theorem f_161_89 (l : za_L) (st : List Value) (w : za_W) : za_n 161 (89, l, st, w) = za_x 161 (.iload 5) 89 l st w := za_n.at zcc_161 dX13_firstCosts_89 rfl
theorem f_161_91 (l : za_L) (st : List Value) (w : za_W) : za_n 161 (91, l, st, w) = za_x 161 (.if_icmp .ge 27) 91 l st w := za_n.at zcc_161 dX13_firstCosts_91 rfl
theorem f_161_94 (l : za_L) (st : List Value) (w : za_W) : za_n 161 (94, l, st, w) = za_x 161 (.iload 6) 94 l st w := za_n.at zcc_161 dX13_firstCosts_94 rfl
theorem f_161_96 (l : za_L) (st : List Value) (w : za_W) : za_n 161 (96, l, st, w) = za_x 161 (.iload_n 1) 96 l st w := za_n.at zcc_161 dX13_firstCosts_96 rfl
theorem f_161_97 (l : za_L) (st : List Value) (w : za_W) : za_n 161 (97, l, st, w) = za_x 161 (.if_icmp .ge 21) 97 l st w := za_n.at zcc_161 dX13_firstCosts_97 rfl
theorem f_161_100 (l : za_L) (st : List Value) (w : za_W) : za_n 161 (100, l, st, w) = za_x 161 (.iload 7) 100 l st w := za_n.at zcc_161 dX13_firstCosts_100 rfl
theorem f_161_102 (l : za_L) (st : List Value) (w : za_W) : za_n 161 (102, l, st, w) = za_x 161 (.aload_n 0) 102 l st w := za_n.at zcc_161 dX13_firstCosts_102 rfl
theorem f_161_103 (l : za_L) (st : List Value) (w : za_W) : za_n 161 (103, l, st, w) = za_x 161 (.getfield 69) 103 l st w := za_n.at zcc_161 dX13_firstCosts_103 rfl
theorem f_161_106 (l : za_L) (st : List Value) (w : za_W) : za_n 161 (106, l, st, w) = za_x 161 (.iload 6) 106 l st w := za_n.at zcc_161 dX13_firstCosts_106 rfl
theorem f_161_108 (l : za_L) (st : List Value) (w : za_W) : za_n 161 (108, l, st, w) = za_x 161 (.iaload) 108 l st w := za_n.at zcc_161 dX13_firstCosts_108 rfl
theorem f_161_109 (l : za_L) (st : List Value) (w : za_W) : za_n 161 (109, l, st, w) = za_x 161 (.iadd) 109 l st w := za_n.at zcc_161 dX13_firstCosts_109 rfl
theorem f_161_110 (l : za_L) (st : List Value) (w : za_W) : za_n 161 (110, l, st, w) = za_x 161 (.istore 7) 110 l st w := za_n.at zcc_161 dX13_firstCosts_110 rfl
theorem f_161_112 (l : za_L) (st : List Value) (w : za_W) : za_n 161 (112, l, st, w) = za_x 161 (.iinc 6 1) 112 l st w := za_n.at zcc_161 dX13_firstCosts_112 rfl
theorem f_161_115 (l : za_L) (st : List Value) (w : za_W) : za_n 161 (115, l, st, w) = za_go 87 l st w := (za_n.at zcc_161 dX13_firstCosts_115 rfl).trans (za_jp.at (by decide))
theorem f_161_118 (l : za_L) (st : List Value) (w : za_W) : za_n 161 (118, l, st, w) = za_x 161 (.iload 6) 118 l st w := za_n.at zcc_161 dX13_firstCosts_118 rfl
theorem f_161_120 (l : za_L) (st : List Value) (w : za_W) : za_n 161 (120, l, st, w) = za_x 161 (.iload_n 3) 120 l st w := za_n.at zcc_161 dX13_firstCosts_120 rfl
theorem f_161_121 (l : za_L) (st : List Value) (w : za_W) : za_n 161 (121, l, st, w) = za_x 161 (.isub) 121 l st w := za_n.at zcc_161 dX13_firstCosts_121 rfl
theorem f_161_122 (l : za_L) (st : List Value) (w : za_W) : za_n 161 (122, l, st, w) = za_go 123 l (.int (1) :: st) w := (za_n.at zcc_161 dX13_firstCosts_122 rfl).trans (congrArg (fun x => za_go 123 l (.int x :: st) w) (by decide))
theorem f_161_123 (l : za_L) (st : List Value) (w : za_W) : za_n 161 (123, l, st, w) = za_x 161 (.if_icmp .le 49) 123 l st w := za_n.at zcc_161 dX13_firstCosts_123 rfl
theorem f_161_126 (l : za_L) (st : List Value) (w : za_W) : za_n 161 (126, l, st, w) = za_x 161 (.iload 4) 126 l st w := za_n.at zcc_161 dX13_firstCosts_126 rfl
theorem f_161_128 (l : za_L) (st : List Value) (w : za_W) : za_n 161 (128, l, st, w) = za_x 161 (.aload_n 0) 128 l st w := za_n.at zcc_161 dX13_firstCosts_128 rfl
theorem f_161_129 (l : za_L) (st : List Value) (w : za_W) : za_n 161 (129, l, st, w) = za_x 161 (.getfield 189) 129 l st w := za_n.at zcc_161 dX13_firstCosts_129 rfl
theorem f_161_132 (l : za_L) (st : List Value) (w : za_W) : za_n 161 (132, l, st, w) = za_go 133 l (.int (1) :: st) w := (za_n.at zcc_161 dX13_firstCosts_132 rfl).trans (congrArg (fun x => za_go 133 l (.int x :: st) w) (by decide))
theorem f_161_133 (l : za_L) (st : List Value) (w : za_W) : za_n 161 (133, l, st, w) = za_x 161 (.isub) 133 l st w := za_n.at zcc_161 dX13_firstCosts_133 rfl
theorem f_161_134 (l : za_L) (st : List Value) (w : za_W) : za_n 161 (134, l, st, w) = za_x 161 (.if_icmp .eq 38) 134 l st w := za_n.at zcc_161 dX13_firstCosts_134 rfl
theorem f_161_137 (l : za_L) (st : List Value) (w : za_W) : za_n 161 (137, l, st, w) = za_x 161 (.iload 4) 137 l st w := za_n.at zcc_161 dX13_firstCosts_137 rfl
theorem f_161_139 (l : za_L) (st : List Value) (w : za_W) : za_n 161 (139, l, st, w) = za_x 161 (.ifCond .eq 33) 139 l st w := za_n.at zcc_161 dX13_firstCosts_139 rfl
theorem f_161_142 (l : za_L) (st : List Value) (w : za_W) : za_n 161 (142, l, st, w) = za_x 161 (.aload_n 0) 142 l st w := za_n.at zcc_161 dX13_firstCosts_142 rfl
theorem f_161_143 (l : za_L) (st : List Value) (w : za_W) : za_n 161 (143, l, st, w) = za_x 161 (.getfield 189) 143 l st w := za_n.at zcc_161 dX13_firstCosts_143 rfl
theorem f_161_146 (l : za_L) (st : List Value) (w : za_W) : za_n 161 (146, l, st, w) = za_go 147 l (.int (1) :: st) w := (za_n.at zcc_161 dX13_firstCosts_146 rfl).trans (congrArg (fun x => za_go 147 l (.int x :: st) w) (by decide))
theorem f_161_147 (l : za_L) (st : List Value) (w : za_W) : za_n 161 (147, l, st, w) = za_x 161 (.isub) 147 l st w := za_n.at zcc_161 dX13_firstCosts_147 rfl
theorem f_161_148 (l : za_L) (st : List Value) (w : za_W) : za_n 161 (148, l, st, w) = za_x 161 (.iload 4) 148 l st w := za_n.at zcc_161 dX13_firstCosts_148 rfl
theorem f_161_150 (l : za_L) (st : List Value) (w : za_W) : za_n 161 (150, l, st, w) = za_x 161 (.isub) 150 l st w := za_n.at zcc_161 dX13_firstCosts_150 rfl
theorem f_161_151 (l : za_L) (st : List Value) (w : za_W) : za_n 161 (151, l, st, w) = za_go 152 l (.int (2) :: st) w := (za_n.at zcc_161 dX13_firstCosts_151 rfl).trans (congrArg (fun x => za_go 152 l (.int x :: st) w) (by decide))
theorem f_161_152 (l : za_L) (st : List Value) (w : za_W) : za_n 161 (152, l, st, w) = za_x 161 (.irem) 152 l st w := za_n.at zcc_161 dX13_firstCosts_152 rfl
theorem f_161_153 (l : za_L) (st : List Value) (w : za_W) : za_n 161 (153, l, st, w) = za_go 154 l (.int (1) :: st) w := (za_n.at zcc_161 dX13_firstCosts_153 rfl).trans (congrArg (fun x => za_go 154 l (.int x :: st) w) (by decide))
theorem f_161_154 (l : za_L) (st : List Value) (w : za_W) : za_n 161 (154, l, st, w) = za_x 161 (.if_icmp .ne 18) 154 l st w := za_n.at zcc_161 dX13_firstCosts_154 rfl
theorem f_161_157 (l : za_L) (st : List Value) (w : za_W) : za_n 161 (157, l, st, w) = za_x 161 (.iinc 6 (-1)) 157 l st w := za_n.at zcc_161 dX13_firstCosts_157 rfl
theorem f_161_160 (l : za_L) (st : List Value) (w : za_W) : za_n 161 (160, l, st, w) = za_x 161 (.iload 7) 160 l st w := za_n.at zcc_161 dX13_firstCosts_160 rfl
theorem f_161_162 (l : za_L) (st : List Value) (w : za_W) : za_n 161 (162, l, st, w) = za_x 161 (.aload_n 0) 162 l st w := za_n.at zcc_161 dX13_firstCosts_162 rfl
theorem f_161_163 (l : za_L) (st : List Value) (w : za_W) : za_n 161 (163, l, st, w) = za_x 161 (.getfield 69) 163 l st w := za_n.at zcc_161 dX13_firstCosts_163 rfl
theorem f_161_166 (l : za_L) (st : List Value) (w : za_W) : za_n 161 (166, l, st, w) = za_x 161 (.iload 6) 166 l st w := za_n.at zcc_161 dX13_firstCosts_166 rfl
theorem f_161_168 (l : za_L) (st : List Value) (w : za_W) : za_n 161 (168, l, st, w) = za_x 161 (.iaload) 168 l st w := za_n.at zcc_161 dX13_firstCosts_168 rfl
theorem f_161_169 (l : za_L) (st : List Value) (w : za_W) : za_n 161 (169, l, st, w) = za_x 161 (.isub) 169 l st w := za_n.at zcc_161 dX13_firstCosts_169 rfl
theorem f_161_170 (l : za_L) (st : List Value) (w : za_W) : za_n 161 (170, l, st, w) = za_x 161 (.istore 7) 170 l st w := za_n.at zcc_161 dX13_firstCosts_170 rfl
theorem f_161_172 (l : za_L) (st : List Value) (w : za_W) : za_n 161 (172, l, st, w) = za_go 173 l (.int (0) :: st) w := (za_n.at zcc_161 dX13_firstCosts_172 rfl).trans (congrArg (fun x => za_go 173 l (.int x :: st) w) (by decide))
theorem f_161_173 (l : za_L) (st : List Value) (w : za_W) : za_n 161 (173, l, st, w) = za_x 161 (.istore 8) 173 l st w := za_n.at zcc_161 dX13_firstCosts_173 rfl
theorem f_161_175 (l : za_L) (st : List Value) (w : za_W) : za_n 161 (175, l, st, w) = za_x 161 (.iload 8) 175 l st w := za_n.at zcc_161 dX13_firstCosts_175 rfl
theorem f_161_177 (l : za_L) (st : List Value) (w : za_W) : za_n 161 (177, l, st, w) = za_x 161 (.iload_n 1) 177 l st w := za_n.at zcc_161 dX13_firstCosts_177 rfl
theorem f_161_178 (l : za_L) (st : List Value) (w : za_W) : za_n 161 (178, l, st, w) = za_x 161 (.if_icmp .ge 42) 178 l st w := za_n.at zcc_161 dX13_firstCosts_178 rfl
theorem f_161_181 (l : za_L) (st : List Value) (w : za_W) : za_n 161 (181, l, st, w) = za_x 161 (.aload_n 0) 181 l st w := za_n.at zcc_161 dX13_firstCosts_181 rfl
theorem f_161_182 (l : za_L) (st : List Value) (w : za_W) : za_n 161 (182, l, st, w) = za_x 161 (.getfield 66) 182 l st w := za_n.at zcc_161 dX13_firstCosts_182 rfl
theorem f_161_185 (l : za_L) (st : List Value) (w : za_W) : za_n 161 (185, l, st, w) = za_go 188 l (.int (260) :: st) w := (za_n.at zcc_161 dX13_firstCosts_185 rfl).trans (congrArg (fun x => za_go 188 l (.int x :: st) w) (by decide))
theorem f_161_188 (l : za_L) (st : List Value) (w : za_W) : za_n 161 (188, l, st, w) = za_x 161 (.iload 4) 188 l st w := za_n.at zcc_161 dX13_firstCosts_188 rfl
theorem f_161_190 (l : za_L) (st : List Value) (w : za_W) : za_n 161 (190, l, st, w) = za_x 161 (.imul) 190 l st w := za_n.at zcc_161 dX13_firstCosts_190 rfl
theorem f_161_191 (l : za_L) (st : List Value) (w : za_W) : za_n 161 (191, l, st, w) = za_x 161 (.iload 8) 191 l st w := za_n.at zcc_161 dX13_firstCosts_191 rfl
theorem f_161_193 (l : za_L) (st : List Value) (w : za_W) : za_n 161 (193, l, st, w) = za_x 161 (.iadd) 193 l st w := za_n.at zcc_161 dX13_firstCosts_193 rfl
theorem f_161_194 (l : za_L) (st : List Value) (w : za_W) : za_n 161 (194, l, st, w) = za_x 161 (.iload 8) 194 l st w := za_n.at zcc_161 dX13_firstCosts_194 rfl
theorem f_161_196 (l : za_L) (st : List Value) (w : za_W) : za_n 161 (196, l, st, w) = za_x 161 (.iload_n 3) 196 l st w := za_n.at zcc_161 dX13_firstCosts_196 rfl
theorem f_161_197 (l : za_L) (st : List Value) (w : za_W) : za_n 161 (197, l, st, w) = za_x 161 (.if_icmp .lt 14) 197 l st w := za_n.at zcc_161 dX13_firstCosts_197 rfl
theorem f_161_200 (l : za_L) (st : List Value) (w : za_W) : za_n 161 (200, l, st, w) = za_x 161 (.iload 8) 200 l st w := za_n.at zcc_161 dX13_firstCosts_200 rfl
theorem f_161_202 (l : za_L) (st : List Value) (w : za_W) : za_n 161 (202, l, st, w) = za_x 161 (.iload 6) 202 l st w := za_n.at zcc_161 dX13_firstCosts_202 rfl
theorem f_161_204 (l : za_L) (st : List Value) (w : za_W) : za_n 161 (204, l, st, w) = za_x 161 (.if_icmp .ge 7) 204 l st w := za_n.at zcc_161 dX13_firstCosts_204 rfl
theorem f_161_207 (l : za_L) (st : List Value) (w : za_W) : za_n 161 (207, l, st, w) = za_go 208 l (.int (0) :: st) w := (za_n.at zcc_161 dX13_firstCosts_207 rfl).trans (congrArg (fun x => za_go 208 l (.int x :: st) w) (by decide))
theorem f_161_208 (l : za_L) (st : List Value) (w : za_W) : za_n 161 (208, l, st, w) = za_go 213 l st w := (za_n.at zcc_161 dX13_firstCosts_208 rfl).trans (za_jp.at (by decide))
theorem f_161_211 (l : za_L) (st : List Value) (w : za_W) : za_n 161 (211, l, st, w) = za_go 213 l (.int (15) :: st) w := (za_n.at zcc_161 dX13_firstCosts_211 rfl).trans (congrArg (fun x => za_go 213 l (.int x :: st) w) (by decide))
theorem f_161_213 (l : za_L) (st : List Value) (w : za_W) : za_n 161 (213, l, st, w) = za_x 161 (.iastore) 213 l st w := za_n.at zcc_161 dX13_firstCosts_213 rfl
theorem f_161_214 (l : za_L) (st : List Value) (w : za_W) : za_n 161 (214, l, st, w) = za_x 161 (.iinc 8 1) 214 l st w := za_n.at zcc_161 dX13_firstCosts_214 rfl
theorem f_161_217 (l : za_L) (st : List Value) (w : za_W) : za_n 161 (217, l, st, w) = za_go 175 l st w := (za_n.at zcc_161 dX13_firstCosts_217 rfl).trans (za_jp.at (by decide))
theorem f_161_220 (l : za_L) (st : List Value) (w : za_W) : za_n 161 (220, l, st, w) = za_x 161 (.iload_n 2) 220 l st w := za_n.at zcc_161 dX13_firstCosts_220 rfl
theorem f_161_221 (l : za_L) (st : List Value) (w : za_W) : za_n 161 (221, l, st, w) = za_x 161 (.iload 7) 221 l st w := za_n.at zcc_161 dX13_firstCosts_221 rfl
theorem f_161_223 (l : za_L) (st : List Value) (w : za_W) : za_n 161 (223, l, st, w) = za_x 161 (.isub) 223 l st w := za_n.at zcc_161 dX13_firstCosts_223 rfl
theorem f_161_224 (l : za_L) (st : List Value) (w : za_W) : za_n 161 (224, l, st, w) = za_x 161 (.istore_n 2) 224 l st w := za_n.at zcc_161 dX13_firstCosts_224 rfl
theorem f_161_225 (l : za_L) (st : List Value) (w : za_W) : za_n 161 (225, l, st, w) = za_x 161 (.iload 6) 225 l st w := za_n.at zcc_161 dX13_firstCosts_225 rfl
theorem f_161_227 (l : za_L) (st : List Value) (w : za_W) : za_n 161 (227, l, st, w) = za_x 161 (.istore_n 3) 227 l st w := za_n.at zcc_161 dX13_firstCosts_227 rfl
theorem f_161_228 (l : za_L) (st : List Value) (w : za_W) : za_n 161 (228, l, st, w) = za_x 161 (.iinc 4 (-1)) 228 l st w := za_n.at zcc_161 dX13_firstCosts_228 rfl
theorem f_161_231 (l : za_L) (st : List Value) (w : za_W) : za_n 161 (231, l, st, w) = za_go 68 l st w := (za_n.at zcc_161 dX13_firstCosts_231 rfl).trans (za_jp.at (by decide))
theorem f_161_234 (l : za_L) (st : List Value) (w : za_W) : za_n 161 (234, l, st, w) = za_x 161 (.return_) 234 l st w := za_n.at zcc_161 dX13_firstCosts_234 rfl
theorem f_162_0 (l : za_L) (st : List Value) (w : za_W) : za_n 162 (0, l, st, w) = za_x 162 (.aload_n 0) 0 l st w := za_n.at zcc_162 dX13_chooseTables_0 rfl
theorem f_162_1 (l : za_L) (st : List Value) (w : za_W) : za_n 162 (1, l, st, w) = za_x 162 (.aload_n 0) 1 l st w := za_n.at zcc_162 dX13_chooseTables_1 rfl
theorem f_162_2 (l : za_L) (st : List Value) (w : za_W) : za_n 162 (2, l, st, w) = za_x 162 (.getfield 174) 2 l st w := za_n.at zcc_162 dX13_chooseTables_2 rfl
theorem f_162_5 (l : za_L) (st : List Value) (w : za_W) : za_n 162 (5, l, st, w) = za_go 8 l (.int (200) :: st) w := (za_n.at zcc_162 dX13_chooseTables_5 rfl).trans (congrArg (fun x => za_go 8 l (.int x :: st) w) (by decide))
theorem f_162_8 (l : za_L) (st : List Value) (w : za_W) : za_n 162 (8, l, st, w) = za_x 162 (.if_icmp .ge 7) 8 l st w := za_n.at zcc_162 dX13_chooseTables_8 rfl
theorem f_162_11 (l : za_L) (st : List Value) (w : za_W) : za_n 162 (11, l, st, w) = za_go 12 l (.int (2) :: st) w := (za_n.at zcc_162 dX13_chooseTables_11 rfl).trans (congrArg (fun x => za_go 12 l (.int x :: st) w) (by decide))
theorem f_162_12 (l : za_L) (st : List Value) (w : za_W) : za_n 162 (12, l, st, w) = za_go 44 l st w := (za_n.at zcc_162 dX13_chooseTables_12 rfl).trans (za_jp.at (by decide))
theorem f_162_15 (l : za_L) (st : List Value) (w : za_W) : za_n 162 (15, l, st, w) = za_x 162 (.aload_n 0) 15 l st w := za_n.at zcc_162 dX13_chooseTables_15 rfl
theorem f_162_16 (l : za_L) (st : List Value) (w : za_W) : za_n 162 (16, l, st, w) = za_x 162 (.getfield 174) 16 l st w := za_n.at zcc_162 dX13_chooseTables_16 rfl
theorem f_162_19 (l : za_L) (st : List Value) (w : za_W) : za_n 162 (19, l, st, w) = za_go 22 l (.int (600) :: st) w := (za_n.at zcc_162 dX13_chooseTables_19 rfl).trans (congrArg (fun x => za_go 22 l (.int x :: st) w) (by decide))
theorem f_162_22 (l : za_L) (st : List Value) (w : za_W) : za_n 162 (22, l, st, w) = za_x 162 (.if_icmp .ge 7) 22 l st w := za_n.at zcc_162 dX13_chooseTables_22 rfl
theorem f_162_25 (l : za_L) (st : List Value) (w : za_W) : za_n 162 (25, l, st, w) = za_go 26 l (.int (3) :: st) w := (za_n.at zcc_162 dX13_chooseTables_25 rfl).trans (congrArg (fun x => za_go 26 l (.int x :: st) w) (by decide))
theorem f_162_26 (l : za_L) (st : List Value) (w : za_W) : za_n 162 (26, l, st, w) = za_go 44 l st w := (za_n.at zcc_162 dX13_chooseTables_26 rfl).trans (za_jp.at (by decide))
theorem f_162_29 (l : za_L) (st : List Value) (w : za_W) : za_n 162 (29, l, st, w) = za_x 162 (.aload_n 0) 29 l st w := za_n.at zcc_162 dX13_chooseTables_29 rfl
theorem f_162_30 (l : za_L) (st : List Value) (w : za_W) : za_n 162 (30, l, st, w) = za_x 162 (.getfield 174) 30 l st w := za_n.at zcc_162 dX13_chooseTables_30 rfl
theorem f_162_33 (l : za_L) (st : List Value) (w : za_W) : za_n 162 (33, l, st, w) = za_go 36 l (.int (1200) :: st) w := (za_n.at zcc_162 dX13_chooseTables_33 rfl).trans (congrArg (fun x => za_go 36 l (.int x :: st) w) (by decide))
theorem f_162_36 (l : za_L) (st : List Value) (w : za_W) : za_n 162 (36, l, st, w) = za_x 162 (.if_icmp .ge 7) 36 l st w := za_n.at zcc_162 dX13_chooseTables_36 rfl
theorem f_162_39 (l : za_L) (st : List Value) (w : za_W) : za_n 162 (39, l, st, w) = za_go 40 l (.int (4) :: st) w := (za_n.at zcc_162 dX13_chooseTables_39 rfl).trans (congrArg (fun x => za_go 40 l (.int x :: st) w) (by decide))
theorem f_162_40 (l : za_L) (st : List Value) (w : za_W) : za_n 162 (40, l, st, w) = za_go 44 l st w := (za_n.at zcc_162 dX13_chooseTables_40 rfl).trans (za_jp.at (by decide))
theorem f_162_43 (l : za_L) (st : List Value) (w : za_W) : za_n 162 (43, l, st, w) = za_go 44 l (.int (5) :: st) w := (za_n.at zcc_162 dX13_chooseTables_43 rfl).trans (congrArg (fun x => za_go 44 l (.int x :: st) w) (by decide))
theorem f_162_44 (l : za_L) (st : List Value) (w : za_W) : za_n 162 (44, l, st, w) = za_x 162 (.putfield 189) 44 l st w := za_n.at zcc_162 dX13_chooseTables_44 rfl
theorem f_162_47 (l : za_L) (st : List Value) (w : za_W) : za_n 162 (47, l, st, w) = za_x 162 (.aload_n 0) 47 l st w := za_n.at zcc_162 dX13_chooseTables_47 rfl
theorem f_162_48 (l : za_L) (st : List Value) (w : za_W) : za_n 162 (48, l, st, w) = za_x 162 (.iload_n 1) 48 l st w := za_n.at zcc_162 dX13_chooseTables_48 rfl
theorem f_162_49 (l : za_L) (st : List Value) (w : za_W) : za_n 162 (49, l, st, w) = za_x 162 (.invokevirtual 192) 49 l st w := za_n.at zcc_162 dX13_chooseTables_49 rfl
theorem f_162_52 (l : za_L) (st : List Value) (w : za_W) : za_n 162 (52, l, st, w) = za_go 53 l (.int (0) :: st) w := (za_n.at zcc_162 dX13_chooseTables_52 rfl).trans (congrArg (fun x => za_go 53 l (.int x :: st) w) (by decide))
theorem f_162_53 (l : za_L) (st : List Value) (w : za_W) : za_n 162 (53, l, st, w) = za_x 162 (.istore_n 2) 53 l st w := za_n.at zcc_162 dX13_chooseTables_53 rfl
theorem f_162_54 (l : za_L) (st : List Value) (w : za_W) : za_n 162 (54, l, st, w) = za_x 162 (.iload_n 2) 54 l st w := za_n.at zcc_162 dX13_chooseTables_54 rfl
theorem f_162_55 (l : za_L) (st : List Value) (w : za_W) : za_n 162 (55, l, st, w) = za_go 56 l (.int (4) :: st) w := (za_n.at zcc_162 dX13_chooseTables_55 rfl).trans (congrArg (fun x => za_go 56 l (.int x :: st) w) (by decide))
theorem f_162_56 (l : za_L) (st : List Value) (w : za_W) : za_n 162 (56, l, st, w) = za_x 162 (.if_icmp .ge 288) 56 l st w := za_n.at zcc_162 dX13_chooseTables_56 rfl
theorem f_162_59 (l : za_L) (st : List Value) (w : za_W) : za_n 162 (59, l, st, w) = za_go 60 l (.int (0) :: st) w := (za_n.at zcc_162 dX13_chooseTables_59 rfl).trans (congrArg (fun x => za_go 60 l (.int x :: st) w) (by decide))
theorem f_162_60 (l : za_L) (st : List Value) (w : za_W) : za_n 162 (60, l, st, w) = za_x 162 (.istore_n 3) 60 l st w := za_n.at zcc_162 dX13_chooseTables_60 rfl
theorem f_162_61 (l : za_L) (st : List Value) (w : za_W) : za_n 162 (61, l, st, w) = za_x 162 (.iload_n 3) 61 l st w := za_n.at zcc_162 dX13_chooseTables_61 rfl
theorem f_162_62 (l : za_L) (st : List Value) (w : za_W) : za_n 162 (62, l, st, w) = za_go 65 l (.int (1560) :: st) w := (za_n.at zcc_162 dX13_chooseTables_62 rfl).trans (congrArg (fun x => za_go 65 l (.int x :: st) w) (by decide))
theorem f_162_65 (l : za_L) (st : List Value) (w : za_W) : za_n 162 (65, l, st, w) = za_x 162 (.if_icmp .ge 16) 65 l st w := za_n.at zcc_162 dX13_chooseTables_65 rfl
theorem f_162_68 (l : za_L) (st : List Value) (w : za_W) : za_n 162 (68, l, st, w) = za_x 162 (.aload_n 0) 68 l st w := za_n.at zcc_162 dX13_chooseTables_68 rfl
theorem f_162_69 (l : za_L) (st : List Value) (w : za_W) : za_n 162 (69, l, st, w) = za_x 162 (.getfield 69) 69 l st w := za_n.at zcc_162 dX13_chooseTables_69 rfl
theorem f_162_72 (l : za_L) (st : List Value) (w : za_W) : za_n 162 (72, l, st, w) = za_x 162 (.iload_n 3) 72 l st w := za_n.at zcc_162 dX13_chooseTables_72 rfl
theorem f_162_73 (l : za_L) (st : List Value) (w : za_W) : za_n 162 (73, l, st, w) = za_go 74 l (.int (0) :: st) w := (za_n.at zcc_162 dX13_chooseTables_73 rfl).trans (congrArg (fun x => za_go 74 l (.int x :: st) w) (by decide))
theorem f_162_74 (l : za_L) (st : List Value) (w : za_W) : za_n 162 (74, l, st, w) = za_x 162 (.iastore) 74 l st w := za_n.at zcc_162 dX13_chooseTables_74 rfl
theorem f_162_75 (l : za_L) (st : List Value) (w : za_W) : za_n 162 (75, l, st, w) = za_x 162 (.iinc 3 1) 75 l st w := za_n.at zcc_162 dX13_chooseTables_75 rfl
theorem f_162_78 (l : za_L) (st : List Value) (w : za_W) : za_n 162 (78, l, st, w) = za_go 61 l st w := (za_n.at zcc_162 dX13_chooseTables_78 rfl).trans (za_jp.at (by decide))
theorem f_162_81 (l : za_L) (st : List Value) (w : za_W) : za_n 162 (81, l, st, w) = za_x 162 (.aload_n 0) 81 l st w := za_n.at zcc_162 dX13_chooseTables_81 rfl
theorem f_162_82 (l : za_L) (st : List Value) (w : za_W) : za_n 162 (82, l, st, w) = za_go 83 l (.int (0) :: st) w := (za_n.at zcc_162 dX13_chooseTables_82 rfl).trans (congrArg (fun x => za_go 83 l (.int x :: st) w) (by decide))
theorem f_162_83 (l : za_L) (st : List Value) (w : za_W) : za_n 162 (83, l, st, w) = za_x 162 (.putfield 195) 83 l st w := za_n.at zcc_162 dX13_chooseTables_83 rfl
theorem f_162_86 (l : za_L) (st : List Value) (w : za_W) : za_n 162 (86, l, st, w) = za_go 87 l (.int (0) :: st) w := (za_n.at zcc_162 dX13_chooseTables_86 rfl).trans (congrArg (fun x => za_go 87 l (.int x :: st) w) (by decide))
theorem f_162_87 (l : za_L) (st : List Value) (w : za_W) : za_n 162 (87, l, st, w) = za_x 162 (.istore_n 3) 87 l st w := za_n.at zcc_162 dX13_chooseTables_87 rfl
theorem f_162_88 (l : za_L) (st : List Value) (w : za_W) : za_n 162 (88, l, st, w) = za_x 162 (.iload_n 3) 88 l st w := za_n.at zcc_162 dX13_chooseTables_88 rfl
theorem f_162_89 (l : za_L) (st : List Value) (w : za_W) : za_n 162 (89, l, st, w) = za_x 162 (.aload_n 0) 89 l st w := za_n.at zcc_162 dX13_chooseTables_89 rfl
theorem f_162_90 (l : za_L) (st : List Value) (w : za_W) : za_n 162 (90, l, st, w) = za_x 162 (.getfield 174) 90 l st w := za_n.at zcc_162 dX13_chooseTables_90 rfl
theorem f_162_93 (l : za_L) (st : List Value) (w : za_W) : za_n 162 (93, l, st, w) = za_x 162 (.if_icmp .ge 182) 93 l st w := za_n.at zcc_162 dX13_chooseTables_93 rfl
theorem f_162_96 (l : za_L) (st : List Value) (w : za_W) : za_n 162 (96, l, st, w) = za_x 162 (.iload_n 3) 96 l st w := za_n.at zcc_162 dX13_chooseTables_96 rfl
theorem f_162_97 (l : za_L) (st : List Value) (w : za_W) : za_n 162 (97, l, st, w) = za_go 99 l (.int (50) :: st) w := (za_n.at zcc_162 dX13_chooseTables_97 rfl).trans (congrArg (fun x => za_go 99 l (.int x :: st) w) (by decide))
theorem f_162_99 (l : za_L) (st : List Value) (w : za_W) : za_n 162 (99, l, st, w) = za_x 162 (.iadd) 99 l st w := za_n.at zcc_162 dX13_chooseTables_99 rfl
theorem f_162_100 (l : za_L) (st : List Value) (w : za_W) : za_n 162 (100, l, st, w) = za_x 162 (.aload_n 0) 100 l st w := za_n.at zcc_162 dX13_chooseTables_100 rfl
theorem f_162_101 (l : za_L) (st : List Value) (w : za_W) : za_n 162 (101, l, st, w) = za_x 162 (.getfield 174) 101 l st w := za_n.at zcc_162 dX13_chooseTables_101 rfl
theorem f_162_104 (l : za_L) (st : List Value) (w : za_W) : za_n 162 (104, l, st, w) = za_x 162 (.if_icmp .ge 10) 104 l st w := za_n.at zcc_162 dX13_chooseTables_104 rfl
theorem f_162_107 (l : za_L) (st : List Value) (w : za_W) : za_n 162 (107, l, st, w) = za_x 162 (.iload_n 3) 107 l st w := za_n.at zcc_162 dX13_chooseTables_107 rfl
theorem f_162_108 (l : za_L) (st : List Value) (w : za_W) : za_n 162 (108, l, st, w) = za_go 110 l (.int (50) :: st) w := (za_n.at zcc_162 dX13_chooseTables_108 rfl).trans (congrArg (fun x => za_go 110 l (.int x :: st) w) (by decide))
theorem f_162_110 (l : za_L) (st : List Value) (w : za_W) : za_n 162 (110, l, st, w) = za_x 162 (.iadd) 110 l st w := za_n.at zcc_162 dX13_chooseTables_110 rfl
theorem f_162_111 (l : za_L) (st : List Value) (w : za_W) : za_n 162 (111, l, st, w) = za_go 118 l st w := (za_n.at zcc_162 dX13_chooseTables_111 rfl).trans (za_jp.at (by decide))
theorem f_162_114 (l : za_L) (st : List Value) (w : za_W) : za_n 162 (114, l, st, w) = za_x 162 (.aload_n 0) 114 l st w := za_n.at zcc_162 dX13_chooseTables_114 rfl
theorem f_162_115 (l : za_L) (st : List Value) (w : za_W) : za_n 162 (115, l, st, w) = za_x 162 (.getfield 174) 115 l st w := za_n.at zcc_162 dX13_chooseTables_115 rfl
theorem f_162_118 (l : za_L) (st : List Value) (w : za_W) : za_n 162 (118, l, st, w) = za_x 162 (.istore 4) 118 l st w := za_n.at zcc_162 dX13_chooseTables_118 rfl
theorem f_162_120 (l : za_L) (st : List Value) (w : za_W) : za_n 162 (120, l, st, w) = za_go 121 l (.int (-1) :: st) w := (za_n.at zcc_162 dX13_chooseTables_120 rfl).trans (congrArg (fun x => za_go 121 l (.int x :: st) w) (by decide))
theorem f_162_121 (l : za_L) (st : List Value) (w : za_W) : za_n 162 (121, l, st, w) = za_x 162 (.istore 5) 121 l st w := za_n.at zcc_162 dX13_chooseTables_121 rfl
theorem f_162_123 (l : za_L) (st : List Value) (w : za_W) : za_n 162 (123, l, st, w) = za_go 124 l (.int (0) :: st) w := (za_n.at zcc_162 dX13_chooseTables_123 rfl).trans (congrArg (fun x => za_go 124 l (.int x :: st) w) (by decide))
theorem f_162_124 (l : za_L) (st : List Value) (w : za_W) : za_n 162 (124, l, st, w) = za_x 162 (.istore 6) 124 l st w := za_n.at zcc_162 dX13_chooseTables_124 rfl
theorem f_162_126 (l : za_L) (st : List Value) (w : za_W) : za_n 162 (126, l, st, w) = za_go 127 l (.int (0) :: st) w := (za_n.at zcc_162 dX13_chooseTables_126 rfl).trans (congrArg (fun x => za_go 127 l (.int x :: st) w) (by decide))
theorem f_162_127 (l : za_L) (st : List Value) (w : za_W) : za_n 162 (127, l, st, w) = za_x 162 (.istore 7) 127 l st w := za_n.at zcc_162 dX13_chooseTables_127 rfl
theorem f_162_129 (l : za_L) (st : List Value) (w : za_W) : za_n 162 (129, l, st, w) = za_x 162 (.iload 7) 129 l st w := za_n.at zcc_162 dX13_chooseTables_129 rfl
theorem f_162_131 (l : za_L) (st : List Value) (w : za_W) : za_n 162 (131, l, st, w) = za_x 162 (.aload_n 0) 131 l st w := za_n.at zcc_162 dX13_chooseTables_131 rfl
theorem f_162_132 (l : za_L) (st : List Value) (w : za_W) : za_n 162 (132, l, st, w) = za_x 162 (.getfield 189) 132 l st w := za_n.at zcc_162 dX13_chooseTables_132 rfl
theorem f_162_135 (l : za_L) (st : List Value) (w : za_W) : za_n 162 (135, l, st, w) = za_x 162 (.if_icmp .ge 72) 135 l st w := za_n.at zcc_162 dX13_chooseTables_135 rfl
theorem f_162_138 (l : za_L) (st : List Value) (w : za_W) : za_n 162 (138, l, st, w) = za_go 139 l (.int (0) :: st) w := (za_n.at zcc_162 dX13_chooseTables_138 rfl).trans (congrArg (fun x => za_go 139 l (.int x :: st) w) (by decide))
theorem f_162_139 (l : za_L) (st : List Value) (w : za_W) : za_n 162 (139, l, st, w) = za_x 162 (.istore 8) 139 l st w := za_n.at zcc_162 dX13_chooseTables_139 rfl
theorem f_162_141 (l : za_L) (st : List Value) (w : za_W) : za_n 162 (141, l, st, w) = za_x 162 (.iload_n 3) 141 l st w := za_n.at zcc_162 dX13_chooseTables_141 rfl
theorem f_162_142 (l : za_L) (st : List Value) (w : za_W) : za_n 162 (142, l, st, w) = za_x 162 (.istore 9) 142 l st w := za_n.at zcc_162 dX13_chooseTables_142 rfl
theorem f_162_144 (l : za_L) (st : List Value) (w : za_W) : za_n 162 (144, l, st, w) = za_x 162 (.iload 9) 144 l st w := za_n.at zcc_162 dX13_chooseTables_144 rfl
theorem f_162_146 (l : za_L) (st : List Value) (w : za_W) : za_n 162 (146, l, st, w) = za_x 162 (.iload 4) 146 l st w := za_n.at zcc_162 dX13_chooseTables_146 rfl
theorem f_162_148 (l : za_L) (st : List Value) (w : za_W) : za_n 162 (148, l, st, w) = za_x 162 (.if_icmp .ge 33) 148 l st w := za_n.at zcc_162 dX13_chooseTables_148 rfl
theorem f_162_151 (l : za_L) (st : List Value) (w : za_W) : za_n 162 (151, l, st, w) = za_x 162 (.iload 8) 151 l st w := za_n.at zcc_162 dX13_chooseTables_151 rfl
theorem f_162_153 (l : za_L) (st : List Value) (w : za_W) : za_n 162 (153, l, st, w) = za_x 162 (.aload_n 0) 153 l st w := za_n.at zcc_162 dX13_chooseTables_153 rfl
theorem f_162_154 (l : za_L) (st : List Value) (w : za_W) : za_n 162 (154, l, st, w) = za_x 162 (.getfield 66) 154 l st w := za_n.at zcc_162 dX13_chooseTables_154 rfl
theorem f_162_157 (l : za_L) (st : List Value) (w : za_W) : za_n 162 (157, l, st, w) = za_go 160 l (.int (260) :: st) w := (za_n.at zcc_162 dX13_chooseTables_157 rfl).trans (congrArg (fun x => za_go 160 l (.int x :: st) w) (by decide))
theorem f_162_160 (l : za_L) (st : List Value) (w : za_W) : za_n 162 (160, l, st, w) = za_x 162 (.iload 7) 160 l st w := za_n.at zcc_162 dX13_chooseTables_160 rfl
theorem f_162_162 (l : za_L) (st : List Value) (w : za_W) : za_n 162 (162, l, st, w) = za_x 162 (.imul) 162 l st w := za_n.at zcc_162 dX13_chooseTables_162 rfl
theorem f_162_163 (l : za_L) (st : List Value) (w : za_W) : za_n 162 (163, l, st, w) = za_x 162 (.aload_n 0) 163 l st w := za_n.at zcc_162 dX13_chooseTables_163 rfl
theorem f_162_164 (l : za_L) (st : List Value) (w : za_W) : za_n 162 (164, l, st, w) = za_x 162 (.getfield 53) 164 l st w := za_n.at zcc_162 dX13_chooseTables_164 rfl
theorem f_162_167 (l : za_L) (st : List Value) (w : za_W) : za_n 162 (167, l, st, w) = za_x 162 (.iload 9) 167 l st w := za_n.at zcc_162 dX13_chooseTables_167 rfl
theorem f_162_169 (l : za_L) (st : List Value) (w : za_W) : za_n 162 (169, l, st, w) = za_x 162 (.iaload) 169 l st w := za_n.at zcc_162 dX13_chooseTables_169 rfl
theorem f_162_170 (l : za_L) (st : List Value) (w : za_W) : za_n 162 (170, l, st, w) = za_x 162 (.iadd) 170 l st w := za_n.at zcc_162 dX13_chooseTables_170 rfl
theorem f_162_171 (l : za_L) (st : List Value) (w : za_W) : za_n 162 (171, l, st, w) = za_x 162 (.iaload) 171 l st w := za_n.at zcc_162 dX13_chooseTables_171 rfl
theorem f_162_172 (l : za_L) (st : List Value) (w : za_W) : za_n 162 (172, l, st, w) = za_x 162 (.iadd) 172 l st w := za_n.at zcc_162 dX13_chooseTables_172 rfl
theorem f_162_173 (l : za_L) (st : List Value) (w : za_W) : za_n 162 (173, l, st, w) = za_x 162 (.istore 8) 173 l st w := za_n.at zcc_162 dX13_chooseTables_173 rfl
theorem f_162_175 (l : za_L) (st : List Value) (w : za_W) : za_n 162 (175, l, st, w) = za_x 162 (.iinc 9 1) 175 l st w := za_n.at zcc_162 dX13_chooseTables_175 rfl
theorem f_162_178 (l : za_L) (st : List Value) (w : za_W) : za_n 162 (178, l, st, w) = za_go 144 l st w := (za_n.at zcc_162 dX13_chooseTables_178 rfl).trans (za_jp.at (by decide))
theorem f_162_181 (l : za_L) (st : List Value) (w : za_W) : za_n 162 (181, l, st, w) = za_x 162 (.iload 5) 181 l st w := za_n.at zcc_162 dX13_chooseTables_181 rfl
theorem f_162_183 (l : za_L) (st : List Value) (w : za_W) : za_n 162 (183, l, st, w) = za_x 162 (.ifCond .lt 10) 183 l st w := za_n.at zcc_162 dX13_chooseTables_183 rfl
theorem f_162_186 (l : za_L) (st : List Value) (w : za_W) : za_n 162 (186, l, st, w) = za_x 162 (.iload 8) 186 l st w := za_n.at zcc_162 dX13_chooseTables_186 rfl
theorem f_162_188 (l : za_L) (st : List Value) (w : za_W) : za_n 162 (188, l, st, w) = za_x 162 (.iload 6) 188 l st w := za_n.at zcc_162 dX13_chooseTables_188 rfl
theorem f_162_190 (l : za_L) (st : List Value) (w : za_W) : za_n 162 (190, l, st, w) = za_x 162 (.if_icmp .ge 11) 190 l st w := za_n.at zcc_162 dX13_chooseTables_190 rfl
theorem f_162_193 (l : za_L) (st : List Value) (w : za_W) : za_n 162 (193, l, st, w) = za_x 162 (.iload 7) 193 l st w := za_n.at zcc_162 dX13_chooseTables_193 rfl
theorem f_162_195 (l : za_L) (st : List Value) (w : za_W) : za_n 162 (195, l, st, w) = za_x 162 (.istore 5) 195 l st w := za_n.at zcc_162 dX13_chooseTables_195 rfl
theorem f_162_197 (l : za_L) (st : List Value) (w : za_W) : za_n 162 (197, l, st, w) = za_x 162 (.iload 8) 197 l st w := za_n.at zcc_162 dX13_chooseTables_197 rfl
theorem f_162_199 (l : za_L) (st : List Value) (w : za_W) : za_n 162 (199, l, st, w) = za_x 162 (.istore 6) 199 l st w := za_n.at zcc_162 dX13_chooseTables_199 rfl
theorem f_162_201 (l : za_L) (st : List Value) (w : za_W) : za_n 162 (201, l, st, w) = za_x 162 (.iinc 7 1) 201 l st w := za_n.at zcc_162 dX13_chooseTables_201 rfl
theorem f_162_204 (l : za_L) (st : List Value) (w : za_W) : za_n 162 (204, l, st, w) = za_go 129 l st w := (za_n.at zcc_162 dX13_chooseTables_204 rfl).trans (za_jp.at (by decide))
theorem f_162_207 (l : za_L) (st : List Value) (w : za_W) : za_n 162 (207, l, st, w) = za_x 162 (.aload_n 0) 207 l st w := za_n.at zcc_162 dX13_chooseTables_207 rfl
theorem f_162_208 (l : za_L) (st : List Value) (w : za_W) : za_n 162 (208, l, st, w) = za_x 162 (.getfield 72) 208 l st w := za_n.at zcc_162 dX13_chooseTables_208 rfl
theorem f_162_211 (l : za_L) (st : List Value) (w : za_W) : za_n 162 (211, l, st, w) = za_x 162 (.aload_n 0) 211 l st w := za_n.at zcc_162 dX13_chooseTables_211 rfl
theorem f_162_212 (l : za_L) (st : List Value) (w : za_W) : za_n 162 (212, l, st, w) = za_x 162 (.getfield 195) 212 l st w := za_n.at zcc_162 dX13_chooseTables_212 rfl
theorem f_162_215 (l : za_L) (st : List Value) (w : za_W) : za_n 162 (215, l, st, w) = za_x 162 (.iload 5) 215 l st w := za_n.at zcc_162 dX13_chooseTables_215 rfl
theorem f_162_217 (l : za_L) (st : List Value) (w : za_W) : za_n 162 (217, l, st, w) = za_x 162 (.iastore) 217 l st w := za_n.at zcc_162 dX13_chooseTables_217 rfl
theorem f_162_218 (l : za_L) (st : List Value) (w : za_W) : za_n 162 (218, l, st, w) = za_x 162 (.aload_n 0) 218 l st w := za_n.at zcc_162 dX13_chooseTables_218 rfl
theorem f_162_219 (l : za_L) (st : List Value) (w : za_W) : za_n 162 (219, l, st, w) = za_x 162 (.dup) 219 l st w := za_n.at zcc_162 dX13_chooseTables_219 rfl
theorem f_162_220 (l : za_L) (st : List Value) (w : za_W) : za_n 162 (220, l, st, w) = za_x 162 (.getfield 195) 220 l st w := za_n.at zcc_162 dX13_chooseTables_220 rfl
theorem f_162_223 (l : za_L) (st : List Value) (w : za_W) : za_n 162 (223, l, st, w) = za_go 224 l (.int (1) :: st) w := (za_n.at zcc_162 dX13_chooseTables_223 rfl).trans (congrArg (fun x => za_go 224 l (.int x :: st) w) (by decide))
theorem f_162_224 (l : za_L) (st : List Value) (w : za_W) : za_n 162 (224, l, st, w) = za_x 162 (.iadd) 224 l st w := za_n.at zcc_162 dX13_chooseTables_224 rfl
theorem f_162_225 (l : za_L) (st : List Value) (w : za_W) : za_n 162 (225, l, st, w) = za_x 162 (.putfield 195) 225 l st w := za_n.at zcc_162 dX13_chooseTables_225 rfl
theorem f_162_228 (l : za_L) (st : List Value) (w : za_W) : za_n 162 (228, l, st, w) = za_x 162 (.iload_n 3) 228 l st w := za_n.at zcc_162 dX13_chooseTables_228 rfl
theorem f_162_229 (l : za_L) (st : List Value) (w : za_W) : za_n 162 (229, l, st, w) = za_x 162 (.istore 7) 229 l st w := za_n.at zcc_162 dX13_chooseTables_229 rfl
theorem f_162_231 (l : za_L) (st : List Value) (w : za_W) : za_n 162 (231, l, st, w) = za_x 162 (.iload 7) 231 l st w := za_n.at zcc_162 dX13_chooseTables_231 rfl
theorem f_162_233 (l : za_L) (st : List Value) (w : za_W) : za_n 162 (233, l, st, w) = za_x 162 (.iload 4) 233 l st w := za_n.at zcc_162 dX13_chooseTables_233 rfl
theorem f_162_235 (l : za_L) (st : List Value) (w : za_W) : za_n 162 (235, l, st, w) = za_x 162 (.if_icmp .ge 32) 235 l st w := za_n.at zcc_162 dX13_chooseTables_235 rfl
theorem f_162_238 (l : za_L) (st : List Value) (w : za_W) : za_n 162 (238, l, st, w) = za_x 162 (.aload_n 0) 238 l st w := za_n.at zcc_162 dX13_chooseTables_238 rfl
theorem f_162_239 (l : za_L) (st : List Value) (w : za_W) : za_n 162 (239, l, st, w) = za_x 162 (.getfield 69) 239 l st w := za_n.at zcc_162 dX13_chooseTables_239 rfl
theorem f_162_242 (l : za_L) (st : List Value) (w : za_W) : za_n 162 (242, l, st, w) = za_go 245 l (.int (260) :: st) w := (za_n.at zcc_162 dX13_chooseTables_242 rfl).trans (congrArg (fun x => za_go 245 l (.int x :: st) w) (by decide))
theorem f_162_245 (l : za_L) (st : List Value) (w : za_W) : za_n 162 (245, l, st, w) = za_x 162 (.iload 5) 245 l st w := za_n.at zcc_162 dX13_chooseTables_245 rfl
theorem f_162_247 (l : za_L) (st : List Value) (w : za_W) : za_n 162 (247, l, st, w) = za_x 162 (.imul) 247 l st w := za_n.at zcc_162 dX13_chooseTables_247 rfl
theorem f_162_248 (l : za_L) (st : List Value) (w : za_W) : za_n 162 (248, l, st, w) = za_x 162 (.aload_n 0) 248 l st w := za_n.at zcc_162 dX13_chooseTables_248 rfl
theorem f_162_249 (l : za_L) (st : List Value) (w : za_W) : za_n 162 (249, l, st, w) = za_x 162 (.getfield 53) 249 l st w := za_n.at zcc_162 dX13_chooseTables_249 rfl
theorem f_162_252 (l : za_L) (st : List Value) (w : za_W) : za_n 162 (252, l, st, w) = za_x 162 (.iload 7) 252 l st w := za_n.at zcc_162 dX13_chooseTables_252 rfl
theorem f_162_254 (l : za_L) (st : List Value) (w : za_W) : za_n 162 (254, l, st, w) = za_x 162 (.iaload) 254 l st w := za_n.at zcc_162 dX13_chooseTables_254 rfl
theorem f_162_255 (l : za_L) (st : List Value) (w : za_W) : za_n 162 (255, l, st, w) = za_x 162 (.iadd) 255 l st w := za_n.at zcc_162 dX13_chooseTables_255 rfl
theorem f_162_256 (l : za_L) (st : List Value) (w : za_W) : za_n 162 (256, l, st, w) = za_x 162 (.dup2) 256 l st w := za_n.at zcc_162 dX13_chooseTables_256 rfl
theorem f_162_257 (l : za_L) (st : List Value) (w : za_W) : za_n 162 (257, l, st, w) = za_x 162 (.iaload) 257 l st w := za_n.at zcc_162 dX13_chooseTables_257 rfl
theorem f_162_258 (l : za_L) (st : List Value) (w : za_W) : za_n 162 (258, l, st, w) = za_go 259 l (.int (1) :: st) w := (za_n.at zcc_162 dX13_chooseTables_258 rfl).trans (congrArg (fun x => za_go 259 l (.int x :: st) w) (by decide))
theorem f_162_259 (l : za_L) (st : List Value) (w : za_W) : za_n 162 (259, l, st, w) = za_x 162 (.iadd) 259 l st w := za_n.at zcc_162 dX13_chooseTables_259 rfl
theorem f_162_260 (l : za_L) (st : List Value) (w : za_W) : za_n 162 (260, l, st, w) = za_x 162 (.iastore) 260 l st w := za_n.at zcc_162 dX13_chooseTables_260 rfl
theorem f_162_261 (l : za_L) (st : List Value) (w : za_W) : za_n 162 (261, l, st, w) = za_x 162 (.iinc 7 1) 261 l st w := za_n.at zcc_162 dX13_chooseTables_261 rfl
theorem f_162_264 (l : za_L) (st : List Value) (w : za_W) : za_n 162 (264, l, st, w) = za_go 231 l st w := (za_n.at zcc_162 dX13_chooseTables_264 rfl).trans (za_jp.at (by decide))
theorem f_162_267 (l : za_L) (st : List Value) (w : za_W) : za_n 162 (267, l, st, w) = za_x 162 (.iload_n 3) 267 l st w := za_n.at zcc_162 dX13_chooseTables_267 rfl
theorem f_162_268 (l : za_L) (st : List Value) (w : za_W) : za_n 162 (268, l, st, w) = za_go 270 l (.int (50) :: st) w := (za_n.at zcc_162 dX13_chooseTables_268 rfl).trans (congrArg (fun x => za_go 270 l (.int x :: st) w) (by decide))
theorem f_162_270 (l : za_L) (st : List Value) (w : za_W) : za_n 162 (270, l, st, w) = za_x 162 (.iadd) 270 l st w := za_n.at zcc_162 dX13_chooseTables_270 rfl
theorem f_162_271 (l : za_L) (st : List Value) (w : za_W) : za_n 162 (271, l, st, w) = za_x 162 (.istore_n 3) 271 l st w := za_n.at zcc_162 dX13_chooseTables_271 rfl
theorem f_162_272 (l : za_L) (st : List Value) (w : za_W) : za_n 162 (272, l, st, w) = za_go 88 l st w := (za_n.at zcc_162 dX13_chooseTables_272 rfl).trans (za_jp.at (by decide))
theorem f_162_275 (l : za_L) (st : List Value) (w : za_W) : za_n 162 (275, l, st, w) = za_go 276 l (.int (0) :: st) w := (za_n.at zcc_162 dX13_chooseTables_275 rfl).trans (congrArg (fun x => za_go 276 l (.int x :: st) w) (by decide))
theorem f_162_276 (l : za_L) (st : List Value) (w : za_W) : za_n 162 (276, l, st, w) = za_x 162 (.istore_n 3) 276 l st w := za_n.at zcc_162 dX13_chooseTables_276 rfl
theorem f_162_277 (l : za_L) (st : List Value) (w : za_W) : za_n 162 (277, l, st, w) = za_x 162 (.iload_n 3) 277 l st w := za_n.at zcc_162 dX13_chooseTables_277 rfl
theorem f_162_278 (l : za_L) (st : List Value) (w : za_W) : za_n 162 (278, l, st, w) = za_x 162 (.aload_n 0) 278 l st w := za_n.at zcc_162 dX13_chooseTables_278 rfl
theorem f_162_279 (l : za_L) (st : List Value) (w : za_W) : za_n 162 (279, l, st, w) = za_x 162 (.getfield 189) 279 l st w := za_n.at zcc_162 dX13_chooseTables_279 rfl
theorem f_162_282 (l : za_L) (st : List Value) (w : za_W) : za_n 162 (282, l, st, w) = za_x 162 (.if_icmp .ge 56) 282 l st w := za_n.at zcc_162 dX13_chooseTables_282 rfl
theorem f_162_285 (l : za_L) (st : List Value) (w : za_W) : za_n 162 (285, l, st, w) = za_x 162 (.aload_n 0) 285 l st w := za_n.at zcc_162 dX13_chooseTables_285 rfl
theorem f_162_286 (l : za_L) (st : List Value) (w : za_W) : za_n 162 (286, l, st, w) = za_x 162 (.iload_n 3) 286 l st w := za_n.at zcc_162 dX13_chooseTables_286 rfl
theorem f_162_287 (l : za_L) (st : List Value) (w : za_W) : za_n 162 (287, l, st, w) = za_x 162 (.iload_n 1) 287 l st w := za_n.at zcc_162 dX13_chooseTables_287 rfl
theorem f_162_288 (l : za_L) (st : List Value) (w : za_W) : za_n 162 (288, l, st, w) = za_x 162 (.invokevirtual 198) 288 l st w := za_n.at zcc_162 dX13_chooseTables_288 rfl
theorem f_162_291 (l : za_L) (st : List Value) (w : za_W) : za_n 162 (291, l, st, w) = za_go 292 l (.int (0) :: st) w := (za_n.at zcc_162 dX13_chooseTables_291 rfl).trans (congrArg (fun x => za_go 292 l (.int x :: st) w) (by decide))
theorem f_162_292 (l : za_L) (st : List Value) (w : za_W) : za_n 162 (292, l, st, w) = za_x 162 (.istore 4) 292 l st w := za_n.at zcc_162 dX13_chooseTables_292 rfl
theorem f_162_294 (l : za_L) (st : List Value) (w : za_W) : za_n 162 (294, l, st, w) = za_x 162 (.iload 4) 294 l st w := za_n.at zcc_162 dX13_chooseTables_294 rfl
theorem f_162_296 (l : za_L) (st : List Value) (w : za_W) : za_n 162 (296, l, st, w) = za_x 162 (.iload_n 1) 296 l st w := za_n.at zcc_162 dX13_chooseTables_296 rfl
theorem f_162_297 (l : za_L) (st : List Value) (w : za_W) : za_n 162 (297, l, st, w) = za_x 162 (.if_icmp .ge 35) 297 l st w := za_n.at zcc_162 dX13_chooseTables_297 rfl
theorem f_162_300 (l : za_L) (st : List Value) (w : za_W) : za_n 162 (300, l, st, w) = za_x 162 (.aload_n 0) 300 l st w := za_n.at zcc_162 dX13_chooseTables_300 rfl
theorem f_162_301 (l : za_L) (st : List Value) (w : za_W) : za_n 162 (301, l, st, w) = za_x 162 (.getfield 66) 301 l st w := za_n.at zcc_162 dX13_chooseTables_301 rfl
theorem f_162_304 (l : za_L) (st : List Value) (w : za_W) : za_n 162 (304, l, st, w) = za_go 307 l (.int (260) :: st) w := (za_n.at zcc_162 dX13_chooseTables_304 rfl).trans (congrArg (fun x => za_go 307 l (.int x :: st) w) (by decide))
theorem f_162_307 (l : za_L) (st : List Value) (w : za_W) : za_n 162 (307, l, st, w) = za_x 162 (.iload_n 3) 307 l st w := za_n.at zcc_162 dX13_chooseTables_307 rfl
theorem f_162_308 (l : za_L) (st : List Value) (w : za_W) : za_n 162 (308, l, st, w) = za_x 162 (.imul) 308 l st w := za_n.at zcc_162 dX13_chooseTables_308 rfl
theorem f_162_309 (l : za_L) (st : List Value) (w : za_W) : za_n 162 (309, l, st, w) = za_x 162 (.iload 4) 309 l st w := za_n.at zcc_162 dX13_chooseTables_309 rfl
theorem f_162_311 (l : za_L) (st : List Value) (w : za_W) : za_n 162 (311, l, st, w) = za_x 162 (.iadd) 311 l st w := za_n.at zcc_162 dX13_chooseTables_311 rfl
theorem f_162_312 (l : za_L) (st : List Value) (w : za_W) : za_n 162 (312, l, st, w) = za_x 162 (.aload_n 0) 312 l st w := za_n.at zcc_162 dX13_chooseTables_312 rfl
theorem f_162_313 (l : za_L) (st : List Value) (w : za_W) : za_n 162 (313, l, st, w) = za_x 162 (.getfield 63) 313 l st w := za_n.at zcc_162 dX13_chooseTables_313 rfl
theorem f_162_316 (l : za_L) (st : List Value) (w : za_W) : za_n 162 (316, l, st, w) = za_go 319 l (.int (260) :: st) w := (za_n.at zcc_162 dX13_chooseTables_316 rfl).trans (congrArg (fun x => za_go 319 l (.int x :: st) w) (by decide))
theorem f_162_319 (l : za_L) (st : List Value) (w : za_W) : za_n 162 (319, l, st, w) = za_x 162 (.iload_n 3) 319 l st w := za_n.at zcc_162 dX13_chooseTables_319 rfl
theorem f_162_320 (l : za_L) (st : List Value) (w : za_W) : za_n 162 (320, l, st, w) = za_x 162 (.imul) 320 l st w := za_n.at zcc_162 dX13_chooseTables_320 rfl
theorem f_162_321 (l : za_L) (st : List Value) (w : za_W) : za_n 162 (321, l, st, w) = za_x 162 (.iload 4) 321 l st w := za_n.at zcc_162 dX13_chooseTables_321 rfl
theorem f_162_323 (l : za_L) (st : List Value) (w : za_W) : za_n 162 (323, l, st, w) = za_x 162 (.iadd) 323 l st w := za_n.at zcc_162 dX13_chooseTables_323 rfl
theorem f_162_324 (l : za_L) (st : List Value) (w : za_W) : za_n 162 (324, l, st, w) = za_x 162 (.iaload) 324 l st w := za_n.at zcc_162 dX13_chooseTables_324 rfl
theorem f_162_325 (l : za_L) (st : List Value) (w : za_W) : za_n 162 (325, l, st, w) = za_x 162 (.iastore) 325 l st w := za_n.at zcc_162 dX13_chooseTables_325 rfl
theorem f_162_326 (l : za_L) (st : List Value) (w : za_W) : za_n 162 (326, l, st, w) = za_x 162 (.iinc 4 1) 326 l st w := za_n.at zcc_162 dX13_chooseTables_326 rfl
theorem f_162_329 (l : za_L) (st : List Value) (w : za_W) : za_n 162 (329, l, st, w) = za_go 294 l st w := (za_n.at zcc_162 dX13_chooseTables_329 rfl).trans (za_jp.at (by decide))
theorem f_162_332 (l : za_L) (st : List Value) (w : za_W) : za_n 162 (332, l, st, w) = za_x 162 (.iinc 3 1) 332 l st w := za_n.at zcc_162 dX13_chooseTables_332 rfl
theorem f_162_335 (l : za_L) (st : List Value) (w : za_W) : za_n 162 (335, l, st, w) = za_go 277 l st w := (za_n.at zcc_162 dX13_chooseTables_335 rfl).trans (za_jp.at (by decide))
theorem f_162_338 (l : za_L) (st : List Value) (w : za_W) : za_n 162 (338, l, st, w) = za_x 162 (.iinc 2 1) 338 l st w := za_n.at zcc_162 dX13_chooseTables_338 rfl
theorem f_162_341 (l : za_L) (st : List Value) (w : za_W) : za_n 162 (341, l, st, w) = za_go 54 l st w := (za_n.at zcc_162 dX13_chooseTables_341 rfl).trans (za_jp.at (by decide))
theorem f_162_344 (l : za_L) (st : List Value) (w : za_W) : za_n 162 (344, l, st, w) = za_x 162 (.return_) 344 l st w := za_n.at zcc_162 dX13_chooseTables_344 rfl
theorem f_163_0 (l : za_L) (st : List Value) (w : za_W) : za_n 163 (0, l, st, w) = za_go 1 l (.int (0) :: st) w := (za_n.at zcc_163 dX13_makeCodes_0 rfl).trans (congrArg (fun x => za_go 1 l (.int x :: st) w) (by decide))
theorem f_163_1 (l : za_L) (st : List Value) (w : za_W) : za_n 163 (1, l, st, w) = za_x 163 (.istore_n 3) 1 l st w := za_n.at zcc_163 dX13_makeCodes_1 rfl
theorem f_163_2 (l : za_L) (st : List Value) (w : za_W) : za_n 163 (2, l, st, w) = za_x 163 (.iload_n 3) 2 l st w := za_n.at zcc_163 dX13_makeCodes_2 rfl
theorem f_163_3 (l : za_L) (st : List Value) (w : za_W) : za_n 163 (3, l, st, w) = za_go 5 l (.int (21) :: st) w := (za_n.at zcc_163 dX13_makeCodes_3 rfl).trans (congrArg (fun x => za_go 5 l (.int x :: st) w) (by decide))
theorem f_163_5 (l : za_L) (st : List Value) (w : za_W) : za_n 163 (5, l, st, w) = za_x 163 (.if_icmp .gt 21) 5 l st w := za_n.at zcc_163 dX13_makeCodes_5 rfl
theorem f_163_8 (l : za_L) (st : List Value) (w : za_W) : za_n 163 (8, l, st, w) = za_x 163 (.aload_n 0) 8 l st w := za_n.at zcc_163 dX13_makeCodes_8 rfl
theorem f_163_9 (l : za_L) (st : List Value) (w : za_W) : za_n 163 (9, l, st, w) = za_x 163 (.getfield 91) 9 l st w := za_n.at zcc_163 dX13_makeCodes_9 rfl
theorem f_163_12 (l : za_L) (st : List Value) (w : za_W) : za_n 163 (12, l, st, w) = za_go 14 l (.int (22) :: st) w := (za_n.at zcc_163 dX13_makeCodes_12 rfl).trans (congrArg (fun x => za_go 14 l (.int x :: st) w) (by decide))
theorem f_163_14 (l : za_L) (st : List Value) (w : za_W) : za_n 163 (14, l, st, w) = za_x 163 (.iload_n 1) 14 l st w := za_n.at zcc_163 dX13_makeCodes_14 rfl
theorem f_163_15 (l : za_L) (st : List Value) (w : za_W) : za_n 163 (15, l, st, w) = za_x 163 (.imul) 15 l st w := za_n.at zcc_163 dX13_makeCodes_15 rfl
theorem f_163_16 (l : za_L) (st : List Value) (w : za_W) : za_n 163 (16, l, st, w) = za_x 163 (.iload_n 3) 16 l st w := za_n.at zcc_163 dX13_makeCodes_16 rfl
theorem f_163_17 (l : za_L) (st : List Value) (w : za_W) : za_n 163 (17, l, st, w) = za_x 163 (.iadd) 17 l st w := za_n.at zcc_163 dX13_makeCodes_17 rfl
theorem f_163_18 (l : za_L) (st : List Value) (w : za_W) : za_n 163 (18, l, st, w) = za_go 19 l (.int (0) :: st) w := (za_n.at zcc_163 dX13_makeCodes_18 rfl).trans (congrArg (fun x => za_go 19 l (.int x :: st) w) (by decide))
theorem f_163_19 (l : za_L) (st : List Value) (w : za_W) : za_n 163 (19, l, st, w) = za_x 163 (.iastore) 19 l st w := za_n.at zcc_163 dX13_makeCodes_19 rfl
theorem f_163_20 (l : za_L) (st : List Value) (w : za_W) : za_n 163 (20, l, st, w) = za_x 163 (.iinc 3 1) 20 l st w := za_n.at zcc_163 dX13_makeCodes_20 rfl
theorem f_163_23 (l : za_L) (st : List Value) (w : za_W) : za_n 163 (23, l, st, w) = za_go 2 l st w := (za_n.at zcc_163 dX13_makeCodes_23 rfl).trans (za_jp.at (by decide))
theorem f_163_26 (l : za_L) (st : List Value) (w : za_W) : za_n 163 (26, l, st, w) = za_go 27 l (.int (0) :: st) w := (za_n.at zcc_163 dX13_makeCodes_26 rfl).trans (congrArg (fun x => za_go 27 l (.int x :: st) w) (by decide))
theorem f_163_27 (l : za_L) (st : List Value) (w : za_W) : za_n 163 (27, l, st, w) = za_x 163 (.istore_n 3) 27 l st w := za_n.at zcc_163 dX13_makeCodes_27 rfl
theorem f_163_28 (l : za_L) (st : List Value) (w : za_W) : za_n 163 (28, l, st, w) = za_x 163 (.iload_n 3) 28 l st w := za_n.at zcc_163 dX13_makeCodes_28 rfl
theorem f_163_29 (l : za_L) (st : List Value) (w : za_W) : za_n 163 (29, l, st, w) = za_x 163 (.iload_n 2) 29 l st w := za_n.at zcc_163 dX13_makeCodes_29 rfl
theorem f_163_30 (l : za_L) (st : List Value) (w : za_W) : za_n 163 (30, l, st, w) = za_x 163 (.if_icmp .ge 35) 30 l st w := za_n.at zcc_163 dX13_makeCodes_30 rfl
theorem f_163_33 (l : za_L) (st : List Value) (w : za_W) : za_n 163 (33, l, st, w) = za_x 163 (.aload_n 0) 33 l st w := za_n.at zcc_163 dX13_makeCodes_33 rfl
theorem f_163_34 (l : za_L) (st : List Value) (w : za_W) : za_n 163 (34, l, st, w) = za_x 163 (.getfield 91) 34 l st w := za_n.at zcc_163 dX13_makeCodes_34 rfl
theorem f_163_37 (l : za_L) (st : List Value) (w : za_W) : za_n 163 (37, l, st, w) = za_go 39 l (.int (22) :: st) w := (za_n.at zcc_163 dX13_makeCodes_37 rfl).trans (congrArg (fun x => za_go 39 l (.int x :: st) w) (by decide))
theorem f_163_39 (l : za_L) (st : List Value) (w : za_W) : za_n 163 (39, l, st, w) = za_x 163 (.iload_n 1) 39 l st w := za_n.at zcc_163 dX13_makeCodes_39 rfl
theorem f_163_40 (l : za_L) (st : List Value) (w : za_W) : za_n 163 (40, l, st, w) = za_x 163 (.imul) 40 l st w := za_n.at zcc_163 dX13_makeCodes_40 rfl
theorem f_163_41 (l : za_L) (st : List Value) (w : za_W) : za_n 163 (41, l, st, w) = za_x 163 (.aload_n 0) 41 l st w := za_n.at zcc_163 dX13_makeCodes_41 rfl
theorem f_163_42 (l : za_L) (st : List Value) (w : za_W) : za_n 163 (42, l, st, w) = za_x 163 (.getfield 63) 42 l st w := za_n.at zcc_163 dX13_makeCodes_42 rfl
theorem f_163_45 (l : za_L) (st : List Value) (w : za_W) : za_n 163 (45, l, st, w) = za_go 48 l (.int (260) :: st) w := (za_n.at zcc_163 dX13_makeCodes_45 rfl).trans (congrArg (fun x => za_go 48 l (.int x :: st) w) (by decide))
theorem f_163_48 (l : za_L) (st : List Value) (w : za_W) : za_n 163 (48, l, st, w) = za_x 163 (.iload_n 1) 48 l st w := za_n.at zcc_163 dX13_makeCodes_48 rfl
theorem f_163_49 (l : za_L) (st : List Value) (w : za_W) : za_n 163 (49, l, st, w) = za_x 163 (.imul) 49 l st w := za_n.at zcc_163 dX13_makeCodes_49 rfl
theorem f_163_50 (l : za_L) (st : List Value) (w : za_W) : za_n 163 (50, l, st, w) = za_x 163 (.iload_n 3) 50 l st w := za_n.at zcc_163 dX13_makeCodes_50 rfl
theorem f_163_51 (l : za_L) (st : List Value) (w : za_W) : za_n 163 (51, l, st, w) = za_x 163 (.iadd) 51 l st w := za_n.at zcc_163 dX13_makeCodes_51 rfl
theorem f_163_52 (l : za_L) (st : List Value) (w : za_W) : za_n 163 (52, l, st, w) = za_x 163 (.iaload) 52 l st w := za_n.at zcc_163 dX13_makeCodes_52 rfl
theorem f_163_53 (l : za_L) (st : List Value) (w : za_W) : za_n 163 (53, l, st, w) = za_x 163 (.iadd) 53 l st w := za_n.at zcc_163 dX13_makeCodes_53 rfl
theorem f_163_54 (l : za_L) (st : List Value) (w : za_W) : za_n 163 (54, l, st, w) = za_x 163 (.dup2) 54 l st w := za_n.at zcc_163 dX13_makeCodes_54 rfl
theorem f_163_55 (l : za_L) (st : List Value) (w : za_W) : za_n 163 (55, l, st, w) = za_x 163 (.iaload) 55 l st w := za_n.at zcc_163 dX13_makeCodes_55 rfl
theorem f_163_56 (l : za_L) (st : List Value) (w : za_W) : za_n 163 (56, l, st, w) = za_go 57 l (.int (1) :: st) w := (za_n.at zcc_163 dX13_makeCodes_56 rfl).trans (congrArg (fun x => za_go 57 l (.int x :: st) w) (by decide))
theorem f_163_57 (l : za_L) (st : List Value) (w : za_W) : za_n 163 (57, l, st, w) = za_x 163 (.iadd) 57 l st w := za_n.at zcc_163 dX13_makeCodes_57 rfl
theorem f_163_58 (l : za_L) (st : List Value) (w : za_W) : za_n 163 (58, l, st, w) = za_x 163 (.iastore) 58 l st w := za_n.at zcc_163 dX13_makeCodes_58 rfl
theorem f_163_59 (l : za_L) (st : List Value) (w : za_W) : za_n 163 (59, l, st, w) = za_x 163 (.iinc 3 1) 59 l st w := za_n.at zcc_163 dX13_makeCodes_59 rfl
theorem f_163_62 (l : za_L) (st : List Value) (w : za_W) : za_n 163 (62, l, st, w) = za_go 28 l st w := (za_n.at zcc_163 dX13_makeCodes_62 rfl).trans (za_jp.at (by decide))
theorem f_163_65 (l : za_L) (st : List Value) (w : za_W) : za_n 163 (65, l, st, w) = za_x 163 (.aload_n 0) 65 l st w := za_n.at zcc_163 dX13_makeCodes_65 rfl
theorem f_163_66 (l : za_L) (st : List Value) (w : za_W) : za_n 163 (66, l, st, w) = za_x 163 (.getfield 88) 66 l st w := za_n.at zcc_163 dX13_makeCodes_66 rfl
theorem f_163_69 (l : za_L) (st : List Value) (w : za_W) : za_n 163 (69, l, st, w) = za_go 71 l (.int (22) :: st) w := (za_n.at zcc_163 dX13_makeCodes_69 rfl).trans (congrArg (fun x => za_go 71 l (.int x :: st) w) (by decide))
theorem f_163_71 (l : za_L) (st : List Value) (w : za_W) : za_n 163 (71, l, st, w) = za_x 163 (.iload_n 1) 71 l st w := za_n.at zcc_163 dX13_makeCodes_71 rfl
theorem f_163_72 (l : za_L) (st : List Value) (w : za_W) : za_n 163 (72, l, st, w) = za_x 163 (.imul) 72 l st w := za_n.at zcc_163 dX13_makeCodes_72 rfl
theorem f_163_73 (l : za_L) (st : List Value) (w : za_W) : za_n 163 (73, l, st, w) = za_go 74 l (.int (1) :: st) w := (za_n.at zcc_163 dX13_makeCodes_73 rfl).trans (congrArg (fun x => za_go 74 l (.int x :: st) w) (by decide))
theorem f_163_74 (l : za_L) (st : List Value) (w : za_W) : za_n 163 (74, l, st, w) = za_x 163 (.iadd) 74 l st w := za_n.at zcc_163 dX13_makeCodes_74 rfl
theorem f_163_75 (l : za_L) (st : List Value) (w : za_W) : za_n 163 (75, l, st, w) = za_go 76 l (.int (0) :: st) w := (za_n.at zcc_163 dX13_makeCodes_75 rfl).trans (congrArg (fun x => za_go 76 l (.int x :: st) w) (by decide))
theorem f_163_76 (l : za_L) (st : List Value) (w : za_W) : za_n 163 (76, l, st, w) = za_x 163 (.iastore) 76 l st w := za_n.at zcc_163 dX13_makeCodes_76 rfl
theorem f_163_77 (l : za_L) (st : List Value) (w : za_W) : za_n 163 (77, l, st, w) = za_go 78 l (.int (1) :: st) w := (za_n.at zcc_163 dX13_makeCodes_77 rfl).trans (congrArg (fun x => za_go 78 l (.int x :: st) w) (by decide))
theorem f_163_78 (l : za_L) (st : List Value) (w : za_W) : za_n 163 (78, l, st, w) = za_x 163 (.istore_n 3) 78 l st w := za_n.at zcc_163 dX13_makeCodes_78 rfl
theorem f_163_79 (l : za_L) (st : List Value) (w : za_W) : za_n 163 (79, l, st, w) = za_x 163 (.iload_n 3) 79 l st w := za_n.at zcc_163 dX13_makeCodes_79 rfl
theorem f_163_80 (l : za_L) (st : List Value) (w : za_W) : za_n 163 (80, l, st, w) = za_go 82 l (.int (20) :: st) w := (za_n.at zcc_163 dX13_makeCodes_80 rfl).trans (congrArg (fun x => za_go 82 l (.int x :: st) w) (by decide))
theorem f_163_82 (l : za_L) (st : List Value) (w : za_W) : za_n 163 (82, l, st, w) = za_x 163 (.if_icmp .gt 110) 82 l st w := za_n.at zcc_163 dX13_makeCodes_82 rfl
theorem f_163_85 (l : za_L) (st : List Value) (w : za_W) : za_n 163 (85, l, st, w) = za_x 163 (.aload_n 0) 85 l st w := za_n.at zcc_163 dX13_makeCodes_85 rfl
theorem f_163_86 (l : za_L) (st : List Value) (w : za_W) : za_n 163 (86, l, st, w) = za_x 163 (.getfield 88) 86 l st w := za_n.at zcc_163 dX13_makeCodes_86 rfl
theorem f_163_89 (l : za_L) (st : List Value) (w : za_W) : za_n 163 (89, l, st, w) = za_go 91 l (.int (22) :: st) w := (za_n.at zcc_163 dX13_makeCodes_89 rfl).trans (congrArg (fun x => za_go 91 l (.int x :: st) w) (by decide))
theorem f_163_91 (l : za_L) (st : List Value) (w : za_W) : za_n 163 (91, l, st, w) = za_x 163 (.iload_n 1) 91 l st w := za_n.at zcc_163 dX13_makeCodes_91 rfl
theorem f_163_92 (l : za_L) (st : List Value) (w : za_W) : za_n 163 (92, l, st, w) = za_x 163 (.imul) 92 l st w := za_n.at zcc_163 dX13_makeCodes_92 rfl
theorem f_163_93 (l : za_L) (st : List Value) (w : za_W) : za_n 163 (93, l, st, w) = za_x 163 (.iload_n 3) 93 l st w := za_n.at zcc_163 dX13_makeCodes_93 rfl
theorem f_163_94 (l : za_L) (st : List Value) (w : za_W) : za_n 163 (94, l, st, w) = za_x 163 (.iadd) 94 l st w := za_n.at zcc_163 dX13_makeCodes_94 rfl
theorem f_163_95 (l : za_L) (st : List Value) (w : za_W) : za_n 163 (95, l, st, w) = za_go 96 l (.int (1) :: st) w := (za_n.at zcc_163 dX13_makeCodes_95 rfl).trans (congrArg (fun x => za_go 96 l (.int x :: st) w) (by decide))
theorem f_163_96 (l : za_L) (st : List Value) (w : za_W) : za_n 163 (96, l, st, w) = za_x 163 (.iadd) 96 l st w := za_n.at zcc_163 dX13_makeCodes_96 rfl
theorem f_163_97 (l : za_L) (st : List Value) (w : za_W) : za_n 163 (97, l, st, w) = za_go 98 l (.int (2) :: st) w := (za_n.at zcc_163 dX13_makeCodes_97 rfl).trans (congrArg (fun x => za_go 98 l (.int x :: st) w) (by decide))
theorem f_163_98 (l : za_L) (st : List Value) (w : za_W) : za_n 163 (98, l, st, w) = za_x 163 (.aload_n 0) 98 l st w := za_n.at zcc_163 dX13_makeCodes_98 rfl
theorem f_163_99 (l : za_L) (st : List Value) (w : za_W) : za_n 163 (99, l, st, w) = za_x 163 (.getfield 88) 99 l st w := za_n.at zcc_163 dX13_makeCodes_99 rfl
theorem f_163_102 (l : za_L) (st : List Value) (w : za_W) : za_n 163 (102, l, st, w) = za_go 104 l (.int (22) :: st) w := (za_n.at zcc_163 dX13_makeCodes_102 rfl).trans (congrArg (fun x => za_go 104 l (.int x :: st) w) (by decide))
theorem f_163_104 (l : za_L) (st : List Value) (w : za_W) : za_n 163 (104, l, st, w) = za_x 163 (.iload_n 1) 104 l st w := za_n.at zcc_163 dX13_makeCodes_104 rfl
theorem f_163_105 (l : za_L) (st : List Value) (w : za_W) : za_n 163 (105, l, st, w) = za_x 163 (.imul) 105 l st w := za_n.at zcc_163 dX13_makeCodes_105 rfl
theorem f_163_106 (l : za_L) (st : List Value) (w : za_W) : za_n 163 (106, l, st, w) = za_x 163 (.iload_n 3) 106 l st w := za_n.at zcc_163 dX13_makeCodes_106 rfl
theorem f_163_107 (l : za_L) (st : List Value) (w : za_W) : za_n 163 (107, l, st, w) = za_x 163 (.iadd) 107 l st w := za_n.at zcc_163 dX13_makeCodes_107 rfl
theorem f_163_108 (l : za_L) (st : List Value) (w : za_W) : za_n 163 (108, l, st, w) = za_x 163 (.iaload) 108 l st w := za_n.at zcc_163 dX13_makeCodes_108 rfl
theorem f_163_109 (l : za_L) (st : List Value) (w : za_W) : za_n 163 (109, l, st, w) = za_x 163 (.aload_n 0) 109 l st w := za_n.at zcc_163 dX13_makeCodes_109 rfl
theorem f_163_110 (l : za_L) (st : List Value) (w : za_W) : za_n 163 (110, l, st, w) = za_x 163 (.getfield 91) 110 l st w := za_n.at zcc_163 dX13_makeCodes_110 rfl
theorem f_163_113 (l : za_L) (st : List Value) (w : za_W) : za_n 163 (113, l, st, w) = za_go 115 l (.int (22) :: st) w := (za_n.at zcc_163 dX13_makeCodes_113 rfl).trans (congrArg (fun x => za_go 115 l (.int x :: st) w) (by decide))
theorem f_163_115 (l : za_L) (st : List Value) (w : za_W) : za_n 163 (115, l, st, w) = za_x 163 (.iload_n 1) 115 l st w := za_n.at zcc_163 dX13_makeCodes_115 rfl
theorem f_163_116 (l : za_L) (st : List Value) (w : za_W) : za_n 163 (116, l, st, w) = za_x 163 (.imul) 116 l st w := za_n.at zcc_163 dX13_makeCodes_116 rfl
theorem f_163_117 (l : za_L) (st : List Value) (w : za_W) : za_n 163 (117, l, st, w) = za_x 163 (.iload_n 3) 117 l st w := za_n.at zcc_163 dX13_makeCodes_117 rfl
theorem f_163_118 (l : za_L) (st : List Value) (w : za_W) : za_n 163 (118, l, st, w) = za_x 163 (.iadd) 118 l st w := za_n.at zcc_163 dX13_makeCodes_118 rfl
theorem f_163_119 (l : za_L) (st : List Value) (w : za_W) : za_n 163 (119, l, st, w) = za_x 163 (.iaload) 119 l st w := za_n.at zcc_163 dX13_makeCodes_119 rfl
theorem f_163_120 (l : za_L) (st : List Value) (w : za_W) : za_n 163 (120, l, st, w) = za_x 163 (.iadd) 120 l st w := za_n.at zcc_163 dX13_makeCodes_120 rfl
theorem f_163_121 (l : za_L) (st : List Value) (w : za_W) : za_n 163 (121, l, st, w) = za_x 163 (.imul) 121 l st w := za_n.at zcc_163 dX13_makeCodes_121 rfl
theorem f_163_122 (l : za_L) (st : List Value) (w : za_W) : za_n 163 (122, l, st, w) = za_x 163 (.iastore) 122 l st w := za_n.at zcc_163 dX13_makeCodes_122 rfl
theorem f_163_123 (l : za_L) (st : List Value) (w : za_W) : za_n 163 (123, l, st, w) = za_x 163 (.aload_n 0) 123 l st w := za_n.at zcc_163 dX13_makeCodes_123 rfl
theorem f_163_124 (l : za_L) (st : List Value) (w : za_W) : za_n 163 (124, l, st, w) = za_x 163 (.getfield 88) 124 l st w := za_n.at zcc_163 dX13_makeCodes_124 rfl
theorem f_163_127 (l : za_L) (st : List Value) (w : za_W) : za_n 163 (127, l, st, w) = za_go 129 l (.int (22) :: st) w := (za_n.at zcc_163 dX13_makeCodes_127 rfl).trans (congrArg (fun x => za_go 129 l (.int x :: st) w) (by decide))
theorem f_163_129 (l : za_L) (st : List Value) (w : za_W) : za_n 163 (129, l, st, w) = za_x 163 (.iload_n 1) 129 l st w := za_n.at zcc_163 dX13_makeCodes_129 rfl
theorem f_163_130 (l : za_L) (st : List Value) (w : za_W) : za_n 163 (130, l, st, w) = za_x 163 (.imul) 130 l st w := za_n.at zcc_163 dX13_makeCodes_130 rfl
theorem f_163_131 (l : za_L) (st : List Value) (w : za_W) : za_n 163 (131, l, st, w) = za_x 163 (.iload_n 3) 131 l st w := za_n.at zcc_163 dX13_makeCodes_131 rfl
theorem f_163_132 (l : za_L) (st : List Value) (w : za_W) : za_n 163 (132, l, st, w) = za_x 163 (.iadd) 132 l st w := za_n.at zcc_163 dX13_makeCodes_132 rfl
theorem f_163_133 (l : za_L) (st : List Value) (w : za_W) : za_n 163 (133, l, st, w) = za_x 163 (.iaload) 133 l st w := za_n.at zcc_163 dX13_makeCodes_133 rfl
theorem f_163_134 (l : za_L) (st : List Value) (w : za_W) : za_n 163 (134, l, st, w) = za_x 163 (.istore 4) 134 l st w := za_n.at zcc_163 dX13_makeCodes_134 rfl
theorem f_163_136 (l : za_L) (st : List Value) (w : za_W) : za_n 163 (136, l, st, w) = za_go 137 l (.int (0) :: st) w := (za_n.at zcc_163 dX13_makeCodes_136 rfl).trans (congrArg (fun x => za_go 137 l (.int x :: st) w) (by decide))
theorem f_163_137 (l : za_L) (st : List Value) (w : za_W) : za_n 163 (137, l, st, w) = za_x 163 (.istore 5) 137 l st w := za_n.at zcc_163 dX13_makeCodes_137 rfl
theorem f_163_139 (l : za_L) (st : List Value) (w : za_W) : za_n 163 (139, l, st, w) = za_x 163 (.iload 5) 139 l st w := za_n.at zcc_163 dX13_makeCodes_139 rfl
theorem f_163_141 (l : za_L) (st : List Value) (w : za_W) : za_n 163 (141, l, st, w) = za_x 163 (.iload_n 2) 141 l st w := za_n.at zcc_163 dX13_makeCodes_141 rfl
theorem f_163_142 (l : za_L) (st : List Value) (w : za_W) : za_n 163 (142, l, st, w) = za_x 163 (.if_icmp .ge 44) 142 l st w := za_n.at zcc_163 dX13_makeCodes_142 rfl
theorem f_163_145 (l : za_L) (st : List Value) (w : za_W) : za_n 163 (145, l, st, w) = za_x 163 (.aload_n 0) 145 l st w := za_n.at zcc_163 dX13_makeCodes_145 rfl
theorem f_163_146 (l : za_L) (st : List Value) (w : za_W) : za_n 163 (146, l, st, w) = za_x 163 (.getfield 63) 146 l st w := za_n.at zcc_163 dX13_makeCodes_146 rfl
theorem f_163_149 (l : za_L) (st : List Value) (w : za_W) : za_n 163 (149, l, st, w) = za_go 152 l (.int (260) :: st) w := (za_n.at zcc_163 dX13_makeCodes_149 rfl).trans (congrArg (fun x => za_go 152 l (.int x :: st) w) (by decide))
theorem f_163_152 (l : za_L) (st : List Value) (w : za_W) : za_n 163 (152, l, st, w) = za_x 163 (.iload_n 1) 152 l st w := za_n.at zcc_163 dX13_makeCodes_152 rfl
theorem f_163_153 (l : za_L) (st : List Value) (w : za_W) : za_n 163 (153, l, st, w) = za_x 163 (.imul) 153 l st w := za_n.at zcc_163 dX13_makeCodes_153 rfl
theorem f_163_154 (l : za_L) (st : List Value) (w : za_W) : za_n 163 (154, l, st, w) = za_x 163 (.iload 5) 154 l st w := za_n.at zcc_163 dX13_makeCodes_154 rfl
theorem f_163_156 (l : za_L) (st : List Value) (w : za_W) : za_n 163 (156, l, st, w) = za_x 163 (.iadd) 156 l st w := za_n.at zcc_163 dX13_makeCodes_156 rfl
theorem f_163_157 (l : za_L) (st : List Value) (w : za_W) : za_n 163 (157, l, st, w) = za_x 163 (.iaload) 157 l st w := za_n.at zcc_163 dX13_makeCodes_157 rfl
theorem f_163_158 (l : za_L) (st : List Value) (w : za_W) : za_n 163 (158, l, st, w) = za_x 163 (.iload_n 3) 158 l st w := za_n.at zcc_163 dX13_makeCodes_158 rfl
theorem f_163_159 (l : za_L) (st : List Value) (w : za_W) : za_n 163 (159, l, st, w) = za_x 163 (.if_icmp .ne 21) 159 l st w := za_n.at zcc_163 dX13_makeCodes_159 rfl
theorem f_163_162 (l : za_L) (st : List Value) (w : za_W) : za_n 163 (162, l, st, w) = za_x 163 (.aload_n 0) 162 l st w := za_n.at zcc_163 dX13_makeCodes_162 rfl
theorem f_163_163 (l : za_L) (st : List Value) (w : za_W) : za_n 163 (163, l, st, w) = za_x 163 (.getfield 85) 163 l st w := za_n.at zcc_163 dX13_makeCodes_163 rfl
theorem f_163_166 (l : za_L) (st : List Value) (w : za_W) : za_n 163 (166, l, st, w) = za_go 169 l (.int (260) :: st) w := (za_n.at zcc_163 dX13_makeCodes_166 rfl).trans (congrArg (fun x => za_go 169 l (.int x :: st) w) (by decide))
theorem f_163_169 (l : za_L) (st : List Value) (w : za_W) : za_n 163 (169, l, st, w) = za_x 163 (.iload_n 1) 169 l st w := za_n.at zcc_163 dX13_makeCodes_169 rfl
theorem f_163_170 (l : za_L) (st : List Value) (w : za_W) : za_n 163 (170, l, st, w) = za_x 163 (.imul) 170 l st w := za_n.at zcc_163 dX13_makeCodes_170 rfl
theorem f_163_171 (l : za_L) (st : List Value) (w : za_W) : za_n 163 (171, l, st, w) = za_x 163 (.iload 5) 171 l st w := za_n.at zcc_163 dX13_makeCodes_171 rfl
theorem f_163_173 (l : za_L) (st : List Value) (w : za_W) : za_n 163 (173, l, st, w) = za_x 163 (.iadd) 173 l st w := za_n.at zcc_163 dX13_makeCodes_173 rfl
theorem f_163_174 (l : za_L) (st : List Value) (w : za_W) : za_n 163 (174, l, st, w) = za_x 163 (.iload 4) 174 l st w := za_n.at zcc_163 dX13_makeCodes_174 rfl
theorem f_163_176 (l : za_L) (st : List Value) (w : za_W) : za_n 163 (176, l, st, w) = za_x 163 (.iastore) 176 l st w := za_n.at zcc_163 dX13_makeCodes_176 rfl
theorem f_163_177 (l : za_L) (st : List Value) (w : za_W) : za_n 163 (177, l, st, w) = za_x 163 (.iinc 4 1) 177 l st w := za_n.at zcc_163 dX13_makeCodes_177 rfl
theorem f_163_180 (l : za_L) (st : List Value) (w : za_W) : za_n 163 (180, l, st, w) = za_x 163 (.iinc 5 1) 180 l st w := za_n.at zcc_163 dX13_makeCodes_180 rfl
theorem f_163_183 (l : za_L) (st : List Value) (w : za_W) : za_n 163 (183, l, st, w) = za_go 139 l st w := (za_n.at zcc_163 dX13_makeCodes_183 rfl).trans (za_jp.at (by decide))
theorem f_163_186 (l : za_L) (st : List Value) (w : za_W) : za_n 163 (186, l, st, w) = za_x 163 (.iinc 3 1) 186 l st w := za_n.at zcc_163 dX13_makeCodes_186 rfl
theorem f_163_189 (l : za_L) (st : List Value) (w : za_W) : za_n 163 (189, l, st, w) = za_go 79 l st w := (za_n.at zcc_163 dX13_makeCodes_189 rfl).trans (za_jp.at (by decide))
theorem f_163_192 (l : za_L) (st : List Value) (w : za_W) : za_n 163 (192, l, st, w) = za_x 163 (.return_) 192 l st w := za_n.at zcc_163 dX13_makeCodes_192 rfl
theorem f_164_0 (l : za_L) (st : List Value) (w : za_W) : za_n 164 (0, l, st, w) = za_go 1 l (.int (0) :: st) w := (za_n.at zcc_164 dX13_putMap_0 rfl).trans (congrArg (fun x => za_go 1 l (.int x :: st) w) (by decide))
theorem f_164_1 (l : za_L) (st : List Value) (w : za_W) : za_n 164 (1, l, st, w) = za_x 164 (.istore_n 1) 1 l st w := za_n.at zcc_164 dX13_putMap_1 rfl
theorem f_164_2 (l : za_L) (st : List Value) (w : za_W) : za_n 164 (2, l, st, w) = za_x 164 (.iload_n 1) 2 l st w := za_n.at zcc_164 dX13_putMap_2 rfl
theorem f_164_3 (l : za_L) (st : List Value) (w : za_W) : za_n 164 (3, l, st, w) = za_go 5 l (.int (16) :: st) w := (za_n.at zcc_164 dX13_putMap_3 rfl).trans (congrArg (fun x => za_go 5 l (.int x :: st) w) (by decide))
theorem f_164_5 (l : za_L) (st : List Value) (w : za_W) : za_n 164 (5, l, st, w) = za_x 164 (.if_icmp .ge 50) 5 l st w := za_n.at zcc_164 dX13_putMap_5 rfl
theorem f_164_8 (l : za_L) (st : List Value) (w : za_W) : za_n 164 (8, l, st, w) = za_go 9 l (.int (0) :: st) w := (za_n.at zcc_164 dX13_putMap_8 rfl).trans (congrArg (fun x => za_go 9 l (.int x :: st) w) (by decide))
theorem f_164_9 (l : za_L) (st : List Value) (w : za_W) : za_n 164 (9, l, st, w) = za_x 164 (.istore_n 2) 9 l st w := za_n.at zcc_164 dX13_putMap_9 rfl
theorem f_164_10 (l : za_L) (st : List Value) (w : za_W) : za_n 164 (10, l, st, w) = za_go 11 l (.int (0) :: st) w := (za_n.at zcc_164 dX13_putMap_10 rfl).trans (congrArg (fun x => za_go 11 l (.int x :: st) w) (by decide))
theorem f_164_11 (l : za_L) (st : List Value) (w : za_W) : za_n 164 (11, l, st, w) = za_x 164 (.istore_n 3) 11 l st w := za_n.at zcc_164 dX13_putMap_11 rfl
theorem f_164_12 (l : za_L) (st : List Value) (w : za_W) : za_n 164 (12, l, st, w) = za_x 164 (.iload_n 3) 12 l st w := za_n.at zcc_164 dX13_putMap_12 rfl
theorem f_164_13 (l : za_L) (st : List Value) (w : za_W) : za_n 164 (13, l, st, w) = za_go 15 l (.int (16) :: st) w := (za_n.at zcc_164 dX13_putMap_13 rfl).trans (congrArg (fun x => za_go 15 l (.int x :: st) w) (by decide))
theorem f_164_15 (l : za_L) (st : List Value) (w : za_W) : za_n 164 (15, l, st, w) = za_x 164 (.if_icmp .ge 29) 15 l st w := za_n.at zcc_164 dX13_putMap_15 rfl
theorem f_164_18 (l : za_L) (st : List Value) (w : za_W) : za_n 164 (18, l, st, w) = za_x 164 (.aload_n 0) 18 l st w := za_n.at zcc_164 dX13_putMap_18 rfl
theorem f_164_19 (l : za_L) (st : List Value) (w : za_W) : za_n 164 (19, l, st, w) = za_x 164 (.getfield 59) 19 l st w := za_n.at zcc_164 dX13_putMap_19 rfl
theorem f_164_22 (l : za_L) (st : List Value) (w : za_W) : za_n 164 (22, l, st, w) = za_go 24 l (.int (16) :: st) w := (za_n.at zcc_164 dX13_putMap_22 rfl).trans (congrArg (fun x => za_go 24 l (.int x :: st) w) (by decide))
theorem f_164_24 (l : za_L) (st : List Value) (w : za_W) : za_n 164 (24, l, st, w) = za_x 164 (.iload_n 1) 24 l st w := za_n.at zcc_164 dX13_putMap_24 rfl
theorem f_164_25 (l : za_L) (st : List Value) (w : za_W) : za_n 164 (25, l, st, w) = za_x 164 (.imul) 25 l st w := za_n.at zcc_164 dX13_putMap_25 rfl
theorem f_164_26 (l : za_L) (st : List Value) (w : za_W) : za_n 164 (26, l, st, w) = za_x 164 (.iload_n 3) 26 l st w := za_n.at zcc_164 dX13_putMap_26 rfl
theorem f_164_27 (l : za_L) (st : List Value) (w : za_W) : za_n 164 (27, l, st, w) = za_x 164 (.iadd) 27 l st w := za_n.at zcc_164 dX13_putMap_27 rfl
theorem f_164_28 (l : za_L) (st : List Value) (w : za_W) : za_n 164 (28, l, st, w) = za_x 164 (.baload) 28 l st w := za_n.at zcc_164 dX13_putMap_28 rfl
theorem f_164_29 (l : za_L) (st : List Value) (w : za_W) : za_n 164 (29, l, st, w) = za_x 164 (.ifCond .eq 7) 29 l st w := za_n.at zcc_164 dX13_putMap_29 rfl
theorem f_164_32 (l : za_L) (st : List Value) (w : za_W) : za_n 164 (32, l, st, w) = za_go 33 l (.int (1) :: st) w := (za_n.at zcc_164 dX13_putMap_32 rfl).trans (congrArg (fun x => za_go 33 l (.int x :: st) w) (by decide))
theorem f_164_33 (l : za_L) (st : List Value) (w : za_W) : za_n 164 (33, l, st, w) = za_go 37 l st w := (za_n.at zcc_164 dX13_putMap_33 rfl).trans (za_jp.at (by decide))
theorem f_164_36 (l : za_L) (st : List Value) (w : za_W) : za_n 164 (36, l, st, w) = za_x 164 (.iload_n 2) 36 l st w := za_n.at zcc_164 dX13_putMap_36 rfl
theorem f_164_37 (l : za_L) (st : List Value) (w : za_W) : za_n 164 (37, l, st, w) = za_x 164 (.istore_n 2) 37 l st w := za_n.at zcc_164 dX13_putMap_37 rfl
theorem f_164_38 (l : za_L) (st : List Value) (w : za_W) : za_n 164 (38, l, st, w) = za_x 164 (.iinc 3 1) 38 l st w := za_n.at zcc_164 dX13_putMap_38 rfl
theorem f_164_41 (l : za_L) (st : List Value) (w : za_W) : za_n 164 (41, l, st, w) = za_go 12 l st w := (za_n.at zcc_164 dX13_putMap_41 rfl).trans (za_jp.at (by decide))
theorem f_164_44 (l : za_L) (st : List Value) (w : za_W) : za_n 164 (44, l, st, w) = za_x 164 (.aload_n 0) 44 l st w := za_n.at zcc_164 dX13_putMap_44 rfl
theorem f_164_45 (l : za_L) (st : List Value) (w : za_W) : za_n 164 (45, l, st, w) = za_x 164 (.iload_n 2) 45 l st w := za_n.at zcc_164 dX13_putMap_45 rfl
theorem f_164_46 (l : za_L) (st : List Value) (w : za_W) : za_n 164 (46, l, st, w) = za_x 164 (.invokevirtual 157) 46 l st w := za_n.at zcc_164 dX13_putMap_46 rfl
theorem f_164_49 (l : za_L) (st : List Value) (w : za_W) : za_n 164 (49, l, st, w) = za_x 164 (.iinc 1 1) 49 l st w := za_n.at zcc_164 dX13_putMap_49 rfl
theorem f_164_52 (l : za_L) (st : List Value) (w : za_W) : za_n 164 (52, l, st, w) = za_go 2 l st w := (za_n.at zcc_164 dX13_putMap_52 rfl).trans (za_jp.at (by decide))
theorem f_164_55 (l : za_L) (st : List Value) (w : za_W) : za_n 164 (55, l, st, w) = za_go 56 l (.int (0) :: st) w := (za_n.at zcc_164 dX13_putMap_55 rfl).trans (congrArg (fun x => za_go 56 l (.int x :: st) w) (by decide))
theorem f_164_56 (l : za_L) (st : List Value) (w : za_W) : za_n 164 (56, l, st, w) = za_x 164 (.istore_n 1) 56 l st w := za_n.at zcc_164 dX13_putMap_56 rfl
theorem f_164_57 (l : za_L) (st : List Value) (w : za_W) : za_n 164 (57, l, st, w) = za_x 164 (.iload_n 1) 57 l st w := za_n.at zcc_164 dX13_putMap_57 rfl
theorem f_164_58 (l : za_L) (st : List Value) (w : za_W) : za_n 164 (58, l, st, w) = za_go 60 l (.int (16) :: st) w := (za_n.at zcc_164 dX13_putMap_58 rfl).trans (congrArg (fun x => za_go 60 l (.int x :: st) w) (by decide))
theorem f_164_60 (l : za_L) (st : List Value) (w : za_W) : za_n 164 (60, l, st, w) = za_x 164 (.if_icmp .ge 90) 60 l st w := za_n.at zcc_164 dX13_putMap_60 rfl
theorem f_164_63 (l : za_L) (st : List Value) (w : za_W) : za_n 164 (63, l, st, w) = za_go 64 l (.int (0) :: st) w := (za_n.at zcc_164 dX13_putMap_63 rfl).trans (congrArg (fun x => za_go 64 l (.int x :: st) w) (by decide))
theorem f_164_64 (l : za_L) (st : List Value) (w : za_W) : za_n 164 (64, l, st, w) = za_x 164 (.istore_n 2) 64 l st w := za_n.at zcc_164 dX13_putMap_64 rfl
theorem f_164_65 (l : za_L) (st : List Value) (w : za_W) : za_n 164 (65, l, st, w) = za_go 66 l (.int (0) :: st) w := (za_n.at zcc_164 dX13_putMap_65 rfl).trans (congrArg (fun x => za_go 66 l (.int x :: st) w) (by decide))
theorem f_164_66 (l : za_L) (st : List Value) (w : za_W) : za_n 164 (66, l, st, w) = za_x 164 (.istore_n 3) 66 l st w := za_n.at zcc_164 dX13_putMap_66 rfl
theorem f_164_67 (l : za_L) (st : List Value) (w : za_W) : za_n 164 (67, l, st, w) = za_x 164 (.iload_n 3) 67 l st w := za_n.at zcc_164 dX13_putMap_67 rfl
theorem f_164_68 (l : za_L) (st : List Value) (w : za_W) : za_n 164 (68, l, st, w) = za_go 70 l (.int (16) :: st) w := (za_n.at zcc_164 dX13_putMap_68 rfl).trans (congrArg (fun x => za_go 70 l (.int x :: st) w) (by decide))
theorem f_164_70 (l : za_L) (st : List Value) (w : za_W) : za_n 164 (70, l, st, w) = za_x 164 (.if_icmp .ge 33) 70 l st w := za_n.at zcc_164 dX13_putMap_70 rfl
theorem f_164_73 (l : za_L) (st : List Value) (w : za_W) : za_n 164 (73, l, st, w) = za_x 164 (.iload_n 2) 73 l st w := za_n.at zcc_164 dX13_putMap_73 rfl
theorem f_164_74 (l : za_L) (st : List Value) (w : za_W) : za_n 164 (74, l, st, w) = za_x 164 (.ifCond .ne 17) 74 l st w := za_n.at zcc_164 dX13_putMap_74 rfl
theorem f_164_77 (l : za_L) (st : List Value) (w : za_W) : za_n 164 (77, l, st, w) = za_x 164 (.aload_n 0) 77 l st w := za_n.at zcc_164 dX13_putMap_77 rfl
theorem f_164_78 (l : za_L) (st : List Value) (w : za_W) : za_n 164 (78, l, st, w) = za_x 164 (.getfield 59) 78 l st w := za_n.at zcc_164 dX13_putMap_78 rfl
theorem f_164_81 (l : za_L) (st : List Value) (w : za_W) : za_n 164 (81, l, st, w) = za_go 83 l (.int (16) :: st) w := (za_n.at zcc_164 dX13_putMap_81 rfl).trans (congrArg (fun x => za_go 83 l (.int x :: st) w) (by decide))
theorem f_164_83 (l : za_L) (st : List Value) (w : za_W) : za_n 164 (83, l, st, w) = za_x 164 (.iload_n 1) 83 l st w := za_n.at zcc_164 dX13_putMap_83 rfl
theorem f_164_84 (l : za_L) (st : List Value) (w : za_W) : za_n 164 (84, l, st, w) = za_x 164 (.imul) 84 l st w := za_n.at zcc_164 dX13_putMap_84 rfl
theorem f_164_85 (l : za_L) (st : List Value) (w : za_W) : za_n 164 (85, l, st, w) = za_x 164 (.iload_n 3) 85 l st w := za_n.at zcc_164 dX13_putMap_85 rfl
theorem f_164_86 (l : za_L) (st : List Value) (w : za_W) : za_n 164 (86, l, st, w) = za_x 164 (.iadd) 86 l st w := za_n.at zcc_164 dX13_putMap_86 rfl
theorem f_164_87 (l : za_L) (st : List Value) (w : za_W) : za_n 164 (87, l, st, w) = za_x 164 (.baload) 87 l st w := za_n.at zcc_164 dX13_putMap_87 rfl
theorem f_164_88 (l : za_L) (st : List Value) (w : za_W) : za_n 164 (88, l, st, w) = za_x 164 (.ifCond .eq 7) 88 l st w := za_n.at zcc_164 dX13_putMap_88 rfl
theorem f_164_91 (l : za_L) (st : List Value) (w : za_W) : za_n 164 (91, l, st, w) = za_go 92 l (.int (1) :: st) w := (za_n.at zcc_164 dX13_putMap_91 rfl).trans (congrArg (fun x => za_go 92 l (.int x :: st) w) (by decide))
theorem f_164_92 (l : za_L) (st : List Value) (w : za_W) : za_n 164 (92, l, st, w) = za_go 96 l st w := (za_n.at zcc_164 dX13_putMap_92 rfl).trans (za_jp.at (by decide))
theorem f_164_95 (l : za_L) (st : List Value) (w : za_W) : za_n 164 (95, l, st, w) = za_go 96 l (.int (0) :: st) w := (za_n.at zcc_164 dX13_putMap_95 rfl).trans (congrArg (fun x => za_go 96 l (.int x :: st) w) (by decide))
theorem f_164_96 (l : za_L) (st : List Value) (w : za_W) : za_n 164 (96, l, st, w) = za_x 164 (.istore_n 2) 96 l st w := za_n.at zcc_164 dX13_putMap_96 rfl
theorem f_164_97 (l : za_L) (st : List Value) (w : za_W) : za_n 164 (97, l, st, w) = za_x 164 (.iinc 3 1) 97 l st w := za_n.at zcc_164 dX13_putMap_97 rfl
theorem f_164_100 (l : za_L) (st : List Value) (w : za_W) : za_n 164 (100, l, st, w) = za_go 67 l st w := (za_n.at zcc_164 dX13_putMap_100 rfl).trans (za_jp.at (by decide))
theorem f_164_103 (l : za_L) (st : List Value) (w : za_W) : za_n 164 (103, l, st, w) = za_go 104 l (.int (0) :: st) w := (za_n.at zcc_164 dX13_putMap_103 rfl).trans (congrArg (fun x => za_go 104 l (.int x :: st) w) (by decide))
theorem f_164_104 (l : za_L) (st : List Value) (w : za_W) : za_n 164 (104, l, st, w) = za_x 164 (.istore_n 3) 104 l st w := za_n.at zcc_164 dX13_putMap_104 rfl
theorem f_164_105 (l : za_L) (st : List Value) (w : za_W) : za_n 164 (105, l, st, w) = za_x 164 (.iload_n 3) 105 l st w := za_n.at zcc_164 dX13_putMap_105 rfl
theorem f_164_106 (l : za_L) (st : List Value) (w : za_W) : za_n 164 (106, l, st, w) = za_go 108 l (.int (16) :: st) w := (za_n.at zcc_164 dX13_putMap_106 rfl).trans (congrArg (fun x => za_go 108 l (.int x :: st) w) (by decide))
theorem f_164_108 (l : za_L) (st : List Value) (w : za_W) : za_n 164 (108, l, st, w) = za_x 164 (.if_icmp .ge 36) 108 l st w := za_n.at zcc_164 dX13_putMap_108 rfl
theorem f_164_111 (l : za_L) (st : List Value) (w : za_W) : za_n 164 (111, l, st, w) = za_x 164 (.iload_n 2) 111 l st w := za_n.at zcc_164 dX13_putMap_111 rfl
theorem f_164_112 (l : za_L) (st : List Value) (w : za_W) : za_n 164 (112, l, st, w) = za_x 164 (.ifCond .eq 32) 112 l st w := za_n.at zcc_164 dX13_putMap_112 rfl
theorem f_164_115 (l : za_L) (st : List Value) (w : za_W) : za_n 164 (115, l, st, w) = za_x 164 (.aload_n 0) 115 l st w := za_n.at zcc_164 dX13_putMap_115 rfl
theorem f_164_116 (l : za_L) (st : List Value) (w : za_W) : za_n 164 (116, l, st, w) = za_x 164 (.aload_n 0) 116 l st w := za_n.at zcc_164 dX13_putMap_116 rfl
theorem f_164_117 (l : za_L) (st : List Value) (w : za_W) : za_n 164 (117, l, st, w) = za_x 164 (.getfield 59) 117 l st w := za_n.at zcc_164 dX13_putMap_117 rfl
theorem f_164_120 (l : za_L) (st : List Value) (w : za_W) : za_n 164 (120, l, st, w) = za_go 122 l (.int (16) :: st) w := (za_n.at zcc_164 dX13_putMap_120 rfl).trans (congrArg (fun x => za_go 122 l (.int x :: st) w) (by decide))
theorem f_164_122 (l : za_L) (st : List Value) (w : za_W) : za_n 164 (122, l, st, w) = za_x 164 (.iload_n 1) 122 l st w := za_n.at zcc_164 dX13_putMap_122 rfl
theorem f_164_123 (l : za_L) (st : List Value) (w : za_W) : za_n 164 (123, l, st, w) = za_x 164 (.imul) 123 l st w := za_n.at zcc_164 dX13_putMap_123 rfl
theorem f_164_124 (l : za_L) (st : List Value) (w : za_W) : za_n 164 (124, l, st, w) = za_x 164 (.iload_n 3) 124 l st w := za_n.at zcc_164 dX13_putMap_124 rfl
theorem f_164_125 (l : za_L) (st : List Value) (w : za_W) : za_n 164 (125, l, st, w) = za_x 164 (.iadd) 125 l st w := za_n.at zcc_164 dX13_putMap_125 rfl
theorem f_164_126 (l : za_L) (st : List Value) (w : za_W) : za_n 164 (126, l, st, w) = za_x 164 (.baload) 126 l st w := za_n.at zcc_164 dX13_putMap_126 rfl
theorem f_164_127 (l : za_L) (st : List Value) (w : za_W) : za_n 164 (127, l, st, w) = za_x 164 (.ifCond .eq 7) 127 l st w := za_n.at zcc_164 dX13_putMap_127 rfl
theorem f_164_130 (l : za_L) (st : List Value) (w : za_W) : za_n 164 (130, l, st, w) = za_go 131 l (.int (1) :: st) w := (za_n.at zcc_164 dX13_putMap_130 rfl).trans (congrArg (fun x => za_go 131 l (.int x :: st) w) (by decide))
theorem f_164_131 (l : za_L) (st : List Value) (w : za_W) : za_n 164 (131, l, st, w) = za_go 135 l st w := (za_n.at zcc_164 dX13_putMap_131 rfl).trans (za_jp.at (by decide))
theorem f_164_134 (l : za_L) (st : List Value) (w : za_W) : za_n 164 (134, l, st, w) = za_go 135 l (.int (0) :: st) w := (za_n.at zcc_164 dX13_putMap_134 rfl).trans (congrArg (fun x => za_go 135 l (.int x :: st) w) (by decide))
theorem f_164_135 (l : za_L) (st : List Value) (w : za_W) : za_n 164 (135, l, st, w) = za_x 164 (.invokevirtual 157) 135 l st w := za_n.at zcc_164 dX13_putMap_135 rfl
theorem f_164_138 (l : za_L) (st : List Value) (w : za_W) : za_n 164 (138, l, st, w) = za_x 164 (.iinc 3 1) 138 l st w := za_n.at zcc_164 dX13_putMap_138 rfl
theorem f_164_141 (l : za_L) (st : List Value) (w : za_W) : za_n 164 (141, l, st, w) = za_go 105 l st w := (za_n.at zcc_164 dX13_putMap_141 rfl).trans (za_jp.at (by decide))
theorem f_164_144 (l : za_L) (st : List Value) (w : za_W) : za_n 164 (144, l, st, w) = za_x 164 (.iinc 1 1) 144 l st w := za_n.at zcc_164 dX13_putMap_144 rfl
theorem f_164_147 (l : za_L) (st : List Value) (w : za_W) : za_n 164 (147, l, st, w) = za_go 57 l st w := (za_n.at zcc_164 dX13_putMap_147 rfl).trans (za_jp.at (by decide))
theorem f_164_150 (l : za_L) (st : List Value) (w : za_W) : za_n 164 (150, l, st, w) = za_x 164 (.return_) 150 l st w := za_n.at zcc_164 dX13_putMap_150 rfl
theorem f_165_0 (l : za_L) (st : List Value) (w : za_W) : za_n 165 (0, l, st, w) = za_go 1 l (.int (0) :: st) w := (za_n.at zcc_165 dX13_putChoices_0 rfl).trans (congrArg (fun x => za_go 1 l (.int x :: st) w) (by decide))
theorem f_165_1 (l : za_L) (st : List Value) (w : za_W) : za_n 165 (1, l, st, w) = za_x 165 (.istore_n 1) 1 l st w := za_n.at zcc_165 dX13_putChoices_1 rfl
theorem f_165_2 (l : za_L) (st : List Value) (w : za_W) : za_n 165 (2, l, st, w) = za_x 165 (.iload_n 1) 2 l st w := za_n.at zcc_165 dX13_putChoices_2 rfl
theorem f_165_3 (l : za_L) (st : List Value) (w : za_W) : za_n 165 (3, l, st, w) = za_go 5 l (.int (6) :: st) w := (za_n.at zcc_165 dX13_putChoices_3 rfl).trans (congrArg (fun x => za_go 5 l (.int x :: st) w) (by decide))
theorem f_165_5 (l : za_L) (st : List Value) (w : za_W) : za_n 165 (5, l, st, w) = za_x 165 (.if_icmp .ge 16) 5 l st w := za_n.at zcc_165 dX13_putChoices_5 rfl
theorem f_165_8 (l : za_L) (st : List Value) (w : za_W) : za_n 165 (8, l, st, w) = za_x 165 (.aload_n 0) 8 l st w := za_n.at zcc_165 dX13_putChoices_8 rfl
theorem f_165_9 (l : za_L) (st : List Value) (w : za_W) : za_n 165 (9, l, st, w) = za_x 165 (.getfield 94) 9 l st w := za_n.at zcc_165 dX13_putChoices_9 rfl
theorem f_165_12 (l : za_L) (st : List Value) (w : za_W) : za_n 165 (12, l, st, w) = za_x 165 (.iload_n 1) 12 l st w := za_n.at zcc_165 dX13_putChoices_12 rfl
theorem f_165_13 (l : za_L) (st : List Value) (w : za_W) : za_n 165 (13, l, st, w) = za_x 165 (.iload_n 1) 13 l st w := za_n.at zcc_165 dX13_putChoices_13 rfl
theorem f_165_14 (l : za_L) (st : List Value) (w : za_W) : za_n 165 (14, l, st, w) = za_x 165 (.iastore) 14 l st w := za_n.at zcc_165 dX13_putChoices_14 rfl
theorem f_165_15 (l : za_L) (st : List Value) (w : za_W) : za_n 165 (15, l, st, w) = za_x 165 (.iinc 1 1) 15 l st w := za_n.at zcc_165 dX13_putChoices_15 rfl
theorem f_165_18 (l : za_L) (st : List Value) (w : za_W) : za_n 165 (18, l, st, w) = za_go 2 l st w := (za_n.at zcc_165 dX13_putChoices_18 rfl).trans (za_jp.at (by decide))
theorem f_165_21 (l : za_L) (st : List Value) (w : za_W) : za_n 165 (21, l, st, w) = za_go 22 l (.int (0) :: st) w := (za_n.at zcc_165 dX13_putChoices_21 rfl).trans (congrArg (fun x => za_go 22 l (.int x :: st) w) (by decide))
theorem f_165_22 (l : za_L) (st : List Value) (w : za_W) : za_n 165 (22, l, st, w) = za_x 165 (.istore_n 1) 22 l st w := za_n.at zcc_165 dX13_putChoices_22 rfl
theorem f_165_23 (l : za_L) (st : List Value) (w : za_W) : za_n 165 (23, l, st, w) = za_x 165 (.iload_n 1) 23 l st w := za_n.at zcc_165 dX13_putChoices_23 rfl
theorem f_165_24 (l : za_L) (st : List Value) (w : za_W) : za_n 165 (24, l, st, w) = za_x 165 (.aload_n 0) 24 l st w := za_n.at zcc_165 dX13_putChoices_24 rfl
theorem f_165_25 (l : za_L) (st : List Value) (w : za_W) : za_n 165 (25, l, st, w) = za_x 165 (.getfield 195) 25 l st w := za_n.at zcc_165 dX13_putChoices_25 rfl
theorem f_165_28 (l : za_L) (st : List Value) (w : za_W) : za_n 165 (28, l, st, w) = za_x 165 (.if_icmp .ge 93) 28 l st w := za_n.at zcc_165 dX13_putChoices_28 rfl
theorem f_165_31 (l : za_L) (st : List Value) (w : za_W) : za_n 165 (31, l, st, w) = za_go 32 l (.int (0) :: st) w := (za_n.at zcc_165 dX13_putChoices_31 rfl).trans (congrArg (fun x => za_go 32 l (.int x :: st) w) (by decide))
theorem f_165_32 (l : za_L) (st : List Value) (w : za_W) : za_n 165 (32, l, st, w) = za_x 165 (.istore_n 2) 32 l st w := za_n.at zcc_165 dX13_putChoices_32 rfl
theorem f_165_33 (l : za_L) (st : List Value) (w : za_W) : za_n 165 (33, l, st, w) = za_x 165 (.aload_n 0) 33 l st w := za_n.at zcc_165 dX13_putChoices_33 rfl
theorem f_165_34 (l : za_L) (st : List Value) (w : za_W) : za_n 165 (34, l, st, w) = za_x 165 (.getfield 94) 34 l st w := za_n.at zcc_165 dX13_putChoices_34 rfl
theorem f_165_37 (l : za_L) (st : List Value) (w : za_W) : za_n 165 (37, l, st, w) = za_x 165 (.iload_n 2) 37 l st w := za_n.at zcc_165 dX13_putChoices_37 rfl
theorem f_165_38 (l : za_L) (st : List Value) (w : za_W) : za_n 165 (38, l, st, w) = za_x 165 (.iaload) 38 l st w := za_n.at zcc_165 dX13_putChoices_38 rfl
theorem f_165_39 (l : za_L) (st : List Value) (w : za_W) : za_n 165 (39, l, st, w) = za_x 165 (.aload_n 0) 39 l st w := za_n.at zcc_165 dX13_putChoices_39 rfl
theorem f_165_40 (l : za_L) (st : List Value) (w : za_W) : za_n 165 (40, l, st, w) = za_x 165 (.getfield 72) 40 l st w := za_n.at zcc_165 dX13_putChoices_40 rfl
theorem f_165_43 (l : za_L) (st : List Value) (w : za_W) : za_n 165 (43, l, st, w) = za_x 165 (.iload_n 1) 43 l st w := za_n.at zcc_165 dX13_putChoices_43 rfl
theorem f_165_44 (l : za_L) (st : List Value) (w : za_W) : za_n 165 (44, l, st, w) = za_x 165 (.iaload) 44 l st w := za_n.at zcc_165 dX13_putChoices_44 rfl
theorem f_165_45 (l : za_L) (st : List Value) (w : za_W) : za_n 165 (45, l, st, w) = za_x 165 (.if_icmp .eq 9) 45 l st w := za_n.at zcc_165 dX13_putChoices_45 rfl
theorem f_165_48 (l : za_L) (st : List Value) (w : za_W) : za_n 165 (48, l, st, w) = za_x 165 (.iinc 2 1) 48 l st w := za_n.at zcc_165 dX13_putChoices_48 rfl
theorem f_165_51 (l : za_L) (st : List Value) (w : za_W) : za_n 165 (51, l, st, w) = za_go 33 l st w := (za_n.at zcc_165 dX13_putChoices_51 rfl).trans (za_jp.at (by decide))
theorem f_165_54 (l : za_L) (st : List Value) (w : za_W) : za_n 165 (54, l, st, w) = za_go 55 l (.int (0) :: st) w := (za_n.at zcc_165 dX13_putChoices_54 rfl).trans (congrArg (fun x => za_go 55 l (.int x :: st) w) (by decide))
theorem f_165_55 (l : za_L) (st : List Value) (w : za_W) : za_n 165 (55, l, st, w) = za_x 165 (.istore_n 3) 55 l st w := za_n.at zcc_165 dX13_putChoices_55 rfl
theorem f_165_56 (l : za_L) (st : List Value) (w : za_W) : za_n 165 (56, l, st, w) = za_x 165 (.iload_n 3) 56 l st w := za_n.at zcc_165 dX13_putChoices_56 rfl
theorem f_165_57 (l : za_L) (st : List Value) (w : za_W) : za_n 165 (57, l, st, w) = za_x 165 (.iload_n 2) 57 l st w := za_n.at zcc_165 dX13_putChoices_57 rfl
theorem f_165_58 (l : za_L) (st : List Value) (w : za_W) : za_n 165 (58, l, st, w) = za_x 165 (.if_icmp .ge 14) 58 l st w := za_n.at zcc_165 dX13_putChoices_58 rfl
theorem f_165_61 (l : za_L) (st : List Value) (w : za_W) : za_n 165 (61, l, st, w) = za_x 165 (.aload_n 0) 61 l st w := za_n.at zcc_165 dX13_putChoices_61 rfl
theorem f_165_62 (l : za_L) (st : List Value) (w : za_W) : za_n 165 (62, l, st, w) = za_go 63 l (.int (1) :: st) w := (za_n.at zcc_165 dX13_putChoices_62 rfl).trans (congrArg (fun x => za_go 63 l (.int x :: st) w) (by decide))
theorem f_165_63 (l : za_L) (st : List Value) (w : za_W) : za_n 165 (63, l, st, w) = za_x 165 (.invokevirtual 157) 63 l st w := za_n.at zcc_165 dX13_putChoices_63 rfl
theorem f_165_66 (l : za_L) (st : List Value) (w : za_W) : za_n 165 (66, l, st, w) = za_x 165 (.iinc 3 1) 66 l st w := za_n.at zcc_165 dX13_putChoices_66 rfl
theorem f_165_69 (l : za_L) (st : List Value) (w : za_W) : za_n 165 (69, l, st, w) = za_go 56 l st w := (za_n.at zcc_165 dX13_putChoices_69 rfl).trans (za_jp.at (by decide))
theorem f_165_72 (l : za_L) (st : List Value) (w : za_W) : za_n 165 (72, l, st, w) = za_x 165 (.aload_n 0) 72 l st w := za_n.at zcc_165 dX13_putChoices_72 rfl
theorem f_165_73 (l : za_L) (st : List Value) (w : za_W) : za_n 165 (73, l, st, w) = za_go 74 l (.int (0) :: st) w := (za_n.at zcc_165 dX13_putChoices_73 rfl).trans (congrArg (fun x => za_go 74 l (.int x :: st) w) (by decide))
theorem f_165_74 (l : za_L) (st : List Value) (w : za_W) : za_n 165 (74, l, st, w) = za_x 165 (.invokevirtual 157) 74 l st w := za_n.at zcc_165 dX13_putChoices_74 rfl
theorem f_165_77 (l : za_L) (st : List Value) (w : za_W) : za_n 165 (77, l, st, w) = za_x 165 (.iload_n 2) 77 l st w := za_n.at zcc_165 dX13_putChoices_77 rfl
theorem f_165_78 (l : za_L) (st : List Value) (w : za_W) : za_n 165 (78, l, st, w) = za_x 165 (.istore_n 3) 78 l st w := za_n.at zcc_165 dX13_putChoices_78 rfl
theorem f_165_79 (l : za_L) (st : List Value) (w : za_W) : za_n 165 (79, l, st, w) = za_x 165 (.iload_n 3) 79 l st w := za_n.at zcc_165 dX13_putChoices_79 rfl
theorem f_165_80 (l : za_L) (st : List Value) (w : za_W) : za_n 165 (80, l, st, w) = za_x 165 (.ifCond .le 23) 80 l st w := za_n.at zcc_165 dX13_putChoices_80 rfl
theorem f_165_83 (l : za_L) (st : List Value) (w : za_W) : za_n 165 (83, l, st, w) = za_x 165 (.aload_n 0) 83 l st w := za_n.at zcc_165 dX13_putChoices_83 rfl
theorem f_165_84 (l : za_L) (st : List Value) (w : za_W) : za_n 165 (84, l, st, w) = za_x 165 (.getfield 94) 84 l st w := za_n.at zcc_165 dX13_putChoices_84 rfl
theorem f_165_87 (l : za_L) (st : List Value) (w : za_W) : za_n 165 (87, l, st, w) = za_x 165 (.iload_n 3) 87 l st w := za_n.at zcc_165 dX13_putChoices_87 rfl
theorem f_165_88 (l : za_L) (st : List Value) (w : za_W) : za_n 165 (88, l, st, w) = za_x 165 (.aload_n 0) 88 l st w := za_n.at zcc_165 dX13_putChoices_88 rfl
theorem f_165_89 (l : za_L) (st : List Value) (w : za_W) : za_n 165 (89, l, st, w) = za_x 165 (.getfield 94) 89 l st w := za_n.at zcc_165 dX13_putChoices_89 rfl
theorem f_165_92 (l : za_L) (st : List Value) (w : za_W) : za_n 165 (92, l, st, w) = za_x 165 (.iload_n 3) 92 l st w := za_n.at zcc_165 dX13_putChoices_92 rfl
theorem f_165_93 (l : za_L) (st : List Value) (w : za_W) : za_n 165 (93, l, st, w) = za_go 94 l (.int (1) :: st) w := (za_n.at zcc_165 dX13_putChoices_93 rfl).trans (congrArg (fun x => za_go 94 l (.int x :: st) w) (by decide))
theorem f_165_94 (l : za_L) (st : List Value) (w : za_W) : za_n 165 (94, l, st, w) = za_x 165 (.isub) 94 l st w := za_n.at zcc_165 dX13_putChoices_94 rfl
theorem f_165_95 (l : za_L) (st : List Value) (w : za_W) : za_n 165 (95, l, st, w) = za_x 165 (.iaload) 95 l st w := za_n.at zcc_165 dX13_putChoices_95 rfl
theorem f_165_96 (l : za_L) (st : List Value) (w : za_W) : za_n 165 (96, l, st, w) = za_x 165 (.iastore) 96 l st w := za_n.at zcc_165 dX13_putChoices_96 rfl
theorem f_165_97 (l : za_L) (st : List Value) (w : za_W) : za_n 165 (97, l, st, w) = za_x 165 (.iinc 3 (-1)) 97 l st w := za_n.at zcc_165 dX13_putChoices_97 rfl
theorem f_165_100 (l : za_L) (st : List Value) (w : za_W) : za_n 165 (100, l, st, w) = za_go 79 l st w := (za_n.at zcc_165 dX13_putChoices_100 rfl).trans (za_jp.at (by decide))
theorem f_165_103 (l : za_L) (st : List Value) (w : za_W) : za_n 165 (103, l, st, w) = za_x 165 (.aload_n 0) 103 l st w := za_n.at zcc_165 dX13_putChoices_103 rfl
theorem f_165_104 (l : za_L) (st : List Value) (w : za_W) : za_n 165 (104, l, st, w) = za_x 165 (.getfield 94) 104 l st w := za_n.at zcc_165 dX13_putChoices_104 rfl
theorem f_165_107 (l : za_L) (st : List Value) (w : za_W) : za_n 165 (107, l, st, w) = za_go 108 l (.int (0) :: st) w := (za_n.at zcc_165 dX13_putChoices_107 rfl).trans (congrArg (fun x => za_go 108 l (.int x :: st) w) (by decide))
theorem f_165_108 (l : za_L) (st : List Value) (w : za_W) : za_n 165 (108, l, st, w) = za_x 165 (.aload_n 0) 108 l st w := za_n.at zcc_165 dX13_putChoices_108 rfl
theorem f_165_109 (l : za_L) (st : List Value) (w : za_W) : za_n 165 (109, l, st, w) = za_x 165 (.getfield 72) 109 l st w := za_n.at zcc_165 dX13_putChoices_109 rfl
theorem f_165_112 (l : za_L) (st : List Value) (w : za_W) : za_n 165 (112, l, st, w) = za_x 165 (.iload_n 1) 112 l st w := za_n.at zcc_165 dX13_putChoices_112 rfl
theorem f_165_113 (l : za_L) (st : List Value) (w : za_W) : za_n 165 (113, l, st, w) = za_x 165 (.iaload) 113 l st w := za_n.at zcc_165 dX13_putChoices_113 rfl
theorem f_165_114 (l : za_L) (st : List Value) (w : za_W) : za_n 165 (114, l, st, w) = za_x 165 (.iastore) 114 l st w := za_n.at zcc_165 dX13_putChoices_114 rfl
theorem f_165_115 (l : za_L) (st : List Value) (w : za_W) : za_n 165 (115, l, st, w) = za_x 165 (.iinc 1 1) 115 l st w := za_n.at zcc_165 dX13_putChoices_115 rfl
theorem f_165_118 (l : za_L) (st : List Value) (w : za_W) : za_n 165 (118, l, st, w) = za_go 23 l st w := (za_n.at zcc_165 dX13_putChoices_118 rfl).trans (za_jp.at (by decide))
theorem f_165_121 (l : za_L) (st : List Value) (w : za_W) : za_n 165 (121, l, st, w) = za_x 165 (.return_) 121 l st w := za_n.at zcc_165 dX13_putChoices_121 rfl
theorem f_166_0 (l : za_L) (st : List Value) (w : za_W) : za_n 166 (0, l, st, w) = za_x 166 (.aload_n 0) 0 l st w := za_n.at zcc_166 dX13_putLengths_0 rfl
theorem f_166_1 (l : za_L) (st : List Value) (w : za_W) : za_n 166 (1, l, st, w) = za_x 166 (.getfield 63) 1 l st w := za_n.at zcc_166 dX13_putLengths_1 rfl
theorem f_166_4 (l : za_L) (st : List Value) (w : za_W) : za_n 166 (4, l, st, w) = za_go 7 l (.int (260) :: st) w := (za_n.at zcc_166 dX13_putLengths_4 rfl).trans (congrArg (fun x => za_go 7 l (.int x :: st) w) (by decide))
theorem f_166_7 (l : za_L) (st : List Value) (w : za_W) : za_n 166 (7, l, st, w) = za_x 166 (.iload_n 1) 7 l st w := za_n.at zcc_166 dX13_putLengths_7 rfl
theorem f_166_8 (l : za_L) (st : List Value) (w : za_W) : za_n 166 (8, l, st, w) = za_x 166 (.imul) 8 l st w := za_n.at zcc_166 dX13_putLengths_8 rfl
theorem f_166_9 (l : za_L) (st : List Value) (w : za_W) : za_n 166 (9, l, st, w) = za_x 166 (.iaload) 9 l st w := za_n.at zcc_166 dX13_putLengths_9 rfl
theorem f_166_10 (l : za_L) (st : List Value) (w : za_W) : za_n 166 (10, l, st, w) = za_x 166 (.istore_n 3) 10 l st w := za_n.at zcc_166 dX13_putLengths_10 rfl
theorem f_166_11 (l : za_L) (st : List Value) (w : za_W) : za_n 166 (11, l, st, w) = za_x 166 (.aload_n 0) 11 l st w := za_n.at zcc_166 dX13_putLengths_11 rfl
theorem f_166_12 (l : za_L) (st : List Value) (w : za_W) : za_n 166 (12, l, st, w) = za_x 166 (.iload_n 3) 12 l st w := za_n.at zcc_166 dX13_putLengths_12 rfl
theorem f_166_13 (l : za_L) (st : List Value) (w : za_W) : za_n 166 (13, l, st, w) = za_x 166 (.i2l) 13 l st w := za_n.at zcc_166 dX13_putLengths_13 rfl
theorem f_166_14 (l : za_L) (st : List Value) (w : za_W) : za_n 166 (14, l, st, w) = za_go 15 l (.int (5) :: st) w := (za_n.at zcc_166 dX13_putLengths_14 rfl).trans (congrArg (fun x => za_go 15 l (.int x :: st) w) (by decide))
theorem f_166_15 (l : za_L) (st : List Value) (w : za_W) : za_n 166 (15, l, st, w) = za_x 166 (.invokevirtual 202) 15 l st w := za_n.at zcc_166 dX13_putLengths_15 rfl
theorem f_166_18 (l : za_L) (st : List Value) (w : za_W) : za_n 166 (18, l, st, w) = za_go 19 l (.int (0) :: st) w := (za_n.at zcc_166 dX13_putLengths_18 rfl).trans (congrArg (fun x => za_go 19 l (.int x :: st) w) (by decide))
theorem f_166_19 (l : za_L) (st : List Value) (w : za_W) : za_n 166 (19, l, st, w) = za_x 166 (.istore 4) 19 l st w := za_n.at zcc_166 dX13_putLengths_19 rfl
theorem f_166_21 (l : za_L) (st : List Value) (w : za_W) : za_n 166 (21, l, st, w) = za_x 166 (.iload 4) 21 l st w := za_n.at zcc_166 dX13_putLengths_21 rfl
theorem f_166_23 (l : za_L) (st : List Value) (w : za_W) : za_n 166 (23, l, st, w) = za_x 166 (.iload_n 2) 23 l st w := za_n.at zcc_166 dX13_putLengths_23 rfl
theorem f_166_24 (l : za_L) (st : List Value) (w : za_W) : za_n 166 (24, l, st, w) = za_x 166 (.if_icmp .ge 92) 24 l st w := za_n.at zcc_166 dX13_putLengths_24 rfl
theorem f_166_27 (l : za_L) (st : List Value) (w : za_W) : za_n 166 (27, l, st, w) = za_x 166 (.iload_n 3) 27 l st w := za_n.at zcc_166 dX13_putLengths_27 rfl
theorem f_166_28 (l : za_L) (st : List Value) (w : za_W) : za_n 166 (28, l, st, w) = za_x 166 (.aload_n 0) 28 l st w := za_n.at zcc_166 dX13_putLengths_28 rfl
theorem f_166_29 (l : za_L) (st : List Value) (w : za_W) : za_n 166 (29, l, st, w) = za_x 166 (.getfield 63) 29 l st w := za_n.at zcc_166 dX13_putLengths_29 rfl
theorem f_166_32 (l : za_L) (st : List Value) (w : za_W) : za_n 166 (32, l, st, w) = za_go 35 l (.int (260) :: st) w := (za_n.at zcc_166 dX13_putLengths_32 rfl).trans (congrArg (fun x => za_go 35 l (.int x :: st) w) (by decide))
theorem f_166_35 (l : za_L) (st : List Value) (w : za_W) : za_n 166 (35, l, st, w) = za_x 166 (.iload_n 1) 35 l st w := za_n.at zcc_166 dX13_putLengths_35 rfl
theorem f_166_36 (l : za_L) (st : List Value) (w : za_W) : za_n 166 (36, l, st, w) = za_x 166 (.imul) 36 l st w := za_n.at zcc_166 dX13_putLengths_36 rfl
theorem f_166_37 (l : za_L) (st : List Value) (w : za_W) : za_n 166 (37, l, st, w) = za_x 166 (.iload 4) 37 l st w := za_n.at zcc_166 dX13_putLengths_37 rfl
theorem f_166_39 (l : za_L) (st : List Value) (w : za_W) : za_n 166 (39, l, st, w) = za_x 166 (.iadd) 39 l st w := za_n.at zcc_166 dX13_putLengths_39 rfl
theorem f_166_40 (l : za_L) (st : List Value) (w : za_W) : za_n 166 (40, l, st, w) = za_x 166 (.iaload) 40 l st w := za_n.at zcc_166 dX13_putLengths_40 rfl
theorem f_166_41 (l : za_L) (st : List Value) (w : za_W) : za_n 166 (41, l, st, w) = za_x 166 (.if_icmp .eq 64) 41 l st w := za_n.at zcc_166 dX13_putLengths_41 rfl
theorem f_166_44 (l : za_L) (st : List Value) (w : za_W) : za_n 166 (44, l, st, w) = za_x 166 (.iload_n 3) 44 l st w := za_n.at zcc_166 dX13_putLengths_44 rfl
theorem f_166_45 (l : za_L) (st : List Value) (w : za_W) : za_n 166 (45, l, st, w) = za_x 166 (.aload_n 0) 45 l st w := za_n.at zcc_166 dX13_putLengths_45 rfl
theorem f_166_46 (l : za_L) (st : List Value) (w : za_W) : za_n 166 (46, l, st, w) = za_x 166 (.getfield 63) 46 l st w := za_n.at zcc_166 dX13_putLengths_46 rfl
theorem f_166_49 (l : za_L) (st : List Value) (w : za_W) : za_n 166 (49, l, st, w) = za_go 52 l (.int (260) :: st) w := (za_n.at zcc_166 dX13_putLengths_49 rfl).trans (congrArg (fun x => za_go 52 l (.int x :: st) w) (by decide))
theorem f_166_52 (l : za_L) (st : List Value) (w : za_W) : za_n 166 (52, l, st, w) = za_x 166 (.iload_n 1) 52 l st w := za_n.at zcc_166 dX13_putLengths_52 rfl
theorem f_166_53 (l : za_L) (st : List Value) (w : za_W) : za_n 166 (53, l, st, w) = za_x 166 (.imul) 53 l st w := za_n.at zcc_166 dX13_putLengths_53 rfl
theorem f_166_54 (l : za_L) (st : List Value) (w : za_W) : za_n 166 (54, l, st, w) = za_x 166 (.iload 4) 54 l st w := za_n.at zcc_166 dX13_putLengths_54 rfl
theorem f_166_56 (l : za_L) (st : List Value) (w : za_W) : za_n 166 (56, l, st, w) = za_x 166 (.iadd) 56 l st w := za_n.at zcc_166 dX13_putLengths_56 rfl
theorem f_166_57 (l : za_L) (st : List Value) (w : za_W) : za_n 166 (57, l, st, w) = za_x 166 (.iaload) 57 l st w := za_n.at zcc_166 dX13_putLengths_57 rfl
theorem f_166_58 (l : za_L) (st : List Value) (w : za_W) : za_n 166 (58, l, st, w) = za_x 166 (.if_icmp .ge 7) 58 l st w := za_n.at zcc_166 dX13_putLengths_58 rfl
theorem f_166_61 (l : za_L) (st : List Value) (w : za_W) : za_n 166 (61, l, st, w) = za_go 62 l (.int (1) :: st) w := (za_n.at zcc_166 dX13_putLengths_61 rfl).trans (congrArg (fun x => za_go 62 l (.int x :: st) w) (by decide))
theorem f_166_62 (l : za_L) (st : List Value) (w : za_W) : za_n 166 (62, l, st, w) = za_go 66 l st w := (za_n.at zcc_166 dX13_putLengths_62 rfl).trans (za_jp.at (by decide))
theorem f_166_65 (l : za_L) (st : List Value) (w : za_W) : za_n 166 (65, l, st, w) = za_go 66 l (.int (0) :: st) w := (za_n.at zcc_166 dX13_putLengths_65 rfl).trans (congrArg (fun x => za_go 66 l (.int x :: st) w) (by decide))
theorem f_166_66 (l : za_L) (st : List Value) (w : za_W) : za_n 166 (66, l, st, w) = za_x 166 (.istore 5) 66 l st w := za_n.at zcc_166 dX13_putLengths_66 rfl
theorem f_166_68 (l : za_L) (st : List Value) (w : za_W) : za_n 166 (68, l, st, w) = za_x 166 (.aload_n 0) 68 l st w := za_n.at zcc_166 dX13_putLengths_68 rfl
theorem f_166_69 (l : za_L) (st : List Value) (w : za_W) : za_n 166 (69, l, st, w) = za_x 166 (.iload 5) 69 l st w := za_n.at zcc_166 dX13_putLengths_69 rfl
theorem f_166_71 (l : za_L) (st : List Value) (w : za_W) : za_n 166 (71, l, st, w) = za_x 166 (.ifCond .eq 9) 71 l st w := za_n.at zcc_166 dX13_putLengths_71 rfl
theorem f_166_74 (l : za_L) (st : List Value) (w : za_W) : za_n 166 (74, l, st, w) = za_x 166 (.ldc2_w 187) 74 l st w := za_n.at zcc_166 dX13_putLengths_74 rfl
theorem f_166_77 (l : za_L) (st : List Value) (w : za_W) : za_n 166 (77, l, st, w) = za_go 83 l st w := (za_n.at zcc_166 dX13_putLengths_77 rfl).trans (za_jp.at (by decide))
theorem f_166_80 (l : za_L) (st : List Value) (w : za_W) : za_n 166 (80, l, st, w) = za_x 166 (.ldc2_w 206) 80 l st w := za_n.at zcc_166 dX13_putLengths_80 rfl
theorem f_166_83 (l : za_L) (st : List Value) (w : za_W) : za_n 166 (83, l, st, w) = za_go 84 l (.int (2) :: st) w := (za_n.at zcc_166 dX13_putLengths_83 rfl).trans (congrArg (fun x => za_go 84 l (.int x :: st) w) (by decide))
theorem f_166_84 (l : za_L) (st : List Value) (w : za_W) : za_n 166 (84, l, st, w) = za_x 166 (.invokevirtual 202) 84 l st w := za_n.at zcc_166 dX13_putLengths_84 rfl
theorem f_166_87 (l : za_L) (st : List Value) (w : za_W) : za_n 166 (87, l, st, w) = za_x 166 (.iload 5) 87 l st w := za_n.at zcc_166 dX13_putLengths_87 rfl
theorem f_166_89 (l : za_L) (st : List Value) (w : za_W) : za_n 166 (89, l, st, w) = za_x 166 (.ifCond .eq 9) 89 l st w := za_n.at zcc_166 dX13_putLengths_89 rfl
theorem f_166_92 (l : za_L) (st : List Value) (w : za_W) : za_n 166 (92, l, st, w) = za_x 166 (.iload_n 3) 92 l st w := za_n.at zcc_166 dX13_putLengths_92 rfl
theorem f_166_93 (l : za_L) (st : List Value) (w : za_W) : za_n 166 (93, l, st, w) = za_go 94 l (.int (1) :: st) w := (za_n.at zcc_166 dX13_putLengths_93 rfl).trans (congrArg (fun x => za_go 94 l (.int x :: st) w) (by decide))
theorem f_166_94 (l : za_L) (st : List Value) (w : za_W) : za_n 166 (94, l, st, w) = za_x 166 (.iadd) 94 l st w := za_n.at zcc_166 dX13_putLengths_94 rfl
theorem f_166_95 (l : za_L) (st : List Value) (w : za_W) : za_n 166 (95, l, st, w) = za_go 101 l st w := (za_n.at zcc_166 dX13_putLengths_95 rfl).trans (za_jp.at (by decide))
theorem f_166_98 (l : za_L) (st : List Value) (w : za_W) : za_n 166 (98, l, st, w) = za_x 166 (.iload_n 3) 98 l st w := za_n.at zcc_166 dX13_putLengths_98 rfl
theorem f_166_99 (l : za_L) (st : List Value) (w : za_W) : za_n 166 (99, l, st, w) = za_go 100 l (.int (1) :: st) w := (za_n.at zcc_166 dX13_putLengths_99 rfl).trans (congrArg (fun x => za_go 100 l (.int x :: st) w) (by decide))
theorem f_166_100 (l : za_L) (st : List Value) (w : za_W) : za_n 166 (100, l, st, w) = za_x 166 (.isub) 100 l st w := za_n.at zcc_166 dX13_putLengths_100 rfl
theorem f_166_101 (l : za_L) (st : List Value) (w : za_W) : za_n 166 (101, l, st, w) = za_x 166 (.istore_n 3) 101 l st w := za_n.at zcc_166 dX13_putLengths_101 rfl
theorem f_166_102 (l : za_L) (st : List Value) (w : za_W) : za_n 166 (102, l, st, w) = za_go 27 l st w := (za_n.at zcc_166 dX13_putLengths_102 rfl).trans (za_jp.at (by decide))
theorem f_166_105 (l : za_L) (st : List Value) (w : za_W) : za_n 166 (105, l, st, w) = za_x 166 (.aload_n 0) 105 l st w := za_n.at zcc_166 dX13_putLengths_105 rfl
theorem f_166_106 (l : za_L) (st : List Value) (w : za_W) : za_n 166 (106, l, st, w) = za_go 107 l (.int (0) :: st) w := (za_n.at zcc_166 dX13_putLengths_106 rfl).trans (congrArg (fun x => za_go 107 l (.int x :: st) w) (by decide))
theorem f_166_107 (l : za_L) (st : List Value) (w : za_W) : za_n 166 (107, l, st, w) = za_x 166 (.invokevirtual 157) 107 l st w := za_n.at zcc_166 dX13_putLengths_107 rfl
theorem f_166_110 (l : za_L) (st : List Value) (w : za_W) : za_n 166 (110, l, st, w) = za_x 166 (.iinc 4 1) 110 l st w := za_n.at zcc_166 dX13_putLengths_110 rfl
theorem f_166_113 (l : za_L) (st : List Value) (w : za_W) : za_n 166 (113, l, st, w) = za_go 21 l st w := (za_n.at zcc_166 dX13_putLengths_113 rfl).trans (za_jp.at (by decide))
theorem f_166_116 (l : za_L) (st : List Value) (w : za_W) : za_n 166 (116, l, st, w) = za_x 166 (.return_) 116 l st w := za_n.at zcc_166 dX13_putLengths_116 rfl
theorem f_167_0 (l : za_L) (st : List Value) (w : za_W) : za_n 167 (0, l, st, w) = za_x 167 (.aload_n 0) 0 l st w := za_n.at zcc_167 dX13_packBlock_0 rfl
theorem f_167_1 (l : za_L) (st : List Value) (w : za_W) : za_n 167 (1, l, st, w) = za_x 167 (.getfield 150) 1 l st w := za_n.at zcc_167 dX13_packBlock_1 rfl
theorem f_167_4 (l : za_L) (st : List Value) (w : za_W) : za_n 167 (4, l, st, w) = za_x 167 (.istore_n 3) 4 l st w := za_n.at zcc_167 dX13_packBlock_4 rfl
theorem f_167_5 (l : za_L) (st : List Value) (w : za_W) : za_n 167 (5, l, st, w) = za_x 167 (.aload_n 0) 5 l st w := za_n.at zcc_167 dX13_packBlock_5 rfl
theorem f_167_6 (l : za_L) (st : List Value) (w : za_W) : za_n 167 (6, l, st, w) = za_x 167 (.getfield 20) 6 l st w := za_n.at zcc_167 dX13_packBlock_6 rfl
theorem f_167_9 (l : za_L) (st : List Value) (w : za_W) : za_n 167 (9, l, st, w) = za_x 167 (.iload_n 1) 9 l st w := za_n.at zcc_167 dX13_packBlock_9 rfl
theorem f_167_10 (l : za_L) (st : List Value) (w : za_W) : za_n 167 (10, l, st, w) = za_x 167 (.iload_n 2) 10 l st w := za_n.at zcc_167 dX13_packBlock_10 rfl
theorem f_167_11 (l : za_L) (st : List Value) (w : za_W) : za_n 167 (11, l, st, w) = za_x 167 (.iload_n 1) 11 l st w := za_n.at zcc_167 dX13_packBlock_11 rfl
theorem f_167_12 (l : za_L) (st : List Value) (w : za_W) : za_n 167 (12, l, st, w) = za_x 167 (.isub) 12 l st w := za_n.at zcc_167 dX13_packBlock_12 rfl
theorem f_167_13 (l : za_L) (st : List Value) (w : za_W) : za_n 167 (13, l, st, w) = za_x 167 (.invokestatic 208) 13 l st w := za_n.at zcc_167 dX13_packBlock_13 rfl
theorem f_167_16 (l : za_L) (st : List Value) (w : za_W) : za_n 167 (16, l, st, w) = za_x 167 (.istore 4) 16 l st w := za_n.at zcc_167 dX13_packBlock_16 rfl
theorem f_167_18 (l : za_L) (st : List Value) (w : za_W) : za_n 167 (18, l, st, w) = za_x 167 (.aload_n 0) 18 l st w := za_n.at zcc_167 dX13_packBlock_18 rfl
theorem f_167_19 (l : za_L) (st : List Value) (w : za_W) : za_n 167 (19, l, st, w) = za_x 167 (.invokevirtual 212) 19 l st w := za_n.at zcc_167 dX13_packBlock_19 rfl
theorem f_167_22 (l : za_L) (st : List Value) (w : za_W) : za_n 167 (22, l, st, w) = za_x 167 (.aload_n 0) 22 l st w := za_n.at zcc_167 dX13_packBlock_22 rfl
theorem f_167_23 (l : za_L) (st : List Value) (w : za_W) : za_n 167 (23, l, st, w) = za_x 167 (.invokevirtual 215) 23 l st w := za_n.at zcc_167 dX13_packBlock_23 rfl
theorem f_167_26 (l : za_L) (st : List Value) (w : za_W) : za_n 167 (26, l, st, w) = za_go 27 l (.int (0) :: st) w := (za_n.at zcc_167 dX13_packBlock_26 rfl).trans (congrArg (fun x => za_go 27 l (.int x :: st) w) (by decide))
theorem f_167_27 (l : za_L) (st : List Value) (w : za_W) : za_n 167 (27, l, st, w) = za_x 167 (.istore 5) 27 l st w := za_n.at zcc_167 dX13_packBlock_27 rfl
theorem f_167_29 (l : za_L) (st : List Value) (w : za_W) : za_n 167 (29, l, st, w) = za_x 167 (.aload_n 0) 29 l st w := za_n.at zcc_167 dX13_packBlock_29 rfl
theorem f_167_30 (l : za_L) (st : List Value) (w : za_W) : za_n 167 (30, l, st, w) = za_x 167 (.getfield 47) 30 l st w := za_n.at zcc_167 dX13_packBlock_30 rfl
theorem f_167_33 (l : za_L) (st : List Value) (w : za_W) : za_n 167 (33, l, st, w) = za_x 167 (.iload 5) 33 l st w := za_n.at zcc_167 dX13_packBlock_33 rfl
theorem f_167_35 (l : za_L) (st : List Value) (w : za_W) : za_n 167 (35, l, st, w) = za_x 167 (.iaload) 35 l st w := za_n.at zcc_167 dX13_packBlock_35 rfl
theorem f_167_36 (l : za_L) (st : List Value) (w : za_W) : za_n 167 (36, l, st, w) = za_x 167 (.ifCond .eq 9) 36 l st w := za_n.at zcc_167 dX13_packBlock_36 rfl
theorem f_167_39 (l : za_L) (st : List Value) (w : za_W) : za_n 167 (39, l, st, w) = za_x 167 (.iinc 5 1) 39 l st w := za_n.at zcc_167 dX13_packBlock_39 rfl
theorem f_167_42 (l : za_L) (st : List Value) (w : za_W) : za_n 167 (42, l, st, w) = za_go 29 l st w := (za_n.at zcc_167 dX13_packBlock_42 rfl).trans (za_jp.at (by decide))
theorem f_167_45 (l : za_L) (st : List Value) (w : za_W) : za_n 167 (45, l, st, w) = za_x 167 (.aload_n 0) 45 l st w := za_n.at zcc_167 dX13_packBlock_45 rfl
theorem f_167_46 (l : za_L) (st : List Value) (w : za_W) : za_n 167 (46, l, st, w) = za_x 167 (.invokevirtual 218) 46 l st w := za_n.at zcc_167 dX13_packBlock_46 rfl
theorem f_167_49 (l : za_L) (st : List Value) (w : za_W) : za_n 167 (49, l, st, w) = za_x 167 (.aload_n 0) 49 l st w := za_n.at zcc_167 dX13_packBlock_49 rfl
theorem f_167_50 (l : za_L) (st : List Value) (w : za_W) : za_n 167 (50, l, st, w) = za_x 167 (.getfield 171) 50 l st w := za_n.at zcc_167 dX13_packBlock_50 rfl
theorem f_167_53 (l : za_L) (st : List Value) (w : za_W) : za_n 167 (53, l, st, w) = za_go 54 l (.int (2) :: st) w := (za_n.at zcc_167 dX13_packBlock_53 rfl).trans (congrArg (fun x => za_go 54 l (.int x :: st) w) (by decide))
theorem f_167_54 (l : za_L) (st : List Value) (w : za_W) : za_n 167 (54, l, st, w) = za_x 167 (.iadd) 54 l st w := za_n.at zcc_167 dX13_packBlock_54 rfl
theorem f_167_55 (l : za_L) (st : List Value) (w : za_W) : za_n 167 (55, l, st, w) = za_x 167 (.istore 6) 55 l st w := za_n.at zcc_167 dX13_packBlock_55 rfl
theorem f_167_57 (l : za_L) (st : List Value) (w : za_W) : za_n 167 (57, l, st, w) = za_x 167 (.aload_n 0) 57 l st w := za_n.at zcc_167 dX13_packBlock_57 rfl
theorem f_167_58 (l : za_L) (st : List Value) (w : za_W) : za_n 167 (58, l, st, w) = za_x 167 (.iload 6) 58 l st w := za_n.at zcc_167 dX13_packBlock_58 rfl
theorem f_167_60 (l : za_L) (st : List Value) (w : za_W) : za_n 167 (60, l, st, w) = za_x 167 (.invokevirtual 221) 60 l st w := za_n.at zcc_167 dX13_packBlock_60 rfl
theorem f_167_63 (l : za_L) (st : List Value) (w : za_W) : za_n 167 (63, l, st, w) = za_x 167 (.aload_n 0) 63 l st w := za_n.at zcc_167 dX13_packBlock_63 rfl
theorem f_167_64 (l : za_L) (st : List Value) (w : za_W) : za_n 167 (64, l, st, w) = za_x 167 (.ldc2_w 224) 64 l st w := za_n.at zcc_167 dX13_packBlock_64 rfl
theorem f_167_67 (l : za_L) (st : List Value) (w : za_W) : za_n 167 (67, l, st, w) = za_go 69 l (.int (48) :: st) w := (za_n.at zcc_167 dX13_packBlock_67 rfl).trans (congrArg (fun x => za_go 69 l (.int x :: st) w) (by decide))
theorem f_167_69 (l : za_L) (st : List Value) (w : za_W) : za_n 167 (69, l, st, w) = za_x 167 (.invokevirtual 202) 69 l st w := za_n.at zcc_167 dX13_packBlock_69 rfl
theorem f_167_72 (l : za_L) (st : List Value) (w : za_W) : za_n 167 (72, l, st, w) = za_x 167 (.aload_n 0) 72 l st w := za_n.at zcc_167 dX13_packBlock_72 rfl
theorem f_167_73 (l : za_L) (st : List Value) (w : za_W) : za_n 167 (73, l, st, w) = za_x 167 (.iload 4) 73 l st w := za_n.at zcc_167 dX13_packBlock_73 rfl
theorem f_167_75 (l : za_L) (st : List Value) (w : za_W) : za_n 167 (75, l, st, w) = za_x 167 (.i2l) 75 l st w := za_n.at zcc_167 dX13_packBlock_75 rfl
theorem f_167_76 (l : za_L) (st : List Value) (w : za_W) : za_n 167 (76, l, st, w) = za_x 167 (.ldc2_w 226) 76 l st w := za_n.at zcc_167 dX13_packBlock_76 rfl
theorem f_167_79 (l : za_L) (st : List Value) (w : za_W) : za_n 167 (79, l, st, w) = za_x 167 (.land) 79 l st w := za_n.at zcc_167 dX13_packBlock_79 rfl
theorem f_167_80 (l : za_L) (st : List Value) (w : za_W) : za_n 167 (80, l, st, w) = za_go 82 l (.int (32) :: st) w := (za_n.at zcc_167 dX13_packBlock_80 rfl).trans (congrArg (fun x => za_go 82 l (.int x :: st) w) (by decide))
theorem f_167_82 (l : za_L) (st : List Value) (w : za_W) : za_n 167 (82, l, st, w) = za_x 167 (.invokevirtual 202) 82 l st w := za_n.at zcc_167 dX13_packBlock_82 rfl
theorem f_167_85 (l : za_L) (st : List Value) (w : za_W) : za_n 167 (85, l, st, w) = za_x 167 (.aload_n 0) 85 l st w := za_n.at zcc_167 dX13_packBlock_85 rfl
theorem f_167_86 (l : za_L) (st : List Value) (w : za_W) : za_n 167 (86, l, st, w) = za_go 87 l (.int (0) :: st) w := (za_n.at zcc_167 dX13_packBlock_86 rfl).trans (congrArg (fun x => za_go 87 l (.int x :: st) w) (by decide))
theorem f_167_87 (l : za_L) (st : List Value) (w : za_W) : za_n 167 (87, l, st, w) = za_x 167 (.invokevirtual 157) 87 l st w := za_n.at zcc_167 dX13_packBlock_87 rfl
theorem f_167_90 (l : za_L) (st : List Value) (w : za_W) : za_n 167 (90, l, st, w) = za_x 167 (.aload_n 0) 90 l st w := za_n.at zcc_167 dX13_packBlock_90 rfl
theorem f_167_91 (l : za_L) (st : List Value) (w : za_W) : za_n 167 (91, l, st, w) = za_x 167 (.iload 5) 91 l st w := za_n.at zcc_167 dX13_packBlock_91 rfl
theorem f_167_93 (l : za_L) (st : List Value) (w : za_W) : za_n 167 (93, l, st, w) = za_x 167 (.i2l) 93 l st w := za_n.at zcc_167 dX13_packBlock_93 rfl
theorem f_167_94 (l : za_L) (st : List Value) (w : za_W) : za_n 167 (94, l, st, w) = za_go 96 l (.int (24) :: st) w := (za_n.at zcc_167 dX13_packBlock_94 rfl).trans (congrArg (fun x => za_go 96 l (.int x :: st) w) (by decide))
theorem f_167_96 (l : za_L) (st : List Value) (w : za_W) : za_n 167 (96, l, st, w) = za_x 167 (.invokevirtual 202) 96 l st w := za_n.at zcc_167 dX13_packBlock_96 rfl
theorem f_167_99 (l : za_L) (st : List Value) (w : za_W) : za_n 167 (99, l, st, w) = za_x 167 (.aload_n 0) 99 l st w := za_n.at zcc_167 dX13_packBlock_99 rfl
theorem f_167_100 (l : za_L) (st : List Value) (w : za_W) : za_n 167 (100, l, st, w) = za_x 167 (.invokevirtual 228) 100 l st w := za_n.at zcc_167 dX13_packBlock_100 rfl
theorem f_167_103 (l : za_L) (st : List Value) (w : za_W) : za_n 167 (103, l, st, w) = za_x 167 (.aload_n 0) 103 l st w := za_n.at zcc_167 dX13_packBlock_103 rfl
theorem f_167_104 (l : za_L) (st : List Value) (w : za_W) : za_n 167 (104, l, st, w) = za_x 167 (.aload_n 0) 104 l st w := za_n.at zcc_167 dX13_packBlock_104 rfl
theorem f_167_105 (l : za_L) (st : List Value) (w : za_W) : za_n 167 (105, l, st, w) = za_x 167 (.getfield 189) 105 l st w := za_n.at zcc_167 dX13_packBlock_105 rfl
theorem f_167_108 (l : za_L) (st : List Value) (w : za_W) : za_n 167 (108, l, st, w) = za_x 167 (.i2l) 108 l st w := za_n.at zcc_167 dX13_packBlock_108 rfl
theorem f_167_109 (l : za_L) (st : List Value) (w : za_W) : za_n 167 (109, l, st, w) = za_go 110 l (.int (3) :: st) w := (za_n.at zcc_167 dX13_packBlock_109 rfl).trans (congrArg (fun x => za_go 110 l (.int x :: st) w) (by decide))
theorem f_167_110 (l : za_L) (st : List Value) (w : za_W) : za_n 167 (110, l, st, w) = za_x 167 (.invokevirtual 202) 110 l st w := za_n.at zcc_167 dX13_packBlock_110 rfl
theorem f_167_113 (l : za_L) (st : List Value) (w : za_W) : za_n 167 (113, l, st, w) = za_x 167 (.aload_n 0) 113 l st w := za_n.at zcc_167 dX13_packBlock_113 rfl
theorem f_167_114 (l : za_L) (st : List Value) (w : za_W) : za_n 167 (114, l, st, w) = za_x 167 (.aload_n 0) 114 l st w := za_n.at zcc_167 dX13_packBlock_114 rfl
theorem f_167_115 (l : za_L) (st : List Value) (w : za_W) : za_n 167 (115, l, st, w) = za_x 167 (.getfield 195) 115 l st w := za_n.at zcc_167 dX13_packBlock_115 rfl
theorem f_167_118 (l : za_L) (st : List Value) (w : za_W) : za_n 167 (118, l, st, w) = za_x 167 (.i2l) 118 l st w := za_n.at zcc_167 dX13_packBlock_118 rfl
theorem f_167_119 (l : za_L) (st : List Value) (w : za_W) : za_n 167 (119, l, st, w) = za_go 121 l (.int (15) :: st) w := (za_n.at zcc_167 dX13_packBlock_119 rfl).trans (congrArg (fun x => za_go 121 l (.int x :: st) w) (by decide))
theorem f_167_121 (l : za_L) (st : List Value) (w : za_W) : za_n 167 (121, l, st, w) = za_x 167 (.invokevirtual 202) 121 l st w := za_n.at zcc_167 dX13_packBlock_121 rfl
theorem f_167_124 (l : za_L) (st : List Value) (w : za_W) : za_n 167 (124, l, st, w) = za_x 167 (.aload_n 0) 124 l st w := za_n.at zcc_167 dX13_packBlock_124 rfl
theorem f_167_125 (l : za_L) (st : List Value) (w : za_W) : za_n 167 (125, l, st, w) = za_x 167 (.invokevirtual 231) 125 l st w := za_n.at zcc_167 dX13_packBlock_125 rfl
theorem f_167_128 (l : za_L) (st : List Value) (w : za_W) : za_n 167 (128, l, st, w) = za_go 129 l (.int (0) :: st) w := (za_n.at zcc_167 dX13_packBlock_128 rfl).trans (congrArg (fun x => za_go 129 l (.int x :: st) w) (by decide))
theorem f_167_129 (l : za_L) (st : List Value) (w : za_W) : za_n 167 (129, l, st, w) = za_x 167 (.istore 7) 129 l st w := za_n.at zcc_167 dX13_packBlock_129 rfl
theorem f_167_131 (l : za_L) (st : List Value) (w : za_W) : za_n 167 (131, l, st, w) = za_x 167 (.iload 7) 131 l st w := za_n.at zcc_167 dX13_packBlock_131 rfl
theorem f_167_133 (l : za_L) (st : List Value) (w : za_W) : za_n 167 (133, l, st, w) = za_x 167 (.aload_n 0) 133 l st w := za_n.at zcc_167 dX13_packBlock_133 rfl
theorem f_167_134 (l : za_L) (st : List Value) (w : za_W) : za_n 167 (134, l, st, w) = za_x 167 (.getfield 189) 134 l st w := za_n.at zcc_167 dX13_packBlock_134 rfl
theorem f_167_137 (l : za_L) (st : List Value) (w : za_W) : za_n 167 (137, l, st, w) = za_x 167 (.if_icmp .ge 25) 137 l st w := za_n.at zcc_167 dX13_packBlock_137 rfl
theorem f_167_140 (l : za_L) (st : List Value) (w : za_W) : za_n 167 (140, l, st, w) = za_x 167 (.aload_n 0) 140 l st w := za_n.at zcc_167 dX13_packBlock_140 rfl
theorem f_167_141 (l : za_L) (st : List Value) (w : za_W) : za_n 167 (141, l, st, w) = za_x 167 (.iload 7) 141 l st w := za_n.at zcc_167 dX13_packBlock_141 rfl
theorem f_167_143 (l : za_L) (st : List Value) (w : za_W) : za_n 167 (143, l, st, w) = za_x 167 (.iload 6) 143 l st w := za_n.at zcc_167 dX13_packBlock_143 rfl
theorem f_167_145 (l : za_L) (st : List Value) (w : za_W) : za_n 167 (145, l, st, w) = za_x 167 (.invokevirtual 234) 145 l st w := za_n.at zcc_167 dX13_packBlock_145 rfl
theorem f_167_148 (l : za_L) (st : List Value) (w : za_W) : za_n 167 (148, l, st, w) = za_x 167 (.aload_n 0) 148 l st w := za_n.at zcc_167 dX13_packBlock_148 rfl
theorem f_167_149 (l : za_L) (st : List Value) (w : za_W) : za_n 167 (149, l, st, w) = za_x 167 (.iload 7) 149 l st w := za_n.at zcc_167 dX13_packBlock_149 rfl
theorem f_167_151 (l : za_L) (st : List Value) (w : za_W) : za_n 167 (151, l, st, w) = za_x 167 (.iload 6) 151 l st w := za_n.at zcc_167 dX13_packBlock_151 rfl
theorem f_167_153 (l : za_L) (st : List Value) (w : za_W) : za_n 167 (153, l, st, w) = za_x 167 (.invokevirtual 237) 153 l st w := za_n.at zcc_167 dX13_packBlock_153 rfl
theorem f_167_156 (l : za_L) (st : List Value) (w : za_W) : za_n 167 (156, l, st, w) = za_x 167 (.iinc 7 1) 156 l st w := za_n.at zcc_167 dX13_packBlock_156 rfl
theorem f_167_159 (l : za_L) (st : List Value) (w : za_W) : za_n 167 (159, l, st, w) = za_go 131 l st w := (za_n.at zcc_167 dX13_packBlock_159 rfl).trans (za_jp.at (by decide))
theorem f_167_162 (l : za_L) (st : List Value) (w : za_W) : za_n 167 (162, l, st, w) = za_go 163 l (.int (0) :: st) w := (za_n.at zcc_167 dX13_packBlock_162 rfl).trans (congrArg (fun x => za_go 163 l (.int x :: st) w) (by decide))
theorem f_167_163 (l : za_L) (st : List Value) (w : za_W) : za_n 167 (163, l, st, w) = za_x 167 (.istore 7) 163 l st w := za_n.at zcc_167 dX13_packBlock_163 rfl
theorem f_167_165 (l : za_L) (st : List Value) (w : za_W) : za_n 167 (165, l, st, w) = za_x 167 (.iload 7) 165 l st w := za_n.at zcc_167 dX13_packBlock_165 rfl
theorem f_167_167 (l : za_L) (st : List Value) (w : za_W) : za_n 167 (167, l, st, w) = za_x 167 (.aload_n 0) 167 l st w := za_n.at zcc_167 dX13_packBlock_167 rfl
theorem f_167_168 (l : za_L) (st : List Value) (w : za_W) : za_n 167 (168, l, st, w) = za_x 167 (.getfield 174) 168 l st w := za_n.at zcc_167 dX13_packBlock_168 rfl
theorem f_167_171 (l : za_L) (st : List Value) (w : za_W) : za_n 167 (171, l, st, w) = za_x 167 (.if_icmp .ge 52) 171 l st w := za_n.at zcc_167 dX13_packBlock_171 rfl
theorem f_167_174 (l : za_L) (st : List Value) (w : za_W) : za_n 167 (174, l, st, w) = za_go 177 l (.int (260) :: st) w := (za_n.at zcc_167 dX13_packBlock_174 rfl).trans (congrArg (fun x => za_go 177 l (.int x :: st) w) (by decide))
theorem f_167_177 (l : za_L) (st : List Value) (w : za_W) : za_n 167 (177, l, st, w) = za_x 167 (.aload_n 0) 177 l st w := za_n.at zcc_167 dX13_packBlock_177 rfl
theorem f_167_178 (l : za_L) (st : List Value) (w : za_W) : za_n 167 (178, l, st, w) = za_x 167 (.getfield 72) 178 l st w := za_n.at zcc_167 dX13_packBlock_178 rfl
theorem f_167_181 (l : za_L) (st : List Value) (w : za_W) : za_n 167 (181, l, st, w) = za_x 167 (.iload 7) 181 l st w := za_n.at zcc_167 dX13_packBlock_181 rfl
theorem f_167_183 (l : za_L) (st : List Value) (w : za_W) : za_n 167 (183, l, st, w) = za_go 185 l (.int (50) :: st) w := (za_n.at zcc_167 dX13_packBlock_183 rfl).trans (congrArg (fun x => za_go 185 l (.int x :: st) w) (by decide))
theorem f_167_185 (l : za_L) (st : List Value) (w : za_W) : za_n 167 (185, l, st, w) = za_x 167 (.idiv) 185 l st w := za_n.at zcc_167 dX13_packBlock_185 rfl
theorem f_167_186 (l : za_L) (st : List Value) (w : za_W) : za_n 167 (186, l, st, w) = za_x 167 (.iaload) 186 l st w := za_n.at zcc_167 dX13_packBlock_186 rfl
theorem f_167_187 (l : za_L) (st : List Value) (w : za_W) : za_n 167 (187, l, st, w) = za_x 167 (.imul) 187 l st w := za_n.at zcc_167 dX13_packBlock_187 rfl
theorem f_167_188 (l : za_L) (st : List Value) (w : za_W) : za_n 167 (188, l, st, w) = za_x 167 (.aload_n 0) 188 l st w := za_n.at zcc_167 dX13_packBlock_188 rfl
theorem f_167_189 (l : za_L) (st : List Value) (w : za_W) : za_n 167 (189, l, st, w) = za_x 167 (.getfield 53) 189 l st w := za_n.at zcc_167 dX13_packBlock_189 rfl
theorem f_167_192 (l : za_L) (st : List Value) (w : za_W) : za_n 167 (192, l, st, w) = za_x 167 (.iload 7) 192 l st w := za_n.at zcc_167 dX13_packBlock_192 rfl
theorem f_167_194 (l : za_L) (st : List Value) (w : za_W) : za_n 167 (194, l, st, w) = za_x 167 (.iaload) 194 l st w := za_n.at zcc_167 dX13_packBlock_194 rfl
theorem f_167_195 (l : za_L) (st : List Value) (w : za_W) : za_n 167 (195, l, st, w) = za_x 167 (.iadd) 195 l st w := za_n.at zcc_167 dX13_packBlock_195 rfl
theorem f_167_196 (l : za_L) (st : List Value) (w : za_W) : za_n 167 (196, l, st, w) = za_x 167 (.istore 8) 196 l st w := za_n.at zcc_167 dX13_packBlock_196 rfl
theorem f_167_198 (l : za_L) (st : List Value) (w : za_W) : za_n 167 (198, l, st, w) = za_x 167 (.aload_n 0) 198 l st w := za_n.at zcc_167 dX13_packBlock_198 rfl
theorem f_167_199 (l : za_L) (st : List Value) (w : za_W) : za_n 167 (199, l, st, w) = za_x 167 (.aload_n 0) 199 l st w := za_n.at zcc_167 dX13_packBlock_199 rfl
theorem f_167_200 (l : za_L) (st : List Value) (w : za_W) : za_n 167 (200, l, st, w) = za_x 167 (.getfield 85) 200 l st w := za_n.at zcc_167 dX13_packBlock_200 rfl
theorem f_167_203 (l : za_L) (st : List Value) (w : za_W) : za_n 167 (203, l, st, w) = za_x 167 (.iload 8) 203 l st w := za_n.at zcc_167 dX13_packBlock_203 rfl
theorem f_167_205 (l : za_L) (st : List Value) (w : za_W) : za_n 167 (205, l, st, w) = za_x 167 (.iaload) 205 l st w := za_n.at zcc_167 dX13_packBlock_205 rfl
theorem f_167_206 (l : za_L) (st : List Value) (w : za_W) : za_n 167 (206, l, st, w) = za_x 167 (.i2l) 206 l st w := za_n.at zcc_167 dX13_packBlock_206 rfl
theorem f_167_207 (l : za_L) (st : List Value) (w : za_W) : za_n 167 (207, l, st, w) = za_x 167 (.aload_n 0) 207 l st w := za_n.at zcc_167 dX13_packBlock_207 rfl
theorem f_167_208 (l : za_L) (st : List Value) (w : za_W) : za_n 167 (208, l, st, w) = za_x 167 (.getfield 63) 208 l st w := za_n.at zcc_167 dX13_packBlock_208 rfl
theorem f_167_211 (l : za_L) (st : List Value) (w : za_W) : za_n 167 (211, l, st, w) = za_x 167 (.iload 8) 211 l st w := za_n.at zcc_167 dX13_packBlock_211 rfl
theorem f_167_213 (l : za_L) (st : List Value) (w : za_W) : za_n 167 (213, l, st, w) = za_x 167 (.iaload) 213 l st w := za_n.at zcc_167 dX13_packBlock_213 rfl
theorem f_167_214 (l : za_L) (st : List Value) (w : za_W) : za_n 167 (214, l, st, w) = za_x 167 (.invokevirtual 202) 214 l st w := za_n.at zcc_167 dX13_packBlock_214 rfl
theorem f_167_217 (l : za_L) (st : List Value) (w : za_W) : za_n 167 (217, l, st, w) = za_x 167 (.iinc 7 1) 217 l st w := za_n.at zcc_167 dX13_packBlock_217 rfl
theorem f_167_220 (l : za_L) (st : List Value) (w : za_W) : za_n 167 (220, l, st, w) = za_go 165 l st w := (za_n.at zcc_167 dX13_packBlock_220 rfl).trans (za_jp.at (by decide))
theorem f_167_223 (l : za_L) (st : List Value) (w : za_W) : za_n 167 (223, l, st, w) = za_x 167 (.aload_n 0) 223 l st w := za_n.at zcc_167 dX13_packBlock_223 rfl
theorem f_167_224 (l : za_L) (st : List Value) (w : za_W) : za_n 167 (224, l, st, w) = za_x 167 (.iload_n 3) 224 l st w := za_n.at zcc_167 dX13_packBlock_224 rfl
theorem f_167_225 (l : za_L) (st : List Value) (w : za_W) : za_n 167 (225, l, st, w) = za_x 167 (.iload_n 2) 225 l st w := za_n.at zcc_167 dX13_packBlock_225 rfl
theorem f_167_226 (l : za_L) (st : List Value) (w : za_W) : za_n 167 (226, l, st, w) = za_x 167 (.iload_n 1) 226 l st w := za_n.at zcc_167 dX13_packBlock_226 rfl
theorem f_167_227 (l : za_L) (st : List Value) (w : za_W) : za_n 167 (227, l, st, w) = za_x 167 (.isub) 227 l st w := za_n.at zcc_167 dX13_packBlock_227 rfl
theorem f_167_228 (l : za_L) (st : List Value) (w : za_W) : za_n 167 (228, l, st, w) = za_x 167 (.aload_n 0) 228 l st w := za_n.at zcc_167 dX13_packBlock_228 rfl
theorem f_167_229 (l : za_L) (st : List Value) (w : za_W) : za_n 167 (229, l, st, w) = za_x 167 (.getfield 161) 229 l st w := za_n.at zcc_167 dX13_packBlock_229 rfl
theorem f_167_232 (l : za_L) (st : List Value) (w : za_W) : za_n 167 (232, l, st, w) = za_x 167 (.iload 5) 232 l st w := za_n.at zcc_167 dX13_packBlock_232 rfl
theorem f_167_234 (l : za_L) (st : List Value) (w : za_W) : za_n 167 (234, l, st, w) = za_x 167 (.aload_n 0) 234 l st w := za_n.at zcc_167 dX13_packBlock_234 rfl
theorem f_167_235 (l : za_L) (st : List Value) (w : za_W) : za_n 167 (235, l, st, w) = za_x 167 (.getfield 171) 235 l st w := za_n.at zcc_167 dX13_packBlock_235 rfl
theorem f_167_238 (l : za_L) (st : List Value) (w : za_W) : za_n 167 (238, l, st, w) = za_x 167 (.aload_n 0) 238 l st w := za_n.at zcc_167 dX13_packBlock_238 rfl
theorem f_167_239 (l : za_L) (st : List Value) (w : za_W) : za_n 167 (239, l, st, w) = za_x 167 (.getfield 189) 239 l st w := za_n.at zcc_167 dX13_packBlock_239 rfl
theorem f_167_242 (l : za_L) (st : List Value) (w : za_W) : za_n 167 (242, l, st, w) = za_x 167 (.aload_n 0) 242 l st w := za_n.at zcc_167 dX13_packBlock_242 rfl
theorem f_167_243 (l : za_L) (st : List Value) (w : za_W) : za_n 167 (243, l, st, w) = za_x 167 (.getfield 195) 243 l st w := za_n.at zcc_167 dX13_packBlock_243 rfl
theorem f_167_246 (l : za_L) (st : List Value) (w : za_W) : za_n 167 (246, l, st, w) = za_go 247 l (.int (0) :: st) w := (za_n.at zcc_167 dX13_packBlock_246 rfl).trans (congrArg (fun x => za_go 247 l (.int x :: st) w) (by decide))
theorem f_167_247 (l : za_L) (st : List Value) (w : za_W) : za_n 167 (247, l, st, w) = za_x 167 (.aload_n 0) 247 l st w := za_n.at zcc_167 dX13_packBlock_247 rfl
theorem f_167_248 (l : za_L) (st : List Value) (w : za_W) : za_n 167 (248, l, st, w) = za_x 167 (.getfield 174) 248 l st w := za_n.at zcc_167 dX13_packBlock_248 rfl
theorem f_167_251 (l : za_L) (st : List Value) (w : za_W) : za_n 167 (251, l, st, w) = za_x 167 (.iload 4) 251 l st w := za_n.at zcc_167 dX13_packBlock_251 rfl
theorem f_167_253 (l : za_L) (st : List Value) (w : za_W) : za_n 167 (253, l, st, w) = za_x 167 (.invokevirtual 240) 253 l st w := za_n.at zcc_167 dX13_packBlock_253 rfl
theorem f_167_256 (l : za_L) (st : List Value) (w : za_W) : za_n 167 (256, l, st, w) = za_x 167 (.aload_n 0) 256 l st w := za_n.at zcc_167 dX13_packBlock_256 rfl
theorem f_167_257 (l : za_L) (st : List Value) (w : za_W) : za_n 167 (257, l, st, w) = za_x 167 (.aload_n 0) 257 l st w := za_n.at zcc_167 dX13_packBlock_257 rfl
theorem f_167_258 (l : za_L) (st : List Value) (w : za_W) : za_n 167 (258, l, st, w) = za_x 167 (.getfield 189) 258 l st w := za_n.at zcc_167 dX13_packBlock_258 rfl
theorem f_167_261 (l : za_L) (st : List Value) (w : za_W) : za_n 167 (261, l, st, w) = za_x 167 (.iload 6) 261 l st w := za_n.at zcc_167 dX13_packBlock_261 rfl
theorem f_167_263 (l : za_L) (st : List Value) (w : za_W) : za_n 167 (263, l, st, w) = za_x 167 (.aload_n 0) 263 l st w := za_n.at zcc_167 dX13_packBlock_263 rfl
theorem f_167_264 (l : za_L) (st : List Value) (w : za_W) : za_n 167 (264, l, st, w) = za_x 167 (.getfield 195) 264 l st w := za_n.at zcc_167 dX13_packBlock_264 rfl
theorem f_167_267 (l : za_L) (st : List Value) (w : za_W) : za_n 167 (267, l, st, w) = za_x 167 (.invokevirtual 244) 267 l st w := za_n.at zcc_167 dX13_packBlock_267 rfl
theorem f_167_270 (l : za_L) (st : List Value) (w : za_W) : za_n 167 (270, l, st, w) = za_x 167 (.iload 4) 270 l st w := za_n.at zcc_167 dX13_packBlock_270 rfl
theorem f_167_272 (l : za_L) (st : List Value) (w : za_W) : za_n 167 (272, l, st, w) = za_x 167 (.ireturn) 272 l st w := za_n.at zcc_167 dX13_packBlock_272 rfl
theorem f_168_0 (l : za_L) (st : List Value) (w : za_W) : za_n 168 (0, l, st, w) = za_x 168 (.aload_n 0) 0 l st w := za_n.at zcc_168 dX13_pack_0 rfl
theorem f_168_1 (l : za_L) (st : List Value) (w : za_W) : za_n 168 (1, l, st, w) = za_go 2 l (.int (0) :: st) w := (za_n.at zcc_168 dX13_pack_1 rfl).trans (congrArg (fun x => za_go 2 l (.int x :: st) w) (by decide))
theorem f_168_2 (l : za_L) (st : List Value) (w : za_W) : za_n 168 (2, l, st, w) = za_x 168 (.putfield 1) 2 l st w := za_n.at zcc_168 dX13_pack_2 rfl
theorem f_168_5 (l : za_L) (st : List Value) (w : za_W) : za_n 168 (5, l, st, w) = za_x 168 (.aload_n 0) 5 l st w := za_n.at zcc_168 dX13_pack_5 rfl
theorem f_168_6 (l : za_L) (st : List Value) (w : za_W) : za_n 168 (6, l, st, w) = za_go 7 l (.int (0) :: st) w := (za_n.at zcc_168 dX13_pack_6 rfl).trans (congrArg (fun x => za_go 7 l (.int x :: st) w) (by decide))
theorem f_168_7 (l : za_L) (st : List Value) (w : za_W) : za_n 168 (7, l, st, w) = za_x 168 (.putfield 131) 7 l st w := za_n.at zcc_168 dX13_pack_7 rfl
theorem f_168_10 (l : za_L) (st : List Value) (w : za_W) : za_n 168 (10, l, st, w) = za_x 168 (.aload_n 0) 10 l st w := za_n.at zcc_168 dX13_pack_10 rfl
theorem f_168_11 (l : za_L) (st : List Value) (w : za_W) : za_n 168 (11, l, st, w) = za_go 12 l (.int (0) :: st) w := (za_n.at zcc_168 dX13_pack_11 rfl).trans (congrArg (fun x => za_go 12 l (.int x :: st) w) (by decide))
theorem f_168_12 (l : za_L) (st : List Value) (w : za_W) : za_n 168 (12, l, st, w) = za_x 168 (.putfield 140) 12 l st w := za_n.at zcc_168 dX13_pack_12 rfl
theorem f_168_15 (l : za_L) (st : List Value) (w : za_W) : za_n 168 (15, l, st, w) = za_x 168 (.aload_n 0) 15 l st w := za_n.at zcc_168 dX13_pack_15 rfl
theorem f_168_16 (l : za_L) (st : List Value) (w : za_W) : za_n 168 (16, l, st, w) = za_go 17 l (.int (0) :: st) w := (za_n.at zcc_168 dX13_pack_16 rfl).trans (congrArg (fun x => za_go 17 l (.int x :: st) w) (by decide))
theorem f_168_17 (l : za_L) (st : List Value) (w : za_W) : za_n 168 (17, l, st, w) = za_x 168 (.putfield 146) 17 l st w := za_n.at zcc_168 dX13_pack_17 rfl
theorem f_168_20 (l : za_L) (st : List Value) (w : za_W) : za_n 168 (20, l, st, w) = za_x 168 (.aload_n 0) 20 l st w := za_n.at zcc_168 dX13_pack_20 rfl
theorem f_168_21 (l : za_L) (st : List Value) (w : za_W) : za_n 168 (21, l, st, w) = za_go 22 l (.int (0) :: st) w := (za_n.at zcc_168 dX13_pack_21 rfl).trans (congrArg (fun x => za_go 22 l (.int x :: st) w) (by decide))
theorem f_168_22 (l : za_L) (st : List Value) (w : za_W) : za_n 168 (22, l, st, w) = za_x 168 (.putfield 150) 22 l st w := za_n.at zcc_168 dX13_pack_22 rfl
theorem f_168_25 (l : za_L) (st : List Value) (w : za_W) : za_n 168 (25, l, st, w) = za_x 168 (.aload_n 0) 25 l st w := za_n.at zcc_168 dX13_pack_25 rfl
theorem f_168_26 (l : za_L) (st : List Value) (w : za_W) : za_n 168 (26, l, st, w) = za_go 27 l (.int (0) :: st) w := (za_n.at zcc_168 dX13_pack_26 rfl).trans (congrArg (fun x => za_go 27 l (.int x :: st) w) (by decide))
theorem f_168_27 (l : za_L) (st : List Value) (w : za_W) : za_n 168 (27, l, st, w) = za_x 168 (.putfield 153) 27 l st w := za_n.at zcc_168 dX13_pack_27 rfl
theorem f_168_30 (l : za_L) (st : List Value) (w : za_W) : za_n 168 (30, l, st, w) = za_x 168 (.aload_n 0) 30 l st w := za_n.at zcc_168 dX13_pack_30 rfl
theorem f_168_31 (l : za_L) (st : List Value) (w : za_W) : za_n 168 (31, l, st, w) = za_x 168 (.ldc2_w 248) 31 l st w := za_n.at zcc_168 dX13_pack_31 rfl
theorem f_168_34 (l : za_L) (st : List Value) (w : za_W) : za_n 168 (34, l, st, w) = za_go 36 l (.int (8) :: st) w := (za_n.at zcc_168 dX13_pack_34 rfl).trans (congrArg (fun x => za_go 36 l (.int x :: st) w) (by decide))
theorem f_168_36 (l : za_L) (st : List Value) (w : za_W) : za_n 168 (36, l, st, w) = za_x 168 (.invokevirtual 202) 36 l st w := za_n.at zcc_168 dX13_pack_36 rfl
theorem f_168_39 (l : za_L) (st : List Value) (w : za_W) : za_n 168 (39, l, st, w) = za_x 168 (.aload_n 0) 39 l st w := za_n.at zcc_168 dX13_pack_39 rfl
theorem f_168_40 (l : za_L) (st : List Value) (w : za_W) : za_n 168 (40, l, st, w) = za_x 168 (.ldc2_w 250) 40 l st w := za_n.at zcc_168 dX13_pack_40 rfl
theorem f_168_43 (l : za_L) (st : List Value) (w : za_W) : za_n 168 (43, l, st, w) = za_go 45 l (.int (8) :: st) w := (za_n.at zcc_168 dX13_pack_43 rfl).trans (congrArg (fun x => za_go 45 l (.int x :: st) w) (by decide))
theorem f_168_45 (l : za_L) (st : List Value) (w : za_W) : za_n 168 (45, l, st, w) = za_x 168 (.invokevirtual 202) 45 l st w := za_n.at zcc_168 dX13_pack_45 rfl
theorem f_168_48 (l : za_L) (st : List Value) (w : za_W) : za_n 168 (48, l, st, w) = za_x 168 (.aload_n 0) 48 l st w := za_n.at zcc_168 dX13_pack_48 rfl
theorem f_168_49 (l : za_L) (st : List Value) (w : za_W) : za_n 168 (49, l, st, w) = za_x 168 (.ldc2_w 252) 49 l st w := za_n.at zcc_168 dX13_pack_49 rfl
theorem f_168_52 (l : za_L) (st : List Value) (w : za_W) : za_n 168 (52, l, st, w) = za_go 54 l (.int (8) :: st) w := (za_n.at zcc_168 dX13_pack_52 rfl).trans (congrArg (fun x => za_go 54 l (.int x :: st) w) (by decide))
theorem f_168_54 (l : za_L) (st : List Value) (w : za_W) : za_n 168 (54, l, st, w) = za_x 168 (.invokevirtual 202) 54 l st w := za_n.at zcc_168 dX13_pack_54 rfl
theorem f_168_57 (l : za_L) (st : List Value) (w : za_W) : za_n 168 (57, l, st, w) = za_x 168 (.aload_n 0) 57 l st w := za_n.at zcc_168 dX13_pack_57 rfl
theorem f_168_58 (l : za_L) (st : List Value) (w : za_W) : za_n 168 (58, l, st, w) = za_go 60 l (.int (48) :: st) w := (za_n.at zcc_168 dX13_pack_58 rfl).trans (congrArg (fun x => za_go 60 l (.int x :: st) w) (by decide))
theorem f_168_60 (l : za_L) (st : List Value) (w : za_W) : za_n 168 (60, l, st, w) = za_x 168 (.aload_n 0) 60 l st w := za_n.at zcc_168 dX13_pack_60 rfl
theorem f_168_61 (l : za_L) (st : List Value) (w : za_W) : za_n 168 (61, l, st, w) = za_x 168 (.getfield 106) 61 l st w := za_n.at zcc_168 dX13_pack_61 rfl
theorem f_168_64 (l : za_L) (st : List Value) (w : za_W) : za_n 168 (64, l, st, w) = za_x 168 (.iadd) 64 l st w := za_n.at zcc_168 dX13_pack_64 rfl
theorem f_168_65 (l : za_L) (st : List Value) (w : za_W) : za_n 168 (65, l, st, w) = za_x 168 (.i2l) 65 l st w := za_n.at zcc_168 dX13_pack_65 rfl
theorem f_168_66 (l : za_L) (st : List Value) (w : za_W) : za_n 168 (66, l, st, w) = za_go 68 l (.int (8) :: st) w := (za_n.at zcc_168 dX13_pack_66 rfl).trans (congrArg (fun x => za_go 68 l (.int x :: st) w) (by decide))
theorem f_168_68 (l : za_L) (st : List Value) (w : za_W) : za_n 168 (68, l, st, w) = za_x 168 (.invokevirtual 202) 68 l st w := za_n.at zcc_168 dX13_pack_68 rfl
theorem f_168_71 (l : za_L) (st : List Value) (w : za_W) : za_n 168 (71, l, st, w) = za_go 72 l (.int (0) :: st) w := (za_n.at zcc_168 dX13_pack_71 rfl).trans (congrArg (fun x => za_go 72 l (.int x :: st) w) (by decide))
theorem f_168_72 (l : za_L) (st : List Value) (w : za_W) : za_n 168 (72, l, st, w) = za_x 168 (.istore_n 1) 72 l st w := za_n.at zcc_168 dX13_pack_72 rfl
theorem f_168_73 (l : za_L) (st : List Value) (w : za_W) : za_n 168 (73, l, st, w) = za_go 74 l (.int (0) :: st) w := (za_n.at zcc_168 dX13_pack_73 rfl).trans (congrArg (fun x => za_go 74 l (.int x :: st) w) (by decide))
theorem f_168_74 (l : za_L) (st : List Value) (w : za_W) : za_n 168 (74, l, st, w) = za_x 168 (.istore_n 2) 74 l st w := za_n.at zcc_168 dX13_pack_74 rfl
theorem f_168_75 (l : za_L) (st : List Value) (w : za_W) : za_n 168 (75, l, st, w) = za_x 168 (.iload_n 2) 75 l st w := za_n.at zcc_168 dX13_pack_75 rfl
theorem f_168_76 (l : za_L) (st : List Value) (w : za_W) : za_n 168 (76, l, st, w) = za_x 168 (.aload_n 0) 76 l st w := za_n.at zcc_168 dX13_pack_76 rfl
theorem f_168_77 (l : za_L) (st : List Value) (w : za_W) : za_n 168 (77, l, st, w) = za_x 168 (.getfield 109) 77 l st w := za_n.at zcc_168 dX13_pack_77 rfl
theorem f_168_80 (l : za_L) (st : List Value) (w : za_W) : za_n 168 (80, l, st, w) = za_x 168 (.if_icmp .ge 193) 80 l st w := za_n.at zcc_168 dX13_pack_80 rfl
theorem f_168_83 (l : za_L) (st : List Value) (w : za_W) : za_n 168 (83, l, st, w) = za_x 168 (.iload_n 2) 83 l st w := za_n.at zcc_168 dX13_pack_83 rfl
theorem f_168_84 (l : za_L) (st : List Value) (w : za_W) : za_n 168 (84, l, st, w) = za_x 168 (.istore_n 3) 84 l st w := za_n.at zcc_168 dX13_pack_84 rfl
theorem f_168_85 (l : za_L) (st : List Value) (w : za_W) : za_n 168 (85, l, st, w) = za_x 168 (.aload_n 0) 85 l st w := za_n.at zcc_168 dX13_pack_85 rfl
theorem f_168_86 (l : za_L) (st : List Value) (w : za_W) : za_n 168 (86, l, st, w) = za_go 87 l (.int (0) :: st) w := (za_n.at zcc_168 dX13_pack_86 rfl).trans (congrArg (fun x => za_go 87 l (.int x :: st) w) (by decide))
theorem f_168_87 (l : za_L) (st : List Value) (w : za_W) : za_n 168 (87, l, st, w) = za_x 168 (.putfield 161) 87 l st w := za_n.at zcc_168 dX13_pack_87 rfl
theorem f_168_90 (l : za_L) (st : List Value) (w : za_W) : za_n 168 (90, l, st, w) = za_go 91 l (.int (1) :: st) w := (za_n.at zcc_168 dX13_pack_90 rfl).trans (congrArg (fun x => za_go 91 l (.int x :: st) w) (by decide))
theorem f_168_91 (l : za_L) (st : List Value) (w : za_W) : za_n 168 (91, l, st, w) = za_x 168 (.istore 4) 91 l st w := za_n.at zcc_168 dX13_pack_91 rfl
theorem f_168_93 (l : za_L) (st : List Value) (w : za_W) : za_n 168 (93, l, st, w) = za_x 168 (.iload_n 2) 93 l st w := za_n.at zcc_168 dX13_pack_93 rfl
theorem f_168_94 (l : za_L) (st : List Value) (w : za_W) : za_n 168 (94, l, st, w) = za_x 168 (.aload_n 0) 94 l st w := za_n.at zcc_168 dX13_pack_94 rfl
theorem f_168_95 (l : za_L) (st : List Value) (w : za_W) : za_n 168 (95, l, st, w) = za_x 168 (.getfield 109) 95 l st w := za_n.at zcc_168 dX13_pack_95 rfl
theorem f_168_98 (l : za_L) (st : List Value) (w : za_W) : za_n 168 (98, l, st, w) = za_x 168 (.if_icmp .ge 161) 98 l st w := za_n.at zcc_168 dX13_pack_98 rfl
theorem f_168_101 (l : za_L) (st : List Value) (w : za_W) : za_n 168 (101, l, st, w) = za_x 168 (.iload 4) 101 l st w := za_n.at zcc_168 dX13_pack_101 rfl
theorem f_168_103 (l : za_L) (st : List Value) (w : za_W) : za_n 168 (103, l, st, w) = za_x 168 (.ifCond .eq 156) 103 l st w := za_n.at zcc_168 dX13_pack_103 rfl
theorem f_168_106 (l : za_L) (st : List Value) (w : za_W) : za_n 168 (106, l, st, w) = za_go 107 l (.int (1) :: st) w := (za_n.at zcc_168 dX13_pack_106 rfl).trans (congrArg (fun x => za_go 107 l (.int x :: st) w) (by decide))
theorem f_168_107 (l : za_L) (st : List Value) (w : za_W) : za_n 168 (107, l, st, w) = za_x 168 (.istore 5) 107 l st w := za_n.at zcc_168 dX13_pack_107 rfl
theorem f_168_109 (l : za_L) (st : List Value) (w : za_W) : za_n 168 (109, l, st, w) = za_x 168 (.iload 5) 109 l st w := za_n.at zcc_168 dX13_pack_109 rfl
theorem f_168_111 (l : za_L) (st : List Value) (w : za_W) : za_n 168 (111, l, st, w) = za_go 114 l (.int (255) :: st) w := (za_n.at zcc_168 dX13_pack_111 rfl).trans (congrArg (fun x => za_go 114 l (.int x :: st) w) (by decide))
theorem f_168_114 (l : za_L) (st : List Value) (w : za_W) : za_n 168 (114, l, st, w) = za_x 168 (.if_icmp .ge 38) 114 l st w := za_n.at zcc_168 dX13_pack_114 rfl
theorem f_168_117 (l : za_L) (st : List Value) (w : za_W) : za_n 168 (117, l, st, w) = za_x 168 (.iload_n 2) 117 l st w := za_n.at zcc_168 dX13_pack_117 rfl
theorem f_168_118 (l : za_L) (st : List Value) (w : za_W) : za_n 168 (118, l, st, w) = za_x 168 (.iload 5) 118 l st w := za_n.at zcc_168 dX13_pack_118 rfl
theorem f_168_120 (l : za_L) (st : List Value) (w : za_W) : za_n 168 (120, l, st, w) = za_x 168 (.iadd) 120 l st w := za_n.at zcc_168 dX13_pack_120 rfl
theorem f_168_121 (l : za_L) (st : List Value) (w : za_W) : za_n 168 (121, l, st, w) = za_x 168 (.aload_n 0) 121 l st w := za_n.at zcc_168 dX13_pack_121 rfl
theorem f_168_122 (l : za_L) (st : List Value) (w : za_W) : za_n 168 (122, l, st, w) = za_x 168 (.getfield 109) 122 l st w := za_n.at zcc_168 dX13_pack_122 rfl
theorem f_168_125 (l : za_L) (st : List Value) (w : za_W) : za_n 168 (125, l, st, w) = za_x 168 (.if_icmp .ge 27) 125 l st w := za_n.at zcc_168 dX13_pack_125 rfl
theorem f_168_128 (l : za_L) (st : List Value) (w : za_W) : za_n 168 (128, l, st, w) = za_x 168 (.aload_n 0) 128 l st w := za_n.at zcc_168 dX13_pack_128 rfl
theorem f_168_129 (l : za_L) (st : List Value) (w : za_W) : za_n 168 (129, l, st, w) = za_x 168 (.getfield 20) 129 l st w := za_n.at zcc_168 dX13_pack_129 rfl
theorem f_168_132 (l : za_L) (st : List Value) (w : za_W) : za_n 168 (132, l, st, w) = za_x 168 (.iload_n 2) 132 l st w := za_n.at zcc_168 dX13_pack_132 rfl
theorem f_168_133 (l : za_L) (st : List Value) (w : za_W) : za_n 168 (133, l, st, w) = za_x 168 (.iload 5) 133 l st w := za_n.at zcc_168 dX13_pack_133 rfl
theorem f_168_135 (l : za_L) (st : List Value) (w : za_W) : za_n 168 (135, l, st, w) = za_x 168 (.iadd) 135 l st w := za_n.at zcc_168 dX13_pack_135 rfl
theorem f_168_136 (l : za_L) (st : List Value) (w : za_W) : za_n 168 (136, l, st, w) = za_x 168 (.baload) 136 l st w := za_n.at zcc_168 dX13_pack_136 rfl
theorem f_168_137 (l : za_L) (st : List Value) (w : za_W) : za_n 168 (137, l, st, w) = za_x 168 (.aload_n 0) 137 l st w := za_n.at zcc_168 dX13_pack_137 rfl
theorem f_168_138 (l : za_L) (st : List Value) (w : za_W) : za_n 168 (138, l, st, w) = za_x 168 (.getfield 20) 138 l st w := za_n.at zcc_168 dX13_pack_138 rfl
theorem f_168_141 (l : za_L) (st : List Value) (w : za_W) : za_n 168 (141, l, st, w) = za_x 168 (.iload_n 2) 141 l st w := za_n.at zcc_168 dX13_pack_141 rfl
theorem f_168_142 (l : za_L) (st : List Value) (w : za_W) : za_n 168 (142, l, st, w) = za_x 168 (.baload) 142 l st w := za_n.at zcc_168 dX13_pack_142 rfl
theorem f_168_143 (l : za_L) (st : List Value) (w : za_W) : za_n 168 (143, l, st, w) = za_x 168 (.if_icmp .ne 9) 143 l st w := za_n.at zcc_168 dX13_pack_143 rfl
theorem f_168_146 (l : za_L) (st : List Value) (w : za_W) : za_n 168 (146, l, st, w) = za_x 168 (.iinc 5 1) 146 l st w := za_n.at zcc_168 dX13_pack_146 rfl
theorem f_168_149 (l : za_L) (st : List Value) (w : za_W) : za_n 168 (149, l, st, w) = za_go 109 l st w := (za_n.at zcc_168 dX13_pack_149 rfl).trans (za_jp.at (by decide))
theorem f_168_152 (l : za_L) (st : List Value) (w : za_W) : za_n 168 (152, l, st, w) = za_x 168 (.iload 5) 152 l st w := za_n.at zcc_168 dX13_pack_152 rfl
theorem f_168_154 (l : za_L) (st : List Value) (w : za_W) : za_n 168 (154, l, st, w) = za_go 155 l (.int (4) :: st) w := (za_n.at zcc_168 dX13_pack_154 rfl).trans (congrArg (fun x => za_go 155 l (.int x :: st) w) (by decide))
theorem f_168_155 (l : za_L) (st : List Value) (w : za_W) : za_n 168 (155, l, st, w) = za_x 168 (.if_icmp .ge 8) 155 l st w := za_n.at zcc_168 dX13_pack_155 rfl
theorem f_168_158 (l : za_L) (st : List Value) (w : za_W) : za_n 168 (158, l, st, w) = za_x 168 (.iload 5) 158 l st w := za_n.at zcc_168 dX13_pack_158 rfl
theorem f_168_160 (l : za_L) (st : List Value) (w : za_W) : za_n 168 (160, l, st, w) = za_go 164 l st w := (za_n.at zcc_168 dX13_pack_160 rfl).trans (za_jp.at (by decide))
theorem f_168_163 (l : za_L) (st : List Value) (w : za_W) : za_n 168 (163, l, st, w) = za_go 164 l (.int (5) :: st) w := (za_n.at zcc_168 dX13_pack_163 rfl).trans (congrArg (fun x => za_go 164 l (.int x :: st) w) (by decide))
theorem f_168_164 (l : za_L) (st : List Value) (w : za_W) : za_n 168 (164, l, st, w) = za_x 168 (.istore 6) 164 l st w := za_n.at zcc_168 dX13_pack_164 rfl
theorem f_168_166 (l : za_L) (st : List Value) (w : za_W) : za_n 168 (166, l, st, w) = za_x 168 (.aload_n 0) 166 l st w := za_n.at zcc_168 dX13_pack_166 rfl
theorem f_168_167 (l : za_L) (st : List Value) (w : za_W) : za_n 168 (167, l, st, w) = za_x 168 (.getfield 161) 167 l st w := za_n.at zcc_168 dX13_pack_167 rfl
theorem f_168_170 (l : za_L) (st : List Value) (w : za_W) : za_n 168 (170, l, st, w) = za_x 168 (.iload 6) 170 l st w := za_n.at zcc_168 dX13_pack_170 rfl
theorem f_168_172 (l : za_L) (st : List Value) (w : za_W) : za_n 168 (172, l, st, w) = za_x 168 (.iadd) 172 l st w := za_n.at zcc_168 dX13_pack_172 rfl
theorem f_168_173 (l : za_L) (st : List Value) (w : za_W) : za_n 168 (173, l, st, w) = za_go 176 l (.int (200) :: st) w := (za_n.at zcc_168 dX13_pack_173 rfl).trans (congrArg (fun x => za_go 176 l (.int x :: st) w) (by decide))
theorem f_168_176 (l : za_L) (st : List Value) (w : za_W) : za_n 168 (176, l, st, w) = za_x 168 (.aload_n 0) 176 l st w := za_n.at zcc_168 dX13_pack_176 rfl
theorem f_168_177 (l : za_L) (st : List Value) (w : za_W) : za_n 168 (177, l, st, w) = za_x 168 (.getfield 106) 177 l st w := za_n.at zcc_168 dX13_pack_177 rfl
theorem f_168_180 (l : za_L) (st : List Value) (w : za_W) : za_n 168 (180, l, st, w) = za_x 168 (.imul) 180 l st w := za_n.at zcc_168 dX13_pack_180 rfl
theorem f_168_181 (l : za_L) (st : List Value) (w : za_W) : za_n 168 (181, l, st, w) = za_x 168 (.if_icmp .gt 7) 181 l st w := za_n.at zcc_168 dX13_pack_181 rfl
theorem f_168_184 (l : za_L) (st : List Value) (w : za_W) : za_n 168 (184, l, st, w) = za_go 185 l (.int (1) :: st) w := (za_n.at zcc_168 dX13_pack_184 rfl).trans (congrArg (fun x => za_go 185 l (.int x :: st) w) (by decide))
theorem f_168_185 (l : za_L) (st : List Value) (w : za_W) : za_n 168 (185, l, st, w) = za_go 189 l st w := (za_n.at zcc_168 dX13_pack_185 rfl).trans (za_jp.at (by decide))
theorem f_168_188 (l : za_L) (st : List Value) (w : za_W) : za_n 168 (188, l, st, w) = za_go 189 l (.int (0) :: st) w := (za_n.at zcc_168 dX13_pack_188 rfl).trans (congrArg (fun x => za_go 189 l (.int x :: st) w) (by decide))
theorem f_168_189 (l : za_L) (st : List Value) (w : za_W) : za_n 168 (189, l, st, w) = za_x 168 (.istore 4) 189 l st w := za_n.at zcc_168 dX13_pack_189 rfl
theorem f_168_191 (l : za_L) (st : List Value) (w : za_W) : za_n 168 (191, l, st, w) = za_x 168 (.iload 4) 191 l st w := za_n.at zcc_168 dX13_pack_191 rfl
theorem f_168_193 (l : za_L) (st : List Value) (w : za_W) : za_n 168 (193, l, st, w) = za_x 168 (.ifCond .eq 63) 193 l st w := za_n.at zcc_168 dX13_pack_193 rfl
theorem f_168_196 (l : za_L) (st : List Value) (w : za_W) : za_n 168 (196, l, st, w) = za_go 197 l (.int (0) :: st) w := (za_n.at zcc_168 dX13_pack_196 rfl).trans (congrArg (fun x => za_go 197 l (.int x :: st) w) (by decide))
theorem f_168_197 (l : za_L) (st : List Value) (w : za_W) : za_n 168 (197, l, st, w) = za_x 168 (.istore 7) 197 l st w := za_n.at zcc_168 dX13_pack_197 rfl
theorem f_168_199 (l : za_L) (st : List Value) (w : za_W) : za_n 168 (199, l, st, w) = za_x 168 (.iload 7) 199 l st w := za_n.at zcc_168 dX13_pack_199 rfl
theorem f_168_201 (l : za_L) (st : List Value) (w : za_W) : za_n 168 (201, l, st, w) = za_x 168 (.iload 6) 201 l st w := za_n.at zcc_168 dX13_pack_201 rfl
theorem f_168_203 (l : za_L) (st : List Value) (w : za_W) : za_n 168 (203, l, st, w) = za_x 168 (.if_icmp .ge 48) 203 l st w := za_n.at zcc_168 dX13_pack_203 rfl
theorem f_168_206 (l : za_L) (st : List Value) (w : za_W) : za_n 168 (206, l, st, w) = za_x 168 (.aload_n 0) 206 l st w := za_n.at zcc_168 dX13_pack_206 rfl
theorem f_168_207 (l : za_L) (st : List Value) (w : za_W) : za_n 168 (207, l, st, w) = za_x 168 (.getfield 44) 207 l st w := za_n.at zcc_168 dX13_pack_207 rfl
theorem f_168_210 (l : za_L) (st : List Value) (w : za_W) : za_n 168 (210, l, st, w) = za_x 168 (.aload_n 0) 210 l st w := za_n.at zcc_168 dX13_pack_210 rfl
theorem f_168_211 (l : za_L) (st : List Value) (w : za_W) : za_n 168 (211, l, st, w) = za_x 168 (.getfield 161) 211 l st w := za_n.at zcc_168 dX13_pack_211 rfl
theorem f_168_214 (l : za_L) (st : List Value) (w : za_W) : za_n 168 (214, l, st, w) = za_x 168 (.iload 7) 214 l st w := za_n.at zcc_168 dX13_pack_214 rfl
theorem f_168_216 (l : za_L) (st : List Value) (w : za_W) : za_n 168 (216, l, st, w) = za_go 217 l (.int (4) :: st) w := (za_n.at zcc_168 dX13_pack_216 rfl).trans (congrArg (fun x => za_go 217 l (.int x :: st) w) (by decide))
theorem f_168_217 (l : za_L) (st : List Value) (w : za_W) : za_n 168 (217, l, st, w) = za_x 168 (.if_icmp .ge 12) 217 l st w := za_n.at zcc_168 dX13_pack_217 rfl
theorem f_168_220 (l : za_L) (st : List Value) (w : za_W) : za_n 168 (220, l, st, w) = za_x 168 (.aload_n 0) 220 l st w := za_n.at zcc_168 dX13_pack_220 rfl
theorem f_168_221 (l : za_L) (st : List Value) (w : za_W) : za_n 168 (221, l, st, w) = za_x 168 (.getfield 20) 221 l st w := za_n.at zcc_168 dX13_pack_221 rfl
theorem f_168_224 (l : za_L) (st : List Value) (w : za_W) : za_n 168 (224, l, st, w) = za_x 168 (.iload_n 2) 224 l st w := za_n.at zcc_168 dX13_pack_224 rfl
theorem f_168_225 (l : za_L) (st : List Value) (w : za_W) : za_n 168 (225, l, st, w) = za_x 168 (.baload) 225 l st w := za_n.at zcc_168 dX13_pack_225 rfl
theorem f_168_226 (l : za_L) (st : List Value) (w : za_W) : za_n 168 (226, l, st, w) = za_go 234 l st w := (za_n.at zcc_168 dX13_pack_226 rfl).trans (za_jp.at (by decide))
theorem f_168_229 (l : za_L) (st : List Value) (w : za_W) : za_n 168 (229, l, st, w) = za_x 168 (.iload 5) 229 l st w := za_n.at zcc_168 dX13_pack_229 rfl
theorem f_168_231 (l : za_L) (st : List Value) (w : za_W) : za_n 168 (231, l, st, w) = za_go 232 l (.int (4) :: st) w := (za_n.at zcc_168 dX13_pack_231 rfl).trans (congrArg (fun x => za_go 232 l (.int x :: st) w) (by decide))
theorem f_168_232 (l : za_L) (st : List Value) (w : za_W) : za_n 168 (232, l, st, w) = za_x 168 (.isub) 232 l st w := za_n.at zcc_168 dX13_pack_232 rfl
theorem f_168_233 (l : za_L) (st : List Value) (w : za_W) : za_n 168 (233, l, st, w) = za_x 168 (.i2b) 233 l st w := za_n.at zcc_168 dX13_pack_233 rfl
theorem f_168_234 (l : za_L) (st : List Value) (w : za_W) : za_n 168 (234, l, st, w) = za_x 168 (.bastore) 234 l st w := za_n.at zcc_168 dX13_pack_234 rfl
theorem f_168_235 (l : za_L) (st : List Value) (w : za_W) : za_n 168 (235, l, st, w) = za_x 168 (.aload_n 0) 235 l st w := za_n.at zcc_168 dX13_pack_235 rfl
theorem f_168_236 (l : za_L) (st : List Value) (w : za_W) : za_n 168 (236, l, st, w) = za_x 168 (.dup) 236 l st w := za_n.at zcc_168 dX13_pack_236 rfl
theorem f_168_237 (l : za_L) (st : List Value) (w : za_W) : za_n 168 (237, l, st, w) = za_x 168 (.getfield 161) 237 l st w := za_n.at zcc_168 dX13_pack_237 rfl
theorem f_168_240 (l : za_L) (st : List Value) (w : za_W) : za_n 168 (240, l, st, w) = za_go 241 l (.int (1) :: st) w := (za_n.at zcc_168 dX13_pack_240 rfl).trans (congrArg (fun x => za_go 241 l (.int x :: st) w) (by decide))
theorem f_168_241 (l : za_L) (st : List Value) (w : za_W) : za_n 168 (241, l, st, w) = za_x 168 (.iadd) 241 l st w := za_n.at zcc_168 dX13_pack_241 rfl
theorem f_168_242 (l : za_L) (st : List Value) (w : za_W) : za_n 168 (242, l, st, w) = za_x 168 (.putfield 161) 242 l st w := za_n.at zcc_168 dX13_pack_242 rfl
theorem f_168_245 (l : za_L) (st : List Value) (w : za_W) : za_n 168 (245, l, st, w) = za_x 168 (.iinc 7 1) 245 l st w := za_n.at zcc_168 dX13_pack_245 rfl
theorem f_168_248 (l : za_L) (st : List Value) (w : za_W) : za_n 168 (248, l, st, w) = za_go 199 l st w := (za_n.at zcc_168 dX13_pack_248 rfl).trans (za_jp.at (by decide))
theorem f_168_251 (l : za_L) (st : List Value) (w : za_W) : za_n 168 (251, l, st, w) = za_x 168 (.iload_n 2) 251 l st w := za_n.at zcc_168 dX13_pack_251 rfl
theorem f_168_252 (l : za_L) (st : List Value) (w : za_W) : za_n 168 (252, l, st, w) = za_x 168 (.iload 5) 252 l st w := za_n.at zcc_168 dX13_pack_252 rfl
theorem f_168_254 (l : za_L) (st : List Value) (w : za_W) : za_n 168 (254, l, st, w) = za_x 168 (.iadd) 254 l st w := za_n.at zcc_168 dX13_pack_254 rfl
theorem f_168_255 (l : za_L) (st : List Value) (w : za_W) : za_n 168 (255, l, st, w) = za_x 168 (.istore_n 2) 255 l st w := za_n.at zcc_168 dX13_pack_255 rfl
theorem f_168_256 (l : za_L) (st : List Value) (w : za_W) : za_n 168 (256, l, st, w) = za_go 93 l st w := (za_n.at zcc_168 dX13_pack_256 rfl).trans (za_jp.at (by decide))
theorem f_168_259 (l : za_L) (st : List Value) (w : za_W) : za_n 168 (259, l, st, w) = za_x 168 (.iload_n 1) 259 l st w := za_n.at zcc_168 dX13_pack_259 rfl
theorem f_168_260 (l : za_L) (st : List Value) (w : za_W) : za_n 168 (260, l, st, w) = za_x 168 (.aload_n 0) 260 l st w := za_n.at zcc_168 dX13_pack_260 rfl
theorem f_168_261 (l : za_L) (st : List Value) (w : za_W) : za_n 168 (261, l, st, w) = za_x 168 (.iload_n 3) 261 l st w := za_n.at zcc_168 dX13_pack_261 rfl
theorem f_168_262 (l : za_L) (st : List Value) (w : za_W) : za_n 168 (262, l, st, w) = za_x 168 (.iload_n 2) 262 l st w := za_n.at zcc_168 dX13_pack_262 rfl
theorem f_168_263 (l : za_L) (st : List Value) (w : za_W) : za_n 168 (263, l, st, w) = za_x 168 (.invokevirtual 254) 263 l st w := za_n.at zcc_168 dX13_pack_263 rfl
theorem f_168_266 (l : za_L) (st : List Value) (w : za_W) : za_n 168 (266, l, st, w) = za_x 168 (.invokestatic 257) 266 l st w := za_n.at zcc_168 dX13_pack_266 rfl
theorem f_168_269 (l : za_L) (st : List Value) (w : za_W) : za_n 168 (269, l, st, w) = za_x 168 (.istore_n 1) 269 l st w := za_n.at zcc_168 dX13_pack_269 rfl
theorem f_168_270 (l : za_L) (st : List Value) (w : za_W) : za_n 168 (270, l, st, w) = za_go 75 l st w := (za_n.at zcc_168 dX13_pack_270 rfl).trans (za_jp.at (by decide))
theorem f_168_273 (l : za_L) (st : List Value) (w : za_W) : za_n 168 (273, l, st, w) = za_x 168 (.aload_n 0) 273 l st w := za_n.at zcc_168 dX13_pack_273 rfl
theorem f_168_274 (l : za_L) (st : List Value) (w : za_W) : za_n 168 (274, l, st, w) = za_go 275 l (.int (0) :: st) w := (za_n.at zcc_168 dX13_pack_274 rfl).trans (congrArg (fun x => za_go 275 l (.int x :: st) w) (by decide))
theorem f_168_275 (l : za_L) (st : List Value) (w : za_W) : za_n 168 (275, l, st, w) = za_x 168 (.putfield 109) 275 l st w := za_n.at zcc_168 dX13_pack_275 rfl
theorem f_168_278 (l : za_L) (st : List Value) (w : za_W) : za_n 168 (278, l, st, w) = za_x 168 (.aload_n 0) 278 l st w := za_n.at zcc_168 dX13_pack_278 rfl
theorem f_168_279 (l : za_L) (st : List Value) (w : za_W) : za_n 168 (279, l, st, w) = za_x 168 (.ldc2_w 260) 279 l st w := za_n.at zcc_168 dX13_pack_279 rfl
theorem f_168_282 (l : za_L) (st : List Value) (w : za_W) : za_n 168 (282, l, st, w) = za_go 284 l (.int (48) :: st) w := (za_n.at zcc_168 dX13_pack_282 rfl).trans (congrArg (fun x => za_go 284 l (.int x :: st) w) (by decide))
theorem f_168_284 (l : za_L) (st : List Value) (w : za_W) : za_n 168 (284, l, st, w) = za_x 168 (.invokevirtual 202) 284 l st w := za_n.at zcc_168 dX13_pack_284 rfl
theorem f_168_287 (l : za_L) (st : List Value) (w : za_W) : za_n 168 (287, l, st, w) = za_x 168 (.aload_n 0) 287 l st w := za_n.at zcc_168 dX13_pack_287 rfl
theorem f_168_288 (l : za_L) (st : List Value) (w : za_W) : za_n 168 (288, l, st, w) = za_x 168 (.iload_n 1) 288 l st w := za_n.at zcc_168 dX13_pack_288 rfl
theorem f_168_289 (l : za_L) (st : List Value) (w : za_W) : za_n 168 (289, l, st, w) = za_x 168 (.i2l) 289 l st w := za_n.at zcc_168 dX13_pack_289 rfl
theorem f_168_290 (l : za_L) (st : List Value) (w : za_W) : za_n 168 (290, l, st, w) = za_x 168 (.ldc2_w 226) 290 l st w := za_n.at zcc_168 dX13_pack_290 rfl
theorem f_168_293 (l : za_L) (st : List Value) (w : za_W) : za_n 168 (293, l, st, w) = za_x 168 (.land) 293 l st w := za_n.at zcc_168 dX13_pack_293 rfl
theorem f_168_294 (l : za_L) (st : List Value) (w : za_W) : za_n 168 (294, l, st, w) = za_go 296 l (.int (32) :: st) w := (za_n.at zcc_168 dX13_pack_294 rfl).trans (congrArg (fun x => za_go 296 l (.int x :: st) w) (by decide))
theorem f_168_296 (l : za_L) (st : List Value) (w : za_W) : za_n 168 (296, l, st, w) = za_x 168 (.invokevirtual 202) 296 l st w := za_n.at zcc_168 dX13_pack_296 rfl
theorem f_168_299 (l : za_L) (st : List Value) (w : za_W) : za_n 168 (299, l, st, w) = za_x 168 (.aload_n 0) 299 l st w := za_n.at zcc_168 dX13_pack_299 rfl
theorem f_168_300 (l : za_L) (st : List Value) (w : za_W) : za_n 168 (300, l, st, w) = za_x 168 (.aload_n 0) 300 l st w := za_n.at zcc_168 dX13_pack_300 rfl
theorem f_168_301 (l : za_L) (st : List Value) (w : za_W) : za_n 168 (301, l, st, w) = za_x 168 (.getfield 150) 301 l st w := za_n.at zcc_168 dX13_pack_301 rfl
theorem f_168_304 (l : za_L) (st : List Value) (w : za_W) : za_n 168 (304, l, st, w) = za_go 306 l (.int (7) :: st) w := (za_n.at zcc_168 dX13_pack_304 rfl).trans (congrArg (fun x => za_go 306 l (.int x :: st) w) (by decide))
theorem f_168_306 (l : za_L) (st : List Value) (w : za_W) : za_n 168 (306, l, st, w) = za_x 168 (.iadd) 306 l st w := za_n.at zcc_168 dX13_pack_306 rfl
theorem f_168_307 (l : za_L) (st : List Value) (w : za_W) : za_n 168 (307, l, st, w) = za_go 309 l (.int (8) :: st) w := (za_n.at zcc_168 dX13_pack_307 rfl).trans (congrArg (fun x => za_go 309 l (.int x :: st) w) (by decide))
theorem f_168_309 (l : za_L) (st : List Value) (w : za_W) : za_n 168 (309, l, st, w) = za_x 168 (.idiv) 309 l st w := za_n.at zcc_168 dX13_pack_309 rfl
theorem f_168_310 (l : za_L) (st : List Value) (w : za_W) : za_n 168 (310, l, st, w) = za_x 168 (.putfield 123) 310 l st w := za_n.at zcc_168 dX13_pack_310 rfl
theorem f_168_313 (l : za_L) (st : List Value) (w : za_W) : za_n 168 (313, l, st, w) = za_x 168 (.aload_n 0) 313 l st w := za_n.at zcc_168 dX13_pack_313 rfl
theorem f_168_314 (l : za_L) (st : List Value) (w : za_W) : za_n 168 (314, l, st, w) = za_x 168 (.getfield 153) 314 l st w := za_n.at zcc_168 dX13_pack_314 rfl
theorem f_168_317 (l : za_L) (st : List Value) (w : za_W) : za_n 168 (317, l, st, w) = za_x 168 (.ifCond .eq 26) 317 l st w := za_n.at zcc_168 dX13_pack_317 rfl
theorem f_168_320 (l : za_L) (st : List Value) (w : za_W) : za_n 168 (320, l, st, w) = za_x 168 (.aload_n 0) 320 l st w := za_n.at zcc_168 dX13_pack_320 rfl
theorem f_168_321 (l : za_L) (st : List Value) (w : za_W) : za_n 168 (321, l, st, w) = za_go 322 l (.int (0) :: st) w := (za_n.at zcc_168 dX13_pack_321 rfl).trans (congrArg (fun x => za_go 322 l (.int x :: st) w) (by decide))
theorem f_168_322 (l : za_L) (st : List Value) (w : za_W) : za_n 168 (322, l, st, w) = za_x 168 (.putfield 123) 322 l st w := za_n.at zcc_168 dX13_pack_322 rfl
theorem f_168_325 (l : za_L) (st : List Value) (w : za_W) : za_n 168 (325, l, st, w) = za_x 168 (.aload_n 0) 325 l st w := za_n.at zcc_168 dX13_pack_325 rfl
theorem f_168_326 (l : za_L) (st : List Value) (w : za_W) : za_n 168 (326, l, st, w) = za_go 327 l (.int (0) :: st) w := (za_n.at zcc_168 dX13_pack_326 rfl).trans (congrArg (fun x => za_go 327 l (.int x :: st) w) (by decide))
theorem f_168_327 (l : za_L) (st : List Value) (w : za_W) : za_n 168 (327, l, st, w) = za_x 168 (.putfield 131) 327 l st w := za_n.at zcc_168 dX13_pack_327 rfl
theorem f_168_330 (l : za_L) (st : List Value) (w : za_W) : za_n 168 (330, l, st, w) = za_x 168 (.aload_n 0) 330 l st w := za_n.at zcc_168 dX13_pack_330 rfl
theorem f_168_331 (l : za_L) (st : List Value) (w : za_W) : za_n 168 (331, l, st, w) = za_go 332 l (.int (0) :: st) w := (za_n.at zcc_168 dX13_pack_331 rfl).trans (congrArg (fun x => za_go 332 l (.int x :: st) w) (by decide))
theorem f_168_332 (l : za_L) (st : List Value) (w : za_W) : za_n 168 (332, l, st, w) = za_x 168 (.putfield 140) 332 l st w := za_n.at zcc_168 dX13_pack_332 rfl
theorem f_168_335 (l : za_L) (st : List Value) (w : za_W) : za_n 168 (335, l, st, w) = za_x 168 (.aload_n 0) 335 l st w := za_n.at zcc_168 dX13_pack_335 rfl
theorem f_168_336 (l : za_L) (st : List Value) (w : za_W) : za_n 168 (336, l, st, w) = za_go 337 l (.int (0) :: st) w := (za_n.at zcc_168 dX13_pack_336 rfl).trans (congrArg (fun x => za_go 337 l (.int x :: st) w) (by decide))
theorem f_168_337 (l : za_L) (st : List Value) (w : za_W) : za_n 168 (337, l, st, w) = za_x 168 (.putfield 146) 337 l st w := za_n.at zcc_168 dX13_pack_337 rfl
theorem f_168_340 (l : za_L) (st : List Value) (w : za_W) : za_n 168 (340, l, st, w) = za_go 342 l (.int (-3) :: st) w := (za_n.at zcc_168 dX13_pack_340 rfl).trans (congrArg (fun x => za_go 342 l (.int x :: st) w) (by decide))
theorem f_168_342 (l : za_L) (st : List Value) (w : za_W) : za_n 168 (342, l, st, w) = za_x 168 (.ireturn) 342 l st w := za_n.at zcc_168 dX13_pack_342 rfl
theorem f_168_343 (l : za_L) (st : List Value) (w : za_W) : za_n 168 (343, l, st, w) = za_x 168 (.aload_n 0) 343 l st w := za_n.at zcc_168 dX13_pack_343 rfl
theorem f_168_344 (l : za_L) (st : List Value) (w : za_W) : za_n 168 (344, l, st, w) = za_x 168 (.getfield 123) 344 l st w := za_n.at zcc_168 dX13_pack_344 rfl
theorem f_168_347 (l : za_L) (st : List Value) (w : za_W) : za_n 168 (347, l, st, w) = za_x 168 (.ireturn) 347 l st w := za_n.at zcc_168 dX13_pack_347 rfl
theorem f_169_0 (l : za_L) (st : List Value) (w : za_W) : za_n 169 (0, l, st, w) = za_x 169 (.aload_n 0) 0 l st w := za_n.at zcc_169 dX13_fail_0 rfl
theorem f_169_1 (l : za_L) (st : List Value) (w : za_W) : za_n 169 (1, l, st, w) = za_x 169 (.getfield 16) 1 l st w := za_n.at zcc_169 dX13_fail_1 rfl
theorem f_169_4 (l : za_L) (st : List Value) (w : za_W) : za_n 169 (4, l, st, w) = za_x 169 (.iload_n 1) 4 l st w := za_n.at zcc_169 dX13_fail_4 rfl
theorem f_169_5 (l : za_L) (st : List Value) (w : za_W) : za_n 169 (5, l, st, w) = za_x 169 (.putfield 262) 5 l st w := za_n.at zcc_169 dX13_fail_5 rfl
theorem f_169_8 (l : za_L) (st : List Value) (w : za_W) : za_n 169 (8, l, st, w) = za_x 169 (.aload_n 0) 8 l st w := za_n.at zcc_169 dX13_fail_8 rfl
theorem f_169_9 (l : za_L) (st : List Value) (w : za_W) : za_n 169 (9, l, st, w) = za_x 169 (.getfield 16) 9 l st w := za_n.at zcc_169 dX13_fail_9 rfl
theorem f_169_12 (l : za_L) (st : List Value) (w : za_W) : za_n 169 (12, l, st, w) = za_x 169 (.athrow) 12 l st w := za_n.at zcc_169 dX13_fail_12 rfl
theorem f_170_0 (l : za_L) (st : List Value) (w : za_W) : za_n 170 (0, l, st, w) = za_x 170 (.aload_n 0) 0 l st w := za_n.at zcc_170 dX13_bit_0 rfl
theorem f_170_1 (l : za_L) (st : List Value) (w : za_W) : za_n 170 (1, l, st, w) = za_x 170 (.getfield 265) 1 l st w := za_n.at zcc_170 dX13_bit_1 rfl
theorem f_170_4 (l : za_L) (st : List Value) (w : za_W) : za_n 170 (4, l, st, w) = za_go 6 l (.int (8) :: st) w := (za_n.at zcc_170 dX13_bit_4 rfl).trans (congrArg (fun x => za_go 6 l (.int x :: st) w) (by decide))
theorem f_170_6 (l : za_L) (st : List Value) (w : za_W) : za_n 170 (6, l, st, w) = za_x 170 (.aload_n 0) 6 l st w := za_n.at zcc_170 dX13_bit_6 rfl
theorem f_170_7 (l : za_L) (st : List Value) (w : za_W) : za_n 170 (7, l, st, w) = za_x 170 (.getfield 128) 7 l st w := za_n.at zcc_170 dX13_bit_7 rfl
theorem f_170_10 (l : za_L) (st : List Value) (w : za_W) : za_n 170 (10, l, st, w) = za_x 170 (.imul) 10 l st w := za_n.at zcc_170 dX13_bit_10 rfl
theorem f_170_11 (l : za_L) (st : List Value) (w : za_W) : za_n 170 (11, l, st, w) = za_x 170 (.if_icmp .lt 8) 11 l st w := za_n.at zcc_170 dX13_bit_11 rfl
theorem f_170_14 (l : za_L) (st : List Value) (w : za_W) : za_n 170 (14, l, st, w) = za_x 170 (.aload_n 0) 14 l st w := za_n.at zcc_170 dX13_bit_14 rfl
theorem f_170_15 (l : za_L) (st : List Value) (w : za_W) : za_n 170 (15, l, st, w) = za_go 16 l (.int (1) :: st) w := (za_n.at zcc_170 dX13_bit_15 rfl).trans (congrArg (fun x => za_go 16 l (.int x :: st) w) (by decide))
theorem f_170_16 (l : za_L) (st : List Value) (w : za_W) : za_n 170 (16, l, st, w) = za_x 170 (.invokevirtual 268) 16 l st w := za_n.at zcc_170 dX13_bit_16 rfl
theorem f_170_19 (l : za_L) (st : List Value) (w : za_W) : za_n 170 (19, l, st, w) = za_x 170 (.aload_n 0) 19 l st w := za_n.at zcc_170 dX13_bit_19 rfl
theorem f_170_20 (l : za_L) (st : List Value) (w : za_W) : za_n 170 (20, l, st, w) = za_x 170 (.getfield 27) 20 l st w := za_n.at zcc_170 dX13_bit_20 rfl
theorem f_170_23 (l : za_L) (st : List Value) (w : za_W) : za_n 170 (23, l, st, w) = za_x 170 (.aload_n 0) 23 l st w := za_n.at zcc_170 dX13_bit_23 rfl
theorem f_170_24 (l : za_L) (st : List Value) (w : za_W) : za_n 170 (24, l, st, w) = za_x 170 (.getfield 265) 24 l st w := za_n.at zcc_170 dX13_bit_24 rfl
theorem f_170_27 (l : za_L) (st : List Value) (w : za_W) : za_n 170 (27, l, st, w) = za_go 29 l (.int (8) :: st) w := (za_n.at zcc_170 dX13_bit_27 rfl).trans (congrArg (fun x => za_go 29 l (.int x :: st) w) (by decide))
theorem f_170_29 (l : za_L) (st : List Value) (w : za_W) : za_n 170 (29, l, st, w) = za_x 170 (.idiv) 29 l st w := za_n.at zcc_170 dX13_bit_29 rfl
theorem f_170_30 (l : za_L) (st : List Value) (w : za_W) : za_n 170 (30, l, st, w) = za_x 170 (.baload) 30 l st w := za_n.at zcc_170 dX13_bit_30 rfl
theorem f_170_31 (l : za_L) (st : List Value) (w : za_W) : za_n 170 (31, l, st, w) = za_go 33 l (.int (7) :: st) w := (za_n.at zcc_170 dX13_bit_31 rfl).trans (congrArg (fun x => za_go 33 l (.int x :: st) w) (by decide))
theorem f_170_33 (l : za_L) (st : List Value) (w : za_W) : za_n 170 (33, l, st, w) = za_x 170 (.aload_n 0) 33 l st w := za_n.at zcc_170 dX13_bit_33 rfl
theorem f_170_34 (l : za_L) (st : List Value) (w : za_W) : za_n 170 (34, l, st, w) = za_x 170 (.getfield 265) 34 l st w := za_n.at zcc_170 dX13_bit_34 rfl
theorem f_170_37 (l : za_L) (st : List Value) (w : za_W) : za_n 170 (37, l, st, w) = za_go 39 l (.int (8) :: st) w := (za_n.at zcc_170 dX13_bit_37 rfl).trans (congrArg (fun x => za_go 39 l (.int x :: st) w) (by decide))
theorem f_170_39 (l : za_L) (st : List Value) (w : za_W) : za_n 170 (39, l, st, w) = za_x 170 (.irem) 39 l st w := za_n.at zcc_170 dX13_bit_39 rfl
theorem f_170_40 (l : za_L) (st : List Value) (w : za_W) : za_n 170 (40, l, st, w) = za_x 170 (.isub) 40 l st w := za_n.at zcc_170 dX13_bit_40 rfl
theorem f_170_41 (l : za_L) (st : List Value) (w : za_W) : za_n 170 (41, l, st, w) = za_x 170 (.ishr) 41 l st w := za_n.at zcc_170 dX13_bit_41 rfl
theorem f_170_42 (l : za_L) (st : List Value) (w : za_W) : za_n 170 (42, l, st, w) = za_go 43 l (.int (1) :: st) w := (za_n.at zcc_170 dX13_bit_42 rfl).trans (congrArg (fun x => za_go 43 l (.int x :: st) w) (by decide))
theorem f_170_43 (l : za_L) (st : List Value) (w : za_W) : za_n 170 (43, l, st, w) = za_x 170 (.iand) 43 l st w := za_n.at zcc_170 dX13_bit_43 rfl
theorem f_170_44 (l : za_L) (st : List Value) (w : za_W) : za_n 170 (44, l, st, w) = za_x 170 (.istore_n 1) 44 l st w := za_n.at zcc_170 dX13_bit_44 rfl
theorem f_170_45 (l : za_L) (st : List Value) (w : za_W) : za_n 170 (45, l, st, w) = za_x 170 (.aload_n 0) 45 l st w := za_n.at zcc_170 dX13_bit_45 rfl
theorem f_170_46 (l : za_L) (st : List Value) (w : za_W) : za_n 170 (46, l, st, w) = za_x 170 (.dup) 46 l st w := za_n.at zcc_170 dX13_bit_46 rfl
theorem f_170_47 (l : za_L) (st : List Value) (w : za_W) : za_n 170 (47, l, st, w) = za_x 170 (.getfield 265) 47 l st w := za_n.at zcc_170 dX13_bit_47 rfl
theorem f_170_50 (l : za_L) (st : List Value) (w : za_W) : za_n 170 (50, l, st, w) = za_go 51 l (.int (1) :: st) w := (za_n.at zcc_170 dX13_bit_50 rfl).trans (congrArg (fun x => za_go 51 l (.int x :: st) w) (by decide))
theorem f_170_51 (l : za_L) (st : List Value) (w : za_W) : za_n 170 (51, l, st, w) = za_x 170 (.iadd) 51 l st w := za_n.at zcc_170 dX13_bit_51 rfl
theorem f_170_52 (l : za_L) (st : List Value) (w : za_W) : za_n 170 (52, l, st, w) = za_x 170 (.putfield 265) 52 l st w := za_n.at zcc_170 dX13_bit_52 rfl
theorem f_170_55 (l : za_L) (st : List Value) (w : za_W) : za_n 170 (55, l, st, w) = za_x 170 (.iload_n 1) 55 l st w := za_n.at zcc_170 dX13_bit_55 rfl
theorem f_170_56 (l : za_L) (st : List Value) (w : za_W) : za_n 170 (56, l, st, w) = za_x 170 (.ireturn) 56 l st w := za_n.at zcc_170 dX13_bit_56 rfl
theorem f_171_0 (l : za_L) (st : List Value) (w : za_W) : za_n 171 (0, l, st, w) = za_x 171 (.lconst 0) 0 l st w := za_n.at zcc_171 dX13_bits_0 rfl
theorem f_171_1 (l : za_L) (st : List Value) (w : za_W) : za_n 171 (1, l, st, w) = za_x 171 (.lstore_n 2) 1 l st w := za_n.at zcc_171 dX13_bits_1 rfl
theorem f_171_2 (l : za_L) (st : List Value) (w : za_W) : za_n 171 (2, l, st, w) = za_go 3 l (.int (0) :: st) w := (za_n.at zcc_171 dX13_bits_2 rfl).trans (congrArg (fun x => za_go 3 l (.int x :: st) w) (by decide))
theorem f_171_3 (l : za_L) (st : List Value) (w : za_W) : za_n 171 (3, l, st, w) = za_x 171 (.istore 4) 3 l st w := za_n.at zcc_171 dX13_bits_3 rfl
theorem f_171_5 (l : za_L) (st : List Value) (w : za_W) : za_n 171 (5, l, st, w) = za_x 171 (.iload 4) 5 l st w := za_n.at zcc_171 dX13_bits_5 rfl
theorem f_171_7 (l : za_L) (st : List Value) (w : za_W) : za_n 171 (7, l, st, w) = za_x 171 (.iload_n 1) 7 l st w := za_n.at zcc_171 dX13_bits_7 rfl
theorem f_171_8 (l : za_L) (st : List Value) (w : za_W) : za_n 171 (8, l, st, w) = za_x 171 (.if_icmp .ge 19) 8 l st w := za_n.at zcc_171 dX13_bits_8 rfl
theorem f_171_11 (l : za_L) (st : List Value) (w : za_W) : za_n 171 (11, l, st, w) = za_x 171 (.lload_n 2) 11 l st w := za_n.at zcc_171 dX13_bits_11 rfl
theorem f_171_12 (l : za_L) (st : List Value) (w : za_W) : za_n 171 (12, l, st, w) = za_go 13 l (.int (1) :: st) w := (za_n.at zcc_171 dX13_bits_12 rfl).trans (congrArg (fun x => za_go 13 l (.int x :: st) w) (by decide))
theorem f_171_13 (l : za_L) (st : List Value) (w : za_W) : za_n 171 (13, l, st, w) = za_x 171 (.lshl) 13 l st w := za_n.at zcc_171 dX13_bits_13 rfl
theorem f_171_14 (l : za_L) (st : List Value) (w : za_W) : za_n 171 (14, l, st, w) = za_x 171 (.aload_n 0) 14 l st w := za_n.at zcc_171 dX13_bits_14 rfl
theorem f_171_15 (l : za_L) (st : List Value) (w : za_W) : za_n 171 (15, l, st, w) = za_x 171 (.invokevirtual 271) 15 l st w := za_n.at zcc_171 dX13_bits_15 rfl
theorem f_171_18 (l : za_L) (st : List Value) (w : za_W) : za_n 171 (18, l, st, w) = za_x 171 (.i2l) 18 l st w := za_n.at zcc_171 dX13_bits_18 rfl
theorem f_171_19 (l : za_L) (st : List Value) (w : za_W) : za_n 171 (19, l, st, w) = za_x 171 (.lor) 19 l st w := za_n.at zcc_171 dX13_bits_19 rfl
theorem f_171_20 (l : za_L) (st : List Value) (w : za_W) : za_n 171 (20, l, st, w) = za_x 171 (.lstore_n 2) 20 l st w := za_n.at zcc_171 dX13_bits_20 rfl
theorem f_171_21 (l : za_L) (st : List Value) (w : za_W) : za_n 171 (21, l, st, w) = za_x 171 (.iinc 4 1) 21 l st w := za_n.at zcc_171 dX13_bits_21 rfl
theorem f_171_24 (l : za_L) (st : List Value) (w : za_W) : za_n 171 (24, l, st, w) = za_go 5 l st w := (za_n.at zcc_171 dX13_bits_24 rfl).trans (za_jp.at (by decide))
theorem f_171_27 (l : za_L) (st : List Value) (w : za_W) : za_n 171 (27, l, st, w) = za_x 171 (.lload_n 2) 27 l st w := za_n.at zcc_171 dX13_bits_27 rfl
theorem f_171_28 (l : za_L) (st : List Value) (w : za_W) : za_n 171 (28, l, st, w) = za_x 171 (.lreturn) 28 l st w := za_n.at zcc_171 dX13_bits_28 rfl
theorem f_172_0 (l : za_L) (st : List Value) (w : za_W) : za_n 172 (0, l, st, w) = za_x 172 (.aload_n 0) 0 l st w := za_n.at zcc_172 dX13_readMap_0 rfl
theorem f_172_1 (l : za_L) (st : List Value) (w : za_W) : za_n 172 (1, l, st, w) = za_go 3 l (.int (16) :: st) w := (za_n.at zcc_172 dX13_readMap_1 rfl).trans (congrArg (fun x => za_go 3 l (.int x :: st) w) (by decide))
theorem f_172_3 (l : za_L) (st : List Value) (w : za_W) : za_n 172 (3, l, st, w) = za_x 172 (.invokevirtual 274) 3 l st w := za_n.at zcc_172 dX13_readMap_3 rfl
theorem f_172_6 (l : za_L) (st : List Value) (w : za_W) : za_n 172 (6, l, st, w) = za_x 172 (.l2i) 6 l st w := za_n.at zcc_172 dX13_readMap_6 rfl
theorem f_172_7 (l : za_L) (st : List Value) (w : za_W) : za_n 172 (7, l, st, w) = za_x 172 (.istore_n 1) 7 l st w := za_n.at zcc_172 dX13_readMap_7 rfl
theorem f_172_8 (l : za_L) (st : List Value) (w : za_W) : za_n 172 (8, l, st, w) = za_go 9 l (.int (0) :: st) w := (za_n.at zcc_172 dX13_readMap_8 rfl).trans (congrArg (fun x => za_go 9 l (.int x :: st) w) (by decide))
theorem f_172_9 (l : za_L) (st : List Value) (w : za_W) : za_n 172 (9, l, st, w) = za_x 172 (.istore_n 2) 9 l st w := za_n.at zcc_172 dX13_readMap_9 rfl
theorem f_172_10 (l : za_L) (st : List Value) (w : za_W) : za_n 172 (10, l, st, w) = za_x 172 (.iload_n 2) 10 l st w := za_n.at zcc_172 dX13_readMap_10 rfl
theorem f_172_11 (l : za_L) (st : List Value) (w : za_W) : za_n 172 (11, l, st, w) = za_go 13 l (.int (16) :: st) w := (za_n.at zcc_172 dX13_readMap_11 rfl).trans (congrArg (fun x => za_go 13 l (.int x :: st) w) (by decide))
theorem f_172_13 (l : za_L) (st : List Value) (w : za_W) : za_n 172 (13, l, st, w) = za_x 172 (.if_icmp .ge 72) 13 l st w := za_n.at zcc_172 dX13_readMap_13 rfl
theorem f_172_16 (l : za_L) (st : List Value) (w : za_W) : za_n 172 (16, l, st, w) = za_x 172 (.iload_n 1) 16 l st w := za_n.at zcc_172 dX13_readMap_16 rfl
theorem f_172_17 (l : za_L) (st : List Value) (w : za_W) : za_n 172 (17, l, st, w) = za_go 19 l (.int (15) :: st) w := (za_n.at zcc_172 dX13_readMap_17 rfl).trans (congrArg (fun x => za_go 19 l (.int x :: st) w) (by decide))
theorem f_172_19 (l : za_L) (st : List Value) (w : za_W) : za_n 172 (19, l, st, w) = za_x 172 (.iload_n 2) 19 l st w := za_n.at zcc_172 dX13_readMap_19 rfl
theorem f_172_20 (l : za_L) (st : List Value) (w : za_W) : za_n 172 (20, l, st, w) = za_x 172 (.isub) 20 l st w := za_n.at zcc_172 dX13_readMap_20 rfl
theorem f_172_21 (l : za_L) (st : List Value) (w : za_W) : za_n 172 (21, l, st, w) = za_x 172 (.ishr) 21 l st w := za_n.at zcc_172 dX13_readMap_21 rfl
theorem f_172_22 (l : za_L) (st : List Value) (w : za_W) : za_n 172 (22, l, st, w) = za_go 23 l (.int (1) :: st) w := (za_n.at zcc_172 dX13_readMap_22 rfl).trans (congrArg (fun x => za_go 23 l (.int x :: st) w) (by decide))
theorem f_172_23 (l : za_L) (st : List Value) (w : za_W) : za_n 172 (23, l, st, w) = za_x 172 (.iand) 23 l st w := za_n.at zcc_172 dX13_readMap_23 rfl
theorem f_172_24 (l : za_L) (st : List Value) (w : za_W) : za_n 172 (24, l, st, w) = za_go 25 l (.int (1) :: st) w := (za_n.at zcc_172 dX13_readMap_24 rfl).trans (congrArg (fun x => za_go 25 l (.int x :: st) w) (by decide))
theorem f_172_25 (l : za_L) (st : List Value) (w : za_W) : za_n 172 (25, l, st, w) = za_x 172 (.if_icmp .ne 7) 25 l st w := za_n.at zcc_172 dX13_readMap_25 rfl
theorem f_172_28 (l : za_L) (st : List Value) (w : za_W) : za_n 172 (28, l, st, w) = za_go 29 l (.int (1) :: st) w := (za_n.at zcc_172 dX13_readMap_28 rfl).trans (congrArg (fun x => za_go 29 l (.int x :: st) w) (by decide))
theorem f_172_29 (l : za_L) (st : List Value) (w : za_W) : za_n 172 (29, l, st, w) = za_go 33 l st w := (za_n.at zcc_172 dX13_readMap_29 rfl).trans (za_jp.at (by decide))
theorem f_172_32 (l : za_L) (st : List Value) (w : za_W) : za_n 172 (32, l, st, w) = za_go 33 l (.int (0) :: st) w := (za_n.at zcc_172 dX13_readMap_32 rfl).trans (congrArg (fun x => za_go 33 l (.int x :: st) w) (by decide))
theorem f_172_33 (l : za_L) (st : List Value) (w : za_W) : za_n 172 (33, l, st, w) = za_x 172 (.istore_n 3) 33 l st w := za_n.at zcc_172 dX13_readMap_33 rfl
theorem f_172_34 (l : za_L) (st : List Value) (w : za_W) : za_n 172 (34, l, st, w) = za_go 35 l (.int (0) :: st) w := (za_n.at zcc_172 dX13_readMap_34 rfl).trans (congrArg (fun x => za_go 35 l (.int x :: st) w) (by decide))
theorem f_172_35 (l : za_L) (st : List Value) (w : za_W) : za_n 172 (35, l, st, w) = za_x 172 (.istore 4) 35 l st w := za_n.at zcc_172 dX13_readMap_35 rfl
theorem f_172_37 (l : za_L) (st : List Value) (w : za_W) : za_n 172 (37, l, st, w) = za_x 172 (.iload 4) 37 l st w := za_n.at zcc_172 dX13_readMap_37 rfl
theorem f_172_39 (l : za_L) (st : List Value) (w : za_W) : za_n 172 (39, l, st, w) = za_go 41 l (.int (16) :: st) w := (za_n.at zcc_172 dX13_readMap_39 rfl).trans (congrArg (fun x => za_go 41 l (.int x :: st) w) (by decide))
theorem f_172_41 (l : za_L) (st : List Value) (w : za_W) : za_n 172 (41, l, st, w) = za_x 172 (.if_icmp .ge 38) 41 l st w := za_n.at zcc_172 dX13_readMap_41 rfl
theorem f_172_44 (l : za_L) (st : List Value) (w : za_W) : za_n 172 (44, l, st, w) = za_x 172 (.aload_n 0) 44 l st w := za_n.at zcc_172 dX13_readMap_44 rfl
theorem f_172_45 (l : za_L) (st : List Value) (w : za_W) : za_n 172 (45, l, st, w) = za_x 172 (.getfield 59) 45 l st w := za_n.at zcc_172 dX13_readMap_45 rfl
theorem f_172_48 (l : za_L) (st : List Value) (w : za_W) : za_n 172 (48, l, st, w) = za_go 50 l (.int (16) :: st) w := (za_n.at zcc_172 dX13_readMap_48 rfl).trans (congrArg (fun x => za_go 50 l (.int x :: st) w) (by decide))
theorem f_172_50 (l : za_L) (st : List Value) (w : za_W) : za_n 172 (50, l, st, w) = za_x 172 (.iload_n 2) 50 l st w := za_n.at zcc_172 dX13_readMap_50 rfl
theorem f_172_51 (l : za_L) (st : List Value) (w : za_W) : za_n 172 (51, l, st, w) = za_x 172 (.imul) 51 l st w := za_n.at zcc_172 dX13_readMap_51 rfl
theorem f_172_52 (l : za_L) (st : List Value) (w : za_W) : za_n 172 (52, l, st, w) = za_x 172 (.iload 4) 52 l st w := za_n.at zcc_172 dX13_readMap_52 rfl
theorem f_172_54 (l : za_L) (st : List Value) (w : za_W) : za_n 172 (54, l, st, w) = za_x 172 (.iadd) 54 l st w := za_n.at zcc_172 dX13_readMap_54 rfl
theorem f_172_55 (l : za_L) (st : List Value) (w : za_W) : za_n 172 (55, l, st, w) = za_x 172 (.iload_n 3) 55 l st w := za_n.at zcc_172 dX13_readMap_55 rfl
theorem f_172_56 (l : za_L) (st : List Value) (w : za_W) : za_n 172 (56, l, st, w) = za_x 172 (.ifCond .eq 15) 56 l st w := za_n.at zcc_172 dX13_readMap_56 rfl
theorem f_172_59 (l : za_L) (st : List Value) (w : za_W) : za_n 172 (59, l, st, w) = za_x 172 (.aload_n 0) 59 l st w := za_n.at zcc_172 dX13_readMap_59 rfl
theorem f_172_60 (l : za_L) (st : List Value) (w : za_W) : za_n 172 (60, l, st, w) = za_x 172 (.invokevirtual 271) 60 l st w := za_n.at zcc_172 dX13_readMap_60 rfl
theorem f_172_63 (l : za_L) (st : List Value) (w : za_W) : za_n 172 (63, l, st, w) = za_go 64 l (.int (1) :: st) w := (za_n.at zcc_172 dX13_readMap_63 rfl).trans (congrArg (fun x => za_go 64 l (.int x :: st) w) (by decide))
theorem f_172_64 (l : za_L) (st : List Value) (w : za_W) : za_n 172 (64, l, st, w) = za_x 172 (.if_icmp .ne 7) 64 l st w := za_n.at zcc_172 dX13_readMap_64 rfl
theorem f_172_67 (l : za_L) (st : List Value) (w : za_W) : za_n 172 (67, l, st, w) = za_go 68 l (.int (1) :: st) w := (za_n.at zcc_172 dX13_readMap_67 rfl).trans (congrArg (fun x => za_go 68 l (.int x :: st) w) (by decide))
theorem f_172_68 (l : za_L) (st : List Value) (w : za_W) : za_n 172 (68, l, st, w) = za_go 72 l st w := (za_n.at zcc_172 dX13_readMap_68 rfl).trans (za_jp.at (by decide))
theorem f_172_71 (l : za_L) (st : List Value) (w : za_W) : za_n 172 (71, l, st, w) = za_go 72 l (.int (0) :: st) w := (za_n.at zcc_172 dX13_readMap_71 rfl).trans (congrArg (fun x => za_go 72 l (.int x :: st) w) (by decide))
theorem f_172_72 (l : za_L) (st : List Value) (w : za_W) : za_n 172 (72, l, st, w) = za_x 172 (.bastore) 72 l st w := za_n.at zcc_172 dX13_readMap_72 rfl
theorem f_172_73 (l : za_L) (st : List Value) (w : za_W) : za_n 172 (73, l, st, w) = za_x 172 (.iinc 4 1) 73 l st w := za_n.at zcc_172 dX13_readMap_73 rfl
theorem f_172_76 (l : za_L) (st : List Value) (w : za_W) : za_n 172 (76, l, st, w) = za_go 37 l st w := (za_n.at zcc_172 dX13_readMap_76 rfl).trans (za_jp.at (by decide))
theorem f_172_79 (l : za_L) (st : List Value) (w : za_W) : za_n 172 (79, l, st, w) = za_x 172 (.iinc 2 1) 79 l st w := za_n.at zcc_172 dX13_readMap_79 rfl
theorem f_172_82 (l : za_L) (st : List Value) (w : za_W) : za_n 172 (82, l, st, w) = za_go 10 l st w := (za_n.at zcc_172 dX13_readMap_82 rfl).trans (za_jp.at (by decide))
theorem f_172_85 (l : za_L) (st : List Value) (w : za_W) : za_n 172 (85, l, st, w) = za_x 172 (.aload_n 0) 85 l st w := za_n.at zcc_172 dX13_readMap_85 rfl
theorem f_172_86 (l : za_L) (st : List Value) (w : za_W) : za_n 172 (86, l, st, w) = za_x 172 (.invokevirtual 168) 86 l st w := za_n.at zcc_172 dX13_readMap_86 rfl
theorem f_172_89 (l : za_L) (st : List Value) (w : za_W) : za_n 172 (89, l, st, w) = za_x 172 (.aload_n 0) 89 l st w := za_n.at zcc_172 dX13_readMap_89 rfl
theorem f_172_90 (l : za_L) (st : List Value) (w : za_W) : za_n 172 (90, l, st, w) = za_x 172 (.getfield 171) 90 l st w := za_n.at zcc_172 dX13_readMap_90 rfl
theorem f_172_93 (l : za_L) (st : List Value) (w : za_W) : za_n 172 (93, l, st, w) = za_x 172 (.ifCond .ne 8) 93 l st w := za_n.at zcc_172 dX13_readMap_93 rfl
theorem f_172_96 (l : za_L) (st : List Value) (w : za_W) : za_n 172 (96, l, st, w) = za_x 172 (.aload_n 0) 96 l st w := za_n.at zcc_172 dX13_readMap_96 rfl
theorem f_172_97 (l : za_L) (st : List Value) (w : za_W) : za_n 172 (97, l, st, w) = za_go 98 l (.int (5) :: st) w := (za_n.at zcc_172 dX13_readMap_97 rfl).trans (congrArg (fun x => za_go 98 l (.int x :: st) w) (by decide))
theorem f_172_98 (l : za_L) (st : List Value) (w : za_W) : za_n 172 (98, l, st, w) = za_x 172 (.invokevirtual 268) 98 l st w := za_n.at zcc_172 dX13_readMap_98 rfl
theorem f_172_101 (l : za_L) (st : List Value) (w : za_W) : za_n 172 (101, l, st, w) = za_x 172 (.return_) 101 l st w := za_n.at zcc_172 dX13_readMap_101 rfl
theorem f_173_0 (l : za_L) (st : List Value) (w : za_W) : za_n 173 (0, l, st, w) = za_x 173 (.aload_n 0) 0 l st w := za_n.at zcc_173 dX13_readChoices_0 rfl
theorem f_173_1 (l : za_L) (st : List Value) (w : za_W) : za_n 173 (1, l, st, w) = za_x 173 (.aload_n 0) 1 l st w := za_n.at zcc_173 dX13_readChoices_1 rfl
theorem f_173_2 (l : za_L) (st : List Value) (w : za_W) : za_n 173 (2, l, st, w) = za_go 3 l (.int (3) :: st) w := (za_n.at zcc_173 dX13_readChoices_2 rfl).trans (congrArg (fun x => za_go 3 l (.int x :: st) w) (by decide))
theorem f_173_3 (l : za_L) (st : List Value) (w : za_W) : za_n 173 (3, l, st, w) = za_x 173 (.invokevirtual 274) 3 l st w := za_n.at zcc_173 dX13_readChoices_3 rfl
theorem f_173_6 (l : za_L) (st : List Value) (w : za_W) : za_n 173 (6, l, st, w) = za_x 173 (.l2i) 6 l st w := za_n.at zcc_173 dX13_readChoices_6 rfl
theorem f_173_7 (l : za_L) (st : List Value) (w : za_W) : za_n 173 (7, l, st, w) = za_x 173 (.putfield 189) 7 l st w := za_n.at zcc_173 dX13_readChoices_7 rfl
theorem f_173_10 (l : za_L) (st : List Value) (w : za_W) : za_n 173 (10, l, st, w) = za_x 173 (.aload_n 0) 10 l st w := za_n.at zcc_173 dX13_readChoices_10 rfl
theorem f_173_11 (l : za_L) (st : List Value) (w : za_W) : za_n 173 (11, l, st, w) = za_x 173 (.getfield 189) 11 l st w := za_n.at zcc_173 dX13_readChoices_11 rfl
theorem f_173_14 (l : za_L) (st : List Value) (w : za_W) : za_n 173 (14, l, st, w) = za_x 173 (.i2l) 14 l st w := za_n.at zcc_173 dX13_readChoices_14 rfl
theorem f_173_15 (l : za_L) (st : List Value) (w : za_W) : za_n 173 (15, l, st, w) = za_x 173 (.ldc2_w 187) 15 l st w := za_n.at zcc_173 dX13_readChoices_15 rfl
theorem f_173_18 (l : za_L) (st : List Value) (w : za_W) : za_n 173 (18, l, st, w) = za_x 173 (.ldc2_w 278) 18 l st w := za_n.at zcc_173 dX13_readChoices_18 rfl
theorem f_173_21 (l : za_L) (st : List Value) (w : za_W) : za_n 173 (21, l, st, w) = za_x 173 (.invokestatic 114) 21 l st w := za_n.at zcc_173 dX13_readChoices_21 rfl
theorem f_173_24 (l : za_L) (st : List Value) (w : za_W) : za_n 173 (24, l, st, w) = za_x 173 (.ifCond .ne 9) 24 l st w := za_n.at zcc_173 dX13_readChoices_24 rfl
theorem f_173_27 (l : za_L) (st : List Value) (w : za_W) : za_n 173 (27, l, st, w) = za_x 173 (.aload_n 0) 27 l st w := za_n.at zcc_173 dX13_readChoices_27 rfl
theorem f_173_28 (l : za_L) (st : List Value) (w : za_W) : za_n 173 (28, l, st, w) = za_go 30 l (.int (6) :: st) w := (za_n.at zcc_173 dX13_readChoices_28 rfl).trans (congrArg (fun x => za_go 30 l (.int x :: st) w) (by decide))
theorem f_173_30 (l : za_L) (st : List Value) (w : za_W) : za_n 173 (30, l, st, w) = za_x 173 (.invokevirtual 268) 30 l st w := za_n.at zcc_173 dX13_readChoices_30 rfl
theorem f_173_33 (l : za_L) (st : List Value) (w : za_W) : za_n 173 (33, l, st, w) = za_x 173 (.aload_n 0) 33 l st w := za_n.at zcc_173 dX13_readChoices_33 rfl
theorem f_173_34 (l : za_L) (st : List Value) (w : za_W) : za_n 173 (34, l, st, w) = za_x 173 (.aload_n 0) 34 l st w := za_n.at zcc_173 dX13_readChoices_34 rfl
theorem f_173_35 (l : za_L) (st : List Value) (w : za_W) : za_n 173 (35, l, st, w) = za_go 37 l (.int (15) :: st) w := (za_n.at zcc_173 dX13_readChoices_35 rfl).trans (congrArg (fun x => za_go 37 l (.int x :: st) w) (by decide))
theorem f_173_37 (l : za_L) (st : List Value) (w : za_W) : za_n 173 (37, l, st, w) = za_x 173 (.invokevirtual 274) 37 l st w := za_n.at zcc_173 dX13_readChoices_37 rfl
theorem f_173_40 (l : za_L) (st : List Value) (w : za_W) : za_n 173 (40, l, st, w) = za_x 173 (.l2i) 40 l st w := za_n.at zcc_173 dX13_readChoices_40 rfl
theorem f_173_41 (l : za_L) (st : List Value) (w : za_W) : za_n 173 (41, l, st, w) = za_x 173 (.putfield 195) 41 l st w := za_n.at zcc_173 dX13_readChoices_41 rfl
theorem f_173_44 (l : za_L) (st : List Value) (w : za_W) : za_n 173 (44, l, st, w) = za_x 173 (.aload_n 0) 44 l st w := za_n.at zcc_173 dX13_readChoices_44 rfl
theorem f_173_45 (l : za_L) (st : List Value) (w : za_W) : za_n 173 (45, l, st, w) = za_x 173 (.getfield 195) 45 l st w := za_n.at zcc_173 dX13_readChoices_45 rfl
theorem f_173_48 (l : za_L) (st : List Value) (w : za_W) : za_n 173 (48, l, st, w) = za_x 173 (.ifCond .ne 9) 48 l st w := za_n.at zcc_173 dX13_readChoices_48 rfl
theorem f_173_51 (l : za_L) (st : List Value) (w : za_W) : za_n 173 (51, l, st, w) = za_x 173 (.aload_n 0) 51 l st w := za_n.at zcc_173 dX13_readChoices_51 rfl
theorem f_173_52 (l : za_L) (st : List Value) (w : za_W) : za_n 173 (52, l, st, w) = za_go 54 l (.int (6) :: st) w := (za_n.at zcc_173 dX13_readChoices_52 rfl).trans (congrArg (fun x => za_go 54 l (.int x :: st) w) (by decide))
theorem f_173_54 (l : za_L) (st : List Value) (w : za_W) : za_n 173 (54, l, st, w) = za_x 173 (.invokevirtual 268) 54 l st w := za_n.at zcc_173 dX13_readChoices_54 rfl
theorem f_173_57 (l : za_L) (st : List Value) (w : za_W) : za_n 173 (57, l, st, w) = za_go 58 l (.int (0) :: st) w := (za_n.at zcc_173 dX13_readChoices_57 rfl).trans (congrArg (fun x => za_go 58 l (.int x :: st) w) (by decide))
theorem f_173_58 (l : za_L) (st : List Value) (w : za_W) : za_n 173 (58, l, st, w) = za_x 173 (.istore_n 1) 58 l st w := za_n.at zcc_173 dX13_readChoices_58 rfl
theorem f_173_59 (l : za_L) (st : List Value) (w : za_W) : za_n 173 (59, l, st, w) = za_x 173 (.iload_n 1) 59 l st w := za_n.at zcc_173 dX13_readChoices_59 rfl
theorem f_173_60 (l : za_L) (st : List Value) (w : za_W) : za_n 173 (60, l, st, w) = za_go 62 l (.int (6) :: st) w := (za_n.at zcc_173 dX13_readChoices_60 rfl).trans (congrArg (fun x => za_go 62 l (.int x :: st) w) (by decide))
theorem f_173_62 (l : za_L) (st : List Value) (w : za_W) : za_n 173 (62, l, st, w) = za_x 173 (.if_icmp .ge 16) 62 l st w := za_n.at zcc_173 dX13_readChoices_62 rfl
theorem f_173_65 (l : za_L) (st : List Value) (w : za_W) : za_n 173 (65, l, st, w) = za_x 173 (.aload_n 0) 65 l st w := za_n.at zcc_173 dX13_readChoices_65 rfl
theorem f_173_66 (l : za_L) (st : List Value) (w : za_W) : za_n 173 (66, l, st, w) = za_x 173 (.getfield 94) 66 l st w := za_n.at zcc_173 dX13_readChoices_66 rfl
theorem f_173_69 (l : za_L) (st : List Value) (w : za_W) : za_n 173 (69, l, st, w) = za_x 173 (.iload_n 1) 69 l st w := za_n.at zcc_173 dX13_readChoices_69 rfl
theorem f_173_70 (l : za_L) (st : List Value) (w : za_W) : za_n 173 (70, l, st, w) = za_x 173 (.iload_n 1) 70 l st w := za_n.at zcc_173 dX13_readChoices_70 rfl
theorem f_173_71 (l : za_L) (st : List Value) (w : za_W) : za_n 173 (71, l, st, w) = za_x 173 (.iastore) 71 l st w := za_n.at zcc_173 dX13_readChoices_71 rfl
theorem f_173_72 (l : za_L) (st : List Value) (w : za_W) : za_n 173 (72, l, st, w) = za_x 173 (.iinc 1 1) 72 l st w := za_n.at zcc_173 dX13_readChoices_72 rfl
theorem f_173_75 (l : za_L) (st : List Value) (w : za_W) : za_n 173 (75, l, st, w) = za_go 59 l st w := (za_n.at zcc_173 dX13_readChoices_75 rfl).trans (za_jp.at (by decide))
theorem f_173_78 (l : za_L) (st : List Value) (w : za_W) : za_n 173 (78, l, st, w) = za_go 79 l (.int (0) :: st) w := (za_n.at zcc_173 dX13_readChoices_78 rfl).trans (congrArg (fun x => za_go 79 l (.int x :: st) w) (by decide))
theorem f_173_79 (l : za_L) (st : List Value) (w : za_W) : za_n 173 (79, l, st, w) = za_x 173 (.istore_n 1) 79 l st w := za_n.at zcc_173 dX13_readChoices_79 rfl
theorem f_173_80 (l : za_L) (st : List Value) (w : za_W) : za_n 173 (80, l, st, w) = za_x 173 (.iload_n 1) 80 l st w := za_n.at zcc_173 dX13_readChoices_80 rfl
theorem f_173_81 (l : za_L) (st : List Value) (w : za_W) : za_n 173 (81, l, st, w) = za_x 173 (.aload_n 0) 81 l st w := za_n.at zcc_173 dX13_readChoices_81 rfl
theorem f_173_82 (l : za_L) (st : List Value) (w : za_W) : za_n 173 (82, l, st, w) = za_x 173 (.getfield 195) 82 l st w := za_n.at zcc_173 dX13_readChoices_82 rfl
theorem f_173_85 (l : za_L) (st : List Value) (w : za_W) : za_n 173 (85, l, st, w) = za_x 173 (.if_icmp .ge 90) 85 l st w := za_n.at zcc_173 dX13_readChoices_85 rfl
theorem f_173_88 (l : za_L) (st : List Value) (w : za_W) : za_n 173 (88, l, st, w) = za_go 89 l (.int (0) :: st) w := (za_n.at zcc_173 dX13_readChoices_88 rfl).trans (congrArg (fun x => za_go 89 l (.int x :: st) w) (by decide))
theorem f_173_89 (l : za_L) (st : List Value) (w : za_W) : za_n 173 (89, l, st, w) = za_x 173 (.istore_n 2) 89 l st w := za_n.at zcc_173 dX13_readChoices_89 rfl
theorem f_173_90 (l : za_L) (st : List Value) (w : za_W) : za_n 173 (90, l, st, w) = za_x 173 (.aload_n 0) 90 l st w := za_n.at zcc_173 dX13_readChoices_90 rfl
theorem f_173_91 (l : za_L) (st : List Value) (w : za_W) : za_n 173 (91, l, st, w) = za_x 173 (.invokevirtual 271) 91 l st w := za_n.at zcc_173 dX13_readChoices_91 rfl
theorem f_173_94 (l : za_L) (st : List Value) (w : za_W) : za_n 173 (94, l, st, w) = za_go 95 l (.int (1) :: st) w := (za_n.at zcc_173 dX13_readChoices_94 rfl).trans (congrArg (fun x => za_go 95 l (.int x :: st) w) (by decide))
theorem f_173_95 (l : za_L) (st : List Value) (w : za_W) : za_n 173 (95, l, st, w) = za_x 173 (.if_icmp .ne 23) 95 l st w := za_n.at zcc_173 dX13_readChoices_95 rfl
theorem f_173_98 (l : za_L) (st : List Value) (w : za_W) : za_n 173 (98, l, st, w) = za_x 173 (.iinc 2 1) 98 l st w := za_n.at zcc_173 dX13_readChoices_98 rfl
theorem f_173_101 (l : za_L) (st : List Value) (w : za_W) : za_n 173 (101, l, st, w) = za_x 173 (.iload_n 2) 101 l st w := za_n.at zcc_173 dX13_readChoices_101 rfl
theorem f_173_102 (l : za_L) (st : List Value) (w : za_W) : za_n 173 (102, l, st, w) = za_x 173 (.aload_n 0) 102 l st w := za_n.at zcc_173 dX13_readChoices_102 rfl
theorem f_173_103 (l : za_L) (st : List Value) (w : za_W) : za_n 173 (103, l, st, w) = za_x 173 (.getfield 189) 103 l st w := za_n.at zcc_173 dX13_readChoices_103 rfl
theorem f_173_106 (l : za_L) (st : List Value) (w : za_W) : za_n 173 (106, l, st, w) = za_x 173 (.if_icmp .ne (-16)) 106 l st w := za_n.at zcc_173 dX13_readChoices_106 rfl
theorem f_173_109 (l : za_L) (st : List Value) (w : za_W) : za_n 173 (109, l, st, w) = za_x 173 (.aload_n 0) 109 l st w := za_n.at zcc_173 dX13_readChoices_109 rfl
theorem f_173_110 (l : za_L) (st : List Value) (w : za_W) : za_n 173 (110, l, st, w) = za_go 112 l (.int (6) :: st) w := (za_n.at zcc_173 dX13_readChoices_110 rfl).trans (congrArg (fun x => za_go 112 l (.int x :: st) w) (by decide))
theorem f_173_112 (l : za_L) (st : List Value) (w : za_W) : za_n 173 (112, l, st, w) = za_x 173 (.invokevirtual 268) 112 l st w := za_n.at zcc_173 dX13_readChoices_112 rfl
theorem f_173_115 (l : za_L) (st : List Value) (w : za_W) : za_n 173 (115, l, st, w) = za_go 90 l st w := (za_n.at zcc_173 dX13_readChoices_115 rfl).trans (za_jp.at (by decide))
theorem f_173_118 (l : za_L) (st : List Value) (w : za_W) : za_n 173 (118, l, st, w) = za_x 173 (.aload_n 0) 118 l st w := za_n.at zcc_173 dX13_readChoices_118 rfl
theorem f_173_119 (l : za_L) (st : List Value) (w : za_W) : za_n 173 (119, l, st, w) = za_x 173 (.getfield 94) 119 l st w := za_n.at zcc_173 dX13_readChoices_119 rfl
theorem f_173_122 (l : za_L) (st : List Value) (w : za_W) : za_n 173 (122, l, st, w) = za_x 173 (.iload_n 2) 122 l st w := za_n.at zcc_173 dX13_readChoices_122 rfl
theorem f_173_123 (l : za_L) (st : List Value) (w : za_W) : za_n 173 (123, l, st, w) = za_x 173 (.iaload) 123 l st w := za_n.at zcc_173 dX13_readChoices_123 rfl
theorem f_173_124 (l : za_L) (st : List Value) (w : za_W) : za_n 173 (124, l, st, w) = za_x 173 (.istore_n 3) 124 l st w := za_n.at zcc_173 dX13_readChoices_124 rfl
theorem f_173_125 (l : za_L) (st : List Value) (w : za_W) : za_n 173 (125, l, st, w) = za_x 173 (.iload_n 2) 125 l st w := za_n.at zcc_173 dX13_readChoices_125 rfl
theorem f_173_126 (l : za_L) (st : List Value) (w : za_W) : za_n 173 (126, l, st, w) = za_x 173 (.istore 4) 126 l st w := za_n.at zcc_173 dX13_readChoices_126 rfl
theorem f_173_128 (l : za_L) (st : List Value) (w : za_W) : za_n 173 (128, l, st, w) = za_x 173 (.iload 4) 128 l st w := za_n.at zcc_173 dX13_readChoices_128 rfl
theorem f_173_130 (l : za_L) (st : List Value) (w : za_W) : za_n 173 (130, l, st, w) = za_x 173 (.ifCond .le 25) 130 l st w := za_n.at zcc_173 dX13_readChoices_130 rfl
theorem f_173_133 (l : za_L) (st : List Value) (w : za_W) : za_n 173 (133, l, st, w) = za_x 173 (.aload_n 0) 133 l st w := za_n.at zcc_173 dX13_readChoices_133 rfl
theorem f_173_134 (l : za_L) (st : List Value) (w : za_W) : za_n 173 (134, l, st, w) = za_x 173 (.getfield 94) 134 l st w := za_n.at zcc_173 dX13_readChoices_134 rfl
theorem f_173_137 (l : za_L) (st : List Value) (w : za_W) : za_n 173 (137, l, st, w) = za_x 173 (.iload 4) 137 l st w := za_n.at zcc_173 dX13_readChoices_137 rfl
theorem f_173_139 (l : za_L) (st : List Value) (w : za_W) : za_n 173 (139, l, st, w) = za_x 173 (.aload_n 0) 139 l st w := za_n.at zcc_173 dX13_readChoices_139 rfl
theorem f_173_140 (l : za_L) (st : List Value) (w : za_W) : za_n 173 (140, l, st, w) = za_x 173 (.getfield 94) 140 l st w := za_n.at zcc_173 dX13_readChoices_140 rfl
theorem f_173_143 (l : za_L) (st : List Value) (w : za_W) : za_n 173 (143, l, st, w) = za_x 173 (.iload 4) 143 l st w := za_n.at zcc_173 dX13_readChoices_143 rfl
theorem f_173_145 (l : za_L) (st : List Value) (w : za_W) : za_n 173 (145, l, st, w) = za_go 146 l (.int (1) :: st) w := (za_n.at zcc_173 dX13_readChoices_145 rfl).trans (congrArg (fun x => za_go 146 l (.int x :: st) w) (by decide))
theorem f_173_146 (l : za_L) (st : List Value) (w : za_W) : za_n 173 (146, l, st, w) = za_x 173 (.isub) 146 l st w := za_n.at zcc_173 dX13_readChoices_146 rfl
theorem f_173_147 (l : za_L) (st : List Value) (w : za_W) : za_n 173 (147, l, st, w) = za_x 173 (.iaload) 147 l st w := za_n.at zcc_173 dX13_readChoices_147 rfl
theorem f_173_148 (l : za_L) (st : List Value) (w : za_W) : za_n 173 (148, l, st, w) = za_x 173 (.iastore) 148 l st w := za_n.at zcc_173 dX13_readChoices_148 rfl
theorem f_173_149 (l : za_L) (st : List Value) (w : za_W) : za_n 173 (149, l, st, w) = za_x 173 (.iinc 4 (-1)) 149 l st w := za_n.at zcc_173 dX13_readChoices_149 rfl
theorem f_173_152 (l : za_L) (st : List Value) (w : za_W) : za_n 173 (152, l, st, w) = za_go 128 l st w := (za_n.at zcc_173 dX13_readChoices_152 rfl).trans (za_jp.at (by decide))
theorem f_173_155 (l : za_L) (st : List Value) (w : za_W) : za_n 173 (155, l, st, w) = za_x 173 (.aload_n 0) 155 l st w := za_n.at zcc_173 dX13_readChoices_155 rfl
theorem f_173_156 (l : za_L) (st : List Value) (w : za_W) : za_n 173 (156, l, st, w) = za_x 173 (.getfield 94) 156 l st w := za_n.at zcc_173 dX13_readChoices_156 rfl
theorem f_173_159 (l : za_L) (st : List Value) (w : za_W) : za_n 173 (159, l, st, w) = za_go 160 l (.int (0) :: st) w := (za_n.at zcc_173 dX13_readChoices_159 rfl).trans (congrArg (fun x => za_go 160 l (.int x :: st) w) (by decide))
theorem f_173_160 (l : za_L) (st : List Value) (w : za_W) : za_n 173 (160, l, st, w) = za_x 173 (.iload_n 3) 160 l st w := za_n.at zcc_173 dX13_readChoices_160 rfl
theorem f_173_161 (l : za_L) (st : List Value) (w : za_W) : za_n 173 (161, l, st, w) = za_x 173 (.iastore) 161 l st w := za_n.at zcc_173 dX13_readChoices_161 rfl
theorem f_173_162 (l : za_L) (st : List Value) (w : za_W) : za_n 173 (162, l, st, w) = za_x 173 (.aload_n 0) 162 l st w := za_n.at zcc_173 dX13_readChoices_162 rfl
theorem f_173_163 (l : za_L) (st : List Value) (w : za_W) : za_n 173 (163, l, st, w) = za_x 173 (.getfield 72) 163 l st w := za_n.at zcc_173 dX13_readChoices_163 rfl
theorem f_173_166 (l : za_L) (st : List Value) (w : za_W) : za_n 173 (166, l, st, w) = za_x 173 (.iload_n 1) 166 l st w := za_n.at zcc_173 dX13_readChoices_166 rfl
theorem f_173_167 (l : za_L) (st : List Value) (w : za_W) : za_n 173 (167, l, st, w) = za_x 173 (.iload_n 3) 167 l st w := za_n.at zcc_173 dX13_readChoices_167 rfl
theorem f_173_168 (l : za_L) (st : List Value) (w : za_W) : za_n 173 (168, l, st, w) = za_x 173 (.iastore) 168 l st w := za_n.at zcc_173 dX13_readChoices_168 rfl
theorem f_173_169 (l : za_L) (st : List Value) (w : za_W) : za_n 173 (169, l, st, w) = za_x 173 (.iinc 1 1) 169 l st w := za_n.at zcc_173 dX13_readChoices_169 rfl
theorem f_173_172 (l : za_L) (st : List Value) (w : za_W) : za_n 173 (172, l, st, w) = za_go 80 l st w := (za_n.at zcc_173 dX13_readChoices_172 rfl).trans (za_jp.at (by decide))
theorem f_173_175 (l : za_L) (st : List Value) (w : za_W) : za_n 173 (175, l, st, w) = za_x 173 (.return_) 175 l st w := za_n.at zcc_173 dX13_readChoices_175 rfl
theorem f_174_0 (l : za_L) (st : List Value) (w : za_W) : za_n 174 (0, l, st, w) = za_x 174 (.aload_n 0) 0 l st w := za_n.at zcc_174 dX13_readLengths_0 rfl
theorem f_174_1 (l : za_L) (st : List Value) (w : za_W) : za_n 174 (1, l, st, w) = za_go 2 l (.int (5) :: st) w := (za_n.at zcc_174 dX13_readLengths_1 rfl).trans (congrArg (fun x => za_go 2 l (.int x :: st) w) (by decide))
theorem f_174_2 (l : za_L) (st : List Value) (w : za_W) : za_n 174 (2, l, st, w) = za_x 174 (.invokevirtual 274) 2 l st w := za_n.at zcc_174 dX13_readLengths_2 rfl
theorem f_174_5 (l : za_L) (st : List Value) (w : za_W) : za_n 174 (5, l, st, w) = za_x 174 (.l2i) 5 l st w := za_n.at zcc_174 dX13_readLengths_5 rfl
theorem f_174_6 (l : za_L) (st : List Value) (w : za_W) : za_n 174 (6, l, st, w) = za_x 174 (.istore_n 3) 6 l st w := za_n.at zcc_174 dX13_readLengths_6 rfl
theorem f_174_7 (l : za_L) (st : List Value) (w : za_W) : za_n 174 (7, l, st, w) = za_x 174 (.aload_n 0) 7 l st w := za_n.at zcc_174 dX13_readLengths_7 rfl
theorem f_174_8 (l : za_L) (st : List Value) (w : za_W) : za_n 174 (8, l, st, w) = za_x 174 (.iload_n 3) 8 l st w := za_n.at zcc_174 dX13_readLengths_8 rfl
theorem f_174_9 (l : za_L) (st : List Value) (w : za_W) : za_n 174 (9, l, st, w) = za_x 174 (.invokevirtual 280) 9 l st w := za_n.at zcc_174 dX13_readLengths_9 rfl
theorem f_174_12 (l : za_L) (st : List Value) (w : za_W) : za_n 174 (12, l, st, w) = za_go 13 l (.int (0) :: st) w := (za_n.at zcc_174 dX13_readLengths_12 rfl).trans (congrArg (fun x => za_go 13 l (.int x :: st) w) (by decide))
theorem f_174_13 (l : za_L) (st : List Value) (w : za_W) : za_n 174 (13, l, st, w) = za_x 174 (.istore 4) 13 l st w := za_n.at zcc_174 dX13_readLengths_13 rfl
theorem f_174_15 (l : za_L) (st : List Value) (w : za_W) : za_n 174 (15, l, st, w) = za_x 174 (.iload 4) 15 l st w := za_n.at zcc_174 dX13_readLengths_15 rfl
theorem f_174_17 (l : za_L) (st : List Value) (w : za_W) : za_n 174 (17, l, st, w) = za_x 174 (.iload_n 2) 17 l st w := za_n.at zcc_174 dX13_readLengths_17 rfl
theorem f_174_18 (l : za_L) (st : List Value) (w : za_W) : za_n 174 (18, l, st, w) = za_x 174 (.if_icmp .ge 56) 18 l st w := za_n.at zcc_174 dX13_readLengths_18 rfl
theorem f_174_21 (l : za_L) (st : List Value) (w : za_W) : za_n 174 (21, l, st, w) = za_x 174 (.aload_n 0) 21 l st w := za_n.at zcc_174 dX13_readLengths_21 rfl
theorem f_174_22 (l : za_L) (st : List Value) (w : za_W) : za_n 174 (22, l, st, w) = za_x 174 (.invokevirtual 271) 22 l st w := za_n.at zcc_174 dX13_readLengths_22 rfl
theorem f_174_25 (l : za_L) (st : List Value) (w : za_W) : za_n 174 (25, l, st, w) = za_go 26 l (.int (1) :: st) w := (za_n.at zcc_174 dX13_readLengths_25 rfl).trans (congrArg (fun x => za_go 26 l (.int x :: st) w) (by decide))
theorem f_174_26 (l : za_L) (st : List Value) (w : za_W) : za_n 174 (26, l, st, w) = za_x 174 (.if_icmp .ne 28) 26 l st w := za_n.at zcc_174 dX13_readLengths_26 rfl
theorem f_174_29 (l : za_L) (st : List Value) (w : za_W) : za_n 174 (29, l, st, w) = za_x 174 (.aload_n 0) 29 l st w := za_n.at zcc_174 dX13_readLengths_29 rfl
theorem f_174_30 (l : za_L) (st : List Value) (w : za_W) : za_n 174 (30, l, st, w) = za_x 174 (.invokevirtual 271) 30 l st w := za_n.at zcc_174 dX13_readLengths_30 rfl
theorem f_174_33 (l : za_L) (st : List Value) (w : za_W) : za_n 174 (33, l, st, w) = za_x 174 (.ifCond .ne 9) 33 l st w := za_n.at zcc_174 dX13_readLengths_33 rfl
theorem f_174_36 (l : za_L) (st : List Value) (w : za_W) : za_n 174 (36, l, st, w) = za_x 174 (.iload_n 3) 36 l st w := za_n.at zcc_174 dX13_readLengths_36 rfl
theorem f_174_37 (l : za_L) (st : List Value) (w : za_W) : za_n 174 (37, l, st, w) = za_go 38 l (.int (1) :: st) w := (za_n.at zcc_174 dX13_readLengths_37 rfl).trans (congrArg (fun x => za_go 38 l (.int x :: st) w) (by decide))
theorem f_174_38 (l : za_L) (st : List Value) (w : za_W) : za_n 174 (38, l, st, w) = za_x 174 (.iadd) 38 l st w := za_n.at zcc_174 dX13_readLengths_38 rfl
theorem f_174_39 (l : za_L) (st : List Value) (w : za_W) : za_n 174 (39, l, st, w) = za_go 45 l st w := (za_n.at zcc_174 dX13_readLengths_39 rfl).trans (za_jp.at (by decide))
theorem f_174_42 (l : za_L) (st : List Value) (w : za_W) : za_n 174 (42, l, st, w) = za_x 174 (.iload_n 3) 42 l st w := za_n.at zcc_174 dX13_readLengths_42 rfl
theorem f_174_43 (l : za_L) (st : List Value) (w : za_W) : za_n 174 (43, l, st, w) = za_go 44 l (.int (1) :: st) w := (za_n.at zcc_174 dX13_readLengths_43 rfl).trans (congrArg (fun x => za_go 44 l (.int x :: st) w) (by decide))
theorem f_174_44 (l : za_L) (st : List Value) (w : za_W) : za_n 174 (44, l, st, w) = za_x 174 (.isub) 44 l st w := za_n.at zcc_174 dX13_readLengths_44 rfl
theorem f_174_45 (l : za_L) (st : List Value) (w : za_W) : za_n 174 (45, l, st, w) = za_x 174 (.istore_n 3) 45 l st w := za_n.at zcc_174 dX13_readLengths_45 rfl
theorem f_174_46 (l : za_L) (st : List Value) (w : za_W) : za_n 174 (46, l, st, w) = za_x 174 (.aload_n 0) 46 l st w := za_n.at zcc_174 dX13_readLengths_46 rfl
theorem f_174_47 (l : za_L) (st : List Value) (w : za_W) : za_n 174 (47, l, st, w) = za_x 174 (.iload_n 3) 47 l st w := za_n.at zcc_174 dX13_readLengths_47 rfl
theorem f_174_48 (l : za_L) (st : List Value) (w : za_W) : za_n 174 (48, l, st, w) = za_x 174 (.invokevirtual 280) 48 l st w := za_n.at zcc_174 dX13_readLengths_48 rfl
theorem f_174_51 (l : za_L) (st : List Value) (w : za_W) : za_n 174 (51, l, st, w) = za_go 21 l st w := (za_n.at zcc_174 dX13_readLengths_51 rfl).trans (za_jp.at (by decide))
theorem f_174_54 (l : za_L) (st : List Value) (w : za_W) : za_n 174 (54, l, st, w) = za_x 174 (.aload_n 0) 54 l st w := za_n.at zcc_174 dX13_readLengths_54 rfl
theorem f_174_55 (l : za_L) (st : List Value) (w : za_W) : za_n 174 (55, l, st, w) = za_x 174 (.getfield 63) 55 l st w := za_n.at zcc_174 dX13_readLengths_55 rfl
theorem f_174_58 (l : za_L) (st : List Value) (w : za_W) : za_n 174 (58, l, st, w) = za_go 61 l (.int (260) :: st) w := (za_n.at zcc_174 dX13_readLengths_58 rfl).trans (congrArg (fun x => za_go 61 l (.int x :: st) w) (by decide))
theorem f_174_61 (l : za_L) (st : List Value) (w : za_W) : za_n 174 (61, l, st, w) = za_x 174 (.iload_n 1) 61 l st w := za_n.at zcc_174 dX13_readLengths_61 rfl
theorem f_174_62 (l : za_L) (st : List Value) (w : za_W) : za_n 174 (62, l, st, w) = za_x 174 (.imul) 62 l st w := za_n.at zcc_174 dX13_readLengths_62 rfl
theorem f_174_63 (l : za_L) (st : List Value) (w : za_W) : za_n 174 (63, l, st, w) = za_x 174 (.iload 4) 63 l st w := za_n.at zcc_174 dX13_readLengths_63 rfl
theorem f_174_65 (l : za_L) (st : List Value) (w : za_W) : za_n 174 (65, l, st, w) = za_x 174 (.iadd) 65 l st w := za_n.at zcc_174 dX13_readLengths_65 rfl
theorem f_174_66 (l : za_L) (st : List Value) (w : za_W) : za_n 174 (66, l, st, w) = za_x 174 (.iload_n 3) 66 l st w := za_n.at zcc_174 dX13_readLengths_66 rfl
theorem f_174_67 (l : za_L) (st : List Value) (w : za_W) : za_n 174 (67, l, st, w) = za_x 174 (.iastore) 67 l st w := za_n.at zcc_174 dX13_readLengths_67 rfl
theorem f_174_68 (l : za_L) (st : List Value) (w : za_W) : za_n 174 (68, l, st, w) = za_x 174 (.iinc 4 1) 68 l st w := za_n.at zcc_174 dX13_readLengths_68 rfl
theorem f_174_71 (l : za_L) (st : List Value) (w : za_W) : za_n 174 (71, l, st, w) = za_go 15 l st w := (za_n.at zcc_174 dX13_readLengths_71 rfl).trans (za_jp.at (by decide))
theorem f_174_74 (l : za_L) (st : List Value) (w : za_W) : za_n 174 (74, l, st, w) = za_x 174 (.return_) 74 l st w := za_n.at zcc_174 dX13_readLengths_74 rfl
theorem f_175_0 (l : za_L) (st : List Value) (w : za_W) : za_n 175 (0, l, st, w) = za_x 175 (.iload_n 1) 0 l st w := za_n.at zcc_175 dX13_mustBeLength_0 rfl
theorem f_175_1 (l : za_L) (st : List Value) (w : za_W) : za_n 175 (1, l, st, w) = za_x 175 (.i2l) 1 l st w := za_n.at zcc_175 dX13_mustBeLength_1 rfl
theorem f_175_2 (l : za_L) (st : List Value) (w : za_W) : za_n 175 (2, l, st, w) = za_x 175 (.lconst 1) 2 l st w := za_n.at zcc_175 dX13_mustBeLength_2 rfl
theorem f_175_3 (l : za_L) (st : List Value) (w : za_W) : za_n 175 (3, l, st, w) = za_x 175 (.ldc2_w 112) 3 l st w := za_n.at zcc_175 dX13_mustBeLength_3 rfl
theorem f_175_6 (l : za_L) (st : List Value) (w : za_W) : za_n 175 (6, l, st, w) = za_x 175 (.invokestatic 114) 6 l st w := za_n.at zcc_175 dX13_mustBeLength_6 rfl
theorem f_175_9 (l : za_L) (st : List Value) (w : za_W) : za_n 175 (9, l, st, w) = za_x 175 (.ifCond .ne 9) 9 l st w := za_n.at zcc_175 dX13_mustBeLength_9 rfl
theorem f_175_12 (l : za_L) (st : List Value) (w : za_W) : za_n 175 (12, l, st, w) = za_x 175 (.aload_n 0) 12 l st w := za_n.at zcc_175 dX13_mustBeLength_12 rfl
theorem f_175_13 (l : za_L) (st : List Value) (w : za_W) : za_n 175 (13, l, st, w) = za_go 15 l (.int (7) :: st) w := (za_n.at zcc_175 dX13_mustBeLength_13 rfl).trans (congrArg (fun x => za_go 15 l (.int x :: st) w) (by decide))
theorem f_175_15 (l : za_L) (st : List Value) (w : za_W) : za_n 175 (15, l, st, w) = za_x 175 (.invokevirtual 268) 15 l st w := za_n.at zcc_175 dX13_mustBeLength_15 rfl
theorem f_175_18 (l : za_L) (st : List Value) (w : za_W) : za_n 175 (18, l, st, w) = za_x 175 (.return_) 18 l st w := za_n.at zcc_175 dX13_mustBeLength_18 rfl
theorem f_176_0 (l : za_L) (st : List Value) (w : za_W) : za_n 176 (0, l, st, w) = za_go 1 l (.int (0) :: st) w := (za_n.at zcc_176 dX13_readCode_0 rfl).trans (congrArg (fun x => za_go 1 l (.int x :: st) w) (by decide))
theorem f_176_1 (l : za_L) (st : List Value) (w : za_W) : za_n 176 (1, l, st, w) = za_x 176 (.istore_n 3) 1 l st w := za_n.at zcc_176 dX13_readCode_1 rfl
theorem f_176_2 (l : za_L) (st : List Value) (w : za_W) : za_n 176 (2, l, st, w) = za_go 3 l (.int (1) :: st) w := (za_n.at zcc_176 dX13_readCode_2 rfl).trans (congrArg (fun x => za_go 3 l (.int x :: st) w) (by decide))
theorem f_176_3 (l : za_L) (st : List Value) (w : za_W) : za_n 176 (3, l, st, w) = za_x 176 (.istore 4) 3 l st w := za_n.at zcc_176 dX13_readCode_3 rfl
theorem f_176_5 (l : za_L) (st : List Value) (w : za_W) : za_n 176 (5, l, st, w) = za_x 176 (.iload 4) 5 l st w := za_n.at zcc_176 dX13_readCode_5 rfl
theorem f_176_7 (l : za_L) (st : List Value) (w : za_W) : za_n 176 (7, l, st, w) = za_go 9 l (.int (20) :: st) w := (za_n.at zcc_176 dX13_readCode_7 rfl).trans (congrArg (fun x => za_go 9 l (.int x :: st) w) (by decide))
theorem f_176_9 (l : za_L) (st : List Value) (w : za_W) : za_n 176 (9, l, st, w) = za_x 176 (.if_icmp .gt 107) 9 l st w := za_n.at zcc_176 dX13_readCode_9 rfl
theorem f_176_12 (l : za_L) (st : List Value) (w : za_W) : za_n 176 (12, l, st, w) = za_go 13 l (.int (2) :: st) w := (za_n.at zcc_176 dX13_readCode_12 rfl).trans (congrArg (fun x => za_go 13 l (.int x :: st) w) (by decide))
theorem f_176_13 (l : za_L) (st : List Value) (w : za_W) : za_n 176 (13, l, st, w) = za_x 176 (.iload_n 3) 13 l st w := za_n.at zcc_176 dX13_readCode_13 rfl
theorem f_176_14 (l : za_L) (st : List Value) (w : za_W) : za_n 176 (14, l, st, w) = za_x 176 (.imul) 14 l st w := za_n.at zcc_176 dX13_readCode_14 rfl
theorem f_176_15 (l : za_L) (st : List Value) (w : za_W) : za_n 176 (15, l, st, w) = za_x 176 (.aload_n 0) 15 l st w := za_n.at zcc_176 dX13_readCode_15 rfl
theorem f_176_16 (l : za_L) (st : List Value) (w : za_W) : za_n 176 (16, l, st, w) = za_x 176 (.invokevirtual 271) 16 l st w := za_n.at zcc_176 dX13_readCode_16 rfl
theorem f_176_19 (l : za_L) (st : List Value) (w : za_W) : za_n 176 (19, l, st, w) = za_x 176 (.iadd) 19 l st w := za_n.at zcc_176 dX13_readCode_19 rfl
theorem f_176_20 (l : za_L) (st : List Value) (w : za_W) : za_n 176 (20, l, st, w) = za_x 176 (.istore_n 3) 20 l st w := za_n.at zcc_176 dX13_readCode_20 rfl
theorem f_176_21 (l : za_L) (st : List Value) (w : za_W) : za_n 176 (21, l, st, w) = za_x 176 (.aload_n 0) 21 l st w := za_n.at zcc_176 dX13_readCode_21 rfl
theorem f_176_22 (l : za_L) (st : List Value) (w : za_W) : za_n 176 (22, l, st, w) = za_x 176 (.getfield 88) 22 l st w := za_n.at zcc_176 dX13_readCode_22 rfl
theorem f_176_25 (l : za_L) (st : List Value) (w : za_W) : za_n 176 (25, l, st, w) = za_go 27 l (.int (22) :: st) w := (za_n.at zcc_176 dX13_readCode_25 rfl).trans (congrArg (fun x => za_go 27 l (.int x :: st) w) (by decide))
theorem f_176_27 (l : za_L) (st : List Value) (w : za_W) : za_n 176 (27, l, st, w) = za_x 176 (.iload_n 1) 27 l st w := za_n.at zcc_176 dX13_readCode_27 rfl
theorem f_176_28 (l : za_L) (st : List Value) (w : za_W) : za_n 176 (28, l, st, w) = za_x 176 (.imul) 28 l st w := za_n.at zcc_176 dX13_readCode_28 rfl
theorem f_176_29 (l : za_L) (st : List Value) (w : za_W) : za_n 176 (29, l, st, w) = za_x 176 (.iload 4) 29 l st w := za_n.at zcc_176 dX13_readCode_29 rfl
theorem f_176_31 (l : za_L) (st : List Value) (w : za_W) : za_n 176 (31, l, st, w) = za_x 176 (.iadd) 31 l st w := za_n.at zcc_176 dX13_readCode_31 rfl
theorem f_176_32 (l : za_L) (st : List Value) (w : za_W) : za_n 176 (32, l, st, w) = za_x 176 (.iaload) 32 l st w := za_n.at zcc_176 dX13_readCode_32 rfl
theorem f_176_33 (l : za_L) (st : List Value) (w : za_W) : za_n 176 (33, l, st, w) = za_x 176 (.istore 5) 33 l st w := za_n.at zcc_176 dX13_readCode_33 rfl
theorem f_176_35 (l : za_L) (st : List Value) (w : za_W) : za_n 176 (35, l, st, w) = za_x 176 (.iload_n 3) 35 l st w := za_n.at zcc_176 dX13_readCode_35 rfl
theorem f_176_36 (l : za_L) (st : List Value) (w : za_W) : za_n 176 (36, l, st, w) = za_x 176 (.iload 5) 36 l st w := za_n.at zcc_176 dX13_readCode_36 rfl
theorem f_176_38 (l : za_L) (st : List Value) (w : za_W) : za_n 176 (38, l, st, w) = za_x 176 (.if_icmp .lt 72) 38 l st w := za_n.at zcc_176 dX13_readCode_38 rfl
theorem f_176_41 (l : za_L) (st : List Value) (w : za_W) : za_n 176 (41, l, st, w) = za_x 176 (.iload_n 3) 41 l st w := za_n.at zcc_176 dX13_readCode_41 rfl
theorem f_176_42 (l : za_L) (st : List Value) (w : za_W) : za_n 176 (42, l, st, w) = za_x 176 (.iload 5) 42 l st w := za_n.at zcc_176 dX13_readCode_42 rfl
theorem f_176_44 (l : za_L) (st : List Value) (w : za_W) : za_n 176 (44, l, st, w) = za_x 176 (.aload_n 0) 44 l st w := za_n.at zcc_176 dX13_readCode_44 rfl
theorem f_176_45 (l : za_L) (st : List Value) (w : za_W) : za_n 176 (45, l, st, w) = za_x 176 (.getfield 91) 45 l st w := za_n.at zcc_176 dX13_readCode_45 rfl
theorem f_176_48 (l : za_L) (st : List Value) (w : za_W) : za_n 176 (48, l, st, w) = za_go 50 l (.int (22) :: st) w := (za_n.at zcc_176 dX13_readCode_48 rfl).trans (congrArg (fun x => za_go 50 l (.int x :: st) w) (by decide))
theorem f_176_50 (l : za_L) (st : List Value) (w : za_W) : za_n 176 (50, l, st, w) = za_x 176 (.iload_n 1) 50 l st w := za_n.at zcc_176 dX13_readCode_50 rfl
theorem f_176_51 (l : za_L) (st : List Value) (w : za_W) : za_n 176 (51, l, st, w) = za_x 176 (.imul) 51 l st w := za_n.at zcc_176 dX13_readCode_51 rfl
theorem f_176_52 (l : za_L) (st : List Value) (w : za_W) : za_n 176 (52, l, st, w) = za_x 176 (.iload 4) 52 l st w := za_n.at zcc_176 dX13_readCode_52 rfl
theorem f_176_54 (l : za_L) (st : List Value) (w : za_W) : za_n 176 (54, l, st, w) = za_x 176 (.iadd) 54 l st w := za_n.at zcc_176 dX13_readCode_54 rfl
theorem f_176_55 (l : za_L) (st : List Value) (w : za_W) : za_n 176 (55, l, st, w) = za_x 176 (.iaload) 55 l st w := za_n.at zcc_176 dX13_readCode_55 rfl
theorem f_176_56 (l : za_L) (st : List Value) (w : za_W) : za_n 176 (56, l, st, w) = za_x 176 (.iadd) 56 l st w := za_n.at zcc_176 dX13_readCode_56 rfl
theorem f_176_57 (l : za_L) (st : List Value) (w : za_W) : za_n 176 (57, l, st, w) = za_x 176 (.if_icmp .ge 53) 57 l st w := za_n.at zcc_176 dX13_readCode_57 rfl
theorem f_176_60 (l : za_L) (st : List Value) (w : za_W) : za_n 176 (60, l, st, w) = za_go 61 l (.int (-1) :: st) w := (za_n.at zcc_176 dX13_readCode_60 rfl).trans (congrArg (fun x => za_go 61 l (.int x :: st) w) (by decide))
theorem f_176_61 (l : za_L) (st : List Value) (w : za_W) : za_n 176 (61, l, st, w) = za_x 176 (.istore 6) 61 l st w := za_n.at zcc_176 dX13_readCode_61 rfl
theorem f_176_63 (l : za_L) (st : List Value) (w : za_W) : za_n 176 (63, l, st, w) = za_x 176 (.iload_n 3) 63 l st w := za_n.at zcc_176 dX13_readCode_63 rfl
theorem f_176_64 (l : za_L) (st : List Value) (w : za_W) : za_n 176 (64, l, st, w) = za_x 176 (.iload 5) 64 l st w := za_n.at zcc_176 dX13_readCode_64 rfl
theorem f_176_66 (l : za_L) (st : List Value) (w : za_W) : za_n 176 (66, l, st, w) = za_x 176 (.isub) 66 l st w := za_n.at zcc_176 dX13_readCode_66 rfl
theorem f_176_67 (l : za_L) (st : List Value) (w : za_W) : za_n 176 (67, l, st, w) = za_x 176 (.istore 7) 67 l st w := za_n.at zcc_176 dX13_readCode_67 rfl
theorem f_176_69 (l : za_L) (st : List Value) (w : za_W) : za_n 176 (69, l, st, w) = za_x 176 (.iload 7) 69 l st w := za_n.at zcc_176 dX13_readCode_69 rfl
theorem f_176_71 (l : za_L) (st : List Value) (w : za_W) : za_n 176 (71, l, st, w) = za_x 176 (.ifCond .lt 36) 71 l st w := za_n.at zcc_176 dX13_readCode_71 rfl
theorem f_176_74 (l : za_L) (st : List Value) (w : za_W) : za_n 176 (74, l, st, w) = za_x 176 (.iinc 6 1) 74 l st w := za_n.at zcc_176 dX13_readCode_74 rfl
theorem f_176_77 (l : za_L) (st : List Value) (w : za_W) : za_n 176 (77, l, st, w) = za_x 176 (.aload_n 0) 77 l st w := za_n.at zcc_176 dX13_readCode_77 rfl
theorem f_176_78 (l : za_L) (st : List Value) (w : za_W) : za_n 176 (78, l, st, w) = za_x 176 (.getfield 63) 78 l st w := za_n.at zcc_176 dX13_readCode_78 rfl
theorem f_176_81 (l : za_L) (st : List Value) (w : za_W) : za_n 176 (81, l, st, w) = za_go 84 l (.int (260) :: st) w := (za_n.at zcc_176 dX13_readCode_81 rfl).trans (congrArg (fun x => za_go 84 l (.int x :: st) w) (by decide))
theorem f_176_84 (l : za_L) (st : List Value) (w : za_W) : za_n 176 (84, l, st, w) = za_x 176 (.iload_n 1) 84 l st w := za_n.at zcc_176 dX13_readCode_84 rfl
theorem f_176_85 (l : za_L) (st : List Value) (w : za_W) : za_n 176 (85, l, st, w) = za_x 176 (.imul) 85 l st w := za_n.at zcc_176 dX13_readCode_85 rfl
theorem f_176_86 (l : za_L) (st : List Value) (w : za_W) : za_n 176 (86, l, st, w) = za_x 176 (.iload 6) 86 l st w := za_n.at zcc_176 dX13_readCode_86 rfl
theorem f_176_88 (l : za_L) (st : List Value) (w : za_W) : za_n 176 (88, l, st, w) = za_x 176 (.iadd) 88 l st w := za_n.at zcc_176 dX13_readCode_88 rfl
theorem f_176_89 (l : za_L) (st : List Value) (w : za_W) : za_n 176 (89, l, st, w) = za_x 176 (.iaload) 89 l st w := za_n.at zcc_176 dX13_readCode_89 rfl
theorem f_176_90 (l : za_L) (st : List Value) (w : za_W) : za_n 176 (90, l, st, w) = za_x 176 (.iload 4) 90 l st w := za_n.at zcc_176 dX13_readCode_90 rfl
theorem f_176_92 (l : za_L) (st : List Value) (w : za_W) : za_n 176 (92, l, st, w) = za_x 176 (.if_icmp .eq 9) 92 l st w := za_n.at zcc_176 dX13_readCode_92 rfl
theorem f_176_95 (l : za_L) (st : List Value) (w : za_W) : za_n 176 (95, l, st, w) = za_x 176 (.iinc 6 1) 95 l st w := za_n.at zcc_176 dX13_readCode_95 rfl
theorem f_176_98 (l : za_L) (st : List Value) (w : za_W) : za_n 176 (98, l, st, w) = za_go 77 l st w := (za_n.at zcc_176 dX13_readCode_98 rfl).trans (za_jp.at (by decide))
theorem f_176_101 (l : za_L) (st : List Value) (w : za_W) : za_n 176 (101, l, st, w) = za_x 176 (.iinc 7 (-1)) 101 l st w := za_n.at zcc_176 dX13_readCode_101 rfl
theorem f_176_104 (l : za_L) (st : List Value) (w : za_W) : za_n 176 (104, l, st, w) = za_go 69 l st w := (za_n.at zcc_176 dX13_readCode_104 rfl).trans (za_jp.at (by decide))
theorem f_176_107 (l : za_L) (st : List Value) (w : za_W) : za_n 176 (107, l, st, w) = za_x 176 (.iload 6) 107 l st w := za_n.at zcc_176 dX13_readCode_107 rfl
theorem f_176_109 (l : za_L) (st : List Value) (w : za_W) : za_n 176 (109, l, st, w) = za_x 176 (.ireturn) 109 l st w := za_n.at zcc_176 dX13_readCode_109 rfl
theorem f_176_110 (l : za_L) (st : List Value) (w : za_W) : za_n 176 (110, l, st, w) = za_x 176 (.iinc 4 1) 110 l st w := za_n.at zcc_176 dX13_readCode_110 rfl
theorem f_176_113 (l : za_L) (st : List Value) (w : za_W) : za_n 176 (113, l, st, w) = za_go 5 l st w := (za_n.at zcc_176 dX13_readCode_113 rfl).trans (za_jp.at (by decide))
theorem f_176_116 (l : za_L) (st : List Value) (w : za_W) : za_n 176 (116, l, st, w) = za_x 176 (.aload_n 0) 116 l st w := za_n.at zcc_176 dX13_readCode_116 rfl
theorem f_176_117 (l : za_L) (st : List Value) (w : za_W) : za_n 176 (117, l, st, w) = za_go 119 l (.int (8) :: st) w := (za_n.at zcc_176 dX13_readCode_117 rfl).trans (congrArg (fun x => za_go 119 l (.int x :: st) w) (by decide))
theorem f_176_119 (l : za_L) (st : List Value) (w : za_W) : za_n 176 (119, l, st, w) = za_x 176 (.invokevirtual 268) 119 l st w := za_n.at zcc_176 dX13_readCode_119 rfl
theorem f_176_122 (l : za_L) (st : List Value) (w : za_W) : za_n 176 (122, l, st, w) = za_go 123 l (.int (0) :: st) w := (za_n.at zcc_176 dX13_readCode_122 rfl).trans (congrArg (fun x => za_go 123 l (.int x :: st) w) (by decide))
theorem f_176_123 (l : za_L) (st : List Value) (w : za_W) : za_n 176 (123, l, st, w) = za_x 176 (.ireturn) 123 l st w := za_n.at zcc_176 dX13_readCode_123 rfl
theorem f_177_0 (l : za_L) (st : List Value) (w : za_W) : za_n 177 (0, l, st, w) = za_go 1 l (.int (0) :: st) w := (za_n.at zcc_177 dX13_addBytes_0 rfl).trans (congrArg (fun x => za_go 1 l (.int x :: st) w) (by decide))
theorem f_177_1 (l : za_L) (st : List Value) (w : za_W) : za_n 177 (1, l, st, w) = za_x 177 (.istore_n 3) 1 l st w := za_n.at zcc_177 dX13_addBytes_1 rfl
theorem f_177_2 (l : za_L) (st : List Value) (w : za_W) : za_n 177 (2, l, st, w) = za_x 177 (.iload_n 3) 2 l st w := za_n.at zcc_177 dX13_addBytes_2 rfl
theorem f_177_3 (l : za_L) (st : List Value) (w : za_W) : za_n 177 (3, l, st, w) = za_x 177 (.iload_n 2) 3 l st w := za_n.at zcc_177 dX13_addBytes_3 rfl
theorem f_177_4 (l : za_L) (st : List Value) (w : za_W) : za_n 177 (4, l, st, w) = za_x 177 (.if_icmp .ge 30) 4 l st w := za_n.at zcc_177 dX13_addBytes_4 rfl
theorem f_177_7 (l : za_L) (st : List Value) (w : za_W) : za_n 177 (7, l, st, w) = za_x 177 (.aload_n 0) 7 l st w := za_n.at zcc_177 dX13_addBytes_7 rfl
theorem f_177_8 (l : za_L) (st : List Value) (w : za_W) : za_n 177 (8, l, st, w) = za_x 177 (.getfield 44) 8 l st w := za_n.at zcc_177 dX13_addBytes_8 rfl
theorem f_177_11 (l : za_L) (st : List Value) (w : za_W) : za_n 177 (11, l, st, w) = za_x 177 (.aload_n 0) 11 l st w := za_n.at zcc_177 dX13_addBytes_11 rfl
theorem f_177_12 (l : za_L) (st : List Value) (w : za_W) : za_n 177 (12, l, st, w) = za_x 177 (.getfield 161) 12 l st w := za_n.at zcc_177 dX13_addBytes_12 rfl
theorem f_177_15 (l : za_L) (st : List Value) (w : za_W) : za_n 177 (15, l, st, w) = za_x 177 (.iload_n 1) 15 l st w := za_n.at zcc_177 dX13_addBytes_15 rfl
theorem f_177_16 (l : za_L) (st : List Value) (w : za_W) : za_n 177 (16, l, st, w) = za_x 177 (.i2b) 16 l st w := za_n.at zcc_177 dX13_addBytes_16 rfl
theorem f_177_17 (l : za_L) (st : List Value) (w : za_W) : za_n 177 (17, l, st, w) = za_x 177 (.bastore) 17 l st w := za_n.at zcc_177 dX13_addBytes_17 rfl
theorem f_177_18 (l : za_L) (st : List Value) (w : za_W) : za_n 177 (18, l, st, w) = za_x 177 (.aload_n 0) 18 l st w := za_n.at zcc_177 dX13_addBytes_18 rfl
theorem f_177_19 (l : za_L) (st : List Value) (w : za_W) : za_n 177 (19, l, st, w) = za_x 177 (.dup) 19 l st w := za_n.at zcc_177 dX13_addBytes_19 rfl
theorem f_177_20 (l : za_L) (st : List Value) (w : za_W) : za_n 177 (20, l, st, w) = za_x 177 (.getfield 161) 20 l st w := za_n.at zcc_177 dX13_addBytes_20 rfl
theorem f_177_23 (l : za_L) (st : List Value) (w : za_W) : za_n 177 (23, l, st, w) = za_go 24 l (.int (1) :: st) w := (za_n.at zcc_177 dX13_addBytes_23 rfl).trans (congrArg (fun x => za_go 24 l (.int x :: st) w) (by decide))
theorem f_177_24 (l : za_L) (st : List Value) (w : za_W) : za_n 177 (24, l, st, w) = za_x 177 (.iadd) 24 l st w := za_n.at zcc_177 dX13_addBytes_24 rfl
theorem f_177_25 (l : za_L) (st : List Value) (w : za_W) : za_n 177 (25, l, st, w) = za_x 177 (.putfield 161) 25 l st w := za_n.at zcc_177 dX13_addBytes_25 rfl
theorem f_177_28 (l : za_L) (st : List Value) (w : za_W) : za_n 177 (28, l, st, w) = za_x 177 (.iinc 3 1) 28 l st w := za_n.at zcc_177 dX13_addBytes_28 rfl
theorem f_177_31 (l : za_L) (st : List Value) (w : za_W) : za_n 177 (31, l, st, w) = za_go 2 l st w := (za_n.at zcc_177 dX13_addBytes_31 rfl).trans (za_jp.at (by decide))
theorem f_177_34 (l : za_L) (st : List Value) (w : za_W) : za_n 177 (34, l, st, w) = za_x 177 (.return_) 34 l st w := za_n.at zcc_177 dX13_addBytes_34 rfl
theorem f_178_0 (l : za_L) (st : List Value) (w : za_W) : za_n 178 (0, l, st, w) = za_x 178 (.aload_n 0) 0 l st w := za_n.at zcc_178 dX13_readNumbers_0 rfl
theorem f_178_1 (l : za_L) (st : List Value) (w : za_W) : za_n 178 (1, l, st, w) = za_go 2 l (.int (0) :: st) w := (za_n.at zcc_178 dX13_readNumbers_1 rfl).trans (congrArg (fun x => za_go 2 l (.int x :: st) w) (by decide))
theorem f_178_2 (l : za_L) (st : List Value) (w : za_W) : za_n 178 (2, l, st, w) = za_x 178 (.putfield 161) 2 l st w := za_n.at zcc_178 dX13_readNumbers_2 rfl
theorem f_178_5 (l : za_L) (st : List Value) (w : za_W) : za_n 178 (5, l, st, w) = za_x 178 (.aload_n 0) 5 l st w := za_n.at zcc_178 dX13_readNumbers_5 rfl
theorem f_178_6 (l : za_L) (st : List Value) (w : za_W) : za_n 178 (6, l, st, w) = za_go 7 l (.int (0) :: st) w := (za_n.at zcc_178 dX13_readNumbers_6 rfl).trans (congrArg (fun x => za_go 7 l (.int x :: st) w) (by decide))
theorem f_178_7 (l : za_L) (st : List Value) (w : za_W) : za_n 178 (7, l, st, w) = za_x 178 (.putfield 174) 7 l st w := za_n.at zcc_178 dX13_readNumbers_7 rfl
theorem f_178_10 (l : za_L) (st : List Value) (w : za_W) : za_n 178 (10, l, st, w) = za_go 11 l (.int (0) :: st) w := (za_n.at zcc_178 dX13_readNumbers_10 rfl).trans (congrArg (fun x => za_go 11 l (.int x :: st) w) (by decide))
theorem f_178_11 (l : za_L) (st : List Value) (w : za_W) : za_n 178 (11, l, st, w) = za_x 178 (.istore_n 3) 11 l st w := za_n.at zcc_178 dX13_readNumbers_11 rfl
theorem f_178_12 (l : za_L) (st : List Value) (w : za_W) : za_n 178 (12, l, st, w) = za_go 13 l (.int (1) :: st) w := (za_n.at zcc_178 dX13_readNumbers_12 rfl).trans (congrArg (fun x => za_go 13 l (.int x :: st) w) (by decide))
theorem f_178_13 (l : za_L) (st : List Value) (w : za_W) : za_n 178 (13, l, st, w) = za_x 178 (.istore 4) 13 l st w := za_n.at zcc_178 dX13_readNumbers_13 rfl
theorem f_178_15 (l : za_L) (st : List Value) (w : za_W) : za_n 178 (15, l, st, w) = za_go 16 l (.int (0) :: st) w := (za_n.at zcc_178 dX13_readNumbers_15 rfl).trans (congrArg (fun x => za_go 16 l (.int x :: st) w) (by decide))
theorem f_178_16 (l : za_L) (st : List Value) (w : za_W) : za_n 178 (16, l, st, w) = za_x 178 (.istore 5) 16 l st w := za_n.at zcc_178 dX13_readNumbers_16 rfl
theorem f_178_18 (l : za_L) (st : List Value) (w : za_W) : za_n 178 (18, l, st, w) = za_x 178 (.iload 5) 18 l st w := za_n.at zcc_178 dX13_readNumbers_18 rfl
theorem f_178_20 (l : za_L) (st : List Value) (w : za_W) : za_n 178 (20, l, st, w) = za_x 178 (.iload_n 1) 20 l st w := za_n.at zcc_178 dX13_readNumbers_20 rfl
theorem f_178_21 (l : za_L) (st : List Value) (w : za_W) : za_n 178 (21, l, st, w) = za_go 22 l (.int (1) :: st) w := (za_n.at zcc_178 dX13_readNumbers_21 rfl).trans (congrArg (fun x => za_go 22 l (.int x :: st) w) (by decide))
theorem f_178_22 (l : za_L) (st : List Value) (w : za_W) : za_n 178 (22, l, st, w) = za_x 178 (.isub) 22 l st w := za_n.at zcc_178 dX13_readNumbers_22 rfl
theorem f_178_23 (l : za_L) (st : List Value) (w : za_W) : za_n 178 (23, l, st, w) = za_x 178 (.if_icmp .eq 193) 23 l st w := za_n.at zcc_178 dX13_readNumbers_23 rfl
theorem f_178_26 (l : za_L) (st : List Value) (w : za_W) : za_n 178 (26, l, st, w) = za_x 178 (.aload_n 0) 26 l st w := za_n.at zcc_178 dX13_readNumbers_26 rfl
theorem f_178_27 (l : za_L) (st : List Value) (w : za_W) : za_n 178 (27, l, st, w) = za_x 178 (.getfield 174) 27 l st w := za_n.at zcc_178 dX13_readNumbers_27 rfl
theorem f_178_30 (l : za_L) (st : List Value) (w : za_W) : za_n 178 (30, l, st, w) = za_go 32 l (.int (50) :: st) w := (za_n.at zcc_178 dX13_readNumbers_30 rfl).trans (congrArg (fun x => za_go 32 l (.int x :: st) w) (by decide))
theorem f_178_32 (l : za_L) (st : List Value) (w : za_W) : za_n 178 (32, l, st, w) = za_x 178 (.aload_n 0) 32 l st w := za_n.at zcc_178 dX13_readNumbers_32 rfl
theorem f_178_33 (l : za_L) (st : List Value) (w : za_W) : za_n 178 (33, l, st, w) = za_x 178 (.getfield 195) 33 l st w := za_n.at zcc_178 dX13_readNumbers_33 rfl
theorem f_178_36 (l : za_L) (st : List Value) (w : za_W) : za_n 178 (36, l, st, w) = za_x 178 (.imul) 36 l st w := za_n.at zcc_178 dX13_readNumbers_36 rfl
theorem f_178_37 (l : za_L) (st : List Value) (w : za_W) : za_n 178 (37, l, st, w) = za_x 178 (.if_icmp .ne 9) 37 l st w := za_n.at zcc_178 dX13_readNumbers_37 rfl
theorem f_178_40 (l : za_L) (st : List Value) (w : za_W) : za_n 178 (40, l, st, w) = za_x 178 (.aload_n 0) 40 l st w := za_n.at zcc_178 dX13_readNumbers_40 rfl
theorem f_178_41 (l : za_L) (st : List Value) (w : za_W) : za_n 178 (41, l, st, w) = za_go 43 l (.int (8) :: st) w := (za_n.at zcc_178 dX13_readNumbers_41 rfl).trans (congrArg (fun x => za_go 43 l (.int x :: st) w) (by decide))
theorem f_178_43 (l : za_L) (st : List Value) (w : za_W) : za_n 178 (43, l, st, w) = za_x 178 (.invokevirtual 268) 43 l st w := za_n.at zcc_178 dX13_readNumbers_43 rfl
theorem f_178_46 (l : za_L) (st : List Value) (w : za_W) : za_n 178 (46, l, st, w) = za_x 178 (.aload_n 0) 46 l st w := za_n.at zcc_178 dX13_readNumbers_46 rfl
theorem f_178_47 (l : za_L) (st : List Value) (w : za_W) : za_n 178 (47, l, st, w) = za_x 178 (.aload_n 0) 47 l st w := za_n.at zcc_178 dX13_readNumbers_47 rfl
theorem f_178_48 (l : za_L) (st : List Value) (w : za_W) : za_n 178 (48, l, st, w) = za_x 178 (.getfield 72) 48 l st w := za_n.at zcc_178 dX13_readNumbers_48 rfl
theorem f_178_51 (l : za_L) (st : List Value) (w : za_W) : za_n 178 (51, l, st, w) = za_x 178 (.aload_n 0) 51 l st w := za_n.at zcc_178 dX13_readNumbers_51 rfl
theorem f_178_52 (l : za_L) (st : List Value) (w : za_W) : za_n 178 (52, l, st, w) = za_x 178 (.getfield 174) 52 l st w := za_n.at zcc_178 dX13_readNumbers_52 rfl
theorem f_178_55 (l : za_L) (st : List Value) (w : za_W) : za_n 178 (55, l, st, w) = za_go 57 l (.int (50) :: st) w := (za_n.at zcc_178 dX13_readNumbers_55 rfl).trans (congrArg (fun x => za_go 57 l (.int x :: st) w) (by decide))
theorem f_178_57 (l : za_L) (st : List Value) (w : za_W) : za_n 178 (57, l, st, w) = za_x 178 (.idiv) 57 l st w := za_n.at zcc_178 dX13_readNumbers_57 rfl
theorem f_178_58 (l : za_L) (st : List Value) (w : za_W) : za_n 178 (58, l, st, w) = za_x 178 (.iaload) 58 l st w := za_n.at zcc_178 dX13_readNumbers_58 rfl
theorem f_178_59 (l : za_L) (st : List Value) (w : za_W) : za_n 178 (59, l, st, w) = za_x 178 (.iload_n 1) 59 l st w := za_n.at zcc_178 dX13_readNumbers_59 rfl
theorem f_178_60 (l : za_L) (st : List Value) (w : za_W) : za_n 178 (60, l, st, w) = za_x 178 (.invokevirtual 283) 60 l st w := za_n.at zcc_178 dX13_readNumbers_60 rfl
theorem f_178_63 (l : za_L) (st : List Value) (w : za_W) : za_n 178 (63, l, st, w) = za_x 178 (.istore 5) 63 l st w := za_n.at zcc_178 dX13_readNumbers_63 rfl
theorem f_178_65 (l : za_L) (st : List Value) (w : za_W) : za_n 178 (65, l, st, w) = za_x 178 (.aload_n 0) 65 l st w := za_n.at zcc_178 dX13_readNumbers_65 rfl
theorem f_178_66 (l : za_L) (st : List Value) (w : za_W) : za_n 178 (66, l, st, w) = za_x 178 (.dup) 66 l st w := za_n.at zcc_178 dX13_readNumbers_66 rfl
theorem f_178_67 (l : za_L) (st : List Value) (w : za_W) : za_n 178 (67, l, st, w) = za_x 178 (.getfield 174) 67 l st w := za_n.at zcc_178 dX13_readNumbers_67 rfl
theorem f_178_70 (l : za_L) (st : List Value) (w : za_W) : za_n 178 (70, l, st, w) = za_go 71 l (.int (1) :: st) w := (za_n.at zcc_178 dX13_readNumbers_70 rfl).trans (congrArg (fun x => za_go 71 l (.int x :: st) w) (by decide))
theorem f_178_71 (l : za_L) (st : List Value) (w : za_W) : za_n 178 (71, l, st, w) = za_x 178 (.iadd) 71 l st w := za_n.at zcc_178 dX13_readNumbers_71 rfl
theorem f_178_72 (l : za_L) (st : List Value) (w : za_W) : za_n 178 (72, l, st, w) = za_x 178 (.putfield 174) 72 l st w := za_n.at zcc_178 dX13_readNumbers_72 rfl
theorem f_178_75 (l : za_L) (st : List Value) (w : za_W) : za_n 178 (75, l, st, w) = za_x 178 (.iload 5) 75 l st w := za_n.at zcc_178 dX13_readNumbers_75 rfl
theorem f_178_77 (l : za_L) (st : List Value) (w : za_W) : za_n 178 (77, l, st, w) = za_go 78 l (.int (2) :: st) w := (za_n.at zcc_178 dX13_readNumbers_77 rfl).trans (congrArg (fun x => za_go 78 l (.int x :: st) w) (by decide))
theorem f_178_78 (l : za_L) (st : List Value) (w : za_W) : za_n 178 (78, l, st, w) = za_x 178 (.if_icmp .ge 38) 78 l st w := za_n.at zcc_178 dX13_readNumbers_78 rfl
theorem f_178_81 (l : za_L) (st : List Value) (w : za_W) : za_n 178 (81, l, st, w) = za_x 178 (.iload_n 3) 81 l st w := za_n.at zcc_178 dX13_readNumbers_81 rfl
theorem f_178_82 (l : za_L) (st : List Value) (w : za_W) : za_n 178 (82, l, st, w) = za_x 178 (.iload 5) 82 l st w := za_n.at zcc_178 dX13_readNumbers_82 rfl
theorem f_178_84 (l : za_L) (st : List Value) (w : za_W) : za_n 178 (84, l, st, w) = za_go 85 l (.int (1) :: st) w := (za_n.at zcc_178 dX13_readNumbers_84 rfl).trans (congrArg (fun x => za_go 85 l (.int x :: st) w) (by decide))
theorem f_178_85 (l : za_L) (st : List Value) (w : za_W) : za_n 178 (85, l, st, w) = za_x 178 (.iadd) 85 l st w := za_n.at zcc_178 dX13_readNumbers_85 rfl
theorem f_178_86 (l : za_L) (st : List Value) (w : za_W) : za_n 178 (86, l, st, w) = za_x 178 (.iload 4) 86 l st w := za_n.at zcc_178 dX13_readNumbers_86 rfl
theorem f_178_88 (l : za_L) (st : List Value) (w : za_W) : za_n 178 (88, l, st, w) = za_x 178 (.imul) 88 l st w := za_n.at zcc_178 dX13_readNumbers_88 rfl
theorem f_178_89 (l : za_L) (st : List Value) (w : za_W) : za_n 178 (89, l, st, w) = za_x 178 (.iadd) 89 l st w := za_n.at zcc_178 dX13_readNumbers_89 rfl
theorem f_178_90 (l : za_L) (st : List Value) (w : za_W) : za_n 178 (90, l, st, w) = za_x 178 (.istore_n 3) 90 l st w := za_n.at zcc_178 dX13_readNumbers_90 rfl
theorem f_178_91 (l : za_L) (st : List Value) (w : za_W) : za_n 178 (91, l, st, w) = za_go 92 l (.int (2) :: st) w := (za_n.at zcc_178 dX13_readNumbers_91 rfl).trans (congrArg (fun x => za_go 92 l (.int x :: st) w) (by decide))
theorem f_178_92 (l : za_L) (st : List Value) (w : za_W) : za_n 178 (92, l, st, w) = za_x 178 (.iload 4) 92 l st w := za_n.at zcc_178 dX13_readNumbers_92 rfl
theorem f_178_94 (l : za_L) (st : List Value) (w : za_W) : za_n 178 (94, l, st, w) = za_x 178 (.imul) 94 l st w := za_n.at zcc_178 dX13_readNumbers_94 rfl
theorem f_178_95 (l : za_L) (st : List Value) (w : za_W) : za_n 178 (95, l, st, w) = za_x 178 (.istore 4) 95 l st w := za_n.at zcc_178 dX13_readNumbers_95 rfl
theorem f_178_97 (l : za_L) (st : List Value) (w : za_W) : za_n 178 (97, l, st, w) = za_x 178 (.aload_n 0) 97 l st w := za_n.at zcc_178 dX13_readNumbers_97 rfl
theorem f_178_98 (l : za_L) (st : List Value) (w : za_W) : za_n 178 (98, l, st, w) = za_x 178 (.getfield 161) 98 l st w := za_n.at zcc_178 dX13_readNumbers_98 rfl
theorem f_178_101 (l : za_L) (st : List Value) (w : za_W) : za_n 178 (101, l, st, w) = za_x 178 (.iload_n 3) 101 l st w := za_n.at zcc_178 dX13_readNumbers_101 rfl
theorem f_178_102 (l : za_L) (st : List Value) (w : za_W) : za_n 178 (102, l, st, w) = za_x 178 (.iadd) 102 l st w := za_n.at zcc_178 dX13_readNumbers_102 rfl
theorem f_178_103 (l : za_L) (st : List Value) (w : za_W) : za_n 178 (103, l, st, w) = za_x 178 (.iload_n 2) 103 l st w := za_n.at zcc_178 dX13_readNumbers_103 rfl
theorem f_178_104 (l : za_L) (st : List Value) (w : za_W) : za_n 178 (104, l, st, w) = za_x 178 (.if_icmp .le (-86)) 104 l st w := za_n.at zcc_178 dX13_readNumbers_104 rfl
theorem f_178_107 (l : za_L) (st : List Value) (w : za_W) : za_n 178 (107, l, st, w) = za_x 178 (.aload_n 0) 107 l st w := za_n.at zcc_178 dX13_readNumbers_107 rfl
theorem f_178_108 (l : za_L) (st : List Value) (w : za_W) : za_n 178 (108, l, st, w) = za_go 110 l (.int (8) :: st) w := (za_n.at zcc_178 dX13_readNumbers_108 rfl).trans (congrArg (fun x => za_go 110 l (.int x :: st) w) (by decide))
theorem f_178_110 (l : za_L) (st : List Value) (w : za_W) : za_n 178 (110, l, st, w) = za_x 178 (.invokevirtual 268) 110 l st w := za_n.at zcc_178 dX13_readNumbers_110 rfl
theorem f_178_113 (l : za_L) (st : List Value) (w : za_W) : za_n 178 (113, l, st, w) = za_go 18 l st w := (za_n.at zcc_178 dX13_readNumbers_113 rfl).trans (za_jp.at (by decide))
theorem f_178_116 (l : za_L) (st : List Value) (w : za_W) : za_n 178 (116, l, st, w) = za_x 178 (.aload_n 0) 116 l st w := za_n.at zcc_178 dX13_readNumbers_116 rfl
theorem f_178_117 (l : za_L) (st : List Value) (w : za_W) : za_n 178 (117, l, st, w) = za_x 178 (.aload_n 0) 117 l st w := za_n.at zcc_178 dX13_readNumbers_117 rfl
theorem f_178_118 (l : za_L) (st : List Value) (w : za_W) : za_n 178 (118, l, st, w) = za_x 178 (.getfield 56) 118 l st w := za_n.at zcc_178 dX13_readNumbers_118 rfl
theorem f_178_121 (l : za_L) (st : List Value) (w : za_W) : za_n 178 (121, l, st, w) = za_go 122 l (.int (0) :: st) w := (za_n.at zcc_178 dX13_readNumbers_121 rfl).trans (congrArg (fun x => za_go 122 l (.int x :: st) w) (by decide))
theorem f_178_122 (l : za_L) (st : List Value) (w : za_W) : za_n 178 (122, l, st, w) = za_x 178 (.iaload) 122 l st w := za_n.at zcc_178 dX13_readNumbers_122 rfl
theorem f_178_123 (l : za_L) (st : List Value) (w : za_W) : za_n 178 (123, l, st, w) = za_x 178 (.iload_n 3) 123 l st w := za_n.at zcc_178 dX13_readNumbers_123 rfl
theorem f_178_124 (l : za_L) (st : List Value) (w : za_W) : za_n 178 (124, l, st, w) = za_x 178 (.invokevirtual 286) 124 l st w := za_n.at zcc_178 dX13_readNumbers_124 rfl
theorem f_178_127 (l : za_L) (st : List Value) (w : za_W) : za_n 178 (127, l, st, w) = za_go 128 l (.int (0) :: st) w := (za_n.at zcc_178 dX13_readNumbers_127 rfl).trans (congrArg (fun x => za_go 128 l (.int x :: st) w) (by decide))
theorem f_178_128 (l : za_L) (st : List Value) (w : za_W) : za_n 178 (128, l, st, w) = za_x 178 (.istore_n 3) 128 l st w := za_n.at zcc_178 dX13_readNumbers_128 rfl
theorem f_178_129 (l : za_L) (st : List Value) (w : za_W) : za_n 178 (129, l, st, w) = za_go 130 l (.int (1) :: st) w := (za_n.at zcc_178 dX13_readNumbers_129 rfl).trans (congrArg (fun x => za_go 130 l (.int x :: st) w) (by decide))
theorem f_178_130 (l : za_L) (st : List Value) (w : za_W) : za_n 178 (130, l, st, w) = za_x 178 (.istore 4) 130 l st w := za_n.at zcc_178 dX13_readNumbers_130 rfl
theorem f_178_132 (l : za_L) (st : List Value) (w : za_W) : za_n 178 (132, l, st, w) = za_x 178 (.iload 5) 132 l st w := za_n.at zcc_178 dX13_readNumbers_132 rfl
theorem f_178_134 (l : za_L) (st : List Value) (w : za_W) : za_n 178 (134, l, st, w) = za_x 178 (.iload_n 1) 134 l st w := za_n.at zcc_178 dX13_readNumbers_134 rfl
theorem f_178_135 (l : za_L) (st : List Value) (w : za_W) : za_n 178 (135, l, st, w) = za_go 136 l (.int (1) :: st) w := (za_n.at zcc_178 dX13_readNumbers_135 rfl).trans (congrArg (fun x => za_go 136 l (.int x :: st) w) (by decide))
theorem f_178_136 (l : za_L) (st : List Value) (w : za_W) : za_n 178 (136, l, st, w) = za_x 178 (.isub) 136 l st w := za_n.at zcc_178 dX13_readNumbers_136 rfl
theorem f_178_137 (l : za_L) (st : List Value) (w : za_W) : za_n 178 (137, l, st, w) = za_x 178 (.if_icmp .ge (-119)) 137 l st w := za_n.at zcc_178 dX13_readNumbers_137 rfl
theorem f_178_140 (l : za_L) (st : List Value) (w : za_W) : za_n 178 (140, l, st, w) = za_x 178 (.aload_n 0) 140 l st w := za_n.at zcc_178 dX13_readNumbers_140 rfl
theorem f_178_141 (l : za_L) (st : List Value) (w : za_W) : za_n 178 (141, l, st, w) = za_x 178 (.getfield 161) 141 l st w := za_n.at zcc_178 dX13_readNumbers_141 rfl
theorem f_178_144 (l : za_L) (st : List Value) (w : za_W) : za_n 178 (144, l, st, w) = za_x 178 (.iload_n 2) 144 l st w := za_n.at zcc_178 dX13_readNumbers_144 rfl
theorem f_178_145 (l : za_L) (st : List Value) (w : za_W) : za_n 178 (145, l, st, w) = za_x 178 (.if_icmp .ne 9) 145 l st w := za_n.at zcc_178 dX13_readNumbers_145 rfl
theorem f_178_148 (l : za_L) (st : List Value) (w : za_W) : za_n 178 (148, l, st, w) = za_x 178 (.aload_n 0) 148 l st w := za_n.at zcc_178 dX13_readNumbers_148 rfl
theorem f_178_149 (l : za_L) (st : List Value) (w : za_W) : za_n 178 (149, l, st, w) = za_go 151 l (.int (8) :: st) w := (za_n.at zcc_178 dX13_readNumbers_149 rfl).trans (congrArg (fun x => za_go 151 l (.int x :: st) w) (by decide))
theorem f_178_151 (l : za_L) (st : List Value) (w : za_W) : za_n 178 (151, l, st, w) = za_x 178 (.invokevirtual 268) 151 l st w := za_n.at zcc_178 dX13_readNumbers_151 rfl
theorem f_178_154 (l : za_L) (st : List Value) (w : za_W) : za_n 178 (154, l, st, w) = za_x 178 (.aload_n 0) 154 l st w := za_n.at zcc_178 dX13_readNumbers_154 rfl
theorem f_178_155 (l : za_L) (st : List Value) (w : za_W) : za_n 178 (155, l, st, w) = za_x 178 (.getfield 56) 155 l st w := za_n.at zcc_178 dX13_readNumbers_155 rfl
theorem f_178_158 (l : za_L) (st : List Value) (w : za_W) : za_n 178 (158, l, st, w) = za_x 178 (.iload 5) 158 l st w := za_n.at zcc_178 dX13_readNumbers_158 rfl
theorem f_178_160 (l : za_L) (st : List Value) (w : za_W) : za_n 178 (160, l, st, w) = za_go 161 l (.int (1) :: st) w := (za_n.at zcc_178 dX13_readNumbers_160 rfl).trans (congrArg (fun x => za_go 161 l (.int x :: st) w) (by decide))
theorem f_178_161 (l : za_L) (st : List Value) (w : za_W) : za_n 178 (161, l, st, w) = za_x 178 (.isub) 161 l st w := za_n.at zcc_178 dX13_readNumbers_161 rfl
theorem f_178_162 (l : za_L) (st : List Value) (w : za_W) : za_n 178 (162, l, st, w) = za_x 178 (.iaload) 162 l st w := za_n.at zcc_178 dX13_readNumbers_162 rfl
theorem f_178_163 (l : za_L) (st : List Value) (w : za_W) : za_n 178 (163, l, st, w) = za_x 178 (.istore 6) 163 l st w := za_n.at zcc_178 dX13_readNumbers_163 rfl
theorem f_178_165 (l : za_L) (st : List Value) (w : za_W) : za_n 178 (165, l, st, w) = za_x 178 (.iload 5) 165 l st w := za_n.at zcc_178 dX13_readNumbers_165 rfl
theorem f_178_167 (l : za_L) (st : List Value) (w : za_W) : za_n 178 (167, l, st, w) = za_go 168 l (.int (1) :: st) w := (za_n.at zcc_178 dX13_readNumbers_167 rfl).trans (congrArg (fun x => za_go 168 l (.int x :: st) w) (by decide))
theorem f_178_168 (l : za_L) (st : List Value) (w : za_W) : za_n 178 (168, l, st, w) = za_x 178 (.isub) 168 l st w := za_n.at zcc_178 dX13_readNumbers_168 rfl
theorem f_178_169 (l : za_L) (st : List Value) (w : za_W) : za_n 178 (169, l, st, w) = za_x 178 (.istore 7) 169 l st w := za_n.at zcc_178 dX13_readNumbers_169 rfl
theorem f_178_171 (l : za_L) (st : List Value) (w : za_W) : za_n 178 (171, l, st, w) = za_x 178 (.iload 7) 171 l st w := za_n.at zcc_178 dX13_readNumbers_171 rfl
theorem f_178_173 (l : za_L) (st : List Value) (w : za_W) : za_n 178 (173, l, st, w) = za_x 178 (.ifCond .le 25) 173 l st w := za_n.at zcc_178 dX13_readNumbers_173 rfl
theorem f_178_176 (l : za_L) (st : List Value) (w : za_W) : za_n 178 (176, l, st, w) = za_x 178 (.aload_n 0) 176 l st w := za_n.at zcc_178 dX13_readNumbers_176 rfl
theorem f_178_177 (l : za_L) (st : List Value) (w : za_W) : za_n 178 (177, l, st, w) = za_x 178 (.getfield 56) 177 l st w := za_n.at zcc_178 dX13_readNumbers_177 rfl
theorem f_178_180 (l : za_L) (st : List Value) (w : za_W) : za_n 178 (180, l, st, w) = za_x 178 (.iload 7) 180 l st w := za_n.at zcc_178 dX13_readNumbers_180 rfl
theorem f_178_182 (l : za_L) (st : List Value) (w : za_W) : za_n 178 (182, l, st, w) = za_x 178 (.aload_n 0) 182 l st w := za_n.at zcc_178 dX13_readNumbers_182 rfl
theorem f_178_183 (l : za_L) (st : List Value) (w : za_W) : za_n 178 (183, l, st, w) = za_x 178 (.getfield 56) 183 l st w := za_n.at zcc_178 dX13_readNumbers_183 rfl
theorem f_178_186 (l : za_L) (st : List Value) (w : za_W) : za_n 178 (186, l, st, w) = za_x 178 (.iload 7) 186 l st w := za_n.at zcc_178 dX13_readNumbers_186 rfl
theorem f_178_188 (l : za_L) (st : List Value) (w : za_W) : za_n 178 (188, l, st, w) = za_go 189 l (.int (1) :: st) w := (za_n.at zcc_178 dX13_readNumbers_188 rfl).trans (congrArg (fun x => za_go 189 l (.int x :: st) w) (by decide))
theorem f_178_189 (l : za_L) (st : List Value) (w : za_W) : za_n 178 (189, l, st, w) = za_x 178 (.isub) 189 l st w := za_n.at zcc_178 dX13_readNumbers_189 rfl
theorem f_178_190 (l : za_L) (st : List Value) (w : za_W) : za_n 178 (190, l, st, w) = za_x 178 (.iaload) 190 l st w := za_n.at zcc_178 dX13_readNumbers_190 rfl
theorem f_178_191 (l : za_L) (st : List Value) (w : za_W) : za_n 178 (191, l, st, w) = za_x 178 (.iastore) 191 l st w := za_n.at zcc_178 dX13_readNumbers_191 rfl
theorem f_178_192 (l : za_L) (st : List Value) (w : za_W) : za_n 178 (192, l, st, w) = za_x 178 (.iinc 7 (-1)) 192 l st w := za_n.at zcc_178 dX13_readNumbers_192 rfl
theorem f_178_195 (l : za_L) (st : List Value) (w : za_W) : za_n 178 (195, l, st, w) = za_go 171 l st w := (za_n.at zcc_178 dX13_readNumbers_195 rfl).trans (za_jp.at (by decide))
theorem f_178_198 (l : za_L) (st : List Value) (w : za_W) : za_n 178 (198, l, st, w) = za_x 178 (.aload_n 0) 198 l st w := za_n.at zcc_178 dX13_readNumbers_198 rfl
theorem f_178_199 (l : za_L) (st : List Value) (w : za_W) : za_n 178 (199, l, st, w) = za_x 178 (.getfield 56) 199 l st w := za_n.at zcc_178 dX13_readNumbers_199 rfl
theorem f_178_202 (l : za_L) (st : List Value) (w : za_W) : za_n 178 (202, l, st, w) = za_go 203 l (.int (0) :: st) w := (za_n.at zcc_178 dX13_readNumbers_202 rfl).trans (congrArg (fun x => za_go 203 l (.int x :: st) w) (by decide))
theorem f_178_203 (l : za_L) (st : List Value) (w : za_W) : za_n 178 (203, l, st, w) = za_x 178 (.iload 6) 203 l st w := za_n.at zcc_178 dX13_readNumbers_203 rfl
theorem f_178_205 (l : za_L) (st : List Value) (w : za_W) : za_n 178 (205, l, st, w) = za_x 178 (.iastore) 205 l st w := za_n.at zcc_178 dX13_readNumbers_205 rfl
theorem f_178_206 (l : za_L) (st : List Value) (w : za_W) : za_n 178 (206, l, st, w) = za_x 178 (.aload_n 0) 206 l st w := za_n.at zcc_178 dX13_readNumbers_206 rfl
theorem f_178_207 (l : za_L) (st : List Value) (w : za_W) : za_n 178 (207, l, st, w) = za_x 178 (.iload 6) 207 l st w := za_n.at zcc_178 dX13_readNumbers_207 rfl
theorem f_178_209 (l : za_L) (st : List Value) (w : za_W) : za_n 178 (209, l, st, w) = za_go 210 l (.int (1) :: st) w := (za_n.at zcc_178 dX13_readNumbers_209 rfl).trans (congrArg (fun x => za_go 210 l (.int x :: st) w) (by decide))
theorem f_178_210 (l : za_L) (st : List Value) (w : za_W) : za_n 178 (210, l, st, w) = za_x 178 (.invokevirtual 286) 210 l st w := za_n.at zcc_178 dX13_readNumbers_210 rfl
theorem f_178_213 (l : za_L) (st : List Value) (w : za_W) : za_n 178 (213, l, st, w) = za_go 18 l st w := (za_n.at zcc_178 dX13_readNumbers_213 rfl).trans (za_jp.at (by decide))
theorem f_178_216 (l : za_L) (st : List Value) (w : za_W) : za_n 178 (216, l, st, w) = za_x 178 (.return_) 216 l st w := za_n.at zcc_178 dX13_readNumbers_216 rfl
theorem f_179_0 (l : za_L) (st : List Value) (w : za_W) : za_n 179 (0, l, st, w) = za_go 1 l (.int (0) :: st) w := (za_n.at zcc_179 dX13_turnBack_0 rfl).trans (congrArg (fun x => za_go 1 l (.int x :: st) w) (by decide))
theorem f_179_1 (l : za_L) (st : List Value) (w : za_W) : za_n 179 (1, l, st, w) = za_x 179 (.istore_n 2) 1 l st w := za_n.at zcc_179 dX13_turnBack_1 rfl
theorem f_179_2 (l : za_L) (st : List Value) (w : za_W) : za_n 179 (2, l, st, w) = za_x 179 (.iload_n 2) 2 l st w := za_n.at zcc_179 dX13_turnBack_2 rfl
theorem f_179_3 (l : za_L) (st : List Value) (w : za_W) : za_n 179 (3, l, st, w) = za_go 6 l (.int (257) :: st) w := (za_n.at zcc_179 dX13_turnBack_3 rfl).trans (congrArg (fun x => za_go 6 l (.int x :: st) w) (by decide))
theorem f_179_6 (l : za_L) (st : List Value) (w : za_W) : za_n 179 (6, l, st, w) = za_x 179 (.if_icmp .ge 16) 6 l st w := za_n.at zcc_179 dX13_turnBack_6 rfl
theorem f_179_9 (l : za_L) (st : List Value) (w : za_W) : za_n 179 (9, l, st, w) = za_x 179 (.aload_n 0) 9 l st w := za_n.at zcc_179 dX13_turnBack_9 rfl
theorem f_179_10 (l : za_L) (st : List Value) (w : za_W) : za_n 179 (10, l, st, w) = za_x 179 (.getfield 97) 10 l st w := za_n.at zcc_179 dX13_turnBack_10 rfl
theorem f_179_13 (l : za_L) (st : List Value) (w : za_W) : za_n 179 (13, l, st, w) = za_x 179 (.iload_n 2) 13 l st w := za_n.at zcc_179 dX13_turnBack_13 rfl
theorem f_179_14 (l : za_L) (st : List Value) (w : za_W) : za_n 179 (14, l, st, w) = za_go 15 l (.int (0) :: st) w := (za_n.at zcc_179 dX13_turnBack_14 rfl).trans (congrArg (fun x => za_go 15 l (.int x :: st) w) (by decide))
theorem f_179_15 (l : za_L) (st : List Value) (w : za_W) : za_n 179 (15, l, st, w) = za_x 179 (.iastore) 15 l st w := za_n.at zcc_179 dX13_turnBack_15 rfl
theorem f_179_16 (l : za_L) (st : List Value) (w : za_W) : za_n 179 (16, l, st, w) = za_x 179 (.iinc 2 1) 16 l st w := za_n.at zcc_179 dX13_turnBack_16 rfl
theorem f_179_19 (l : za_L) (st : List Value) (w : za_W) : za_n 179 (19, l, st, w) = za_go 2 l st w := (za_n.at zcc_179 dX13_turnBack_19 rfl).trans (za_jp.at (by decide))
theorem f_179_22 (l : za_L) (st : List Value) (w : za_W) : za_n 179 (22, l, st, w) = za_go 23 l (.int (0) :: st) w := (za_n.at zcc_179 dX13_turnBack_22 rfl).trans (congrArg (fun x => za_go 23 l (.int x :: st) w) (by decide))
theorem f_179_23 (l : za_L) (st : List Value) (w : za_W) : za_n 179 (23, l, st, w) = za_x 179 (.istore_n 2) 23 l st w := za_n.at zcc_179 dX13_turnBack_23 rfl
theorem f_179_24 (l : za_L) (st : List Value) (w : za_W) : za_n 179 (24, l, st, w) = za_x 179 (.iload_n 2) 24 l st w := za_n.at zcc_179 dX13_turnBack_24 rfl
theorem f_179_25 (l : za_L) (st : List Value) (w : za_W) : za_n 179 (25, l, st, w) = za_x 179 (.aload_n 0) 25 l st w := za_n.at zcc_179 dX13_turnBack_25 rfl
theorem f_179_26 (l : za_L) (st : List Value) (w : za_W) : za_n 179 (26, l, st, w) = za_x 179 (.getfield 161) 26 l st w := za_n.at zcc_179 dX13_turnBack_26 rfl
theorem f_179_29 (l : za_L) (st : List Value) (w : za_W) : za_n 179 (29, l, st, w) = za_x 179 (.if_icmp .ge 30) 29 l st w := za_n.at zcc_179 dX13_turnBack_29 rfl
theorem f_179_32 (l : za_L) (st : List Value) (w : za_W) : za_n 179 (32, l, st, w) = za_x 179 (.aload_n 0) 32 l st w := za_n.at zcc_179 dX13_turnBack_32 rfl
theorem f_179_33 (l : za_L) (st : List Value) (w : za_W) : za_n 179 (33, l, st, w) = za_x 179 (.getfield 97) 33 l st w := za_n.at zcc_179 dX13_turnBack_33 rfl
theorem f_179_36 (l : za_L) (st : List Value) (w : za_W) : za_n 179 (36, l, st, w) = za_x 179 (.aload_n 0) 36 l st w := za_n.at zcc_179 dX13_turnBack_36 rfl
theorem f_179_37 (l : za_L) (st : List Value) (w : za_W) : za_n 179 (37, l, st, w) = za_x 179 (.getfield 44) 37 l st w := za_n.at zcc_179 dX13_turnBack_37 rfl
theorem f_179_40 (l : za_L) (st : List Value) (w : za_W) : za_n 179 (40, l, st, w) = za_x 179 (.iload_n 2) 40 l st w := za_n.at zcc_179 dX13_turnBack_40 rfl
theorem f_179_41 (l : za_L) (st : List Value) (w : za_W) : za_n 179 (41, l, st, w) = za_x 179 (.baload) 41 l st w := za_n.at zcc_179 dX13_turnBack_41 rfl
theorem f_179_42 (l : za_L) (st : List Value) (w : za_W) : za_n 179 (42, l, st, w) = za_go 45 l (.int (255) :: st) w := (za_n.at zcc_179 dX13_turnBack_42 rfl).trans (congrArg (fun x => za_go 45 l (.int x :: st) w) (by decide))
theorem f_179_45 (l : za_L) (st : List Value) (w : za_W) : za_n 179 (45, l, st, w) = za_x 179 (.iand) 45 l st w := za_n.at zcc_179 dX13_turnBack_45 rfl
theorem f_179_46 (l : za_L) (st : List Value) (w : za_W) : za_n 179 (46, l, st, w) = za_go 47 l (.int (1) :: st) w := (za_n.at zcc_179 dX13_turnBack_46 rfl).trans (congrArg (fun x => za_go 47 l (.int x :: st) w) (by decide))
theorem f_179_47 (l : za_L) (st : List Value) (w : za_W) : za_n 179 (47, l, st, w) = za_x 179 (.iadd) 47 l st w := za_n.at zcc_179 dX13_turnBack_47 rfl
theorem f_179_48 (l : za_L) (st : List Value) (w : za_W) : za_n 179 (48, l, st, w) = za_x 179 (.dup2) 48 l st w := za_n.at zcc_179 dX13_turnBack_48 rfl
theorem f_179_49 (l : za_L) (st : List Value) (w : za_W) : za_n 179 (49, l, st, w) = za_x 179 (.iaload) 49 l st w := za_n.at zcc_179 dX13_turnBack_49 rfl
theorem f_179_50 (l : za_L) (st : List Value) (w : za_W) : za_n 179 (50, l, st, w) = za_go 51 l (.int (1) :: st) w := (za_n.at zcc_179 dX13_turnBack_50 rfl).trans (congrArg (fun x => za_go 51 l (.int x :: st) w) (by decide))
theorem f_179_51 (l : za_L) (st : List Value) (w : za_W) : za_n 179 (51, l, st, w) = za_x 179 (.iadd) 51 l st w := za_n.at zcc_179 dX13_turnBack_51 rfl
theorem f_179_52 (l : za_L) (st : List Value) (w : za_W) : za_n 179 (52, l, st, w) = za_x 179 (.iastore) 52 l st w := za_n.at zcc_179 dX13_turnBack_52 rfl
theorem f_179_53 (l : za_L) (st : List Value) (w : za_W) : za_n 179 (53, l, st, w) = za_x 179 (.iinc 2 1) 53 l st w := za_n.at zcc_179 dX13_turnBack_53 rfl
theorem f_179_56 (l : za_L) (st : List Value) (w : za_W) : za_n 179 (56, l, st, w) = za_go 24 l st w := (za_n.at zcc_179 dX13_turnBack_56 rfl).trans (za_jp.at (by decide))
theorem f_179_59 (l : za_L) (st : List Value) (w : za_W) : za_n 179 (59, l, st, w) = za_go 60 l (.int (1) :: st) w := (za_n.at zcc_179 dX13_turnBack_59 rfl).trans (congrArg (fun x => za_go 60 l (.int x :: st) w) (by decide))
theorem f_179_60 (l : za_L) (st : List Value) (w : za_W) : za_n 179 (60, l, st, w) = za_x 179 (.istore_n 2) 60 l st w := za_n.at zcc_179 dX13_turnBack_60 rfl
theorem f_179_61 (l : za_L) (st : List Value) (w : za_W) : za_n 179 (61, l, st, w) = za_x 179 (.iload_n 2) 61 l st w := za_n.at zcc_179 dX13_turnBack_61 rfl
theorem f_179_62 (l : za_L) (st : List Value) (w : za_W) : za_n 179 (62, l, st, w) = za_go 65 l (.int (257) :: st) w := (za_n.at zcc_179 dX13_turnBack_62 rfl).trans (congrArg (fun x => za_go 65 l (.int x :: st) w) (by decide))
theorem f_179_65 (l : za_L) (st : List Value) (w : za_W) : za_n 179 (65, l, st, w) = za_x 179 (.if_icmp .ge 30) 65 l st w := za_n.at zcc_179 dX13_turnBack_65 rfl
theorem f_179_68 (l : za_L) (st : List Value) (w : za_W) : za_n 179 (68, l, st, w) = za_x 179 (.aload_n 0) 68 l st w := za_n.at zcc_179 dX13_turnBack_68 rfl
theorem f_179_69 (l : za_L) (st : List Value) (w : za_W) : za_n 179 (69, l, st, w) = za_x 179 (.getfield 97) 69 l st w := za_n.at zcc_179 dX13_turnBack_69 rfl
theorem f_179_72 (l : za_L) (st : List Value) (w : za_W) : za_n 179 (72, l, st, w) = za_x 179 (.iload_n 2) 72 l st w := za_n.at zcc_179 dX13_turnBack_72 rfl
theorem f_179_73 (l : za_L) (st : List Value) (w : za_W) : za_n 179 (73, l, st, w) = za_x 179 (.aload_n 0) 73 l st w := za_n.at zcc_179 dX13_turnBack_73 rfl
theorem f_179_74 (l : za_L) (st : List Value) (w : za_W) : za_n 179 (74, l, st, w) = za_x 179 (.getfield 97) 74 l st w := za_n.at zcc_179 dX13_turnBack_74 rfl
theorem f_179_77 (l : za_L) (st : List Value) (w : za_W) : za_n 179 (77, l, st, w) = za_x 179 (.iload_n 2) 77 l st w := za_n.at zcc_179 dX13_turnBack_77 rfl
theorem f_179_78 (l : za_L) (st : List Value) (w : za_W) : za_n 179 (78, l, st, w) = za_x 179 (.iaload) 78 l st w := za_n.at zcc_179 dX13_turnBack_78 rfl
theorem f_179_79 (l : za_L) (st : List Value) (w : za_W) : za_n 179 (79, l, st, w) = za_x 179 (.aload_n 0) 79 l st w := za_n.at zcc_179 dX13_turnBack_79 rfl
theorem f_179_80 (l : za_L) (st : List Value) (w : za_W) : za_n 179 (80, l, st, w) = za_x 179 (.getfield 97) 80 l st w := za_n.at zcc_179 dX13_turnBack_80 rfl
theorem f_179_83 (l : za_L) (st : List Value) (w : za_W) : za_n 179 (83, l, st, w) = za_x 179 (.iload_n 2) 83 l st w := za_n.at zcc_179 dX13_turnBack_83 rfl
theorem f_179_84 (l : za_L) (st : List Value) (w : za_W) : za_n 179 (84, l, st, w) = za_go 85 l (.int (1) :: st) w := (za_n.at zcc_179 dX13_turnBack_84 rfl).trans (congrArg (fun x => za_go 85 l (.int x :: st) w) (by decide))
theorem f_179_85 (l : za_L) (st : List Value) (w : za_W) : za_n 179 (85, l, st, w) = za_x 179 (.isub) 85 l st w := za_n.at zcc_179 dX13_turnBack_85 rfl
theorem f_179_86 (l : za_L) (st : List Value) (w : za_W) : za_n 179 (86, l, st, w) = za_x 179 (.iaload) 86 l st w := za_n.at zcc_179 dX13_turnBack_86 rfl
theorem f_179_87 (l : za_L) (st : List Value) (w : za_W) : za_n 179 (87, l, st, w) = za_x 179 (.iadd) 87 l st w := za_n.at zcc_179 dX13_turnBack_87 rfl
theorem f_179_88 (l : za_L) (st : List Value) (w : za_W) : za_n 179 (88, l, st, w) = za_x 179 (.iastore) 88 l st w := za_n.at zcc_179 dX13_turnBack_88 rfl
theorem f_179_89 (l : za_L) (st : List Value) (w : za_W) : za_n 179 (89, l, st, w) = za_x 179 (.iinc 2 1) 89 l st w := za_n.at zcc_179 dX13_turnBack_89 rfl
theorem f_179_92 (l : za_L) (st : List Value) (w : za_W) : za_n 179 (92, l, st, w) = za_go 61 l st w := (za_n.at zcc_179 dX13_turnBack_92 rfl).trans (za_jp.at (by decide))
theorem f_179_95 (l : za_L) (st : List Value) (w : za_W) : za_n 179 (95, l, st, w) = za_go 96 l (.int (0) :: st) w := (za_n.at zcc_179 dX13_turnBack_95 rfl).trans (congrArg (fun x => za_go 96 l (.int x :: st) w) (by decide))
theorem f_179_96 (l : za_L) (st : List Value) (w : za_W) : za_n 179 (96, l, st, w) = za_x 179 (.istore_n 2) 96 l st w := za_n.at zcc_179 dX13_turnBack_96 rfl
theorem f_179_97 (l : za_L) (st : List Value) (w : za_W) : za_n 179 (97, l, st, w) = za_x 179 (.iload_n 2) 97 l st w := za_n.at zcc_179 dX13_turnBack_97 rfl
theorem f_179_98 (l : za_L) (st : List Value) (w : za_W) : za_n 179 (98, l, st, w) = za_x 179 (.aload_n 0) 98 l st w := za_n.at zcc_179 dX13_turnBack_98 rfl
theorem f_179_99 (l : za_L) (st : List Value) (w : za_W) : za_n 179 (99, l, st, w) = za_x 179 (.getfield 161) 99 l st w := za_n.at zcc_179 dX13_turnBack_99 rfl
theorem f_179_102 (l : za_L) (st : List Value) (w : za_W) : za_n 179 (102, l, st, w) = za_x 179 (.if_icmp .ge 42) 102 l st w := za_n.at zcc_179 dX13_turnBack_102 rfl
theorem f_179_105 (l : za_L) (st : List Value) (w : za_W) : za_n 179 (105, l, st, w) = za_x 179 (.aload_n 0) 105 l st w := za_n.at zcc_179 dX13_turnBack_105 rfl
theorem f_179_106 (l : za_L) (st : List Value) (w : za_W) : za_n 179 (106, l, st, w) = za_x 179 (.getfield 44) 106 l st w := za_n.at zcc_179 dX13_turnBack_106 rfl
theorem f_179_109 (l : za_L) (st : List Value) (w : za_W) : za_n 179 (109, l, st, w) = za_x 179 (.iload_n 2) 109 l st w := za_n.at zcc_179 dX13_turnBack_109 rfl
theorem f_179_110 (l : za_L) (st : List Value) (w : za_W) : za_n 179 (110, l, st, w) = za_x 179 (.baload) 110 l st w := za_n.at zcc_179 dX13_turnBack_110 rfl
theorem f_179_111 (l : za_L) (st : List Value) (w : za_W) : za_n 179 (111, l, st, w) = za_go 114 l (.int (255) :: st) w := (za_n.at zcc_179 dX13_turnBack_111 rfl).trans (congrArg (fun x => za_go 114 l (.int x :: st) w) (by decide))
theorem f_179_114 (l : za_L) (st : List Value) (w : za_W) : za_n 179 (114, l, st, w) = za_x 179 (.iand) 114 l st w := za_n.at zcc_179 dX13_turnBack_114 rfl
theorem f_179_115 (l : za_L) (st : List Value) (w : za_W) : za_n 179 (115, l, st, w) = za_x 179 (.istore_n 3) 115 l st w := za_n.at zcc_179 dX13_turnBack_115 rfl
theorem f_179_116 (l : za_L) (st : List Value) (w : za_W) : za_n 179 (116, l, st, w) = za_x 179 (.aload_n 0) 116 l st w := za_n.at zcc_179 dX13_turnBack_116 rfl
theorem f_179_117 (l : za_L) (st : List Value) (w : za_W) : za_n 179 (117, l, st, w) = za_x 179 (.getfield 47) 117 l st w := za_n.at zcc_179 dX13_turnBack_117 rfl
theorem f_179_120 (l : za_L) (st : List Value) (w : za_W) : za_n 179 (120, l, st, w) = za_x 179 (.aload_n 0) 120 l st w := za_n.at zcc_179 dX13_turnBack_120 rfl
theorem f_179_121 (l : za_L) (st : List Value) (w : za_W) : za_n 179 (121, l, st, w) = za_x 179 (.getfield 97) 121 l st w := za_n.at zcc_179 dX13_turnBack_121 rfl
theorem f_179_124 (l : za_L) (st : List Value) (w : za_W) : za_n 179 (124, l, st, w) = za_x 179 (.iload_n 3) 124 l st w := za_n.at zcc_179 dX13_turnBack_124 rfl
theorem f_179_125 (l : za_L) (st : List Value) (w : za_W) : za_n 179 (125, l, st, w) = za_x 179 (.iaload) 125 l st w := za_n.at zcc_179 dX13_turnBack_125 rfl
theorem f_179_126 (l : za_L) (st : List Value) (w : za_W) : za_n 179 (126, l, st, w) = za_x 179 (.iload_n 2) 126 l st w := za_n.at zcc_179 dX13_turnBack_126 rfl
theorem f_179_127 (l : za_L) (st : List Value) (w : za_W) : za_n 179 (127, l, st, w) = za_x 179 (.iastore) 127 l st w := za_n.at zcc_179 dX13_turnBack_127 rfl
theorem f_179_128 (l : za_L) (st : List Value) (w : za_W) : za_n 179 (128, l, st, w) = za_x 179 (.aload_n 0) 128 l st w := za_n.at zcc_179 dX13_turnBack_128 rfl
theorem f_179_129 (l : za_L) (st : List Value) (w : za_W) : za_n 179 (129, l, st, w) = za_x 179 (.getfield 97) 129 l st w := za_n.at zcc_179 dX13_turnBack_129 rfl
theorem f_179_132 (l : za_L) (st : List Value) (w : za_W) : za_n 179 (132, l, st, w) = za_x 179 (.iload_n 3) 132 l st w := za_n.at zcc_179 dX13_turnBack_132 rfl
theorem f_179_133 (l : za_L) (st : List Value) (w : za_W) : za_n 179 (133, l, st, w) = za_x 179 (.dup2) 133 l st w := za_n.at zcc_179 dX13_turnBack_133 rfl
theorem f_179_134 (l : za_L) (st : List Value) (w : za_W) : za_n 179 (134, l, st, w) = za_x 179 (.iaload) 134 l st w := za_n.at zcc_179 dX13_turnBack_134 rfl
theorem f_179_135 (l : za_L) (st : List Value) (w : za_W) : za_n 179 (135, l, st, w) = za_go 136 l (.int (1) :: st) w := (za_n.at zcc_179 dX13_turnBack_135 rfl).trans (congrArg (fun x => za_go 136 l (.int x :: st) w) (by decide))
theorem f_179_136 (l : za_L) (st : List Value) (w : za_W) : za_n 179 (136, l, st, w) = za_x 179 (.iadd) 136 l st w := za_n.at zcc_179 dX13_turnBack_136 rfl
theorem f_179_137 (l : za_L) (st : List Value) (w : za_W) : za_n 179 (137, l, st, w) = za_x 179 (.iastore) 137 l st w := za_n.at zcc_179 dX13_turnBack_137 rfl
theorem f_179_138 (l : za_L) (st : List Value) (w : za_W) : za_n 179 (138, l, st, w) = za_x 179 (.iinc 2 1) 138 l st w := za_n.at zcc_179 dX13_turnBack_138 rfl
theorem f_179_141 (l : za_L) (st : List Value) (w : za_W) : za_n 179 (141, l, st, w) = za_go 97 l st w := (za_n.at zcc_179 dX13_turnBack_141 rfl).trans (za_jp.at (by decide))
theorem f_179_144 (l : za_L) (st : List Value) (w : za_W) : za_n 179 (144, l, st, w) = za_x 179 (.aload_n 0) 144 l st w := za_n.at zcc_179 dX13_turnBack_144 rfl
theorem f_179_145 (l : za_L) (st : List Value) (w : za_W) : za_n 179 (145, l, st, w) = za_x 179 (.getfield 47) 145 l st w := za_n.at zcc_179 dX13_turnBack_145 rfl
theorem f_179_148 (l : za_L) (st : List Value) (w : za_W) : za_n 179 (148, l, st, w) = za_x 179 (.iload_n 1) 148 l st w := za_n.at zcc_179 dX13_turnBack_148 rfl
theorem f_179_149 (l : za_L) (st : List Value) (w : za_W) : za_n 179 (149, l, st, w) = za_x 179 (.iaload) 149 l st w := za_n.at zcc_179 dX13_turnBack_149 rfl
theorem f_179_150 (l : za_L) (st : List Value) (w : za_W) : za_n 179 (150, l, st, w) = za_x 179 (.istore_n 2) 150 l st w := za_n.at zcc_179 dX13_turnBack_150 rfl
theorem f_179_151 (l : za_L) (st : List Value) (w : za_W) : za_n 179 (151, l, st, w) = za_go 152 l (.int (0) :: st) w := (za_n.at zcc_179 dX13_turnBack_151 rfl).trans (congrArg (fun x => za_go 152 l (.int x :: st) w) (by decide))
theorem f_179_152 (l : za_L) (st : List Value) (w : za_W) : za_n 179 (152, l, st, w) = za_x 179 (.istore_n 3) 152 l st w := za_n.at zcc_179 dX13_turnBack_152 rfl
theorem f_179_153 (l : za_L) (st : List Value) (w : za_W) : za_n 179 (153, l, st, w) = za_x 179 (.iload_n 3) 153 l st w := za_n.at zcc_179 dX13_turnBack_153 rfl
theorem f_179_154 (l : za_L) (st : List Value) (w : za_W) : za_n 179 (154, l, st, w) = za_x 179 (.aload_n 0) 154 l st w := za_n.at zcc_179 dX13_turnBack_154 rfl
theorem f_179_155 (l : za_L) (st : List Value) (w : za_W) : za_n 179 (155, l, st, w) = za_x 179 (.getfield 161) 155 l st w := za_n.at zcc_179 dX13_turnBack_155 rfl
theorem f_179_158 (l : za_L) (st : List Value) (w : za_W) : za_n 179 (158, l, st, w) = za_x 179 (.if_icmp .ge 28) 158 l st w := za_n.at zcc_179 dX13_turnBack_158 rfl
theorem f_179_161 (l : za_L) (st : List Value) (w : za_W) : za_n 179 (161, l, st, w) = za_x 179 (.aload_n 0) 161 l st w := za_n.at zcc_179 dX13_turnBack_161 rfl
theorem f_179_162 (l : za_L) (st : List Value) (w : za_W) : za_n 179 (162, l, st, w) = za_x 179 (.getfield 100) 162 l st w := za_n.at zcc_179 dX13_turnBack_162 rfl
theorem f_179_165 (l : za_L) (st : List Value) (w : za_W) : za_n 179 (165, l, st, w) = za_x 179 (.iload_n 3) 165 l st w := za_n.at zcc_179 dX13_turnBack_165 rfl
theorem f_179_166 (l : za_L) (st : List Value) (w : za_W) : za_n 179 (166, l, st, w) = za_x 179 (.aload_n 0) 166 l st w := za_n.at zcc_179 dX13_turnBack_166 rfl
theorem f_179_167 (l : za_L) (st : List Value) (w : za_W) : za_n 179 (167, l, st, w) = za_x 179 (.getfield 44) 167 l st w := za_n.at zcc_179 dX13_turnBack_167 rfl
theorem f_179_170 (l : za_L) (st : List Value) (w : za_W) : za_n 179 (170, l, st, w) = za_x 179 (.iload_n 2) 170 l st w := za_n.at zcc_179 dX13_turnBack_170 rfl
theorem f_179_171 (l : za_L) (st : List Value) (w : za_W) : za_n 179 (171, l, st, w) = za_x 179 (.baload) 171 l st w := za_n.at zcc_179 dX13_turnBack_171 rfl
theorem f_179_172 (l : za_L) (st : List Value) (w : za_W) : za_n 179 (172, l, st, w) = za_x 179 (.bastore) 172 l st w := za_n.at zcc_179 dX13_turnBack_172 rfl
theorem f_179_173 (l : za_L) (st : List Value) (w : za_W) : za_n 179 (173, l, st, w) = za_x 179 (.aload_n 0) 173 l st w := za_n.at zcc_179 dX13_turnBack_173 rfl
theorem f_179_174 (l : za_L) (st : List Value) (w : za_W) : za_n 179 (174, l, st, w) = za_x 179 (.getfield 47) 174 l st w := za_n.at zcc_179 dX13_turnBack_174 rfl
theorem f_179_177 (l : za_L) (st : List Value) (w : za_W) : za_n 179 (177, l, st, w) = za_x 179 (.iload_n 2) 177 l st w := za_n.at zcc_179 dX13_turnBack_177 rfl
theorem f_179_178 (l : za_L) (st : List Value) (w : za_W) : za_n 179 (178, l, st, w) = za_x 179 (.iaload) 178 l st w := za_n.at zcc_179 dX13_turnBack_178 rfl
theorem f_179_179 (l : za_L) (st : List Value) (w : za_W) : za_n 179 (179, l, st, w) = za_x 179 (.istore_n 2) 179 l st w := za_n.at zcc_179 dX13_turnBack_179 rfl
theorem f_179_180 (l : za_L) (st : List Value) (w : za_W) : za_n 179 (180, l, st, w) = za_x 179 (.iinc 3 1) 180 l st w := za_n.at zcc_179 dX13_turnBack_180 rfl
theorem f_179_183 (l : za_L) (st : List Value) (w : za_W) : za_n 179 (183, l, st, w) = za_go 153 l st w := (za_n.at zcc_179 dX13_turnBack_183 rfl).trans (za_jp.at (by decide))
theorem f_179_186 (l : za_L) (st : List Value) (w : za_W) : za_n 179 (186, l, st, w) = za_x 179 (.return_) 186 l st w := za_n.at zcc_179 dX13_turnBack_186 rfl
theorem f_180_0 (l : za_L) (st : List Value) (w : za_W) : za_n 180 (0, l, st, w) = za_go 1 l (.int (0) :: st) w := (za_n.at zcc_180 dX13_runSize_0 rfl).trans (congrArg (fun x => za_go 1 l (.int x :: st) w) (by decide))
theorem f_180_1 (l : za_L) (st : List Value) (w : za_W) : za_n 180 (1, l, st, w) = za_x 180 (.istore_n 2) 1 l st w := za_n.at zcc_180 dX13_runSize_1 rfl
theorem f_180_2 (l : za_L) (st : List Value) (w : za_W) : za_n 180 (2, l, st, w) = za_go 3 l (.int (0) :: st) w := (za_n.at zcc_180 dX13_runSize_2 rfl).trans (congrArg (fun x => za_go 3 l (.int x :: st) w) (by decide))
theorem f_180_3 (l : za_L) (st : List Value) (w : za_W) : za_n 180 (3, l, st, w) = za_x 180 (.istore_n 3) 3 l st w := za_n.at zcc_180 dX13_runSize_3 rfl
theorem f_180_4 (l : za_L) (st : List Value) (w : za_W) : za_n 180 (4, l, st, w) = za_go 5 l (.int (-1) :: st) w := (za_n.at zcc_180 dX13_runSize_4 rfl).trans (congrArg (fun x => za_go 5 l (.int x :: st) w) (by decide))
theorem f_180_5 (l : za_L) (st : List Value) (w : za_W) : za_n 180 (5, l, st, w) = za_x 180 (.istore 4) 5 l st w := za_n.at zcc_180 dX13_runSize_5 rfl
theorem f_180_7 (l : za_L) (st : List Value) (w : za_W) : za_n 180 (7, l, st, w) = za_go 8 l (.int (0) :: st) w := (za_n.at zcc_180 dX13_runSize_7 rfl).trans (congrArg (fun x => za_go 8 l (.int x :: st) w) (by decide))
theorem f_180_8 (l : za_L) (st : List Value) (w : za_W) : za_n 180 (8, l, st, w) = za_x 180 (.istore 5) 8 l st w := za_n.at zcc_180 dX13_runSize_8 rfl
theorem f_180_10 (l : za_L) (st : List Value) (w : za_W) : za_n 180 (10, l, st, w) = za_x 180 (.iload 5) 10 l st w := za_n.at zcc_180 dX13_runSize_10 rfl
theorem f_180_12 (l : za_L) (st : List Value) (w : za_W) : za_n 180 (12, l, st, w) = za_x 180 (.aload_n 0) 12 l st w := za_n.at zcc_180 dX13_runSize_12 rfl
theorem f_180_13 (l : za_L) (st : List Value) (w : za_W) : za_n 180 (13, l, st, w) = za_x 180 (.getfield 161) 13 l st w := za_n.at zcc_180 dX13_runSize_13 rfl
theorem f_180_16 (l : za_L) (st : List Value) (w : za_W) : za_n 180 (16, l, st, w) = za_x 180 (.if_icmp .ge 107) 16 l st w := za_n.at zcc_180 dX13_runSize_16 rfl
theorem f_180_19 (l : za_L) (st : List Value) (w : za_W) : za_n 180 (19, l, st, w) = za_x 180 (.aload_n 0) 19 l st w := za_n.at zcc_180 dX13_runSize_19 rfl
theorem f_180_20 (l : za_L) (st : List Value) (w : za_W) : za_n 180 (20, l, st, w) = za_x 180 (.getfield 100) 20 l st w := za_n.at zcc_180 dX13_runSize_20 rfl
theorem f_180_23 (l : za_L) (st : List Value) (w : za_W) : za_n 180 (23, l, st, w) = za_x 180 (.iload 5) 23 l st w := za_n.at zcc_180 dX13_runSize_23 rfl
theorem f_180_25 (l : za_L) (st : List Value) (w : za_W) : za_n 180 (25, l, st, w) = za_x 180 (.baload) 25 l st w := za_n.at zcc_180 dX13_runSize_25 rfl
theorem f_180_26 (l : za_L) (st : List Value) (w : za_W) : za_n 180 (26, l, st, w) = za_go 29 l (.int (255) :: st) w := (za_n.at zcc_180 dX13_runSize_26 rfl).trans (congrArg (fun x => za_go 29 l (.int x :: st) w) (by decide))
theorem f_180_29 (l : za_L) (st : List Value) (w : za_W) : za_n 180 (29, l, st, w) = za_x 180 (.iand) 29 l st w := za_n.at zcc_180 dX13_runSize_29 rfl
theorem f_180_30 (l : za_L) (st : List Value) (w : za_W) : za_n 180 (30, l, st, w) = za_x 180 (.istore 6) 30 l st w := za_n.at zcc_180 dX13_runSize_30 rfl
theorem f_180_32 (l : za_L) (st : List Value) (w : za_W) : za_n 180 (32, l, st, w) = za_x 180 (.iload_n 3) 32 l st w := za_n.at zcc_180 dX13_runSize_32 rfl
theorem f_180_33 (l : za_L) (st : List Value) (w : za_W) : za_n 180 (33, l, st, w) = za_go 34 l (.int (4) :: st) w := (za_n.at zcc_180 dX13_runSize_33 rfl).trans (congrArg (fun x => za_go 34 l (.int x :: st) w) (by decide))
theorem f_180_34 (l : za_L) (st : List Value) (w : za_W) : za_n 180 (34, l, st, w) = za_x 180 (.if_icmp .ne 48) 34 l st w := za_n.at zcc_180 dX13_runSize_34 rfl
theorem f_180_37 (l : za_L) (st : List Value) (w : za_W) : za_n 180 (37, l, st, w) = za_go 38 l (.int (0) :: st) w := (za_n.at zcc_180 dX13_runSize_37 rfl).trans (congrArg (fun x => za_go 38 l (.int x :: st) w) (by decide))
theorem f_180_38 (l : za_L) (st : List Value) (w : za_W) : za_n 180 (38, l, st, w) = za_x 180 (.istore 7) 38 l st w := za_n.at zcc_180 dX13_runSize_38 rfl
theorem f_180_40 (l : za_L) (st : List Value) (w : za_W) : za_n 180 (40, l, st, w) = za_x 180 (.iload 7) 40 l st w := za_n.at zcc_180 dX13_runSize_40 rfl
theorem f_180_42 (l : za_L) (st : List Value) (w : za_W) : za_n 180 (42, l, st, w) = za_x 180 (.iload 6) 42 l st w := za_n.at zcc_180 dX13_runSize_42 rfl
theorem f_180_44 (l : za_L) (st : List Value) (w : za_W) : za_n 180 (44, l, st, w) = za_x 180 (.if_icmp .ge 25) 44 l st w := za_n.at zcc_180 dX13_runSize_44 rfl
theorem f_180_47 (l : za_L) (st : List Value) (w : za_W) : za_n 180 (47, l, st, w) = za_x 180 (.iload_n 1) 47 l st w := za_n.at zcc_180 dX13_runSize_47 rfl
theorem f_180_48 (l : za_L) (st : List Value) (w : za_W) : za_n 180 (48, l, st, w) = za_x 180 (.ifCond .eq 21) 48 l st w := za_n.at zcc_180 dX13_runSize_48 rfl
theorem f_180_51 (l : za_L) (st : List Value) (w : za_W) : za_n 180 (51, l, st, w) = za_x 180 (.aload_n 0) 51 l st w := za_n.at zcc_180 dX13_runSize_51 rfl
theorem f_180_52 (l : za_L) (st : List Value) (w : za_W) : za_n 180 (52, l, st, w) = za_x 180 (.getfield 103) 52 l st w := za_n.at zcc_180 dX13_runSize_52 rfl
theorem f_180_55 (l : za_L) (st : List Value) (w : za_W) : za_n 180 (55, l, st, w) = za_x 180 (.iload_n 2) 55 l st w := za_n.at zcc_180 dX13_runSize_55 rfl
theorem f_180_56 (l : za_L) (st : List Value) (w : za_W) : za_n 180 (56, l, st, w) = za_x 180 (.iload 7) 56 l st w := za_n.at zcc_180 dX13_runSize_56 rfl
theorem f_180_58 (l : za_L) (st : List Value) (w : za_W) : za_n 180 (58, l, st, w) = za_x 180 (.iadd) 58 l st w := za_n.at zcc_180 dX13_runSize_58 rfl
theorem f_180_59 (l : za_L) (st : List Value) (w : za_W) : za_n 180 (59, l, st, w) = za_x 180 (.iload 4) 59 l st w := za_n.at zcc_180 dX13_runSize_59 rfl
theorem f_180_61 (l : za_L) (st : List Value) (w : za_W) : za_n 180 (61, l, st, w) = za_x 180 (.i2b) 61 l st w := za_n.at zcc_180 dX13_runSize_61 rfl
theorem f_180_62 (l : za_L) (st : List Value) (w : za_W) : za_n 180 (62, l, st, w) = za_x 180 (.bastore) 62 l st w := za_n.at zcc_180 dX13_runSize_62 rfl
theorem f_180_63 (l : za_L) (st : List Value) (w : za_W) : za_n 180 (63, l, st, w) = za_x 180 (.iinc 7 1) 63 l st w := za_n.at zcc_180 dX13_runSize_63 rfl
theorem f_180_66 (l : za_L) (st : List Value) (w : za_W) : za_n 180 (66, l, st, w) = za_go 40 l st w := (za_n.at zcc_180 dX13_runSize_66 rfl).trans (za_jp.at (by decide))
theorem f_180_69 (l : za_L) (st : List Value) (w : za_W) : za_n 180 (69, l, st, w) = za_x 180 (.iload_n 2) 69 l st w := za_n.at zcc_180 dX13_runSize_69 rfl
theorem f_180_70 (l : za_L) (st : List Value) (w : za_W) : za_n 180 (70, l, st, w) = za_x 180 (.iload 6) 70 l st w := za_n.at zcc_180 dX13_runSize_70 rfl
theorem f_180_72 (l : za_L) (st : List Value) (w : za_W) : za_n 180 (72, l, st, w) = za_x 180 (.iadd) 72 l st w := za_n.at zcc_180 dX13_runSize_72 rfl
theorem f_180_73 (l : za_L) (st : List Value) (w : za_W) : za_n 180 (73, l, st, w) = za_x 180 (.istore_n 2) 73 l st w := za_n.at zcc_180 dX13_runSize_73 rfl
theorem f_180_74 (l : za_L) (st : List Value) (w : za_W) : za_n 180 (74, l, st, w) = za_go 75 l (.int (0) :: st) w := (za_n.at zcc_180 dX13_runSize_74 rfl).trans (congrArg (fun x => za_go 75 l (.int x :: st) w) (by decide))
theorem f_180_75 (l : za_L) (st : List Value) (w : za_W) : za_n 180 (75, l, st, w) = za_x 180 (.istore_n 3) 75 l st w := za_n.at zcc_180 dX13_runSize_75 rfl
theorem f_180_76 (l : za_L) (st : List Value) (w : za_W) : za_n 180 (76, l, st, w) = za_go 77 l (.int (-1) :: st) w := (za_n.at zcc_180 dX13_runSize_76 rfl).trans (congrArg (fun x => za_go 77 l (.int x :: st) w) (by decide))
theorem f_180_77 (l : za_L) (st : List Value) (w : za_W) : za_n 180 (77, l, st, w) = za_x 180 (.istore 4) 77 l st w := za_n.at zcc_180 dX13_runSize_77 rfl
theorem f_180_79 (l : za_L) (st : List Value) (w : za_W) : za_n 180 (79, l, st, w) = za_go 117 l st w := (za_n.at zcc_180 dX13_runSize_79 rfl).trans (za_jp.at (by decide))
theorem f_180_82 (l : za_L) (st : List Value) (w : za_W) : za_n 180 (82, l, st, w) = za_x 180 (.iload 6) 82 l st w := za_n.at zcc_180 dX13_runSize_82 rfl
theorem f_180_84 (l : za_L) (st : List Value) (w : za_W) : za_n 180 (84, l, st, w) = za_x 180 (.iload 4) 84 l st w := za_n.at zcc_180 dX13_runSize_84 rfl
theorem f_180_86 (l : za_L) (st : List Value) (w : za_W) : za_n 180 (86, l, st, w) = za_x 180 (.if_icmp .ne 9) 86 l st w := za_n.at zcc_180 dX13_runSize_86 rfl
theorem f_180_89 (l : za_L) (st : List Value) (w : za_W) : za_n 180 (89, l, st, w) = za_x 180 (.iload_n 3) 89 l st w := za_n.at zcc_180 dX13_runSize_89 rfl
theorem f_180_90 (l : za_L) (st : List Value) (w : za_W) : za_n 180 (90, l, st, w) = za_go 91 l (.int (1) :: st) w := (za_n.at zcc_180 dX13_runSize_90 rfl).trans (congrArg (fun x => za_go 91 l (.int x :: st) w) (by decide))
theorem f_180_91 (l : za_L) (st : List Value) (w : za_W) : za_n 180 (91, l, st, w) = za_x 180 (.iadd) 91 l st w := za_n.at zcc_180 dX13_runSize_91 rfl
theorem f_180_92 (l : za_L) (st : List Value) (w : za_W) : za_n 180 (92, l, st, w) = za_go 96 l st w := (za_n.at zcc_180 dX13_runSize_92 rfl).trans (za_jp.at (by decide))
theorem f_180_95 (l : za_L) (st : List Value) (w : za_W) : za_n 180 (95, l, st, w) = za_go 96 l (.int (1) :: st) w := (za_n.at zcc_180 dX13_runSize_95 rfl).trans (congrArg (fun x => za_go 96 l (.int x :: st) w) (by decide))
theorem f_180_96 (l : za_L) (st : List Value) (w : za_W) : za_n 180 (96, l, st, w) = za_x 180 (.istore_n 3) 96 l st w := za_n.at zcc_180 dX13_runSize_96 rfl
theorem f_180_97 (l : za_L) (st : List Value) (w : za_W) : za_n 180 (97, l, st, w) = za_x 180 (.iload 6) 97 l st w := za_n.at zcc_180 dX13_runSize_97 rfl
theorem f_180_99 (l : za_L) (st : List Value) (w : za_W) : za_n 180 (99, l, st, w) = za_x 180 (.istore 4) 99 l st w := za_n.at zcc_180 dX13_runSize_99 rfl
theorem f_180_101 (l : za_L) (st : List Value) (w : za_W) : za_n 180 (101, l, st, w) = za_x 180 (.iload_n 1) 101 l st w := za_n.at zcc_180 dX13_runSize_101 rfl
theorem f_180_102 (l : za_L) (st : List Value) (w : za_W) : za_n 180 (102, l, st, w) = za_x 180 (.ifCond .eq 12) 102 l st w := za_n.at zcc_180 dX13_runSize_102 rfl
theorem f_180_105 (l : za_L) (st : List Value) (w : za_W) : za_n 180 (105, l, st, w) = za_x 180 (.aload_n 0) 105 l st w := za_n.at zcc_180 dX13_runSize_105 rfl
theorem f_180_106 (l : za_L) (st : List Value) (w : za_W) : za_n 180 (106, l, st, w) = za_x 180 (.getfield 103) 106 l st w := za_n.at zcc_180 dX13_runSize_106 rfl
theorem f_180_109 (l : za_L) (st : List Value) (w : za_W) : za_n 180 (109, l, st, w) = za_x 180 (.iload_n 2) 109 l st w := za_n.at zcc_180 dX13_runSize_109 rfl
theorem f_180_110 (l : za_L) (st : List Value) (w : za_W) : za_n 180 (110, l, st, w) = za_x 180 (.iload 6) 110 l st w := za_n.at zcc_180 dX13_runSize_110 rfl
theorem f_180_112 (l : za_L) (st : List Value) (w : za_W) : za_n 180 (112, l, st, w) = za_x 180 (.i2b) 112 l st w := za_n.at zcc_180 dX13_runSize_112 rfl
theorem f_180_113 (l : za_L) (st : List Value) (w : za_W) : za_n 180 (113, l, st, w) = za_x 180 (.bastore) 113 l st w := za_n.at zcc_180 dX13_runSize_113 rfl
theorem f_180_114 (l : za_L) (st : List Value) (w : za_W) : za_n 180 (114, l, st, w) = za_x 180 (.iinc 2 1) 114 l st w := za_n.at zcc_180 dX13_runSize_114 rfl
theorem f_180_117 (l : za_L) (st : List Value) (w : za_W) : za_n 180 (117, l, st, w) = za_x 180 (.iinc 5 1) 117 l st w := za_n.at zcc_180 dX13_runSize_117 rfl
theorem f_180_120 (l : za_L) (st : List Value) (w : za_W) : za_n 180 (120, l, st, w) = za_go 10 l st w := (za_n.at zcc_180 dX13_runSize_120 rfl).trans (za_jp.at (by decide))
theorem f_180_123 (l : za_L) (st : List Value) (w : za_W) : za_n 180 (123, l, st, w) = za_x 180 (.iload_n 3) 123 l st w := za_n.at zcc_180 dX13_runSize_123 rfl
theorem f_180_124 (l : za_L) (st : List Value) (w : za_W) : za_n 180 (124, l, st, w) = za_go 125 l (.int (4) :: st) w := (za_n.at zcc_180 dX13_runSize_124 rfl).trans (congrArg (fun x => za_go 125 l (.int x :: st) w) (by decide))
theorem f_180_125 (l : za_L) (st : List Value) (w : za_W) : za_n 180 (125, l, st, w) = za_x 180 (.if_icmp .ne 7) 125 l st w := za_n.at zcc_180 dX13_runSize_125 rfl
theorem f_180_128 (l : za_L) (st : List Value) (w : za_W) : za_n 180 (128, l, st, w) = za_go 129 l (.int (-1) :: st) w := (za_n.at zcc_180 dX13_runSize_128 rfl).trans (congrArg (fun x => za_go 129 l (.int x :: st) w) (by decide))
theorem f_180_129 (l : za_L) (st : List Value) (w : za_W) : za_n 180 (129, l, st, w) = za_go 133 l st w := (za_n.at zcc_180 dX13_runSize_129 rfl).trans (za_jp.at (by decide))
theorem f_180_132 (l : za_L) (st : List Value) (w : za_W) : za_n 180 (132, l, st, w) = za_x 180 (.iload_n 2) 132 l st w := za_n.at zcc_180 dX13_runSize_132 rfl
theorem f_180_133 (l : za_L) (st : List Value) (w : za_W) : za_n 180 (133, l, st, w) = za_x 180 (.ireturn) 133 l st w := za_n.at zcc_180 dX13_runSize_133 rfl
theorem f_181_0 (l : za_L) (st : List Value) (w : za_W) : za_n 181 (0, l, st, w) = za_x 181 (.aload_n 0) 0 l st w := za_n.at zcc_181 dX13_readBlock_0 rfl
theorem f_181_1 (l : za_L) (st : List Value) (w : za_W) : za_n 181 (1, l, st, w) = za_go 3 l (.int (32) :: st) w := (za_n.at zcc_181 dX13_readBlock_1 rfl).trans (congrArg (fun x => za_go 3 l (.int x :: st) w) (by decide))
theorem f_181_3 (l : za_L) (st : List Value) (w : za_W) : za_n 181 (3, l, st, w) = za_x 181 (.invokevirtual 274) 3 l st w := za_n.at zcc_181 dX13_readBlock_3 rfl
theorem f_181_6 (l : za_L) (st : List Value) (w : za_W) : za_n 181 (6, l, st, w) = za_x 181 (.l2i) 6 l st w := za_n.at zcc_181 dX13_readBlock_6 rfl
theorem f_181_7 (l : za_L) (st : List Value) (w : za_W) : za_n 181 (7, l, st, w) = za_x 181 (.istore 6) 7 l st w := za_n.at zcc_181 dX13_readBlock_7 rfl
theorem f_181_9 (l : za_L) (st : List Value) (w : za_W) : za_n 181 (9, l, st, w) = za_x 181 (.aload_n 0) 9 l st w := za_n.at zcc_181 dX13_readBlock_9 rfl
theorem f_181_10 (l : za_L) (st : List Value) (w : za_W) : za_n 181 (10, l, st, w) = za_x 181 (.invokevirtual 271) 10 l st w := za_n.at zcc_181 dX13_readBlock_10 rfl
theorem f_181_13 (l : za_L) (st : List Value) (w : za_W) : za_n 181 (13, l, st, w) = za_x 181 (.ifCond .eq 8) 13 l st w := za_n.at zcc_181 dX13_readBlock_13 rfl
theorem f_181_16 (l : za_L) (st : List Value) (w : za_W) : za_n 181 (16, l, st, w) = za_x 181 (.aload_n 0) 16 l st w := za_n.at zcc_181 dX13_readBlock_16 rfl
theorem f_181_17 (l : za_L) (st : List Value) (w : za_W) : za_n 181 (17, l, st, w) = za_go 18 l (.int (4) :: st) w := (za_n.at zcc_181 dX13_readBlock_17 rfl).trans (congrArg (fun x => za_go 18 l (.int x :: st) w) (by decide))
theorem f_181_18 (l : za_L) (st : List Value) (w : za_W) : za_n 181 (18, l, st, w) = za_x 181 (.invokevirtual 268) 18 l st w := za_n.at zcc_181 dX13_readBlock_18 rfl
theorem f_181_21 (l : za_L) (st : List Value) (w : za_W) : za_n 181 (21, l, st, w) = za_x 181 (.aload_n 0) 21 l st w := za_n.at zcc_181 dX13_readBlock_21 rfl
theorem f_181_22 (l : za_L) (st : List Value) (w : za_W) : za_n 181 (22, l, st, w) = za_go 24 l (.int (24) :: st) w := (za_n.at zcc_181 dX13_readBlock_22 rfl).trans (congrArg (fun x => za_go 24 l (.int x :: st) w) (by decide))
theorem f_181_24 (l : za_L) (st : List Value) (w : za_W) : za_n 181 (24, l, st, w) = za_x 181 (.invokevirtual 274) 24 l st w := za_n.at zcc_181 dX13_readBlock_24 rfl
theorem f_181_27 (l : za_L) (st : List Value) (w : za_W) : za_n 181 (27, l, st, w) = za_x 181 (.l2i) 27 l st w := za_n.at zcc_181 dX13_readBlock_27 rfl
theorem f_181_28 (l : za_L) (st : List Value) (w : za_W) : za_n 181 (28, l, st, w) = za_x 181 (.istore 7) 28 l st w := za_n.at zcc_181 dX13_readBlock_28 rfl
theorem f_181_30 (l : za_L) (st : List Value) (w : za_W) : za_n 181 (30, l, st, w) = za_x 181 (.aload_n 0) 30 l st w := za_n.at zcc_181 dX13_readBlock_30 rfl
theorem f_181_31 (l : za_L) (st : List Value) (w : za_W) : za_n 181 (31, l, st, w) = za_x 181 (.invokevirtual 289) 31 l st w := za_n.at zcc_181 dX13_readBlock_31 rfl
theorem f_181_34 (l : za_L) (st : List Value) (w : za_W) : za_n 181 (34, l, st, w) = za_x 181 (.aload_n 0) 34 l st w := za_n.at zcc_181 dX13_readBlock_34 rfl
theorem f_181_35 (l : za_L) (st : List Value) (w : za_W) : za_n 181 (35, l, st, w) = za_x 181 (.getfield 171) 35 l st w := za_n.at zcc_181 dX13_readBlock_35 rfl
theorem f_181_38 (l : za_L) (st : List Value) (w : za_W) : za_n 181 (38, l, st, w) = za_go 39 l (.int (2) :: st) w := (za_n.at zcc_181 dX13_readBlock_38 rfl).trans (congrArg (fun x => za_go 39 l (.int x :: st) w) (by decide))
theorem f_181_39 (l : za_L) (st : List Value) (w : za_W) : za_n 181 (39, l, st, w) = za_x 181 (.iadd) 39 l st w := za_n.at zcc_181 dX13_readBlock_39 rfl
theorem f_181_40 (l : za_L) (st : List Value) (w : za_W) : za_n 181 (40, l, st, w) = za_x 181 (.istore 8) 40 l st w := za_n.at zcc_181 dX13_readBlock_40 rfl
theorem f_181_42 (l : za_L) (st : List Value) (w : za_W) : za_n 181 (42, l, st, w) = za_x 181 (.aload_n 0) 42 l st w := za_n.at zcc_181 dX13_readBlock_42 rfl
theorem f_181_43 (l : za_L) (st : List Value) (w : za_W) : za_n 181 (43, l, st, w) = za_x 181 (.invokevirtual 292) 43 l st w := za_n.at zcc_181 dX13_readBlock_43 rfl
theorem f_181_46 (l : za_L) (st : List Value) (w : za_W) : za_n 181 (46, l, st, w) = za_go 47 l (.int (0) :: st) w := (za_n.at zcc_181 dX13_readBlock_46 rfl).trans (congrArg (fun x => za_go 47 l (.int x :: st) w) (by decide))
theorem f_181_47 (l : za_L) (st : List Value) (w : za_W) : za_n 181 (47, l, st, w) = za_x 181 (.istore 9) 47 l st w := za_n.at zcc_181 dX13_readBlock_47 rfl
theorem f_181_49 (l : za_L) (st : List Value) (w : za_W) : za_n 181 (49, l, st, w) = za_x 181 (.iload 9) 49 l st w := za_n.at zcc_181 dX13_readBlock_49 rfl
theorem f_181_51 (l : za_L) (st : List Value) (w : za_W) : za_n 181 (51, l, st, w) = za_x 181 (.aload_n 0) 51 l st w := za_n.at zcc_181 dX13_readBlock_51 rfl
theorem f_181_52 (l : za_L) (st : List Value) (w : za_W) : za_n 181 (52, l, st, w) = za_x 181 (.getfield 189) 52 l st w := za_n.at zcc_181 dX13_readBlock_52 rfl
theorem f_181_55 (l : za_L) (st : List Value) (w : za_W) : za_n 181 (55, l, st, w) = za_x 181 (.if_icmp .ge 25) 55 l st w := za_n.at zcc_181 dX13_readBlock_55 rfl
theorem f_181_58 (l : za_L) (st : List Value) (w : za_W) : za_n 181 (58, l, st, w) = za_x 181 (.aload_n 0) 58 l st w := za_n.at zcc_181 dX13_readBlock_58 rfl
theorem f_181_59 (l : za_L) (st : List Value) (w : za_W) : za_n 181 (59, l, st, w) = za_x 181 (.iload 9) 59 l st w := za_n.at zcc_181 dX13_readBlock_59 rfl
theorem f_181_61 (l : za_L) (st : List Value) (w : za_W) : za_n 181 (61, l, st, w) = za_x 181 (.iload 8) 61 l st w := za_n.at zcc_181 dX13_readBlock_61 rfl
theorem f_181_63 (l : za_L) (st : List Value) (w : za_W) : za_n 181 (63, l, st, w) = za_x 181 (.invokevirtual 295) 63 l st w := za_n.at zcc_181 dX13_readBlock_63 rfl
theorem f_181_66 (l : za_L) (st : List Value) (w : za_W) : za_n 181 (66, l, st, w) = za_x 181 (.aload_n 0) 66 l st w := za_n.at zcc_181 dX13_readBlock_66 rfl
theorem f_181_67 (l : za_L) (st : List Value) (w : za_W) : za_n 181 (67, l, st, w) = za_x 181 (.iload 9) 67 l st w := za_n.at zcc_181 dX13_readBlock_67 rfl
theorem f_181_69 (l : za_L) (st : List Value) (w : za_W) : za_n 181 (69, l, st, w) = za_x 181 (.iload 8) 69 l st w := za_n.at zcc_181 dX13_readBlock_69 rfl
theorem f_181_71 (l : za_L) (st : List Value) (w : za_W) : za_n 181 (71, l, st, w) = za_x 181 (.invokevirtual 234) 71 l st w := za_n.at zcc_181 dX13_readBlock_71 rfl
theorem f_181_74 (l : za_L) (st : List Value) (w : za_W) : za_n 181 (74, l, st, w) = za_x 181 (.iinc 9 1) 74 l st w := za_n.at zcc_181 dX13_readBlock_74 rfl
theorem f_181_77 (l : za_L) (st : List Value) (w : za_W) : za_n 181 (77, l, st, w) = za_go 49 l st w := (za_n.at zcc_181 dX13_readBlock_77 rfl).trans (za_jp.at (by decide))
theorem f_181_80 (l : za_L) (st : List Value) (w : za_W) : za_n 181 (80, l, st, w) = za_x 181 (.aload_n 0) 80 l st w := za_n.at zcc_181 dX13_readBlock_80 rfl
theorem f_181_81 (l : za_L) (st : List Value) (w : za_W) : za_n 181 (81, l, st, w) = za_x 181 (.iload 8) 81 l st w := za_n.at zcc_181 dX13_readBlock_81 rfl
theorem f_181_83 (l : za_L) (st : List Value) (w : za_W) : za_n 181 (83, l, st, w) = za_x 181 (.iload_n 3) 83 l st w := za_n.at zcc_181 dX13_readBlock_83 rfl
theorem f_181_84 (l : za_L) (st : List Value) (w : za_W) : za_n 181 (84, l, st, w) = za_x 181 (.invokevirtual 298) 84 l st w := za_n.at zcc_181 dX13_readBlock_84 rfl
theorem f_181_87 (l : za_L) (st : List Value) (w : za_W) : za_n 181 (87, l, st, w) = za_x 181 (.iload 7) 87 l st w := za_n.at zcc_181 dX13_readBlock_87 rfl
theorem f_181_89 (l : za_L) (st : List Value) (w : za_W) : za_n 181 (89, l, st, w) = za_x 181 (.aload_n 0) 89 l st w := za_n.at zcc_181 dX13_readBlock_89 rfl
theorem f_181_90 (l : za_L) (st : List Value) (w : za_W) : za_n 181 (90, l, st, w) = za_x 181 (.getfield 161) 90 l st w := za_n.at zcc_181 dX13_readBlock_90 rfl
theorem f_181_93 (l : za_L) (st : List Value) (w : za_W) : za_n 181 (93, l, st, w) = za_x 181 (.if_icmp .lt 9) 93 l st w := za_n.at zcc_181 dX13_readBlock_93 rfl
theorem f_181_96 (l : za_L) (st : List Value) (w : za_W) : za_n 181 (96, l, st, w) = za_x 181 (.aload_n 0) 96 l st w := za_n.at zcc_181 dX13_readBlock_96 rfl
theorem f_181_97 (l : za_L) (st : List Value) (w : za_W) : za_n 181 (97, l, st, w) = za_go 99 l (.int (9) :: st) w := (za_n.at zcc_181 dX13_readBlock_97 rfl).trans (congrArg (fun x => za_go 99 l (.int x :: st) w) (by decide))
theorem f_181_99 (l : za_L) (st : List Value) (w : za_W) : za_n 181 (99, l, st, w) = za_x 181 (.invokevirtual 268) 99 l st w := za_n.at zcc_181 dX13_readBlock_99 rfl
theorem f_181_102 (l : za_L) (st : List Value) (w : za_W) : za_n 181 (102, l, st, w) = za_x 181 (.aload_n 0) 102 l st w := za_n.at zcc_181 dX13_readBlock_102 rfl
theorem f_181_103 (l : za_L) (st : List Value) (w : za_W) : za_n 181 (103, l, st, w) = za_x 181 (.iload 7) 103 l st w := za_n.at zcc_181 dX13_readBlock_103 rfl
theorem f_181_105 (l : za_L) (st : List Value) (w : za_W) : za_n 181 (105, l, st, w) = za_x 181 (.invokevirtual 301) 105 l st w := za_n.at zcc_181 dX13_readBlock_105 rfl
theorem f_181_108 (l : za_L) (st : List Value) (w : za_W) : za_n 181 (108, l, st, w) = za_x 181 (.aload_n 0) 108 l st w := za_n.at zcc_181 dX13_readBlock_108 rfl
theorem f_181_109 (l : za_L) (st : List Value) (w : za_W) : za_n 181 (109, l, st, w) = za_go 110 l (.int (0) :: st) w := (za_n.at zcc_181 dX13_readBlock_109 rfl).trans (congrArg (fun x => za_go 110 l (.int x :: st) w) (by decide))
theorem f_181_110 (l : za_L) (st : List Value) (w : za_W) : za_n 181 (110, l, st, w) = za_x 181 (.invokevirtual 304) 110 l st w := za_n.at zcc_181 dX13_readBlock_110 rfl
theorem f_181_113 (l : za_L) (st : List Value) (w : za_W) : za_n 181 (113, l, st, w) = za_x 181 (.istore 9) 113 l st w := za_n.at zcc_181 dX13_readBlock_113 rfl
theorem f_181_115 (l : za_L) (st : List Value) (w : za_W) : za_n 181 (115, l, st, w) = za_x 181 (.iload 9) 115 l st w := za_n.at zcc_181 dX13_readBlock_115 rfl
theorem f_181_117 (l : za_L) (st : List Value) (w : za_W) : za_n 181 (117, l, st, w) = za_x 181 (.ifCond .ge 9) 117 l st w := za_n.at zcc_181 dX13_readBlock_117 rfl
theorem f_181_120 (l : za_L) (st : List Value) (w : za_W) : za_n 181 (120, l, st, w) = za_x 181 (.aload_n 0) 120 l st w := za_n.at zcc_181 dX13_readBlock_120 rfl
theorem f_181_121 (l : za_L) (st : List Value) (w : za_W) : za_n 181 (121, l, st, w) = za_go 123 l (.int (10) :: st) w := (za_n.at zcc_181 dX13_readBlock_121 rfl).trans (congrArg (fun x => za_go 123 l (.int x :: st) w) (by decide))
theorem f_181_123 (l : za_L) (st : List Value) (w : za_W) : za_n 181 (123, l, st, w) = za_x 181 (.invokevirtual 268) 123 l st w := za_n.at zcc_181 dX13_readBlock_123 rfl
theorem f_181_126 (l : za_L) (st : List Value) (w : za_W) : za_n 181 (126, l, st, w) = za_x 181 (.iload 4) 126 l st w := za_n.at zcc_181 dX13_readBlock_126 rfl
theorem f_181_128 (l : za_L) (st : List Value) (w : za_W) : za_n 181 (128, l, st, w) = za_x 181 (.iload 9) 128 l st w := za_n.at zcc_181 dX13_readBlock_128 rfl
theorem f_181_130 (l : za_L) (st : List Value) (w : za_W) : za_n 181 (130, l, st, w) = za_x 181 (.iadd) 130 l st w := za_n.at zcc_181 dX13_readBlock_130 rfl
theorem f_181_131 (l : za_L) (st : List Value) (w : za_W) : za_n 181 (131, l, st, w) = za_go 134 l (.int (3000) :: st) w := (za_n.at zcc_181 dX13_readBlock_131 rfl).trans (congrArg (fun x => za_go 134 l (.int x :: st) w) (by decide))
theorem f_181_134 (l : za_L) (st : List Value) (w : za_W) : za_n 181 (134, l, st, w) = za_x 181 (.if_icmp .le 9) 134 l st w := za_n.at zcc_181 dX13_readBlock_134 rfl
theorem f_181_137 (l : za_L) (st : List Value) (w : za_W) : za_n 181 (137, l, st, w) = za_x 181 (.aload_n 0) 137 l st w := za_n.at zcc_181 dX13_readBlock_137 rfl
theorem f_181_138 (l : za_L) (st : List Value) (w : za_W) : za_n 181 (138, l, st, w) = za_go 140 l (.int (11) :: st) w := (za_n.at zcc_181 dX13_readBlock_138 rfl).trans (congrArg (fun x => za_go 140 l (.int x :: st) w) (by decide))
theorem f_181_140 (l : za_L) (st : List Value) (w : za_W) : za_n 181 (140, l, st, w) = za_x 181 (.invokevirtual 268) 140 l st w := za_n.at zcc_181 dX13_readBlock_140 rfl
theorem f_181_143 (l : za_L) (st : List Value) (w : za_W) : za_n 181 (143, l, st, w) = za_x 181 (.aload_n 0) 143 l st w := za_n.at zcc_181 dX13_readBlock_143 rfl
theorem f_181_144 (l : za_L) (st : List Value) (w : za_W) : za_n 181 (144, l, st, w) = za_x 181 (.aload_n 0) 144 l st w := za_n.at zcc_181 dX13_readBlock_144 rfl
theorem f_181_145 (l : za_L) (st : List Value) (w : za_W) : za_n 181 (145, l, st, w) = za_go 146 l (.int (1) :: st) w := (za_n.at zcc_181 dX13_readBlock_145 rfl).trans (congrArg (fun x => za_go 146 l (.int x :: st) w) (by decide))
theorem f_181_146 (l : za_L) (st : List Value) (w : za_W) : za_n 181 (146, l, st, w) = za_x 181 (.invokevirtual 304) 146 l st w := za_n.at zcc_181 dX13_readBlock_146 rfl
theorem f_181_149 (l : za_L) (st : List Value) (w : za_W) : za_n 181 (149, l, st, w) = za_x 181 (.putfield 308) 149 l st w := za_n.at zcc_181 dX13_readBlock_149 rfl
theorem f_181_152 (l : za_L) (st : List Value) (w : za_W) : za_n 181 (152, l, st, w) = za_x 181 (.aload_n 0) 152 l st w := za_n.at zcc_181 dX13_readBlock_152 rfl
theorem f_181_153 (l : za_L) (st : List Value) (w : za_W) : za_n 181 (153, l, st, w) = za_x 181 (.getfield 103) 153 l st w := za_n.at zcc_181 dX13_readBlock_153 rfl
theorem f_181_156 (l : za_L) (st : List Value) (w : za_W) : za_n 181 (156, l, st, w) = za_go 157 l (.int (0) :: st) w := (za_n.at zcc_181 dX13_readBlock_156 rfl).trans (congrArg (fun x => za_go 157 l (.int x :: st) w) (by decide))
theorem f_181_157 (l : za_L) (st : List Value) (w : za_W) : za_n 181 (157, l, st, w) = za_x 181 (.aload_n 0) 157 l st w := za_n.at zcc_181 dX13_readBlock_157 rfl
theorem f_181_158 (l : za_L) (st : List Value) (w : za_W) : za_n 181 (158, l, st, w) = za_x 181 (.getfield 308) 158 l st w := za_n.at zcc_181 dX13_readBlock_158 rfl
theorem f_181_161 (l : za_L) (st : List Value) (w : za_W) : za_n 181 (161, l, st, w) = za_x 181 (.invokestatic 208) 161 l st w := za_n.at zcc_181 dX13_readBlock_161 rfl
theorem f_181_164 (l : za_L) (st : List Value) (w : za_W) : za_n 181 (164, l, st, w) = za_x 181 (.iload 6) 164 l st w := za_n.at zcc_181 dX13_readBlock_164 rfl
theorem f_181_166 (l : za_L) (st : List Value) (w : za_W) : za_n 181 (166, l, st, w) = za_x 181 (.if_icmp .eq 9) 166 l st w := za_n.at zcc_181 dX13_readBlock_166 rfl
theorem f_181_169 (l : za_L) (st : List Value) (w : za_W) : za_n 181 (169, l, st, w) = za_x 181 (.aload_n 0) 169 l st w := za_n.at zcc_181 dX13_readBlock_169 rfl
theorem f_181_170 (l : za_L) (st : List Value) (w : za_W) : za_n 181 (170, l, st, w) = za_go 172 l (.int (12) :: st) w := (za_n.at zcc_181 dX13_readBlock_170 rfl).trans (congrArg (fun x => za_go 172 l (.int x :: st) w) (by decide))
theorem f_181_172 (l : za_L) (st : List Value) (w : za_W) : za_n 181 (172, l, st, w) = za_x 181 (.invokevirtual 268) 172 l st w := za_n.at zcc_181 dX13_readBlock_172 rfl
theorem f_181_175 (l : za_L) (st : List Value) (w : za_W) : za_n 181 (175, l, st, w) = za_x 181 (.iload 5) 175 l st w := za_n.at zcc_181 dX13_readBlock_175 rfl
theorem f_181_177 (l : za_L) (st : List Value) (w : za_W) : za_n 181 (177, l, st, w) = za_x 181 (.ifCond .eq 37) 177 l st w := za_n.at zcc_181 dX13_readBlock_177 rfl
theorem f_181_180 (l : za_L) (st : List Value) (w : za_W) : za_n 181 (180, l, st, w) = za_x 181 (.aload_n 0) 180 l st w := za_n.at zcc_181 dX13_readBlock_180 rfl
theorem f_181_181 (l : za_L) (st : List Value) (w : za_W) : za_n 181 (181, l, st, w) = za_x 181 (.iload_n 1) 181 l st w := za_n.at zcc_181 dX13_readBlock_181 rfl
theorem f_181_182 (l : za_L) (st : List Value) (w : za_W) : za_n 181 (182, l, st, w) = za_x 181 (.aload_n 0) 182 l st w := za_n.at zcc_181 dX13_readBlock_182 rfl
theorem f_181_183 (l : za_L) (st : List Value) (w : za_W) : za_n 181 (183, l, st, w) = za_x 181 (.getfield 308) 183 l st w := za_n.at zcc_181 dX13_readBlock_183 rfl
theorem f_181_186 (l : za_L) (st : List Value) (w : za_W) : za_n 181 (186, l, st, w) = za_x 181 (.aload_n 0) 186 l st w := za_n.at zcc_181 dX13_readBlock_186 rfl
theorem f_181_187 (l : za_L) (st : List Value) (w : za_W) : za_n 181 (187, l, st, w) = za_x 181 (.getfield 161) 187 l st w := za_n.at zcc_181 dX13_readBlock_187 rfl
theorem f_181_190 (l : za_L) (st : List Value) (w : za_W) : za_n 181 (190, l, st, w) = za_x 181 (.iload 7) 190 l st w := za_n.at zcc_181 dX13_readBlock_190 rfl
theorem f_181_192 (l : za_L) (st : List Value) (w : za_W) : za_n 181 (192, l, st, w) = za_x 181 (.aload_n 0) 192 l st w := za_n.at zcc_181 dX13_readBlock_192 rfl
theorem f_181_193 (l : za_L) (st : List Value) (w : za_W) : za_n 181 (193, l, st, w) = za_x 181 (.getfield 171) 193 l st w := za_n.at zcc_181 dX13_readBlock_193 rfl
theorem f_181_196 (l : za_L) (st : List Value) (w : za_W) : za_n 181 (196, l, st, w) = za_x 181 (.aload_n 0) 196 l st w := za_n.at zcc_181 dX13_readBlock_196 rfl
theorem f_181_197 (l : za_L) (st : List Value) (w : za_W) : za_n 181 (197, l, st, w) = za_x 181 (.getfield 189) 197 l st w := za_n.at zcc_181 dX13_readBlock_197 rfl
theorem f_181_200 (l : za_L) (st : List Value) (w : za_W) : za_n 181 (200, l, st, w) = za_x 181 (.aload_n 0) 200 l st w := za_n.at zcc_181 dX13_readBlock_200 rfl
theorem f_181_201 (l : za_L) (st : List Value) (w : za_W) : za_n 181 (201, l, st, w) = za_x 181 (.getfield 195) 201 l st w := za_n.at zcc_181 dX13_readBlock_201 rfl
theorem f_181_204 (l : za_L) (st : List Value) (w : za_W) : za_n 181 (204, l, st, w) = za_x 181 (.iload_n 2) 204 l st w := za_n.at zcc_181 dX13_readBlock_204 rfl
theorem f_181_205 (l : za_L) (st : List Value) (w : za_W) : za_n 181 (205, l, st, w) = za_x 181 (.aload_n 0) 205 l st w := za_n.at zcc_181 dX13_readBlock_205 rfl
theorem f_181_206 (l : za_L) (st : List Value) (w : za_W) : za_n 181 (206, l, st, w) = za_x 181 (.getfield 174) 206 l st w := za_n.at zcc_181 dX13_readBlock_206 rfl
theorem f_181_209 (l : za_L) (st : List Value) (w : za_W) : za_n 181 (209, l, st, w) = za_x 181 (.iload 6) 209 l st w := za_n.at zcc_181 dX13_readBlock_209 rfl
theorem f_181_211 (l : za_L) (st : List Value) (w : za_W) : za_n 181 (211, l, st, w) = za_x 181 (.invokevirtual 240) 211 l st w := za_n.at zcc_181 dX13_readBlock_211 rfl
theorem f_181_214 (l : za_L) (st : List Value) (w : za_W) : za_n 181 (214, l, st, w) = za_x 181 (.aload_n 0) 214 l st w := za_n.at zcc_181 dX13_readBlock_214 rfl
theorem f_181_215 (l : za_L) (st : List Value) (w : za_W) : za_n 181 (215, l, st, w) = za_x 181 (.aload_n 0) 215 l st w := za_n.at zcc_181 dX13_readBlock_215 rfl
theorem f_181_216 (l : za_L) (st : List Value) (w : za_W) : za_n 181 (216, l, st, w) = za_x 181 (.getfield 189) 216 l st w := za_n.at zcc_181 dX13_readBlock_216 rfl
theorem f_181_219 (l : za_L) (st : List Value) (w : za_W) : za_n 181 (219, l, st, w) = za_x 181 (.iload 8) 219 l st w := za_n.at zcc_181 dX13_readBlock_219 rfl
theorem f_181_221 (l : za_L) (st : List Value) (w : za_W) : za_n 181 (221, l, st, w) = za_x 181 (.aload_n 0) 221 l st w := za_n.at zcc_181 dX13_readBlock_221 rfl
theorem f_181_222 (l : za_L) (st : List Value) (w : za_W) : za_n 181 (222, l, st, w) = za_x 181 (.getfield 195) 222 l st w := za_n.at zcc_181 dX13_readBlock_222 rfl
theorem f_181_225 (l : za_L) (st : List Value) (w : za_W) : za_n 181 (225, l, st, w) = za_x 181 (.invokevirtual 244) 225 l st w := za_n.at zcc_181 dX13_readBlock_225 rfl
theorem f_181_228 (l : za_L) (st : List Value) (w : za_W) : za_n 181 (228, l, st, w) = za_x 181 (.iload 6) 228 l st w := za_n.at zcc_181 dX13_readBlock_228 rfl
theorem f_181_230 (l : za_L) (st : List Value) (w : za_W) : za_n 181 (230, l, st, w) = za_x 181 (.ireturn) 230 l st w := za_n.at zcc_181 dX13_readBlock_230 rfl
theorem f_182_0 (l : za_L) (st : List Value) (w : za_W) : za_n 182 (0, l, st, w) = za_x 182 (.aload_n 0) 0 l st w := za_n.at zcc_182 dX13_readRow_0 rfl
theorem f_182_1 (l : za_L) (st : List Value) (w : za_W) : za_n 182 (1, l, st, w) = za_go 3 l (.int (8) :: st) w := (za_n.at zcc_182 dX13_readRow_1 rfl).trans (congrArg (fun x => za_go 3 l (.int x :: st) w) (by decide))
theorem f_182_3 (l : za_L) (st : List Value) (w : za_W) : za_n 182 (3, l, st, w) = za_x 182 (.invokevirtual 274) 3 l st w := za_n.at zcc_182 dX13_readRow_3 rfl
theorem f_182_6 (l : za_L) (st : List Value) (w : za_W) : za_n 182 (6, l, st, w) = za_x 182 (.ldc2_w 248) 6 l st w := za_n.at zcc_182 dX13_readRow_6 rfl
theorem f_182_9 (l : za_L) (st : List Value) (w : za_W) : za_n 182 (9, l, st, w) = za_x 182 (.lcmp) 9 l st w := za_n.at zcc_182 dX13_readRow_9 rfl
theorem f_182_10 (l : za_L) (st : List Value) (w : za_W) : za_n 182 (10, l, st, w) = za_x 182 (.ifCond .eq 8) 10 l st w := za_n.at zcc_182 dX13_readRow_10 rfl
theorem f_182_13 (l : za_L) (st : List Value) (w : za_W) : za_n 182 (13, l, st, w) = za_x 182 (.aload_n 0) 13 l st w := za_n.at zcc_182 dX13_readRow_13 rfl
theorem f_182_14 (l : za_L) (st : List Value) (w : za_W) : za_n 182 (14, l, st, w) = za_go 15 l (.int (2) :: st) w := (za_n.at zcc_182 dX13_readRow_14 rfl).trans (congrArg (fun x => za_go 15 l (.int x :: st) w) (by decide))
theorem f_182_15 (l : za_L) (st : List Value) (w : za_W) : za_n 182 (15, l, st, w) = za_x 182 (.invokevirtual 268) 15 l st w := za_n.at zcc_182 dX13_readRow_15 rfl
theorem f_182_18 (l : za_L) (st : List Value) (w : za_W) : za_n 182 (18, l, st, w) = za_x 182 (.aload_n 0) 18 l st w := za_n.at zcc_182 dX13_readRow_18 rfl
theorem f_182_19 (l : za_L) (st : List Value) (w : za_W) : za_n 182 (19, l, st, w) = za_go 21 l (.int (8) :: st) w := (za_n.at zcc_182 dX13_readRow_19 rfl).trans (congrArg (fun x => za_go 21 l (.int x :: st) w) (by decide))
theorem f_182_21 (l : za_L) (st : List Value) (w : za_W) : za_n 182 (21, l, st, w) = za_x 182 (.invokevirtual 274) 21 l st w := za_n.at zcc_182 dX13_readRow_21 rfl
theorem f_182_24 (l : za_L) (st : List Value) (w : za_W) : za_n 182 (24, l, st, w) = za_x 182 (.ldc2_w 250) 24 l st w := za_n.at zcc_182 dX13_readRow_24 rfl
theorem f_182_27 (l : za_L) (st : List Value) (w : za_W) : za_n 182 (27, l, st, w) = za_x 182 (.lcmp) 27 l st w := za_n.at zcc_182 dX13_readRow_27 rfl
theorem f_182_28 (l : za_L) (st : List Value) (w : za_W) : za_n 182 (28, l, st, w) = za_x 182 (.ifCond .eq 8) 28 l st w := za_n.at zcc_182 dX13_readRow_28 rfl
theorem f_182_31 (l : za_L) (st : List Value) (w : za_W) : za_n 182 (31, l, st, w) = za_x 182 (.aload_n 0) 31 l st w := za_n.at zcc_182 dX13_readRow_31 rfl
theorem f_182_32 (l : za_L) (st : List Value) (w : za_W) : za_n 182 (32, l, st, w) = za_go 33 l (.int (2) :: st) w := (za_n.at zcc_182 dX13_readRow_32 rfl).trans (congrArg (fun x => za_go 33 l (.int x :: st) w) (by decide))
theorem f_182_33 (l : za_L) (st : List Value) (w : za_W) : za_n 182 (33, l, st, w) = za_x 182 (.invokevirtual 268) 33 l st w := za_n.at zcc_182 dX13_readRow_33 rfl
theorem f_182_36 (l : za_L) (st : List Value) (w : za_W) : za_n 182 (36, l, st, w) = za_x 182 (.aload_n 0) 36 l st w := za_n.at zcc_182 dX13_readRow_36 rfl
theorem f_182_37 (l : za_L) (st : List Value) (w : za_W) : za_n 182 (37, l, st, w) = za_go 39 l (.int (8) :: st) w := (za_n.at zcc_182 dX13_readRow_37 rfl).trans (congrArg (fun x => za_go 39 l (.int x :: st) w) (by decide))
theorem f_182_39 (l : za_L) (st : List Value) (w : za_W) : za_n 182 (39, l, st, w) = za_x 182 (.invokevirtual 274) 39 l st w := za_n.at zcc_182 dX13_readRow_39 rfl
theorem f_182_42 (l : za_L) (st : List Value) (w : za_W) : za_n 182 (42, l, st, w) = za_x 182 (.ldc2_w 252) 42 l st w := za_n.at zcc_182 dX13_readRow_42 rfl
theorem f_182_45 (l : za_L) (st : List Value) (w : za_W) : za_n 182 (45, l, st, w) = za_x 182 (.lcmp) 45 l st w := za_n.at zcc_182 dX13_readRow_45 rfl
theorem f_182_46 (l : za_L) (st : List Value) (w : za_W) : za_n 182 (46, l, st, w) = za_x 182 (.ifCond .eq 8) 46 l st w := za_n.at zcc_182 dX13_readRow_46 rfl
theorem f_182_49 (l : za_L) (st : List Value) (w : za_W) : za_n 182 (49, l, st, w) = za_x 182 (.aload_n 0) 49 l st w := za_n.at zcc_182 dX13_readRow_49 rfl
theorem f_182_50 (l : za_L) (st : List Value) (w : za_W) : za_n 182 (50, l, st, w) = za_go 51 l (.int (2) :: st) w := (za_n.at zcc_182 dX13_readRow_50 rfl).trans (congrArg (fun x => za_go 51 l (.int x :: st) w) (by decide))
theorem f_182_51 (l : za_L) (st : List Value) (w : za_W) : za_n 182 (51, l, st, w) = za_x 182 (.invokevirtual 268) 51 l st w := za_n.at zcc_182 dX13_readRow_51 rfl
theorem f_182_54 (l : za_L) (st : List Value) (w : za_W) : za_n 182 (54, l, st, w) = za_x 182 (.aload_n 0) 54 l st w := za_n.at zcc_182 dX13_readRow_54 rfl
theorem f_182_55 (l : za_L) (st : List Value) (w : za_W) : za_n 182 (55, l, st, w) = za_go 57 l (.int (8) :: st) w := (za_n.at zcc_182 dX13_readRow_55 rfl).trans (congrArg (fun x => za_go 57 l (.int x :: st) w) (by decide))
theorem f_182_57 (l : za_L) (st : List Value) (w : za_W) : za_n 182 (57, l, st, w) = za_x 182 (.invokevirtual 274) 57 l st w := za_n.at zcc_182 dX13_readRow_57 rfl
theorem f_182_60 (l : za_L) (st : List Value) (w : za_W) : za_n 182 (60, l, st, w) = za_x 182 (.l2i) 60 l st w := za_n.at zcc_182 dX13_readRow_60 rfl
theorem f_182_61 (l : za_L) (st : List Value) (w : za_W) : za_n 182 (61, l, st, w) = za_go 63 l (.int (48) :: st) w := (za_n.at zcc_182 dX13_readRow_61 rfl).trans (congrArg (fun x => za_go 63 l (.int x :: st) w) (by decide))
theorem f_182_63 (l : za_L) (st : List Value) (w : za_W) : za_n 182 (63, l, st, w) = za_x 182 (.isub) 63 l st w := za_n.at zcc_182 dX13_readRow_63 rfl
theorem f_182_64 (l : za_L) (st : List Value) (w : za_W) : za_n 182 (64, l, st, w) = za_x 182 (.istore_n 2) 64 l st w := za_n.at zcc_182 dX13_readRow_64 rfl
theorem f_182_65 (l : za_L) (st : List Value) (w : za_W) : za_n 182 (65, l, st, w) = za_x 182 (.iload_n 2) 65 l st w := za_n.at zcc_182 dX13_readRow_65 rfl
theorem f_182_66 (l : za_L) (st : List Value) (w : za_W) : za_n 182 (66, l, st, w) = za_x 182 (.i2l) 66 l st w := za_n.at zcc_182 dX13_readRow_66 rfl
theorem f_182_67 (l : za_L) (st : List Value) (w : za_W) : za_n 182 (67, l, st, w) = za_x 182 (.lconst 1) 67 l st w := za_n.at zcc_182 dX13_readRow_67 rfl
theorem f_182_68 (l : za_L) (st : List Value) (w : za_W) : za_n 182 (68, l, st, w) = za_x 182 (.ldc2_w 311) 68 l st w := za_n.at zcc_182 dX13_readRow_68 rfl
theorem f_182_71 (l : za_L) (st : List Value) (w : za_W) : za_n 182 (71, l, st, w) = za_x 182 (.invokestatic 114) 71 l st w := za_n.at zcc_182 dX13_readRow_71 rfl
theorem f_182_74 (l : za_L) (st : List Value) (w : za_W) : za_n 182 (74, l, st, w) = za_x 182 (.ifCond .ne 8) 74 l st w := za_n.at zcc_182 dX13_readRow_74 rfl
theorem f_182_77 (l : za_L) (st : List Value) (w : za_W) : za_n 182 (77, l, st, w) = za_x 182 (.aload_n 0) 77 l st w := za_n.at zcc_182 dX13_readRow_77 rfl
theorem f_182_78 (l : za_L) (st : List Value) (w : za_W) : za_n 182 (78, l, st, w) = za_go 79 l (.int (2) :: st) w := (za_n.at zcc_182 dX13_readRow_78 rfl).trans (congrArg (fun x => za_go 79 l (.int x :: st) w) (by decide))
theorem f_182_79 (l : za_L) (st : List Value) (w : za_W) : za_n 182 (79, l, st, w) = za_x 182 (.invokevirtual 268) 79 l st w := za_n.at zcc_182 dX13_readRow_79 rfl
theorem f_182_82 (l : za_L) (st : List Value) (w : za_W) : za_n 182 (82, l, st, w) = za_go 83 l (.int (0) :: st) w := (za_n.at zcc_182 dX13_readRow_82 rfl).trans (congrArg (fun x => za_go 83 l (.int x :: st) w) (by decide))
theorem f_182_83 (l : za_L) (st : List Value) (w : za_W) : za_n 182 (83, l, st, w) = za_x 182 (.istore_n 3) 83 l st w := za_n.at zcc_182 dX13_readRow_83 rfl
theorem f_182_84 (l : za_L) (st : List Value) (w : za_W) : za_n 182 (84, l, st, w) = za_go 85 l (.int (1) :: st) w := (za_n.at zcc_182 dX13_readRow_84 rfl).trans (congrArg (fun x => za_go 85 l (.int x :: st) w) (by decide))
theorem f_182_85 (l : za_L) (st : List Value) (w : za_W) : za_n 182 (85, l, st, w) = za_x 182 (.istore 4) 85 l st w := za_n.at zcc_182 dX13_readRow_85 rfl
theorem f_182_87 (l : za_L) (st : List Value) (w : za_W) : za_n 182 (87, l, st, w) = za_x 182 (.iload 4) 87 l st w := za_n.at zcc_182 dX13_readRow_87 rfl
theorem f_182_89 (l : za_L) (st : List Value) (w : za_W) : za_n 182 (89, l, st, w) = za_x 182 (.ifCond .eq 124) 89 l st w := za_n.at zcc_182 dX13_readRow_89 rfl
theorem f_182_92 (l : za_L) (st : List Value) (w : za_W) : za_n 182 (92, l, st, w) = za_x 182 (.aload_n 0) 92 l st w := za_n.at zcc_182 dX13_readRow_92 rfl
theorem f_182_93 (l : za_L) (st : List Value) (w : za_W) : za_n 182 (93, l, st, w) = za_x 182 (.getfield 265) 93 l st w := za_n.at zcc_182 dX13_readRow_93 rfl
theorem f_182_96 (l : za_L) (st : List Value) (w : za_W) : za_n 182 (96, l, st, w) = za_x 182 (.istore 5) 96 l st w := za_n.at zcc_182 dX13_readRow_96 rfl
theorem f_182_98 (l : za_L) (st : List Value) (w : za_W) : za_n 182 (98, l, st, w) = za_x 182 (.aload_n 0) 98 l st w := za_n.at zcc_182 dX13_readRow_98 rfl
theorem f_182_99 (l : za_L) (st : List Value) (w : za_W) : za_n 182 (99, l, st, w) = za_go 101 l (.int (48) :: st) w := (za_n.at zcc_182 dX13_readRow_99 rfl).trans (congrArg (fun x => za_go 101 l (.int x :: st) w) (by decide))
theorem f_182_101 (l : za_L) (st : List Value) (w : za_W) : za_n 182 (101, l, st, w) = za_x 182 (.invokevirtual 274) 101 l st w := za_n.at zcc_182 dX13_readRow_101 rfl
theorem f_182_104 (l : za_L) (st : List Value) (w : za_W) : za_n 182 (104, l, st, w) = za_x 182 (.lstore 6) 104 l st w := za_n.at zcc_182 dX13_readRow_104 rfl
theorem f_182_106 (l : za_L) (st : List Value) (w : za_W) : za_n 182 (106, l, st, w) = za_x 182 (.lload 6) 106 l st w := za_n.at zcc_182 dX13_readRow_106 rfl
theorem f_182_108 (l : za_L) (st : List Value) (w : za_W) : za_n 182 (108, l, st, w) = za_x 182 (.ldc2_w 224) 108 l st w := za_n.at zcc_182 dX13_readRow_108 rfl
theorem f_182_111 (l : za_L) (st : List Value) (w : za_W) : za_n 182 (111, l, st, w) = za_x 182 (.lcmp) 111 l st w := za_n.at zcc_182 dX13_readRow_111 rfl
theorem f_182_112 (l : za_L) (st : List Value) (w : za_W) : za_n 182 (112, l, st, w) = za_x 182 (.ifCond .ne 78) 112 l st w := za_n.at zcc_182 dX13_readRow_112 rfl
theorem f_182_115 (l : za_L) (st : List Value) (w : za_W) : za_n 182 (115, l, st, w) = za_x 182 (.iload_n 3) 115 l st w := za_n.at zcc_182 dX13_readRow_115 rfl
theorem f_182_116 (l : za_L) (st : List Value) (w : za_W) : za_n 182 (116, l, st, w) = za_x 182 (.aload_n 0) 116 l st w := za_n.at zcc_182 dX13_readRow_116 rfl
theorem f_182_117 (l : za_L) (st : List Value) (w : za_W) : za_n 182 (117, l, st, w) = za_x 182 (.iload 5) 117 l st w := za_n.at zcc_182 dX13_readRow_117 rfl
theorem f_182_119 (l : za_L) (st : List Value) (w : za_W) : za_n 182 (119, l, st, w) = za_x 182 (.iload_n 1) 119 l st w := za_n.at zcc_182 dX13_readRow_119 rfl
theorem f_182_120 (l : za_L) (st : List Value) (w : za_W) : za_n 182 (120, l, st, w) = za_go 123 l (.int (200) :: st) w := (za_n.at zcc_182 dX13_readRow_120 rfl).trans (congrArg (fun x => za_go 123 l (.int x :: st) w) (by decide))
theorem f_182_123 (l : za_L) (st : List Value) (w : za_W) : za_n 182 (123, l, st, w) = za_x 182 (.iload_n 2) 123 l st w := za_n.at zcc_182 dX13_readRow_123 rfl
theorem f_182_124 (l : za_L) (st : List Value) (w : za_W) : za_n 182 (124, l, st, w) = za_x 182 (.imul) 124 l st w := za_n.at zcc_182 dX13_readRow_124 rfl
theorem f_182_125 (l : za_L) (st : List Value) (w : za_W) : za_n 182 (125, l, st, w) = za_x 182 (.aload_n 0) 125 l st w := za_n.at zcc_182 dX13_readRow_125 rfl
theorem f_182_126 (l : za_L) (st : List Value) (w : za_W) : za_n 182 (126, l, st, w) = za_x 182 (.getfield 123) 126 l st w := za_n.at zcc_182 dX13_readRow_126 rfl
theorem f_182_129 (l : za_L) (st : List Value) (w : za_W) : za_n 182 (129, l, st, w) = za_go 130 l (.int (1) :: st) w := (za_n.at zcc_182 dX13_readRow_129 rfl).trans (congrArg (fun x => za_go 130 l (.int x :: st) w) (by decide))
theorem f_182_130 (l : za_L) (st : List Value) (w : za_W) : za_n 182 (130, l, st, w) = za_x 182 (.invokevirtual 313) 130 l st w := za_n.at zcc_182 dX13_readRow_130 rfl
theorem f_182_133 (l : za_L) (st : List Value) (w : za_W) : za_n 182 (133, l, st, w) = za_x 182 (.invokestatic 257) 133 l st w := za_n.at zcc_182 dX13_readRow_133 rfl
theorem f_182_136 (l : za_L) (st : List Value) (w : za_W) : za_n 182 (136, l, st, w) = za_x 182 (.istore_n 3) 136 l st w := za_n.at zcc_182 dX13_readRow_136 rfl
theorem f_182_137 (l : za_L) (st : List Value) (w : za_W) : za_n 182 (137, l, st, w) = za_go 138 l (.int (0) :: st) w := (za_n.at zcc_182 dX13_readRow_137 rfl).trans (congrArg (fun x => za_go 138 l (.int x :: st) w) (by decide))
theorem f_182_138 (l : za_L) (st : List Value) (w : za_W) : za_n 182 (138, l, st, w) = za_x 182 (.istore 8) 138 l st w := za_n.at zcc_182 dX13_readRow_138 rfl
theorem f_182_140 (l : za_L) (st : List Value) (w : za_W) : za_n 182 (140, l, st, w) = za_x 182 (.iload 8) 140 l st w := za_n.at zcc_182 dX13_readRow_140 rfl
theorem f_182_142 (l : za_L) (st : List Value) (w : za_W) : za_n 182 (142, l, st, w) = za_x 182 (.aload_n 0) 142 l st w := za_n.at zcc_182 dX13_readRow_142 rfl
theorem f_182_143 (l : za_L) (st : List Value) (w : za_W) : za_n 182 (143, l, st, w) = za_x 182 (.getfield 308) 143 l st w := za_n.at zcc_182 dX13_readRow_143 rfl
theorem f_182_146 (l : za_L) (st : List Value) (w : za_W) : za_n 182 (146, l, st, w) = za_x 182 (.if_icmp .ge 28) 146 l st w := za_n.at zcc_182 dX13_readRow_146 rfl
theorem f_182_149 (l : za_L) (st : List Value) (w : za_W) : za_n 182 (149, l, st, w) = za_x 182 (.aload_n 0) 149 l st w := za_n.at zcc_182 dX13_readRow_149 rfl
theorem f_182_150 (l : za_L) (st : List Value) (w : za_W) : za_n 182 (150, l, st, w) = za_x 182 (.getfield 24) 150 l st w := za_n.at zcc_182 dX13_readRow_150 rfl
theorem f_182_153 (l : za_L) (st : List Value) (w : za_W) : za_n 182 (153, l, st, w) = za_x 182 (.aload_n 0) 153 l st w := za_n.at zcc_182 dX13_readRow_153 rfl
theorem f_182_154 (l : za_L) (st : List Value) (w : za_W) : za_n 182 (154, l, st, w) = za_x 182 (.getfield 123) 154 l st w := za_n.at zcc_182 dX13_readRow_154 rfl
theorem f_182_157 (l : za_L) (st : List Value) (w : za_W) : za_n 182 (157, l, st, w) = za_x 182 (.iload 8) 157 l st w := za_n.at zcc_182 dX13_readRow_157 rfl
theorem f_182_159 (l : za_L) (st : List Value) (w : za_W) : za_n 182 (159, l, st, w) = za_x 182 (.iadd) 159 l st w := za_n.at zcc_182 dX13_readRow_159 rfl
theorem f_182_160 (l : za_L) (st : List Value) (w : za_W) : za_n 182 (160, l, st, w) = za_x 182 (.aload_n 0) 160 l st w := za_n.at zcc_182 dX13_readRow_160 rfl
theorem f_182_161 (l : za_L) (st : List Value) (w : za_W) : za_n 182 (161, l, st, w) = za_x 182 (.getfield 103) 161 l st w := za_n.at zcc_182 dX13_readRow_161 rfl
theorem f_182_164 (l : za_L) (st : List Value) (w : za_W) : za_n 182 (164, l, st, w) = za_x 182 (.iload 8) 164 l st w := za_n.at zcc_182 dX13_readRow_164 rfl
theorem f_182_166 (l : za_L) (st : List Value) (w : za_W) : za_n 182 (166, l, st, w) = za_x 182 (.baload) 166 l st w := za_n.at zcc_182 dX13_readRow_166 rfl
theorem f_182_167 (l : za_L) (st : List Value) (w : za_W) : za_n 182 (167, l, st, w) = za_x 182 (.bastore) 167 l st w := za_n.at zcc_182 dX13_readRow_167 rfl
theorem f_182_168 (l : za_L) (st : List Value) (w : za_W) : za_n 182 (168, l, st, w) = za_x 182 (.iinc 8 1) 168 l st w := za_n.at zcc_182 dX13_readRow_168 rfl
theorem f_182_171 (l : za_L) (st : List Value) (w : za_W) : za_n 182 (171, l, st, w) = za_go 140 l st w := (za_n.at zcc_182 dX13_readRow_171 rfl).trans (za_jp.at (by decide))
theorem f_182_174 (l : za_L) (st : List Value) (w : za_W) : za_n 182 (174, l, st, w) = za_x 182 (.aload_n 0) 174 l st w := za_n.at zcc_182 dX13_readRow_174 rfl
theorem f_182_175 (l : za_L) (st : List Value) (w : za_W) : za_n 182 (175, l, st, w) = za_x 182 (.aload_n 0) 175 l st w := za_n.at zcc_182 dX13_readRow_175 rfl
theorem f_182_176 (l : za_L) (st : List Value) (w : za_W) : za_n 182 (176, l, st, w) = za_x 182 (.getfield 123) 176 l st w := za_n.at zcc_182 dX13_readRow_176 rfl
theorem f_182_179 (l : za_L) (st : List Value) (w : za_W) : za_n 182 (179, l, st, w) = za_x 182 (.aload_n 0) 179 l st w := za_n.at zcc_182 dX13_readRow_179 rfl
theorem f_182_180 (l : za_L) (st : List Value) (w : za_W) : za_n 182 (180, l, st, w) = za_x 182 (.getfield 308) 180 l st w := za_n.at zcc_182 dX13_readRow_180 rfl
theorem f_182_183 (l : za_L) (st : List Value) (w : za_W) : za_n 182 (183, l, st, w) = za_x 182 (.iadd) 183 l st w := za_n.at zcc_182 dX13_readRow_183 rfl
theorem f_182_184 (l : za_L) (st : List Value) (w : za_W) : za_n 182 (184, l, st, w) = za_x 182 (.putfield 123) 184 l st w := za_n.at zcc_182 dX13_readRow_184 rfl
theorem f_182_187 (l : za_L) (st : List Value) (w : za_W) : za_n 182 (187, l, st, w) = za_go 210 l st w := (za_n.at zcc_182 dX13_readRow_187 rfl).trans (za_jp.at (by decide))
theorem f_182_190 (l : za_L) (st : List Value) (w : za_W) : za_n 182 (190, l, st, w) = za_x 182 (.lload 6) 190 l st w := za_n.at zcc_182 dX13_readRow_190 rfl
theorem f_182_192 (l : za_L) (st : List Value) (w : za_W) : za_n 182 (192, l, st, w) = za_x 182 (.ldc2_w 260) 192 l st w := za_n.at zcc_182 dX13_readRow_192 rfl
theorem f_182_195 (l : za_L) (st : List Value) (w : za_W) : za_n 182 (195, l, st, w) = za_x 182 (.lcmp) 195 l st w := za_n.at zcc_182 dX13_readRow_195 rfl
theorem f_182_196 (l : za_L) (st : List Value) (w : za_W) : za_n 182 (196, l, st, w) = za_x 182 (.ifCond .ne 9) 196 l st w := za_n.at zcc_182 dX13_readRow_196 rfl
theorem f_182_199 (l : za_L) (st : List Value) (w : za_W) : za_n 182 (199, l, st, w) = za_go 200 l (.int (0) :: st) w := (za_n.at zcc_182 dX13_readRow_199 rfl).trans (congrArg (fun x => za_go 200 l (.int x :: st) w) (by decide))
theorem f_182_200 (l : za_L) (st : List Value) (w : za_W) : za_n 182 (200, l, st, w) = za_x 182 (.istore 4) 200 l st w := za_n.at zcc_182 dX13_readRow_200 rfl
theorem f_182_202 (l : za_L) (st : List Value) (w : za_W) : za_n 182 (202, l, st, w) = za_go 210 l st w := (za_n.at zcc_182 dX13_readRow_202 rfl).trans (za_jp.at (by decide))
theorem f_182_205 (l : za_L) (st : List Value) (w : za_W) : za_n 182 (205, l, st, w) = za_x 182 (.aload_n 0) 205 l st w := za_n.at zcc_182 dX13_readRow_205 rfl
theorem f_182_206 (l : za_L) (st : List Value) (w : za_W) : za_n 182 (206, l, st, w) = za_go 207 l (.int (3) :: st) w := (za_n.at zcc_182 dX13_readRow_206 rfl).trans (congrArg (fun x => za_go 207 l (.int x :: st) w) (by decide))
theorem f_182_207 (l : za_L) (st : List Value) (w : za_W) : za_n 182 (207, l, st, w) = za_x 182 (.invokevirtual 268) 207 l st w := za_n.at zcc_182 dX13_readRow_207 rfl
theorem f_182_210 (l : za_L) (st : List Value) (w : za_W) : za_n 182 (210, l, st, w) = za_go 87 l st w := (za_n.at zcc_182 dX13_readRow_210 rfl).trans (za_jp.at (by decide))
theorem f_182_213 (l : za_L) (st : List Value) (w : za_W) : za_n 182 (213, l, st, w) = za_x 182 (.aload_n 0) 213 l st w := za_n.at zcc_182 dX13_readRow_213 rfl
theorem f_182_214 (l : za_L) (st : List Value) (w : za_W) : za_n 182 (214, l, st, w) = za_go 216 l (.int (32) :: st) w := (za_n.at zcc_182 dX13_readRow_214 rfl).trans (congrArg (fun x => za_go 216 l (.int x :: st) w) (by decide))
theorem f_182_216 (l : za_L) (st : List Value) (w : za_W) : za_n 182 (216, l, st, w) = za_x 182 (.invokevirtual 274) 216 l st w := za_n.at zcc_182 dX13_readRow_216 rfl
theorem f_182_219 (l : za_L) (st : List Value) (w : za_W) : za_n 182 (219, l, st, w) = za_x 182 (.l2i) 219 l st w := za_n.at zcc_182 dX13_readRow_219 rfl
theorem f_182_220 (l : za_L) (st : List Value) (w : za_W) : za_n 182 (220, l, st, w) = za_x 182 (.iload_n 3) 220 l st w := za_n.at zcc_182 dX13_readRow_220 rfl
theorem f_182_221 (l : za_L) (st : List Value) (w : za_W) : za_n 182 (221, l, st, w) = za_x 182 (.if_icmp .eq 9) 221 l st w := za_n.at zcc_182 dX13_readRow_221 rfl
theorem f_182_224 (l : za_L) (st : List Value) (w : za_W) : za_n 182 (224, l, st, w) = za_x 182 (.aload_n 0) 224 l st w := za_n.at zcc_182 dX13_readRow_224 rfl
theorem f_182_225 (l : za_L) (st : List Value) (w : za_W) : za_n 182 (225, l, st, w) = za_go 227 l (.int (13) :: st) w := (za_n.at zcc_182 dX13_readRow_225 rfl).trans (congrArg (fun x => za_go 227 l (.int x :: st) w) (by decide))
theorem f_182_227 (l : za_L) (st : List Value) (w : za_W) : za_n 182 (227, l, st, w) = za_x 182 (.invokevirtual 268) 227 l st w := za_n.at zcc_182 dX13_readRow_227 rfl
theorem f_182_230 (l : za_L) (st : List Value) (w : za_W) : za_n 182 (230, l, st, w) = za_go 231 l (.int (1) :: st) w := (za_n.at zcc_182 dX13_readRow_230 rfl).trans (congrArg (fun x => za_go 231 l (.int x :: st) w) (by decide))
theorem f_182_231 (l : za_L) (st : List Value) (w : za_W) : za_n 182 (231, l, st, w) = za_x 182 (.istore 5) 231 l st w := za_n.at zcc_182 dX13_readRow_231 rfl
theorem f_182_233 (l : za_L) (st : List Value) (w : za_W) : za_n 182 (233, l, st, w) = za_x 182 (.aload_n 0) 233 l st w := za_n.at zcc_182 dX13_readRow_233 rfl
theorem f_182_234 (l : za_L) (st : List Value) (w : za_W) : za_n 182 (234, l, st, w) = za_x 182 (.getfield 265) 234 l st w := za_n.at zcc_182 dX13_readRow_234 rfl
theorem f_182_237 (l : za_L) (st : List Value) (w : za_W) : za_n 182 (237, l, st, w) = za_go 239 l (.int (8) :: st) w := (za_n.at zcc_182 dX13_readRow_237 rfl).trans (congrArg (fun x => za_go 239 l (.int x :: st) w) (by decide))
theorem f_182_239 (l : za_L) (st : List Value) (w : za_W) : za_n 182 (239, l, st, w) = za_x 182 (.irem) 239 l st w := za_n.at zcc_182 dX13_readRow_239 rfl
theorem f_182_240 (l : za_L) (st : List Value) (w : za_W) : za_n 182 (240, l, st, w) = za_x 182 (.ifCond .eq 25) 240 l st w := za_n.at zcc_182 dX13_readRow_240 rfl
theorem f_182_243 (l : za_L) (st : List Value) (w : za_W) : za_n 182 (243, l, st, w) = za_x 182 (.aload_n 0) 243 l st w := za_n.at zcc_182 dX13_readRow_243 rfl
theorem f_182_244 (l : za_L) (st : List Value) (w : za_W) : za_n 182 (244, l, st, w) = za_x 182 (.invokevirtual 271) 244 l st w := za_n.at zcc_182 dX13_readRow_244 rfl
theorem f_182_247 (l : za_L) (st : List Value) (w : za_W) : za_n 182 (247, l, st, w) = za_x 182 (.ifCond .ne 12) 247 l st w := za_n.at zcc_182 dX13_readRow_247 rfl
theorem f_182_250 (l : za_L) (st : List Value) (w : za_W) : za_n 182 (250, l, st, w) = za_x 182 (.iload 5) 250 l st w := za_n.at zcc_182 dX13_readRow_250 rfl
theorem f_182_252 (l : za_L) (st : List Value) (w : za_W) : za_n 182 (252, l, st, w) = za_x 182 (.ifCond .eq 7) 252 l st w := za_n.at zcc_182 dX13_readRow_252 rfl
theorem f_182_255 (l : za_L) (st : List Value) (w : za_W) : za_n 182 (255, l, st, w) = za_go 256 l (.int (1) :: st) w := (za_n.at zcc_182 dX13_readRow_255 rfl).trans (congrArg (fun x => za_go 256 l (.int x :: st) w) (by decide))
theorem f_182_256 (l : za_L) (st : List Value) (w : za_W) : za_n 182 (256, l, st, w) = za_go 260 l st w := (za_n.at zcc_182 dX13_readRow_256 rfl).trans (za_jp.at (by decide))
theorem f_182_259 (l : za_L) (st : List Value) (w : za_W) : za_n 182 (259, l, st, w) = za_go 260 l (.int (0) :: st) w := (za_n.at zcc_182 dX13_readRow_259 rfl).trans (congrArg (fun x => za_go 260 l (.int x :: st) w) (by decide))
theorem f_182_260 (l : za_L) (st : List Value) (w : za_W) : za_n 182 (260, l, st, w) = za_x 182 (.istore 5) 260 l st w := za_n.at zcc_182 dX13_readRow_260 rfl
theorem f_182_262 (l : za_L) (st : List Value) (w : za_W) : za_n 182 (262, l, st, w) = za_go 233 l st w := (za_n.at zcc_182 dX13_readRow_262 rfl).trans (za_jp.at (by decide))
theorem f_182_265 (l : za_L) (st : List Value) (w : za_W) : za_n 182 (265, l, st, w) = za_x 182 (.iload 5) 265 l st w := za_n.at zcc_182 dX13_readRow_265 rfl
theorem f_182_267 (l : za_L) (st : List Value) (w : za_W) : za_n 182 (267, l, st, w) = za_x 182 (.ifCond .ne 9) 267 l st w := za_n.at zcc_182 dX13_readRow_267 rfl
theorem f_182_270 (l : za_L) (st : List Value) (w : za_W) : za_n 182 (270, l, st, w) = za_x 182 (.aload_n 0) 270 l st w := za_n.at zcc_182 dX13_readRow_270 rfl
theorem f_182_271 (l : za_L) (st : List Value) (w : za_W) : za_n 182 (271, l, st, w) = za_go 273 l (.int (14) :: st) w := (za_n.at zcc_182 dX13_readRow_271 rfl).trans (congrArg (fun x => za_go 273 l (.int x :: st) w) (by decide))
theorem f_182_273 (l : za_L) (st : List Value) (w : za_W) : za_n 182 (273, l, st, w) = za_x 182 (.invokevirtual 268) 273 l st w := za_n.at zcc_182 dX13_readRow_273 rfl
theorem f_182_276 (l : za_L) (st : List Value) (w : za_W) : za_n 182 (276, l, st, w) = za_x 182 (.return_) 276 l st w := za_n.at zcc_182 dX13_readRow_276 rfl
theorem f_187_0 (l : za_L) (st : List Value) (w : za_W) : za_n 187 (0, l, st, w) = za_x 187 (.aload_n 0) 0 l st w := za_n.at zcc_187 dX13_open_0 rfl
theorem f_187_1 (l : za_L) (st : List Value) (w : za_W) : za_n 187 (1, l, st, w) = za_go 2 l (.int (0) :: st) w := (za_n.at zcc_187 dX13_open_1 rfl).trans (congrArg (fun x => za_go 2 l (.int x :: st) w) (by decide))
theorem f_187_2 (l : za_L) (st : List Value) (w : za_W) : za_n 187 (2, l, st, w) = za_x 187 (.putfield 1) 2 l st w := za_n.at zcc_187 dX13_open_2 rfl
theorem f_187_5 (l : za_L) (st : List Value) (w : za_W) : za_n 187 (5, l, st, w) = za_go 6 l (.int (0) :: st) w := (za_n.at zcc_187 dX13_open_5 rfl).trans (congrArg (fun x => za_go 6 l (.int x :: st) w) (by decide))
theorem f_187_6 (l : za_L) (st : List Value) (w : za_W) : za_n 187 (6, l, st, w) = za_x 187 (.istore_n 1) 6 l st w := za_n.at zcc_187 dX13_open_6 rfl
theorem f_187_7 (l : za_L) (st : List Value) (w : za_W) : za_n 187 (7, l, st, w) = za_x 187 (.iload_n 1) 7 l st w := za_n.at zcc_187 dX13_open_7 rfl
theorem f_187_8 (l : za_L) (st : List Value) (w : za_W) : za_n 187 (8, l, st, w) = za_x 187 (.aload_n 0) 8 l st w := za_n.at zcc_187 dX13_open_8 rfl
theorem f_187_9 (l : za_L) (st : List Value) (w : za_W) : za_n 187 (9, l, st, w) = za_x 187 (.getfield 109) 9 l st w := za_n.at zcc_187 dX13_open_9 rfl
theorem f_187_12 (l : za_L) (st : List Value) (w : za_W) : za_n 187 (12, l, st, w) = za_x 187 (.if_icmp .ge 21) 12 l st w := za_n.at zcc_187 dX13_open_12 rfl
theorem f_187_15 (l : za_L) (st : List Value) (w : za_W) : za_n 187 (15, l, st, w) = za_x 187 (.aload_n 0) 15 l st w := za_n.at zcc_187 dX13_open_15 rfl
theorem f_187_16 (l : za_L) (st : List Value) (w : za_W) : za_n 187 (16, l, st, w) = za_x 187 (.getfield 27) 16 l st w := za_n.at zcc_187 dX13_open_16 rfl
theorem f_187_19 (l : za_L) (st : List Value) (w : za_W) : za_n 187 (19, l, st, w) = za_x 187 (.iload_n 1) 19 l st w := za_n.at zcc_187 dX13_open_19 rfl
theorem f_187_20 (l : za_L) (st : List Value) (w : za_W) : za_n 187 (20, l, st, w) = za_x 187 (.aload_n 0) 20 l st w := za_n.at zcc_187 dX13_open_20 rfl
theorem f_187_21 (l : za_L) (st : List Value) (w : za_W) : za_n 187 (21, l, st, w) = za_x 187 (.getfield 20) 21 l st w := za_n.at zcc_187 dX13_open_21 rfl
theorem f_187_24 (l : za_L) (st : List Value) (w : za_W) : za_n 187 (24, l, st, w) = za_x 187 (.iload_n 1) 24 l st w := za_n.at zcc_187 dX13_open_24 rfl
theorem f_187_25 (l : za_L) (st : List Value) (w : za_W) : za_n 187 (25, l, st, w) = za_x 187 (.baload) 25 l st w := za_n.at zcc_187 dX13_open_25 rfl
theorem f_187_26 (l : za_L) (st : List Value) (w : za_W) : za_n 187 (26, l, st, w) = za_x 187 (.bastore) 26 l st w := za_n.at zcc_187 dX13_open_26 rfl
theorem f_187_27 (l : za_L) (st : List Value) (w : za_W) : za_n 187 (27, l, st, w) = za_x 187 (.iinc 1 1) 27 l st w := za_n.at zcc_187 dX13_open_27 rfl
theorem f_187_30 (l : za_L) (st : List Value) (w : za_W) : za_n 187 (30, l, st, w) = za_go 7 l st w := (za_n.at zcc_187 dX13_open_30 rfl).trans (za_jp.at (by decide))
theorem f_187_33 (l : za_L) (st : List Value) (w : za_W) : za_n 187 (33, l, st, w) = za_x 187 (.aload_n 0) 33 l st w := za_n.at zcc_187 dX13_open_33 rfl
theorem f_187_34 (l : za_L) (st : List Value) (w : za_W) : za_n 187 (34, l, st, w) = za_x 187 (.aload_n 0) 34 l st w := za_n.at zcc_187 dX13_open_34 rfl
theorem f_187_35 (l : za_L) (st : List Value) (w : za_W) : za_n 187 (35, l, st, w) = za_x 187 (.getfield 109) 35 l st w := za_n.at zcc_187 dX13_open_35 rfl
theorem f_187_38 (l : za_L) (st : List Value) (w : za_W) : za_n 187 (38, l, st, w) = za_x 187 (.putfield 128) 38 l st w := za_n.at zcc_187 dX13_open_38 rfl
theorem f_187_41 (l : za_L) (st : List Value) (w : za_W) : za_n 187 (41, l, st, w) = za_x 187 (.aload_n 0) 41 l st w := za_n.at zcc_187 dX13_open_41 rfl
theorem f_187_42 (l : za_L) (st : List Value) (w : za_W) : za_n 187 (42, l, st, w) = za_go 43 l (.int (0) :: st) w := (za_n.at zcc_187 dX13_open_42 rfl).trans (congrArg (fun x => za_go 43 l (.int x :: st) w) (by decide))
theorem f_187_43 (l : za_L) (st : List Value) (w : za_W) : za_n 187 (43, l, st, w) = za_x 187 (.putfield 109) 43 l st w := za_n.at zcc_187 dX13_open_43 rfl
theorem f_187_46 (l : za_L) (st : List Value) (w : za_W) : za_n 187 (46, l, st, w) = za_x 187 (.aload_n 0) 46 l st w := za_n.at zcc_187 dX13_open_46 rfl
theorem f_187_47 (l : za_L) (st : List Value) (w : za_W) : za_n 187 (47, l, st, w) = za_go 48 l (.int (0) :: st) w := (za_n.at zcc_187 dX13_open_47 rfl).trans (congrArg (fun x => za_go 48 l (.int x :: st) w) (by decide))
theorem f_187_48 (l : za_L) (st : List Value) (w : za_W) : za_n 187 (48, l, st, w) = za_x 187 (.putfield 123) 48 l st w := za_n.at zcc_187 dX13_open_48 rfl
theorem f_187_51 (l : za_L) (st : List Value) (w : za_W) : za_n 187 (51, l, st, w) = za_x 187 (.aload_n 0) 51 l st w := za_n.at zcc_187 dX13_open_51 rfl
theorem f_187_52 (l : za_L) (st : List Value) (w : za_W) : za_n 187 (52, l, st, w) = za_go 53 l (.int (0) :: st) w := (za_n.at zcc_187 dX13_open_52 rfl).trans (congrArg (fun x => za_go 53 l (.int x :: st) w) (by decide))
theorem f_187_53 (l : za_L) (st : List Value) (w : za_W) : za_n 187 (53, l, st, w) = za_x 187 (.putfield 131) 53 l st w := za_n.at zcc_187 dX13_open_53 rfl
theorem f_187_56 (l : za_L) (st : List Value) (w : za_W) : za_n 187 (56, l, st, w) = za_x 187 (.aload_n 0) 56 l st w := za_n.at zcc_187 dX13_open_56 rfl
theorem f_187_57 (l : za_L) (st : List Value) (w : za_W) : za_n 187 (57, l, st, w) = za_go 58 l (.int (0) :: st) w := (za_n.at zcc_187 dX13_open_57 rfl).trans (congrArg (fun x => za_go 58 l (.int x :: st) w) (by decide))
theorem f_187_58 (l : za_L) (st : List Value) (w : za_W) : za_n 187 (58, l, st, w) = za_x 187 (.putfield 140) 58 l st w := za_n.at zcc_187 dX13_open_58 rfl
theorem f_187_61 (l : za_L) (st : List Value) (w : za_W) : za_n 187 (61, l, st, w) = za_x 187 (.aload_n 0) 61 l st w := za_n.at zcc_187 dX13_open_61 rfl
theorem f_187_62 (l : za_L) (st : List Value) (w : za_W) : za_n 187 (62, l, st, w) = za_go 63 l (.int (0) :: st) w := (za_n.at zcc_187 dX13_open_62 rfl).trans (congrArg (fun x => za_go 63 l (.int x :: st) w) (by decide))
theorem f_187_63 (l : za_L) (st : List Value) (w : za_W) : za_n 187 (63, l, st, w) = za_x 187 (.putfield 146) 63 l st w := za_n.at zcc_187 dX13_open_63 rfl
theorem f_187_66 (l : za_L) (st : List Value) (w : za_W) : za_n 187 (66, l, st, w) = za_x 187 (.aload_n 0) 66 l st w := za_n.at zcc_187 dX13_open_66 rfl
theorem f_187_67 (l : za_L) (st : List Value) (w : za_W) : za_n 187 (67, l, st, w) = za_go 68 l (.int (0) :: st) w := (za_n.at zcc_187 dX13_open_67 rfl).trans (congrArg (fun x => za_go 68 l (.int x :: st) w) (by decide))
theorem f_187_68 (l : za_L) (st : List Value) (w : za_W) : za_n 187 (68, l, st, w) = za_x 187 (.putfield 120) 68 l st w := za_n.at zcc_187 dX13_open_68 rfl
theorem f_187_71 (l : za_L) (st : List Value) (w : za_W) : za_n 187 (71, l, st, w) = za_x 187 (.aload_n 0) 71 l st w := za_n.at zcc_187 dX13_open_71 rfl
theorem f_187_72 (l : za_L) (st : List Value) (w : za_W) : za_n 187 (72, l, st, w) = za_go 73 l (.int (0) :: st) w := (za_n.at zcc_187 dX13_open_72 rfl).trans (congrArg (fun x => za_go 73 l (.int x :: st) w) (by decide))
theorem f_187_73 (l : za_L) (st : List Value) (w : za_W) : za_n 187 (73, l, st, w) = za_x 187 (.putfield 265) 73 l st w := za_n.at zcc_187 dX13_open_73 rfl
theorem f_187_76 (l : za_L) (st : List Value) (w : za_W) : za_n 187 (76, l, st, w) = za_go 77 l (.int (0) :: st) w := (za_n.at zcc_187 dX13_open_76 rfl).trans (congrArg (fun x => za_go 77 l (.int x :: st) w) (by decide))
theorem f_187_77 (l : za_L) (st : List Value) (w : za_W) : za_n 187 (77, l, st, w) = za_x 187 (.istore_n 1) 77 l st w := za_n.at zcc_187 dX13_open_77 rfl
theorem f_187_78 (l : za_L) (st : List Value) (w : za_W) : za_n 187 (78, l, st, w) = za_go 79 l (.int (1) :: st) w := (za_n.at zcc_187 dX13_open_78 rfl).trans (congrArg (fun x => za_go 79 l (.int x :: st) w) (by decide))
theorem f_187_79 (l : za_L) (st : List Value) (w : za_W) : za_n 187 (79, l, st, w) = za_x 187 (.istore_n 2) 79 l st w := za_n.at zcc_187 dX13_open_79 rfl
theorem f_187_80 (l : za_L) (st : List Value) (w : za_W) : za_n 187 (80, l, st, w) = za_x 187 (.iload_n 2) 80 l st w := za_n.at zcc_187 dX13_open_80 rfl
theorem f_187_81 (l : za_L) (st : List Value) (w : za_W) : za_n 187 (81, l, st, w) = za_x 187 (.ifCond .eq 34) 81 l st w := za_n.at zcc_187 dX13_open_81 rfl
theorem f_187_84 (l : za_L) (st : List Value) (w : za_W) : za_n 187 (84, l, st, w) = za_x 187 (.aload_n 0) 84 l st w := za_n.at zcc_187 dX13_open_84 rfl
theorem f_187_85 (l : za_L) (st : List Value) (w : za_W) : za_n 187 (85, l, st, w) = za_x 187 (.iload_n 1) 85 l st w := za_n.at zcc_187 dX13_open_85 rfl
theorem f_187_86 (l : za_L) (st : List Value) (w : za_W) : za_n 187 (86, l, st, w) = za_x 187 (.invokevirtual 317) 86 l st w := za_n.at zcc_187 dX13_open_86 rfl
theorem f_187_89 (l : za_L) (st : List Value) (w : za_W) : za_n 187 (89, l, st, w) = za_x 187 (.iinc 1 1) 89 l st w := za_n.at zcc_187 dX13_open_89 rfl
theorem f_187_92 (l : za_L) (st : List Value) (w : za_W) : za_n 187 (92, l, st, w) = za_x 187 (.aload_n 0) 92 l st w := za_n.at zcc_187 dX13_open_92 rfl
theorem f_187_93 (l : za_L) (st : List Value) (w : za_W) : za_n 187 (93, l, st, w) = za_x 187 (.getfield 265) 93 l st w := za_n.at zcc_187 dX13_open_93 rfl
theorem f_187_96 (l : za_L) (st : List Value) (w : za_W) : za_n 187 (96, l, st, w) = za_go 98 l (.int (8) :: st) w := (za_n.at zcc_187 dX13_open_96 rfl).trans (congrArg (fun x => za_go 98 l (.int x :: st) w) (by decide))
theorem f_187_98 (l : za_L) (st : List Value) (w : za_W) : za_n 187 (98, l, st, w) = za_x 187 (.aload_n 0) 98 l st w := za_n.at zcc_187 dX13_open_98 rfl
theorem f_187_99 (l : za_L) (st : List Value) (w : za_W) : za_n 187 (99, l, st, w) = za_x 187 (.getfield 128) 99 l st w := za_n.at zcc_187 dX13_open_99 rfl
theorem f_187_102 (l : za_L) (st : List Value) (w : za_W) : za_n 187 (102, l, st, w) = za_x 187 (.imul) 102 l st w := za_n.at zcc_187 dX13_open_102 rfl
theorem f_187_103 (l : za_L) (st : List Value) (w : za_W) : za_n 187 (103, l, st, w) = za_x 187 (.if_icmp .ge 7) 103 l st w := za_n.at zcc_187 dX13_open_103 rfl
theorem f_187_106 (l : za_L) (st : List Value) (w : za_W) : za_n 187 (106, l, st, w) = za_go 107 l (.int (1) :: st) w := (za_n.at zcc_187 dX13_open_106 rfl).trans (congrArg (fun x => za_go 107 l (.int x :: st) w) (by decide))
theorem f_187_107 (l : za_L) (st : List Value) (w : za_W) : za_n 187 (107, l, st, w) = za_go 111 l st w := (za_n.at zcc_187 dX13_open_107 rfl).trans (za_jp.at (by decide))
theorem f_187_110 (l : za_L) (st : List Value) (w : za_W) : za_n 187 (110, l, st, w) = za_go 111 l (.int (0) :: st) w := (za_n.at zcc_187 dX13_open_110 rfl).trans (congrArg (fun x => za_go 111 l (.int x :: st) w) (by decide))
theorem f_187_111 (l : za_L) (st : List Value) (w : za_W) : za_n 187 (111, l, st, w) = za_x 187 (.istore_n 2) 111 l st w := za_n.at zcc_187 dX13_open_111 rfl
theorem f_187_112 (l : za_L) (st : List Value) (w : za_W) : za_n 187 (112, l, st, w) = za_go 80 l st w := (za_n.at zcc_187 dX13_open_112 rfl).trans (za_jp.at (by decide))
theorem f_187_115 (l : za_L) (st : List Value) (w : za_W) : za_n 187 (115, l, st, w) = za_x 187 (.aload_n 0) 115 l st w := za_n.at zcc_187 dX13_open_115 rfl
theorem f_187_116 (l : za_L) (st : List Value) (w : za_W) : za_n 187 (116, l, st, w) = za_x 187 (.getfield 123) 116 l st w := za_n.at zcc_187 dX13_open_116 rfl
theorem f_187_119 (l : za_L) (st : List Value) (w : za_W) : za_n 187 (119, l, st, w) = za_x 187 (.ireturn) 119 l st w := za_n.at zcc_187 dX13_open_119 rfl
theorem f_187_120 (l : za_L) (st : List Value) (w : za_W) : za_n 187 (120, l, st, w) = za_x 187 (.astore_n 2) 120 l st w := za_n.at zcc_187 dX13_open_120 rfl
theorem f_187_121 (l : za_L) (st : List Value) (w : za_W) : za_n 187 (121, l, st, w) = za_x 187 (.aload_n 0) 121 l st w := za_n.at zcc_187 dX13_open_121 rfl
theorem f_187_122 (l : za_L) (st : List Value) (w : za_W) : za_n 187 (122, l, st, w) = za_x 187 (.aload_n 2) 122 l st w := za_n.at zcc_187 dX13_open_122 rfl
theorem f_187_123 (l : za_L) (st : List Value) (w : za_W) : za_n 187 (123, l, st, w) = za_x 187 (.getfield 262) 123 l st w := za_n.at zcc_187 dX13_open_123 rfl
theorem f_187_126 (l : za_L) (st : List Value) (w : za_W) : za_n 187 (126, l, st, w) = za_x 187 (.putfield 120) 126 l st w := za_n.at zcc_187 dX13_open_126 rfl
theorem f_187_129 (l : za_L) (st : List Value) (w : za_W) : za_n 187 (129, l, st, w) = za_go 131 l (.int (-10) :: st) w := (za_n.at zcc_187 dX13_open_129 rfl).trans (congrArg (fun x => za_go 131 l (.int x :: st) w) (by decide))
theorem f_187_131 (l : za_L) (st : List Value) (w : za_W) : za_n 187 (131, l, st, w) = za_x 187 (.aload_n 0) 131 l st w := za_n.at zcc_187 dX13_open_131 rfl
theorem f_187_132 (l : za_L) (st : List Value) (w : za_W) : za_n 187 (132, l, st, w) = za_x 187 (.getfield 265) 132 l st w := za_n.at zcc_187 dX13_open_132 rfl
theorem f_187_135 (l : za_L) (st : List Value) (w : za_W) : za_n 187 (135, l, st, w) = za_go 137 l (.int (7) :: st) w := (za_n.at zcc_187 dX13_open_135 rfl).trans (congrArg (fun x => za_go 137 l (.int x :: st) w) (by decide))
theorem f_187_137 (l : za_L) (st : List Value) (w : za_W) : za_n 187 (137, l, st, w) = za_x 187 (.iadd) 137 l st w := za_n.at zcc_187 dX13_open_137 rfl
theorem f_187_138 (l : za_L) (st : List Value) (w : za_W) : za_n 187 (138, l, st, w) = za_go 140 l (.int (8) :: st) w := (za_n.at zcc_187 dX13_open_138 rfl).trans (congrArg (fun x => za_go 140 l (.int x :: st) w) (by decide))
theorem f_187_140 (l : za_L) (st : List Value) (w : za_W) : za_n 187 (140, l, st, w) = za_x 187 (.idiv) 140 l st w := za_n.at zcc_187 dX13_open_140 rfl
theorem f_187_141 (l : za_L) (st : List Value) (w : za_W) : za_n 187 (141, l, st, w) = za_x 187 (.isub) 141 l st w := za_n.at zcc_187 dX13_open_141 rfl
theorem f_187_142 (l : za_L) (st : List Value) (w : za_W) : za_n 187 (142, l, st, w) = za_x 187 (.ireturn) 142 l st w := za_n.at zcc_187 dX13_open_142 rfl
theorem f_183_0 (l : za_L) (st : List Value) (w : za_W) : za_n 183 (0, l, st, w) = za_go 1 l (.int (-1) :: st) w := (za_n.at zcc_183 dX13_markAt_0 rfl).trans (congrArg (fun x => za_go 1 l (.int x :: st) w) (by decide))
theorem f_183_1 (l : za_L) (st : List Value) (w : za_W) : za_n 183 (1, l, st, w) = za_x 183 (.istore_n 2) 1 l st w := za_n.at zcc_183 dX13_markAt_1 rfl
theorem f_183_2 (l : za_L) (st : List Value) (w : za_W) : za_n 183 (2, l, st, w) = za_x 183 (.lconst 0) 2 l st w := za_n.at zcc_183 dX13_markAt_2 rfl
theorem f_183_3 (l : za_L) (st : List Value) (w : za_W) : za_n 183 (3, l, st, w) = za_x 183 (.lstore_n 3) 3 l st w := za_n.at zcc_183 dX13_markAt_3 rfl
theorem f_183_4 (l : za_L) (st : List Value) (w : za_W) : za_n 183 (4, l, st, w) = za_go 5 l (.int (0) :: st) w := (za_n.at zcc_183 dX13_markAt_4 rfl).trans (congrArg (fun x => za_go 5 l (.int x :: st) w) (by decide))
theorem f_183_5 (l : za_L) (st : List Value) (w : za_W) : za_n 183 (5, l, st, w) = za_x 183 (.istore 5) 5 l st w := za_n.at zcc_183 dX13_markAt_5 rfl
theorem f_183_7 (l : za_L) (st : List Value) (w : za_W) : za_n 183 (7, l, st, w) = za_x 183 (.iload 5) 7 l st w := za_n.at zcc_183 dX13_markAt_7 rfl
theorem f_183_9 (l : za_L) (st : List Value) (w : za_W) : za_n 183 (9, l, st, w) = za_go 11 l (.int (8) :: st) w := (za_n.at zcc_183 dX13_markAt_9 rfl).trans (congrArg (fun x => za_go 11 l (.int x :: st) w) (by decide))
theorem f_183_11 (l : za_L) (st : List Value) (w : za_W) : za_n 183 (11, l, st, w) = za_x 183 (.aload_n 0) 11 l st w := za_n.at zcc_183 dX13_markAt_11 rfl
theorem f_183_12 (l : za_L) (st : List Value) (w : za_W) : za_n 183 (12, l, st, w) = za_x 183 (.getfield 128) 12 l st w := za_n.at zcc_183 dX13_markAt_12 rfl
theorem f_183_15 (l : za_L) (st : List Value) (w : za_W) : za_n 183 (15, l, st, w) = za_x 183 (.imul) 15 l st w := za_n.at zcc_183 dX13_markAt_15 rfl
theorem f_183_16 (l : za_L) (st : List Value) (w : za_W) : za_n 183 (16, l, st, w) = za_x 183 (.if_icmp .ge 69) 16 l st w := za_n.at zcc_183 dX13_markAt_16 rfl
theorem f_183_19 (l : za_L) (st : List Value) (w : za_W) : za_n 183 (19, l, st, w) = za_x 183 (.lload_n 3) 19 l st w := za_n.at zcc_183 dX13_markAt_19 rfl
theorem f_183_20 (l : za_L) (st : List Value) (w : za_W) : za_n 183 (20, l, st, w) = za_go 21 l (.int (1) :: st) w := (za_n.at zcc_183 dX13_markAt_20 rfl).trans (congrArg (fun x => za_go 21 l (.int x :: st) w) (by decide))
theorem f_183_21 (l : za_L) (st : List Value) (w : za_W) : za_n 183 (21, l, st, w) = za_x 183 (.lshl) 21 l st w := za_n.at zcc_183 dX13_markAt_21 rfl
theorem f_183_22 (l : za_L) (st : List Value) (w : za_W) : za_n 183 (22, l, st, w) = za_x 183 (.aload_n 0) 22 l st w := za_n.at zcc_183 dX13_markAt_22 rfl
theorem f_183_23 (l : za_L) (st : List Value) (w : za_W) : za_n 183 (23, l, st, w) = za_x 183 (.getfield 27) 23 l st w := za_n.at zcc_183 dX13_markAt_23 rfl
theorem f_183_26 (l : za_L) (st : List Value) (w : za_W) : za_n 183 (26, l, st, w) = za_x 183 (.iload 5) 26 l st w := za_n.at zcc_183 dX13_markAt_26 rfl
theorem f_183_28 (l : za_L) (st : List Value) (w : za_W) : za_n 183 (28, l, st, w) = za_go 30 l (.int (8) :: st) w := (za_n.at zcc_183 dX13_markAt_28 rfl).trans (congrArg (fun x => za_go 30 l (.int x :: st) w) (by decide))
theorem f_183_30 (l : za_L) (st : List Value) (w : za_W) : za_n 183 (30, l, st, w) = za_x 183 (.idiv) 30 l st w := za_n.at zcc_183 dX13_markAt_30 rfl
theorem f_183_31 (l : za_L) (st : List Value) (w : za_W) : za_n 183 (31, l, st, w) = za_x 183 (.baload) 31 l st w := za_n.at zcc_183 dX13_markAt_31 rfl
theorem f_183_32 (l : za_L) (st : List Value) (w : za_W) : za_n 183 (32, l, st, w) = za_go 34 l (.int (7) :: st) w := (za_n.at zcc_183 dX13_markAt_32 rfl).trans (congrArg (fun x => za_go 34 l (.int x :: st) w) (by decide))
theorem f_183_34 (l : za_L) (st : List Value) (w : za_W) : za_n 183 (34, l, st, w) = za_x 183 (.iload 5) 34 l st w := za_n.at zcc_183 dX13_markAt_34 rfl
theorem f_183_36 (l : za_L) (st : List Value) (w : za_W) : za_n 183 (36, l, st, w) = za_go 38 l (.int (8) :: st) w := (za_n.at zcc_183 dX13_markAt_36 rfl).trans (congrArg (fun x => za_go 38 l (.int x :: st) w) (by decide))
theorem f_183_38 (l : za_L) (st : List Value) (w : za_W) : za_n 183 (38, l, st, w) = za_x 183 (.irem) 38 l st w := za_n.at zcc_183 dX13_markAt_38 rfl
theorem f_183_39 (l : za_L) (st : List Value) (w : za_W) : za_n 183 (39, l, st, w) = za_x 183 (.isub) 39 l st w := za_n.at zcc_183 dX13_markAt_39 rfl
theorem f_183_40 (l : za_L) (st : List Value) (w : za_W) : za_n 183 (40, l, st, w) = za_x 183 (.ishr) 40 l st w := za_n.at zcc_183 dX13_markAt_40 rfl
theorem f_183_41 (l : za_L) (st : List Value) (w : za_W) : za_n 183 (41, l, st, w) = za_go 42 l (.int (1) :: st) w := (za_n.at zcc_183 dX13_markAt_41 rfl).trans (congrArg (fun x => za_go 42 l (.int x :: st) w) (by decide))
theorem f_183_42 (l : za_L) (st : List Value) (w : za_W) : za_n 183 (42, l, st, w) = za_x 183 (.iand) 42 l st w := za_n.at zcc_183 dX13_markAt_42 rfl
theorem f_183_43 (l : za_L) (st : List Value) (w : za_W) : za_n 183 (43, l, st, w) = za_x 183 (.i2l) 43 l st w := za_n.at zcc_183 dX13_markAt_43 rfl
theorem f_183_44 (l : za_L) (st : List Value) (w : za_W) : za_n 183 (44, l, st, w) = za_x 183 (.lor) 44 l st w := za_n.at zcc_183 dX13_markAt_44 rfl
theorem f_183_45 (l : za_L) (st : List Value) (w : za_W) : za_n 183 (45, l, st, w) = za_x 183 (.ldc2_w 320) 45 l st w := za_n.at zcc_183 dX13_markAt_45 rfl
theorem f_183_48 (l : za_L) (st : List Value) (w : za_W) : za_n 183 (48, l, st, w) = za_x 183 (.land) 48 l st w := za_n.at zcc_183 dX13_markAt_48 rfl
theorem f_183_49 (l : za_L) (st : List Value) (w : za_W) : za_n 183 (49, l, st, w) = za_x 183 (.lstore_n 3) 49 l st w := za_n.at zcc_183 dX13_markAt_49 rfl
theorem f_183_50 (l : za_L) (st : List Value) (w : za_W) : za_n 183 (50, l, st, w) = za_x 183 (.iload 5) 50 l st w := za_n.at zcc_183 dX13_markAt_50 rfl
theorem f_183_52 (l : za_L) (st : List Value) (w : za_W) : za_n 183 (52, l, st, w) = za_go 54 l (.int (47) :: st) w := (za_n.at zcc_183 dX13_markAt_52 rfl).trans (congrArg (fun x => za_go 54 l (.int x :: st) w) (by decide))
theorem f_183_54 (l : za_L) (st : List Value) (w : za_W) : za_n 183 (54, l, st, w) = za_x 183 (.if_icmp .lt 25) 54 l st w := za_n.at zcc_183 dX13_markAt_54 rfl
theorem f_183_57 (l : za_L) (st : List Value) (w : za_W) : za_n 183 (57, l, st, w) = za_x 183 (.lload_n 3) 57 l st w := za_n.at zcc_183 dX13_markAt_57 rfl
theorem f_183_58 (l : za_L) (st : List Value) (w : za_W) : za_n 183 (58, l, st, w) = za_x 183 (.ldc2_w 224) 58 l st w := za_n.at zcc_183 dX13_markAt_58 rfl
theorem f_183_61 (l : za_L) (st : List Value) (w : za_W) : za_n 183 (61, l, st, w) = za_x 183 (.lcmp) 61 l st w := za_n.at zcc_183 dX13_markAt_61 rfl
theorem f_183_62 (l : za_L) (st : List Value) (w : za_W) : za_n 183 (62, l, st, w) = za_x 183 (.ifCond .ne 17) 62 l st w := za_n.at zcc_183 dX13_markAt_62 rfl
theorem f_183_65 (l : za_L) (st : List Value) (w : za_W) : za_n 183 (65, l, st, w) = za_x 183 (.iinc 2 1) 65 l st w := za_n.at zcc_183 dX13_markAt_65 rfl
theorem f_183_68 (l : za_L) (st : List Value) (w : za_W) : za_n 183 (68, l, st, w) = za_x 183 (.iload_n 2) 68 l st w := za_n.at zcc_183 dX13_markAt_68 rfl
theorem f_183_69 (l : za_L) (st : List Value) (w : za_W) : za_n 183 (69, l, st, w) = za_x 183 (.iload_n 1) 69 l st w := za_n.at zcc_183 dX13_markAt_69 rfl
theorem f_183_70 (l : za_L) (st : List Value) (w : za_W) : za_n 183 (70, l, st, w) = za_x 183 (.if_icmp .ne 9) 70 l st w := za_n.at zcc_183 dX13_markAt_70 rfl
theorem f_183_73 (l : za_L) (st : List Value) (w : za_W) : za_n 183 (73, l, st, w) = za_x 183 (.iload 5) 73 l st w := za_n.at zcc_183 dX13_markAt_73 rfl
theorem f_183_75 (l : za_L) (st : List Value) (w : za_W) : za_n 183 (75, l, st, w) = za_go 77 l (.int (47) :: st) w := (za_n.at zcc_183 dX13_markAt_75 rfl).trans (congrArg (fun x => za_go 77 l (.int x :: st) w) (by decide))
theorem f_183_77 (l : za_L) (st : List Value) (w : za_W) : za_n 183 (77, l, st, w) = za_x 183 (.isub) 77 l st w := za_n.at zcc_183 dX13_markAt_77 rfl
theorem f_183_78 (l : za_L) (st : List Value) (w : za_W) : za_n 183 (78, l, st, w) = za_x 183 (.ireturn) 78 l st w := za_n.at zcc_183 dX13_markAt_78 rfl
theorem f_183_79 (l : za_L) (st : List Value) (w : za_W) : za_n 183 (79, l, st, w) = za_x 183 (.iinc 5 1) 79 l st w := za_n.at zcc_183 dX13_markAt_79 rfl
theorem f_183_82 (l : za_L) (st : List Value) (w : za_W) : za_n 183 (82, l, st, w) = za_go 7 l st w := (za_n.at zcc_183 dX13_markAt_82 rfl).trans (za_jp.at (by decide))
theorem f_183_85 (l : za_L) (st : List Value) (w : za_W) : za_n 183 (85, l, st, w) = za_go 87 l (.int (-2) :: st) w := (za_n.at zcc_183 dX13_markAt_85 rfl).trans (congrArg (fun x => za_go 87 l (.int x :: st) w) (by decide))
theorem f_183_87 (l : za_L) (st : List Value) (w : za_W) : za_n 183 (87, l, st, w) = za_x 183 (.ireturn) 87 l st w := za_n.at zcc_183 dX13_markAt_87 rfl
theorem f_184_0 (l : za_L) (st : List Value) (w : za_W) : za_n 184 (0, l, st, w) = za_x 184 (.aload_n 0) 0 l st w := za_n.at zcc_184 dX13_mark_0 rfl
theorem f_184_1 (l : za_L) (st : List Value) (w : za_W) : za_n 184 (1, l, st, w) = za_go 2 l (.int (0) :: st) w := (za_n.at zcc_184 dX13_mark_1 rfl).trans (congrArg (fun x => za_go 2 l (.int x :: st) w) (by decide))
theorem f_184_2 (l : za_L) (st : List Value) (w : za_W) : za_n 184 (2, l, st, w) = za_x 184 (.putfield 1) 2 l st w := za_n.at zcc_184 dX13_mark_2 rfl
theorem f_184_5 (l : za_L) (st : List Value) (w : za_W) : za_n 184 (5, l, st, w) = za_x 184 (.iload_n 1) 5 l st w := za_n.at zcc_184 dX13_mark_5 rfl
theorem f_184_6 (l : za_L) (st : List Value) (w : za_W) : za_n 184 (6, l, st, w) = za_x 184 (.ifCond .ge 8) 6 l st w := za_n.at zcc_184 dX13_mark_6 rfl
theorem f_184_9 (l : za_L) (st : List Value) (w : za_W) : za_n 184 (9, l, st, w) = za_go 11 l (.int (-2) :: st) w := (za_n.at zcc_184 dX13_mark_9 rfl).trans (congrArg (fun x => za_go 11 l (.int x :: st) w) (by decide))
theorem f_184_11 (l : za_L) (st : List Value) (w : za_W) : za_n 184 (11, l, st, w) = za_go 19 l st w := (za_n.at zcc_184 dX13_mark_11 rfl).trans (za_jp.at (by decide))
theorem f_184_14 (l : za_L) (st : List Value) (w : za_W) : za_n 184 (14, l, st, w) = za_x 184 (.aload_n 0) 14 l st w := za_n.at zcc_184 dX13_mark_14 rfl
theorem f_184_15 (l : za_L) (st : List Value) (w : za_W) : za_n 184 (15, l, st, w) = za_x 184 (.iload_n 1) 15 l st w := za_n.at zcc_184 dX13_mark_15 rfl
theorem f_184_16 (l : za_L) (st : List Value) (w : za_W) : za_n 184 (16, l, st, w) = za_x 184 (.invokevirtual 322) 16 l st w := za_n.at zcc_184 dX13_mark_16 rfl
theorem f_184_19 (l : za_L) (st : List Value) (w : za_W) : za_n 184 (19, l, st, w) = za_x 184 (.istore_n 2) 19 l st w := za_n.at zcc_184 dX13_mark_19 rfl
theorem f_184_20 (l : za_L) (st : List Value) (w : za_W) : za_n 184 (20, l, st, w) = za_x 184 (.iload_n 2) 20 l st w := za_n.at zcc_184 dX13_mark_20 rfl
theorem f_184_21 (l : za_L) (st : List Value) (w : za_W) : za_n 184 (21, l, st, w) = za_x 184 (.ifCond .ge 7) 21 l st w := za_n.at zcc_184 dX13_mark_21 rfl
theorem f_184_24 (l : za_L) (st : List Value) (w : za_W) : za_n 184 (24, l, st, w) = za_go 25 l (.int (-1) :: st) w := (za_n.at zcc_184 dX13_mark_24 rfl).trans (congrArg (fun x => za_go 25 l (.int x :: st) w) (by decide))
theorem f_184_25 (l : za_L) (st : List Value) (w : za_W) : za_n 184 (25, l, st, w) = za_go 29 l st w := (za_n.at zcc_184 dX13_mark_25 rfl).trans (za_jp.at (by decide))
theorem f_184_28 (l : za_L) (st : List Value) (w : za_W) : za_n 184 (28, l, st, w) = za_x 184 (.iload_n 2) 28 l st w := za_n.at zcc_184 dX13_mark_28 rfl
theorem f_184_29 (l : za_L) (st : List Value) (w : za_W) : za_n 184 (29, l, st, w) = za_x 184 (.ireturn) 29 l st w := za_n.at zcc_184 dX13_mark_29 rfl
theorem f_188_0 (l : za_L) (st : List Value) (w : za_W) : za_n 188 (0, l, st, w) = za_x 188 (.aload_n 0) 0 l st w := za_n.at zcc_188 dX13_alone_0 rfl
theorem f_188_1 (l : za_L) (st : List Value) (w : za_W) : za_n 188 (1, l, st, w) = za_go 2 l (.int (0) :: st) w := (za_n.at zcc_188 dX13_alone_1 rfl).trans (congrArg (fun x => za_go 2 l (.int x :: st) w) (by decide))
theorem f_188_2 (l : za_L) (st : List Value) (w : za_W) : za_n 188 (2, l, st, w) = za_x 188 (.putfield 1) 2 l st w := za_n.at zcc_188 dX13_alone_2 rfl
theorem f_188_5 (l : za_L) (st : List Value) (w : za_W) : za_n 188 (5, l, st, w) = za_x 188 (.iload_n 1) 5 l st w := za_n.at zcc_188 dX13_alone_5 rfl
theorem f_188_6 (l : za_L) (st : List Value) (w : za_W) : za_n 188 (6, l, st, w) = za_x 188 (.ifCond .ge 8) 6 l st w := za_n.at zcc_188 dX13_alone_6 rfl
theorem f_188_9 (l : za_L) (st : List Value) (w : za_W) : za_n 188 (9, l, st, w) = za_go 11 l (.int (-2) :: st) w := (za_n.at zcc_188 dX13_alone_9 rfl).trans (congrArg (fun x => za_go 11 l (.int x :: st) w) (by decide))
theorem f_188_11 (l : za_L) (st : List Value) (w : za_W) : za_n 188 (11, l, st, w) = za_go 19 l st w := (za_n.at zcc_188 dX13_alone_11 rfl).trans (za_jp.at (by decide))
theorem f_188_14 (l : za_L) (st : List Value) (w : za_W) : za_n 188 (14, l, st, w) = za_x 188 (.aload_n 0) 14 l st w := za_n.at zcc_188 dX13_alone_14 rfl
theorem f_188_15 (l : za_L) (st : List Value) (w : za_W) : za_n 188 (15, l, st, w) = za_x 188 (.iload_n 1) 15 l st w := za_n.at zcc_188 dX13_alone_15 rfl
theorem f_188_16 (l : za_L) (st : List Value) (w : za_W) : za_n 188 (16, l, st, w) = za_x 188 (.invokevirtual 322) 16 l st w := za_n.at zcc_188 dX13_alone_16 rfl
theorem f_188_19 (l : za_L) (st : List Value) (w : za_W) : za_n 188 (19, l, st, w) = za_x 188 (.istore_n 2) 19 l st w := za_n.at zcc_188 dX13_alone_19 rfl
theorem f_188_20 (l : za_L) (st : List Value) (w : za_W) : za_n 188 (20, l, st, w) = za_x 188 (.iload_n 2) 20 l st w := za_n.at zcc_188 dX13_alone_20 rfl
theorem f_188_21 (l : za_L) (st : List Value) (w : za_W) : za_n 188 (21, l, st, w) = za_x 188 (.ifCond .ge 5) 21 l st w := za_n.at zcc_188 dX13_alone_21 rfl
theorem f_188_24 (l : za_L) (st : List Value) (w : za_W) : za_n 188 (24, l, st, w) = za_go 25 l (.int (-1) :: st) w := (za_n.at zcc_188 dX13_alone_24 rfl).trans (congrArg (fun x => za_go 25 l (.int x :: st) w) (by decide))
theorem f_188_25 (l : za_L) (st : List Value) (w : za_W) : za_n 188 (25, l, st, w) = za_x 188 (.ireturn) 25 l st w := za_n.at zcc_188 dX13_alone_25 rfl
theorem f_188_26 (l : za_L) (st : List Value) (w : za_W) : za_n 188 (26, l, st, w) = za_x 188 (.aload_n 0) 26 l st w := za_n.at zcc_188 dX13_alone_26 rfl
theorem f_188_27 (l : za_L) (st : List Value) (w : za_W) : za_n 188 (27, l, st, w) = za_go 28 l (.int (0) :: st) w := (za_n.at zcc_188 dX13_alone_27 rfl).trans (congrArg (fun x => za_go 28 l (.int x :: st) w) (by decide))
theorem f_188_28 (l : za_L) (st : List Value) (w : za_W) : za_n 188 (28, l, st, w) = za_x 188 (.putfield 120) 28 l st w := za_n.at zcc_188 dX13_alone_28 rfl
theorem f_188_31 (l : za_L) (st : List Value) (w : za_W) : za_n 188 (31, l, st, w) = za_x 188 (.aload_n 0) 31 l st w := za_n.at zcc_188 dX13_alone_31 rfl
theorem f_188_32 (l : za_L) (st : List Value) (w : za_W) : za_n 188 (32, l, st, w) = za_go 33 l (.int (0) :: st) w := (za_n.at zcc_188 dX13_alone_32 rfl).trans (congrArg (fun x => za_go 33 l (.int x :: st) w) (by decide))
theorem f_188_33 (l : za_L) (st : List Value) (w : za_W) : za_n 188 (33, l, st, w) = za_x 188 (.putfield 123) 33 l st w := za_n.at zcc_188 dX13_alone_33 rfl
theorem f_188_36 (l : za_L) (st : List Value) (w : za_W) : za_n 188 (36, l, st, w) = za_x 188 (.aload_n 0) 36 l st w := za_n.at zcc_188 dX13_alone_36 rfl
theorem f_188_37 (l : za_L) (st : List Value) (w : za_W) : za_n 188 (37, l, st, w) = za_x 188 (.iload_n 2) 37 l st w := za_n.at zcc_188 dX13_alone_37 rfl
theorem f_188_38 (l : za_L) (st : List Value) (w : za_W) : za_n 188 (38, l, st, w) = za_go 40 l (.int (48) :: st) w := (za_n.at zcc_188 dX13_alone_38 rfl).trans (congrArg (fun x => za_go 40 l (.int x :: st) w) (by decide))
theorem f_188_40 (l : za_L) (st : List Value) (w : za_W) : za_n 188 (40, l, st, w) = za_x 188 (.iadd) 40 l st w := za_n.at zcc_188 dX13_alone_40 rfl
theorem f_188_41 (l : za_L) (st : List Value) (w : za_W) : za_n 188 (41, l, st, w) = za_x 188 (.putfield 265) 41 l st w := za_n.at zcc_188 dX13_alone_41 rfl
theorem f_188_44 (l : za_L) (st : List Value) (w : za_W) : za_n 188 (44, l, st, w) = za_x 188 (.aload_n 0) 44 l st w := za_n.at zcc_188 dX13_alone_44 rfl
theorem f_188_45 (l : za_L) (st : List Value) (w : za_W) : za_n 188 (45, l, st, w) = za_x 188 (.iload_n 2) 45 l st w := za_n.at zcc_188 dX13_alone_45 rfl
theorem f_188_46 (l : za_L) (st : List Value) (w : za_W) : za_n 188 (46, l, st, w) = za_go 47 l (.int (0) :: st) w := (za_n.at zcc_188 dX13_alone_46 rfl).trans (congrArg (fun x => za_go 47 l (.int x :: st) w) (by decide))
theorem f_188_47 (l : za_L) (st : List Value) (w : za_W) : za_n 188 (47, l, st, w) = za_go 50 l (.int (1800) :: st) w := (za_n.at zcc_188 dX13_alone_47 rfl).trans (congrArg (fun x => za_go 50 l (.int x :: st) w) (by decide))
theorem f_188_50 (l : za_L) (st : List Value) (w : za_W) : za_n 188 (50, l, st, w) = za_go 51 l (.int (0) :: st) w := (za_n.at zcc_188 dX13_alone_50 rfl).trans (congrArg (fun x => za_go 51 l (.int x :: st) w) (by decide))
theorem f_188_51 (l : za_L) (st : List Value) (w : za_W) : za_n 188 (51, l, st, w) = za_go 52 l (.int (0) :: st) w := (za_n.at zcc_188 dX13_alone_51 rfl).trans (congrArg (fun x => za_go 52 l (.int x :: st) w) (by decide))
theorem f_188_52 (l : za_L) (st : List Value) (w : za_W) : za_n 188 (52, l, st, w) = za_x 188 (.invokevirtual 313) 52 l st w := za_n.at zcc_188 dX13_alone_52 rfl
theorem f_188_55 (l : za_L) (st : List Value) (w : za_W) : za_n 188 (55, l, st, w) = za_x 188 (.istore_n 3) 55 l st w := za_n.at zcc_188 dX13_alone_55 rfl
theorem f_188_56 (l : za_L) (st : List Value) (w : za_W) : za_n 188 (56, l, st, w) = za_go 57 l (.int (0) :: st) w := (za_n.at zcc_188 dX13_alone_56 rfl).trans (congrArg (fun x => za_go 57 l (.int x :: st) w) (by decide))
theorem f_188_57 (l : za_L) (st : List Value) (w : za_W) : za_n 188 (57, l, st, w) = za_x 188 (.istore 4) 57 l st w := za_n.at zcc_188 dX13_alone_57 rfl
theorem f_188_59 (l : za_L) (st : List Value) (w : za_W) : za_n 188 (59, l, st, w) = za_x 188 (.iload 4) 59 l st w := za_n.at zcc_188 dX13_alone_59 rfl
theorem f_188_61 (l : za_L) (st : List Value) (w : za_W) : za_n 188 (61, l, st, w) = za_x 188 (.aload_n 0) 61 l st w := za_n.at zcc_188 dX13_alone_61 rfl
theorem f_188_62 (l : za_L) (st : List Value) (w : za_W) : za_n 188 (62, l, st, w) = za_x 188 (.getfield 308) 62 l st w := za_n.at zcc_188 dX13_alone_62 rfl
theorem f_188_65 (l : za_L) (st : List Value) (w : za_W) : za_n 188 (65, l, st, w) = za_x 188 (.if_icmp .ge 23) 65 l st w := za_n.at zcc_188 dX13_alone_65 rfl
theorem f_188_68 (l : za_L) (st : List Value) (w : za_W) : za_n 188 (68, l, st, w) = za_x 188 (.aload_n 0) 68 l st w := za_n.at zcc_188 dX13_alone_68 rfl
theorem f_188_69 (l : za_L) (st : List Value) (w : za_W) : za_n 188 (69, l, st, w) = za_x 188 (.getfield 24) 69 l st w := za_n.at zcc_188 dX13_alone_69 rfl
theorem f_188_72 (l : za_L) (st : List Value) (w : za_W) : za_n 188 (72, l, st, w) = za_x 188 (.iload 4) 72 l st w := za_n.at zcc_188 dX13_alone_72 rfl
theorem f_188_74 (l : za_L) (st : List Value) (w : za_W) : za_n 188 (74, l, st, w) = za_x 188 (.aload_n 0) 74 l st w := za_n.at zcc_188 dX13_alone_74 rfl
theorem f_188_75 (l : za_L) (st : List Value) (w : za_W) : za_n 188 (75, l, st, w) = za_x 188 (.getfield 103) 75 l st w := za_n.at zcc_188 dX13_alone_75 rfl
theorem f_188_78 (l : za_L) (st : List Value) (w : za_W) : za_n 188 (78, l, st, w) = za_x 188 (.iload 4) 78 l st w := za_n.at zcc_188 dX13_alone_78 rfl
theorem f_188_80 (l : za_L) (st : List Value) (w : za_W) : za_n 188 (80, l, st, w) = za_x 188 (.baload) 80 l st w := za_n.at zcc_188 dX13_alone_80 rfl
theorem f_188_81 (l : za_L) (st : List Value) (w : za_W) : za_n 188 (81, l, st, w) = za_x 188 (.bastore) 81 l st w := za_n.at zcc_188 dX13_alone_81 rfl
theorem f_188_82 (l : za_L) (st : List Value) (w : za_W) : za_n 188 (82, l, st, w) = za_x 188 (.iinc 4 1) 82 l st w := za_n.at zcc_188 dX13_alone_82 rfl
theorem f_188_85 (l : za_L) (st : List Value) (w : za_W) : za_n 188 (85, l, st, w) = za_go 59 l st w := (za_n.at zcc_188 dX13_alone_85 rfl).trans (za_jp.at (by decide))
theorem f_188_88 (l : za_L) (st : List Value) (w : za_W) : za_n 188 (88, l, st, w) = za_x 188 (.aload_n 0) 88 l st w := za_n.at zcc_188 dX13_alone_88 rfl
theorem f_188_89 (l : za_L) (st : List Value) (w : za_W) : za_n 188 (89, l, st, w) = za_x 188 (.aload_n 0) 89 l st w := za_n.at zcc_188 dX13_alone_89 rfl
theorem f_188_90 (l : za_L) (st : List Value) (w : za_W) : za_n 188 (90, l, st, w) = za_x 188 (.getfield 308) 90 l st w := za_n.at zcc_188 dX13_alone_90 rfl
theorem f_188_93 (l : za_L) (st : List Value) (w : za_W) : za_n 188 (93, l, st, w) = za_x 188 (.putfield 123) 93 l st w := za_n.at zcc_188 dX13_alone_93 rfl
theorem f_188_96 (l : za_L) (st : List Value) (w : za_W) : za_n 188 (96, l, st, w) = za_x 188 (.aload_n 0) 96 l st w := za_n.at zcc_188 dX13_alone_96 rfl
theorem f_188_97 (l : za_L) (st : List Value) (w : za_W) : za_n 188 (97, l, st, w) = za_x 188 (.getfield 123) 97 l st w := za_n.at zcc_188 dX13_alone_97 rfl
theorem f_188_100 (l : za_L) (st : List Value) (w : za_W) : za_n 188 (100, l, st, w) = za_x 188 (.ireturn) 100 l st w := za_n.at zcc_188 dX13_alone_100 rfl
theorem f_188_101 (l : za_L) (st : List Value) (w : za_W) : za_n 188 (101, l, st, w) = za_x 188 (.astore_n 3) 101 l st w := za_n.at zcc_188 dX13_alone_101 rfl
theorem f_188_102 (l : za_L) (st : List Value) (w : za_W) : za_n 188 (102, l, st, w) = za_x 188 (.aload_n 0) 102 l st w := za_n.at zcc_188 dX13_alone_102 rfl
theorem f_188_103 (l : za_L) (st : List Value) (w : za_W) : za_n 188 (103, l, st, w) = za_x 188 (.aload_n 3) 103 l st w := za_n.at zcc_188 dX13_alone_103 rfl
theorem f_188_104 (l : za_L) (st : List Value) (w : za_W) : za_n 188 (104, l, st, w) = za_x 188 (.getfield 262) 104 l st w := za_n.at zcc_188 dX13_alone_104 rfl
theorem f_188_107 (l : za_L) (st : List Value) (w : za_W) : za_n 188 (107, l, st, w) = za_x 188 (.putfield 120) 107 l st w := za_n.at zcc_188 dX13_alone_107 rfl
theorem f_188_110 (l : za_L) (st : List Value) (w : za_W) : za_n 188 (110, l, st, w) = za_go 112 l (.int (-10) :: st) w := (za_n.at zcc_188 dX13_alone_110 rfl).trans (congrArg (fun x => za_go 112 l (.int x :: st) w) (by decide))
theorem f_188_112 (l : za_L) (st : List Value) (w : za_W) : za_n 188 (112, l, st, w) = za_x 188 (.aload_n 0) 112 l st w := za_n.at zcc_188 dX13_alone_112 rfl
theorem f_188_113 (l : za_L) (st : List Value) (w : za_W) : za_n 188 (113, l, st, w) = za_x 188 (.getfield 265) 113 l st w := za_n.at zcc_188 dX13_alone_113 rfl
theorem f_188_116 (l : za_L) (st : List Value) (w : za_W) : za_n 188 (116, l, st, w) = za_go 118 l (.int (7) :: st) w := (za_n.at zcc_188 dX13_alone_116 rfl).trans (congrArg (fun x => za_go 118 l (.int x :: st) w) (by decide))
theorem f_188_118 (l : za_L) (st : List Value) (w : za_W) : za_n 188 (118, l, st, w) = za_x 188 (.iadd) 118 l st w := za_n.at zcc_188 dX13_alone_118 rfl
theorem f_188_119 (l : za_L) (st : List Value) (w : za_W) : za_n 188 (119, l, st, w) = za_go 121 l (.int (8) :: st) w := (za_n.at zcc_188 dX13_alone_119 rfl).trans (congrArg (fun x => za_go 121 l (.int x :: st) w) (by decide))
theorem f_188_121 (l : za_L) (st : List Value) (w : za_W) : za_n 188 (121, l, st, w) = za_x 188 (.idiv) 121 l st w := za_n.at zcc_188 dX13_alone_121 rfl
theorem f_188_122 (l : za_L) (st : List Value) (w : za_W) : za_n 188 (122, l, st, w) = za_x 188 (.isub) 122 l st w := za_n.at zcc_188 dX13_alone_122 rfl
theorem f_188_123 (l : za_L) (st : List Value) (w : za_W) : za_n 188 (123, l, st, w) = za_x 188 (.ireturn) 123 l st w := za_n.at zcc_188 dX13_alone_123 rfl
theorem f_185_0 (l : za_L) (st : List Value) (w : za_W) : za_n 185 (0, l, st, w) = za_go 1 l (.int (0) :: st) w := (za_n.at zcc_185 dJ7_fill_53178_0 rfl).trans (congrArg (fun x => za_go 1 l (.int x :: st) w) (by decide))
theorem f_185_1 (l : za_L) (st : List Value) (w : za_W) : za_n 185 (1, l, st, w) = za_x 185 (.istore_n 2) 1 l st w := za_n.at zcc_185 dJ7_fill_53178_1 rfl
theorem f_185_2 (l : za_L) (st : List Value) (w : za_W) : za_n 185 (2, l, st, w) = za_x 185 (.aload_n 0) 2 l st w := za_n.at zcc_185 dJ7_fill_53178_2 rfl
theorem f_185_3 (l : za_L) (st : List Value) (w : za_W) : za_n 185 (3, l, st, w) = za_x 185 (.arraylength) 3 l st w := za_n.at zcc_185 dJ7_fill_53178_3 rfl
theorem f_185_4 (l : za_L) (st : List Value) (w : za_W) : za_n 185 (4, l, st, w) = za_x 185 (.istore_n 3) 4 l st w := za_n.at zcc_185 dJ7_fill_53178_4 rfl
theorem f_185_5 (l : za_L) (st : List Value) (w : za_W) : za_n 185 (5, l, st, w) = za_x 185 (.iload_n 2) 5 l st w := za_n.at zcc_185 dJ7_fill_53178_5 rfl
theorem f_185_6 (l : za_L) (st : List Value) (w : za_W) : za_n 185 (6, l, st, w) = za_x 185 (.iload_n 3) 6 l st w := za_n.at zcc_185 dJ7_fill_53178_6 rfl
theorem f_185_7 (l : za_L) (st : List Value) (w : za_W) : za_n 185 (7, l, st, w) = za_x 185 (.if_icmp .ge 13) 7 l st w := za_n.at zcc_185 dJ7_fill_53178_7 rfl
theorem f_185_10 (l : za_L) (st : List Value) (w : za_W) : za_n 185 (10, l, st, w) = za_x 185 (.aload_n 0) 10 l st w := za_n.at zcc_185 dJ7_fill_53178_10 rfl
theorem f_185_11 (l : za_L) (st : List Value) (w : za_W) : za_n 185 (11, l, st, w) = za_x 185 (.iload_n 2) 11 l st w := za_n.at zcc_185 dJ7_fill_53178_11 rfl
theorem f_185_12 (l : za_L) (st : List Value) (w : za_W) : za_n 185 (12, l, st, w) = za_x 185 (.iload_n 1) 12 l st w := za_n.at zcc_185 dJ7_fill_53178_12 rfl
theorem f_185_13 (l : za_L) (st : List Value) (w : za_W) : za_n 185 (13, l, st, w) = za_x 185 (.iastore) 13 l st w := za_n.at zcc_185 dJ7_fill_53178_13 rfl
theorem f_185_14 (l : za_L) (st : List Value) (w : za_W) : za_n 185 (14, l, st, w) = za_x 185 (.iinc 2 1) 14 l st w := za_n.at zcc_185 dJ7_fill_53178_14 rfl
theorem f_185_17 (l : za_L) (st : List Value) (w : za_W) : za_n 185 (17, l, st, w) = za_go 5 l st w := (za_n.at zcc_185 dJ7_fill_53178_17 rfl).trans (za_jp.at (by decide))
theorem f_185_20 (l : za_L) (st : List Value) (w : za_W) : za_n 185 (20, l, st, w) = za_x 185 (.return_) 20 l st w := za_n.at zcc_185 dJ7_fill_53178_20 rfl
theorem f_186_0 (l : za_L) (st : List Value) (w : za_W) : za_n 186 (0, l, st, w) = za_x 186 (.iload_n 1) 0 l st w := za_n.at zcc_186 dL_cell_0 rfl
theorem f_186_1 (l : za_L) (st : List Value) (w : za_W) : za_n 186 (1, l, st, w) = za_x 186 (.aload_n 0) 1 l st w := za_n.at zcc_186 dL_cell_1 rfl
theorem f_186_2 (l : za_L) (st : List Value) (w : za_W) : za_n 186 (2, l, st, w) = za_x 186 (.arraylength) 2 l st w := za_n.at zcc_186 dL_cell_2 rfl
theorem f_186_3 (l : za_L) (st : List Value) (w : za_W) : za_n 186 (3, l, st, w) = za_x 186 (.if_icmp .ge 9) 3 l st w := za_n.at zcc_186 dL_cell_3 rfl
theorem f_186_6 (l : za_L) (st : List Value) (w : za_W) : za_n 186 (6, l, st, w) = za_x 186 (.aload_n 0) 6 l st w := za_n.at zcc_186 dL_cell_6 rfl
theorem f_186_7 (l : za_L) (st : List Value) (w : za_W) : za_n 186 (7, l, st, w) = za_x 186 (.iload_n 1) 7 l st w := za_n.at zcc_186 dL_cell_7 rfl
theorem f_186_8 (l : za_L) (st : List Value) (w : za_W) : za_n 186 (8, l, st, w) = za_x 186 (.iaload) 8 l st w := za_n.at zcc_186 dL_cell_8 rfl
theorem f_186_9 (l : za_L) (st : List Value) (w : za_W) : za_n 186 (9, l, st, w) = za_go 13 l st w := (za_n.at zcc_186 dL_cell_9 rfl).trans (za_jp.at (by decide))
theorem f_186_12 (l : za_L) (st : List Value) (w : za_W) : za_n 186 (12, l, st, w) = za_go 13 l (.int (0) :: st) w := (za_n.at zcc_186 dL_cell_12 rfl).trans (congrArg (fun x => za_go 13 l (.int x :: st) w) (by decide))
theorem f_186_13 (l : za_L) (st : List Value) (w : za_W) : za_n 186 (13, l, st, w) = za_x 186 (.ireturn) 13 l st w := za_n.at zcc_186 dL_cell_13 rfl
theorem f_189_0 (l : za_L) (st : List Value) (w : za_W) : za_n 189 (0, l, st, w) = za_x 189 (.aload_n 2) 0 l st w := za_n.at zcc_189 dL_out_0 rfl
theorem f_189_1 (l : za_L) (st : List Value) (w : za_W) : za_n 189 (1, l, st, w) = za_go 2 l (.int (0) :: st) w := (za_n.at zcc_189 dL_out_1 rfl).trans (congrArg (fun x => za_go 2 l (.int x :: st) w) (by decide))
theorem f_189_2 (l : za_L) (st : List Value) (w : za_W) : za_n 189 (2, l, st, w) = za_x 189 (.aload_n 0) 2 l st w := za_n.at zcc_189 dL_out_2 rfl
theorem f_189_3 (l : za_L) (st : List Value) (w : za_W) : za_n 189 (3, l, st, w) = za_x 189 (.iload_n 1) 3 l st w := za_n.at zcc_189 dL_out_3 rfl
theorem f_189_4 (l : za_L) (st : List Value) (w : za_W) : za_n 189 (4, l, st, w) = za_x 189 (.invokevirtual 7) 4 l st w := za_n.at zcc_189 dL_out_4 rfl
theorem f_189_7 (l : za_L) (st : List Value) (w : za_W) : za_n 189 (7, l, st, w) = za_x 189 (.i2l) 7 l st w := za_n.at zcc_189 dL_out_7 rfl
theorem f_189_8 (l : za_L) (st : List Value) (w : za_W) : za_n 189 (8, l, st, w) = za_x 189 (.lastore) 8 l st w := za_n.at zcc_189 dL_out_8 rfl
theorem f_189_9 (l : za_L) (st : List Value) (w : za_W) : za_n 189 (9, l, st, w) = za_go 15 l st w := (za_n.at zcc_189 dL_out_9 rfl).trans (za_jp.at (by decide))
theorem f_189_12 (l : za_L) (st : List Value) (w : za_W) : za_n 189 (12, l, st, w) = za_x 189 (.astore_n 3) 12 l st w := za_n.at zcc_189 dL_out_12 rfl
theorem f_189_13 (l : za_L) (st : List Value) (w : za_W) : za_n 189 (13, l, st, w) = za_go 14 l (.int (1) :: st) w := (za_n.at zcc_189 dL_out_13 rfl).trans (congrArg (fun x => za_go 14 l (.int x :: st) w) (by decide))
theorem f_189_14 (l : za_L) (st : List Value) (w : za_W) : za_n 189 (14, l, st, w) = za_x 189 (.ireturn) 14 l st w := za_n.at zcc_189 dL_out_14 rfl
theorem f_189_15 (l : za_L) (st : List Value) (w : za_W) : za_n 189 (15, l, st, w) = za_go 16 l (.int (0) :: st) w := (za_n.at zcc_189 dL_out_15 rfl).trans (congrArg (fun x => za_go 16 l (.int x :: st) w) (by decide))
theorem f_189_16 (l : za_L) (st : List Value) (w : za_W) : za_n 189 (16, l, st, w) = za_x 189 (.ireturn) 16 l st w := za_n.at zcc_189 dL_out_16 rfl
